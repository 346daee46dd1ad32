section
-- ===== PART A: goes FIRST, ahead of the names: the tables' words, and 'selects' of the private methods out of them =====
/-- a private method of a class that the tables say can be made, by its rows of tables_1 -/
def lw_okq (q : MethodName × Nat) : Prop := (q.1.cls ≠ "java/lang/invoke/MethodHandle" ∧ q.1.cls ≠ "java/lang/invoke/VarHandle") ∧ Cond.instantiable q.1.cls q.2 ∈ tables_1 ∧ Cond.privateMethod q.1 ∈ tables_1 ∧ Cond.instanceMethod q.1 ∈ tables_1
theorem lw_p0 : lw_okq (⟨"FoldedMap", "beginAnew", "()V"⟩, 11) := ⟨⟨by decide +kernel, by decide +kernel⟩, List.mem_of_getElem? (i := 18) (by decide +kernel), List.mem_of_getElem? (i := 266) (by decide +kernel), List.mem_of_getElem? (i := 267) (by decide +kernel)⟩
theorem lw_p1 : lw_okq (⟨"FoldedMap", "foldAsNowTells", "()V"⟩, 11) := ⟨⟨by decide +kernel, by decide +kernel⟩, List.mem_of_getElem? (i := 18) (by decide +kernel), List.mem_of_getElem? (i := 288) (by decide +kernel), List.mem_of_getElem? (i := 289) (by decide +kernel)⟩
theorem lw_p2 : lw_okq (⟨"FoldedMap", "bendBy", "(I)V"⟩, 11) := ⟨⟨by decide +kernel, by decide +kernel⟩, List.mem_of_getElem? (i := 18) (by decide +kernel), List.mem_of_getElem? (i := 300) (by decide +kernel), List.mem_of_getElem? (i := 301) (by decide +kernel)⟩
theorem lw_p3 : lw_okq (⟨"FoldedMap$Packet", "countHeights", "()V"⟩, 8) := ⟨⟨by decide +kernel, by decide +kernel⟩, List.mem_of_getElem? (i := 148) (by decide +kernel), List.mem_of_getElem? (i := 325) (by decide +kernel), List.mem_of_getElem? (i := 326) (by decide +kernel)⟩
theorem lw_p4 : lw_okq (⟨"FoldedMap$Packet", "shiftOf", "(I)I"⟩, 8) := ⟨⟨by decide +kernel, by decide +kernel⟩, List.mem_of_getElem? (i := 148) (by decide +kernel), List.mem_of_getElem? (i := 335) (by decide +kernel), List.mem_of_getElem? (i := 336) (by decide +kernel)⟩
theorem lw_p5 : lw_okq (⟨"FoldedMap$Packet", "heightAt", "(II)I"⟩, 8) := ⟨⟨by decide +kernel, by decide +kernel⟩, List.mem_of_getElem? (i := 148) (by decide +kernel), List.mem_of_getElem? (i := 342) (by decide +kernel), List.mem_of_getElem? (i := 343) (by decide +kernel)⟩
theorem lw_p6 : lw_okq (⟨"FoldedMap$Packet", "shrink", "(II)V"⟩, 8) := ⟨⟨by decide +kernel, by decide +kernel⟩, List.mem_of_getElem? (i := 148) (by decide +kernel), List.mem_of_getElem? (i := 346) (by decide +kernel), List.mem_of_getElem? (i := 347) (by decide +kernel)⟩
theorem lw_p7 : lw_okq (⟨"FoldedMap$Text", "byteAt", "(I)I"⟩, 6) := ⟨⟨by decide +kernel, by decide +kernel⟩, List.mem_of_getElem? (i := 32) (by decide +kernel), List.mem_of_getElem? (i := 413) (by decide +kernel), List.mem_of_getElem? (i := 414) (by decide +kernel)⟩
theorem lw_p8 : lw_okq (⟨"FoldedMap$Text", "readWord", "()V"⟩, 6) := ⟨⟨by decide +kernel, by decide +kernel⟩, List.mem_of_getElem? (i := 32) (by decide +kernel), List.mem_of_getElem? (i := 420) (by decide +kernel), List.mem_of_getElem? (i := 421) (by decide +kernel)⟩
theorem lw_p9 : lw_okq (⟨"FoldedMap$Text", "isWord", "(Ljava/lang/String;)Z"⟩, 6) := ⟨⟨by decide +kernel, by decide +kernel⟩, List.mem_of_getElem? (i := 32) (by decide +kernel), List.mem_of_getElem? (i := 425) (by decide +kernel), List.mem_of_getElem? (i := 426) (by decide +kernel)⟩
theorem lw_p10 : lw_okq (⟨"FoldedMap$Text", "readNumber", "()V"⟩, 6) := ⟨⟨by decide +kernel, by decide +kernel⟩, List.mem_of_getElem? (i := 32) (by decide +kernel), List.mem_of_getElem? (i := 483) (by decide +kernel), List.mem_of_getElem? (i := 484) (by decide +kernel)⟩
theorem lw_p11 : lw_okq (⟨"FoldedMap$Reader", "takesToken", "()Z"⟩, 8) := ⟨⟨by decide +kernel, by decide +kernel⟩, List.mem_of_getElem? (i := 26) (by decide +kernel), List.mem_of_getElem? (i := 487) (by decide +kernel), List.mem_of_getElem? (i := 488) (by decide +kernel)⟩
theorem lw_p12 : lw_okq (⟨"FoldedMap$Reader", "takesWord", "()Z"⟩, 8) := ⟨⟨by decide +kernel, by decide +kernel⟩, List.mem_of_getElem? (i := 26) (by decide +kernel), List.mem_of_getElem? (i := 491) (by decide +kernel), List.mem_of_getElem? (i := 492) (by decide +kernel)⟩
theorem lw_p13 : lw_okq (⟨"FoldedMap$Reader", "mayBegin", "(I)Z"⟩, 8) := ⟨⟨by decide +kernel, by decide +kernel⟩, List.mem_of_getElem? (i := 26) (by decide +kernel), List.mem_of_getElem? (i := 495) (by decide +kernel), List.mem_of_getElem? (i := 496) (by decide +kernel)⟩
theorem lw_p14 : lw_okq (⟨"FoldedMap$Reader", "takesNumber", "()Z"⟩, 8) := ⟨⟨by decide +kernel, by decide +kernel⟩, List.mem_of_getElem? (i := 26) (by decide +kernel), List.mem_of_getElem? (i := 503) (by decide +kernel), List.mem_of_getElem? (i := 504) (by decide +kernel)⟩
theorem lw_p15 : lw_okq (⟨"FoldedMap$Reader", "mostNumber", "()I"⟩, 8) := ⟨⟨by decide +kernel, by decide +kernel⟩, List.mem_of_getElem? (i := 26) (by decide +kernel), List.mem_of_getElem? (i := 507) (by decide +kernel), List.mem_of_getElem? (i := 508) (by decide +kernel)⟩
def lw_privs_1 : List (MethodName × Nat) := [(⟨"FoldedMap", "beginAnew", "()V"⟩, 11), (⟨"FoldedMap", "foldAsNowTells", "()V"⟩, 11), (⟨"FoldedMap", "bendBy", "(I)V"⟩, 11), (⟨"FoldedMap$Packet", "countHeights", "()V"⟩, 8), (⟨"FoldedMap$Packet", "shiftOf", "(I)I"⟩, 8), (⟨"FoldedMap$Packet", "heightAt", "(II)I"⟩, 8), (⟨"FoldedMap$Packet", "shrink", "(II)V"⟩, 8), (⟨"FoldedMap$Text", "byteAt", "(I)I"⟩, 6), (⟨"FoldedMap$Text", "readWord", "()V"⟩, 6), (⟨"FoldedMap$Text", "isWord", "(Ljava/lang/String;)Z"⟩, 6), (⟨"FoldedMap$Text", "readNumber", "()V"⟩, 6), (⟨"FoldedMap$Reader", "takesToken", "()Z"⟩, 8), (⟨"FoldedMap$Reader", "takesWord", "()Z"⟩, 8), (⟨"FoldedMap$Reader", "mayBegin", "(I)Z"⟩, 8), (⟨"FoldedMap$Reader", "takesNumber", "()Z"⟩, 8), (⟨"FoldedMap$Reader", "mostNumber", "()I"⟩, 8)]
theorem lw_r1 : ∀ q ∈ lw_privs_1, lw_okq q := List.forall_mem_cons.mpr ⟨lw_p0, List.forall_mem_cons.mpr ⟨lw_p1, List.forall_mem_cons.mpr ⟨lw_p2, List.forall_mem_cons.mpr ⟨lw_p3, List.forall_mem_cons.mpr ⟨lw_p4, List.forall_mem_cons.mpr ⟨lw_p5, List.forall_mem_cons.mpr ⟨lw_p6, List.forall_mem_cons.mpr ⟨lw_p7, List.forall_mem_cons.mpr ⟨lw_p8, List.forall_mem_cons.mpr ⟨lw_p9, List.forall_mem_cons.mpr ⟨lw_p10, List.forall_mem_cons.mpr ⟨lw_p11, List.forall_mem_cons.mpr ⟨lw_p12, List.forall_mem_cons.mpr ⟨lw_p13, List.forall_mem_cons.mpr ⟨lw_p14, List.forall_mem_cons.mpr ⟨lw_p15, fun _ h => absurd h List.not_mem_nil⟩⟩⟩⟩⟩⟩⟩⟩⟩⟩⟩⟩⟩⟩⟩⟩
theorem lw_p16 : lw_okq (⟨"FoldedMap$Reader", "takesEnd", "()Z"⟩, 8) := ⟨⟨by decide +kernel, by decide +kernel⟩, List.mem_of_getElem? (i := 26) (by decide +kernel), List.mem_of_getElem? (i := 511) (by decide +kernel), List.mem_of_getElem? (i := 512) (by decide +kernel)⟩
theorem lw_p17 : lw_okq (⟨"FoldedMap", "isCell", "(I)Z"⟩, 11) := ⟨⟨by decide +kernel, by decide +kernel⟩, List.mem_of_getElem? (i := 18) (by decide +kernel), List.mem_of_getElem? (i := 539) (by decide +kernel), List.mem_of_getElem? (i := 540) (by decide +kernel)⟩
theorem lw_p18 : lw_okq (⟨"FoldedMap", "areTwoCells", "(II)Z"⟩, 11) := ⟨⟨by decide +kernel, by decide +kernel⟩, List.mem_of_getElem? (i := 18) (by decide +kernel), List.mem_of_getElem? (i := 606) (by decide +kernel), List.mem_of_getElem? (i := 607) (by decide +kernel)⟩
theorem lw_p19 : lw_okq (⟨"FoldedMap$Plans", "lay", "(II)Z"⟩, 5) := ⟨⟨by decide +kernel, by decide +kernel⟩, List.mem_of_getElem? (i := 240) (by decide +kernel), List.mem_of_getElem? (i := 639) (by decide +kernel), List.mem_of_getElem? (i := 640) (by decide +kernel)⟩
theorem lw_p20 : lw_okq (⟨"FoldedMap$Plans", "layFold", "(II)Z"⟩, 5) := ⟨⟨by decide +kernel, by decide +kernel⟩, List.mem_of_getElem? (i := 240) (by decide +kernel), List.mem_of_getElem? (i := 643) (by decide +kernel), List.mem_of_getElem? (i := 644) (by decide +kernel)⟩
theorem lw_p21 : lw_okq (⟨"FoldedMap$Packet", "isOutermost", "(II)Z"⟩, 8) := ⟨⟨by decide +kernel, by decide +kernel⟩, List.mem_of_getElem? (i := 148) (by decide +kernel), List.mem_of_getElem? (i := 655) (by decide +kernel), List.mem_of_getElem? (i := 656) (by decide +kernel)⟩
theorem lw_p22 : lw_okq (⟨"FoldedMap$Plans", "noteFound", "(I)V"⟩, 5) := ⟨⟨by decide +kernel, by decide +kernel⟩, List.mem_of_getElem? (i := 240) (by decide +kernel), List.mem_of_getElem? (i := 659) (by decide +kernel), List.mem_of_getElem? (i := 660) (by decide +kernel)⟩
theorem lw_p23 : lw_okq (⟨"FoldedMap", "rateAsWell", "(I)I"⟩, 11) := ⟨⟨by decide +kernel, by decide +kernel⟩, List.mem_of_getElem? (i := 18) (by decide +kernel), List.mem_of_getElem? (i := 704) (by decide +kernel), List.mem_of_getElem? (i := 705) (by decide +kernel)⟩
theorem lw_p24 : lw_okq (⟨"FoldedMap", "rateAsCell", "(I)I"⟩, 11) := ⟨⟨by decide +kernel, by decide +kernel⟩, List.mem_of_getElem? (i := 18) (by decide +kernel), List.mem_of_getElem? (i := 709) (by decide +kernel), List.mem_of_getElem? (i := 710) (by decide +kernel)⟩
theorem lw_p25 : lw_okq (⟨"FoldedMap", "rateAsHermit", "(I)I"⟩, 11) := ⟨⟨by decide +kernel, by decide +kernel⟩, List.mem_of_getElem? (i := 18) (by decide +kernel), List.mem_of_getElem? (i := 713) (by decide +kernel), List.mem_of_getElem? (i := 714) (by decide +kernel)⟩
theorem lw_p26 : lw_okq (⟨"FoldedMap", "rateAsLight", "(I)I"⟩, 11) := ⟨⟨by decide +kernel, by decide +kernel⟩, List.mem_of_getElem? (i := 18) (by decide +kernel), List.mem_of_getElem? (i := 718) (by decide +kernel), List.mem_of_getElem? (i := 719) (by decide +kernel)⟩
theorem lw_p27 : lw_okq (⟨"FoldedMap", "rateAsFolder", "(I)I"⟩, 11) := ⟨⟨by decide +kernel, by decide +kernel⟩, List.mem_of_getElem? (i := 18) (by decide +kernel), List.mem_of_getElem? (i := 723) (by decide +kernel), List.mem_of_getElem? (i := 724) (by decide +kernel)⟩
theorem lw_p28 : lw_okq (⟨"FoldedMap", "rateAsDuke", "(I)I"⟩, 11) := ⟨⟨by decide +kernel, by decide +kernel⟩, List.mem_of_getElem? (i := 18) (by decide +kernel), List.mem_of_getElem? (i := 728) (by decide +kernel), List.mem_of_getElem? (i := 729) (by decide +kernel)⟩
theorem lw_p29 : lw_okq (⟨"FoldedMapModel", "reads", "()Z"⟩, 22) := ⟨⟨by decide +kernel, by decide +kernel⟩, List.mem_of_getElem? (i := 756) (by decide +kernel), List.mem_of_getElem? (i := 762) (by decide +kernel), List.mem_of_getElem? (i := 763) (by decide +kernel)⟩
theorem lw_p30 : lw_okq (⟨"FoldedMapModel", "token", "()V"⟩, 22) := ⟨⟨by decide +kernel, by decide +kernel⟩, List.mem_of_getElem? (i := 756) (by decide +kernel), List.mem_of_getElem? (i := 769) (by decide +kernel), List.mem_of_getElem? (i := 770) (by decide +kernel)⟩
theorem lw_p31 : lw_okq (⟨"FoldedMapModel", "byteAt", "(I)I"⟩, 22) := ⟨⟨by decide +kernel, by decide +kernel⟩, List.mem_of_getElem? (i := 756) (by decide +kernel), List.mem_of_getElem? (i := 773) (by decide +kernel), List.mem_of_getElem? (i := 774) (by decide +kernel)⟩
def lw_privs_2 : List (MethodName × Nat) := [(⟨"FoldedMap$Reader", "takesEnd", "()Z"⟩, 8), (⟨"FoldedMap", "isCell", "(I)Z"⟩, 11), (⟨"FoldedMap", "areTwoCells", "(II)Z"⟩, 11), (⟨"FoldedMap$Plans", "lay", "(II)Z"⟩, 5), (⟨"FoldedMap$Plans", "layFold", "(II)Z"⟩, 5), (⟨"FoldedMap$Packet", "isOutermost", "(II)Z"⟩, 8), (⟨"FoldedMap$Plans", "noteFound", "(I)V"⟩, 5), (⟨"FoldedMap", "rateAsWell", "(I)I"⟩, 11), (⟨"FoldedMap", "rateAsCell", "(I)I"⟩, 11), (⟨"FoldedMap", "rateAsHermit", "(I)I"⟩, 11), (⟨"FoldedMap", "rateAsLight", "(I)I"⟩, 11), (⟨"FoldedMap", "rateAsFolder", "(I)I"⟩, 11), (⟨"FoldedMap", "rateAsDuke", "(I)I"⟩, 11), (⟨"FoldedMapModel", "reads", "()Z"⟩, 22), (⟨"FoldedMapModel", "token", "()V"⟩, 22), (⟨"FoldedMapModel", "byteAt", "(I)I"⟩, 22)]
theorem lw_r2 : ∀ q ∈ lw_privs_2, lw_okq q := List.forall_mem_cons.mpr ⟨lw_p16, List.forall_mem_cons.mpr ⟨lw_p17, List.forall_mem_cons.mpr ⟨lw_p18, List.forall_mem_cons.mpr ⟨lw_p19, List.forall_mem_cons.mpr ⟨lw_p20, List.forall_mem_cons.mpr ⟨lw_p21, List.forall_mem_cons.mpr ⟨lw_p22, List.forall_mem_cons.mpr ⟨lw_p23, List.forall_mem_cons.mpr ⟨lw_p24, List.forall_mem_cons.mpr ⟨lw_p25, List.forall_mem_cons.mpr ⟨lw_p26, List.forall_mem_cons.mpr ⟨lw_p27, List.forall_mem_cons.mpr ⟨lw_p28, List.forall_mem_cons.mpr ⟨lw_p29, List.forall_mem_cons.mpr ⟨lw_p30, List.forall_mem_cons.mpr ⟨lw_p31, fun _ h => absurd h List.not_mem_nil⟩⟩⟩⟩⟩⟩⟩⟩⟩⟩⟩⟩⟩⟩⟩⟩
theorem lw_p32 : lw_okq (⟨"FoldedMapModel", "verb", "()I"⟩, 22) := ⟨⟨by decide +kernel, by decide +kernel⟩, List.mem_of_getElem? (i := 756) (by decide +kernel), List.mem_of_getElem? (i := 780) (by decide +kernel), List.mem_of_getElem? (i := 781) (by decide +kernel)⟩
theorem lw_p33 : lw_okq (⟨"FoldedMapModel", "readsItem", "(I)Z"⟩, 22) := ⟨⟨by decide +kernel, by decide +kernel⟩, List.mem_of_getElem? (i := 756) (by decide +kernel), List.mem_of_getElem? (i := 789) (by decide +kernel), List.mem_of_getElem? (i := 790) (by decide +kernel)⟩
theorem lw_p34 : lw_okq (⟨"FoldedMapModel", "readsMap", "()Z"⟩, 22) := ⟨⟨by decide +kernel, by decide +kernel⟩, List.mem_of_getElem? (i := 756) (by decide +kernel), List.mem_of_getElem? (i := 793) (by decide +kernel), List.mem_of_getElem? (i := 794) (by decide +kernel)⟩
theorem lw_p35 : lw_okq (⟨"FoldedMapModel", "number", "(II)I"⟩, 22) := ⟨⟨by decide +kernel, by decide +kernel⟩, List.mem_of_getElem? (i := 756) (by decide +kernel), List.mem_of_getElem? (i := 797) (by decide +kernel), List.mem_of_getElem? (i := 798) (by decide +kernel)⟩
theorem lw_p36 : lw_okq (⟨"FoldedMapModel", "readsWorth", "()Z"⟩, 22) := ⟨⟨by decide +kernel, by decide +kernel⟩, List.mem_of_getElem? (i := 756) (by decide +kernel), List.mem_of_getElem? (i := 801) (by decide +kernel), List.mem_of_getElem? (i := 802) (by decide +kernel)⟩
theorem lw_p37 : lw_okq (⟨"FoldedMapModel", "draftCells", "()I"⟩, 22) := ⟨⟨by decide +kernel, by decide +kernel⟩, List.mem_of_getElem? (i := 756) (by decide +kernel), List.mem_of_getElem? (i := 805) (by decide +kernel), List.mem_of_getElem? (i := 806) (by decide +kernel)⟩
theorem lw_p38 : lw_okq (⟨"FoldedMapModel", "readsQuarrel", "()Z"⟩, 22) := ⟨⟨by decide +kernel, by decide +kernel⟩, List.mem_of_getElem? (i := 756) (by decide +kernel), List.mem_of_getElem? (i := 809) (by decide +kernel), List.mem_of_getElem? (i := 810) (by decide +kernel)⟩
theorem lw_p39 : lw_okq (⟨"FoldedMapModel", "readsTear", "()Z"⟩, 22) := ⟨⟨by decide +kernel, by decide +kernel⟩, List.mem_of_getElem? (i := 756) (by decide +kernel), List.mem_of_getElem? (i := 813) (by decide +kernel), List.mem_of_getElem? (i := 814) (by decide +kernel)⟩
theorem lw_p40 : lw_okq (⟨"FoldedMapModel", "isCell", "(I)Z"⟩, 22) := ⟨⟨by decide +kernel, by decide +kernel⟩, List.mem_of_getElem? (i := 756) (by decide +kernel), List.mem_of_getElem? (i := 902) (by decide +kernel), List.mem_of_getElem? (i := 903) (by decide +kernel)⟩
theorem lw_p41 : lw_okq (⟨"FoldedMapModel", "cells", "()I"⟩, 22) := ⟨⟨by decide +kernel, by decide +kernel⟩, List.mem_of_getElem? (i := 756) (by decide +kernel), List.mem_of_getElem? (i := 906) (by decide +kernel), List.mem_of_getElem? (i := 907) (by decide +kernel)⟩
theorem lw_p42 : lw_okq (⟨"FoldedMapModel", "now", "(I)V"⟩, 22) := ⟨⟨by decide +kernel, by decide +kernel⟩, List.mem_of_getElem? (i := 756) (by decide +kernel), List.mem_of_getElem? (i := 910) (by decide +kernel), List.mem_of_getElem? (i := 911) (by decide +kernel)⟩
theorem lw_p43 : lw_okq (⟨"FoldedMapModel", "flat", "()V"⟩, 22) := ⟨⟨by decide +kernel, by decide +kernel⟩, List.mem_of_getElem? (i := 756) (by decide +kernel), List.mem_of_getElem? (i := 914) (by decide +kernel), List.mem_of_getElem? (i := 915) (by decide +kernel)⟩
theorem lw_p44 : lw_okq (⟨"FoldedMapModel", "folds", "(II)Z"⟩, 22) := ⟨⟨by decide +kernel, by decide +kernel⟩, List.mem_of_getElem? (i := 756) (by decide +kernel), List.mem_of_getElem? (i := 918) (by decide +kernel), List.mem_of_getElem? (i := 919) (by decide +kernel)⟩
theorem lw_p45 : lw_okq (⟨"FoldedMapModel", "manyAt", "(IIIZ)I"⟩, 22) := ⟨⟨by decide +kernel, by decide +kernel⟩, List.mem_of_getElem? (i := 756) (by decide +kernel), List.mem_of_getElem? (i := 922) (by decide +kernel), List.mem_of_getElem? (i := 923) (by decide +kernel)⟩
theorem lw_p46 : lw_okq (⟨"FoldedMapModel", "falls", "(I)V"⟩, 22) := ⟨⟨by decide +kernel, by decide +kernel⟩, List.mem_of_getElem? (i := 756) (by decide +kernel), List.mem_of_getElem? (i := 926) (by decide +kernel), List.mem_of_getElem? (i := 927) (by decide +kernel)⟩
theorem lw_p47 : lw_okq (⟨"FoldedMapModel", "gain", "(II)I"⟩, 22) := ⟨⟨by decide +kernel, by decide +kernel⟩, List.mem_of_getElem? (i := 756) (by decide +kernel), List.mem_of_getElem? (i := 930) (by decide +kernel), List.mem_of_getElem? (i := 931) (by decide +kernel)⟩
def lw_privs_3 : List (MethodName × Nat) := [(⟨"FoldedMapModel", "verb", "()I"⟩, 22), (⟨"FoldedMapModel", "readsItem", "(I)Z"⟩, 22), (⟨"FoldedMapModel", "readsMap", "()Z"⟩, 22), (⟨"FoldedMapModel", "number", "(II)I"⟩, 22), (⟨"FoldedMapModel", "readsWorth", "()Z"⟩, 22), (⟨"FoldedMapModel", "draftCells", "()I"⟩, 22), (⟨"FoldedMapModel", "readsQuarrel", "()Z"⟩, 22), (⟨"FoldedMapModel", "readsTear", "()Z"⟩, 22), (⟨"FoldedMapModel", "isCell", "(I)Z"⟩, 22), (⟨"FoldedMapModel", "cells", "()I"⟩, 22), (⟨"FoldedMapModel", "now", "(I)V"⟩, 22), (⟨"FoldedMapModel", "flat", "()V"⟩, 22), (⟨"FoldedMapModel", "folds", "(II)Z"⟩, 22), (⟨"FoldedMapModel", "manyAt", "(IIIZ)I"⟩, 22), (⟨"FoldedMapModel", "falls", "(I)V"⟩, 22), (⟨"FoldedMapModel", "gain", "(II)I"⟩, 22)]
theorem lw_r3 : ∀ q ∈ lw_privs_3, lw_okq q := List.forall_mem_cons.mpr ⟨lw_p32, List.forall_mem_cons.mpr ⟨lw_p33, List.forall_mem_cons.mpr ⟨lw_p34, List.forall_mem_cons.mpr ⟨lw_p35, List.forall_mem_cons.mpr ⟨lw_p36, List.forall_mem_cons.mpr ⟨lw_p37, List.forall_mem_cons.mpr ⟨lw_p38, List.forall_mem_cons.mpr ⟨lw_p39, List.forall_mem_cons.mpr ⟨lw_p40, List.forall_mem_cons.mpr ⟨lw_p41, List.forall_mem_cons.mpr ⟨lw_p42, List.forall_mem_cons.mpr ⟨lw_p43, List.forall_mem_cons.mpr ⟨lw_p44, List.forall_mem_cons.mpr ⟨lw_p45, List.forall_mem_cons.mpr ⟨lw_p46, List.forall_mem_cons.mpr ⟨lw_p47, fun _ h => absurd h List.not_mem_nil⟩⟩⟩⟩⟩⟩⟩⟩⟩⟩⟩⟩⟩⟩⟩⟩
theorem lw_p48 : lw_okq (⟨"FoldedMapModel", "touches", "(III)I"⟩, 22) := ⟨⟨by decide +kernel, by decide +kernel⟩, List.mem_of_getElem? (i := 756) (by decide +kernel), List.mem_of_getElem? (i := 934) (by decide +kernel), List.mem_of_getElem? (i := 935) (by decide +kernel)⟩
theorem lw_p49 : lw_okq (⟨"FoldedMapModel", "bendsAll", "(II)I"⟩, 22) := ⟨⟨by decide +kernel, by decide +kernel⟩, List.mem_of_getElem? (i := 756) (by decide +kernel), List.mem_of_getElem? (i := 946) (by decide +kernel), List.mem_of_getElem? (i := 947) (by decide +kernel)⟩
theorem lw_p50 : lw_okq (⟨"FoldedMapModel", "neighbour", "(II)I"⟩, 22) := ⟨⟨by decide +kernel, by decide +kernel⟩, List.mem_of_getElem? (i := 756) (by decide +kernel), List.mem_of_getElem? (i := 950) (by decide +kernel), List.mem_of_getElem? (i := 951) (by decide +kernel)⟩
theorem lw_p51 : lw_okq (⟨"FoldedMapModel", "bends", "(IIII)Z"⟩, 22) := ⟨⟨by decide +kernel, by decide +kernel⟩, List.mem_of_getElem? (i := 756) (by decide +kernel), List.mem_of_getElem? (i := 954) (by decide +kernel), List.mem_of_getElem? (i := 955) (by decide +kernel)⟩
theorem lw_p52 : lw_okq (⟨"FoldedMapModel", "thick", "()I"⟩, 22) := ⟨⟨by decide +kernel, by decide +kernel⟩, List.mem_of_getElem? (i := 756) (by decide +kernel), List.mem_of_getElem? (i := 958) (by decide +kernel), List.mem_of_getElem? (i := 959) (by decide +kernel)⟩
theorem lw_p53 : lw_okq (⟨"FoldedMapModel", "areTwo", "(II)Z"⟩, 22) := ⟨⟨by decide +kernel, by decide +kernel⟩, List.mem_of_getElem? (i := 756) (by decide +kernel), List.mem_of_getElem? (i := 974) (by decide +kernel), List.mem_of_getElem? (i := 975) (by decide +kernel)⟩
theorem lw_p54 : lw_okq (⟨"FoldedMapModel", "reaches", "(III)I"⟩, 22) := ⟨⟨by decide +kernel, by decide +kernel⟩, List.mem_of_getElem? (i := 756) (by decide +kernel), List.mem_of_getElem? (i := 990) (by decide +kernel), List.mem_of_getElem? (i := 991) (by decide +kernel)⟩
theorem lw_p55 : lw_okq (⟨"FoldedMapModel", "reachesOn", "(IIII)I"⟩, 22) := ⟨⟨by decide +kernel, by decide +kernel⟩, List.mem_of_getElem? (i := 756) (by decide +kernel), List.mem_of_getElem? (i := 994) (by decide +kernel), List.mem_of_getElem? (i := 995) (by decide +kernel)⟩
theorem lw_p56 : lw_okq (⟨"FoldedMapModel", "tries", "(III)V"⟩, 22) := ⟨⟨by decide +kernel, by decide +kernel⟩, List.mem_of_getElem? (i := 756) (by decide +kernel), List.mem_of_getElem? (i := 1005) (by decide +kernel), List.mem_of_getElem? (i := 1006) (by decide +kernel)⟩
theorem lw_p57 : lw_okq (⟨"FoldedMapModel", "fitsAt", "(I)I"⟩, 22) := ⟨⟨by decide +kernel, by decide +kernel⟩, List.mem_of_getElem? (i := 756) (by decide +kernel), List.mem_of_getElem? (i := 1021) (by decide +kernel), List.mem_of_getElem? (i := 1022) (by decide +kernel)⟩
def lw_privs_4 : List (MethodName × Nat) := [(⟨"FoldedMapModel", "touches", "(III)I"⟩, 22), (⟨"FoldedMapModel", "bendsAll", "(II)I"⟩, 22), (⟨"FoldedMapModel", "neighbour", "(II)I"⟩, 22), (⟨"FoldedMapModel", "bends", "(IIII)Z"⟩, 22), (⟨"FoldedMapModel", "thick", "()I"⟩, 22), (⟨"FoldedMapModel", "areTwo", "(II)Z"⟩, 22), (⟨"FoldedMapModel", "reaches", "(III)I"⟩, 22), (⟨"FoldedMapModel", "reachesOn", "(IIII)I"⟩, 22), (⟨"FoldedMapModel", "tries", "(III)V"⟩, 22), (⟨"FoldedMapModel", "fitsAt", "(I)I"⟩, 22)]
theorem lw_r4 : ∀ q ∈ lw_privs_4, lw_okq q := List.forall_mem_cons.mpr ⟨lw_p48, List.forall_mem_cons.mpr ⟨lw_p49, List.forall_mem_cons.mpr ⟨lw_p50, List.forall_mem_cons.mpr ⟨lw_p51, List.forall_mem_cons.mpr ⟨lw_p52, List.forall_mem_cons.mpr ⟨lw_p53, List.forall_mem_cons.mpr ⟨lw_p54, List.forall_mem_cons.mpr ⟨lw_p55, List.forall_mem_cons.mpr ⟨lw_p56, List.forall_mem_cons.mpr ⟨lw_p57, fun _ h => absurd h List.not_mem_nil⟩⟩⟩⟩⟩⟩⟩⟩⟩⟩
def lw_privs : List (MethodName × Nat) := lw_privs_1 ++ (lw_privs_2 ++ (lw_privs_3 ++ (lw_privs_4)))
def lw_tbl : List Cond := k2_sels lw_privs ++ tables_1
theorem lw_privs_ok : ∀ q ∈ lw_privs, lw_okq q := by
  show ∀ q ∈ lw_privs_1 ++ (lw_privs_2 ++ (lw_privs_3 ++ (lw_privs_4))), lw_okq q
  exact List.forall_mem_append.mpr ⟨lw_r1, List.forall_mem_append.mpr ⟨lw_r2, List.forall_mem_append.mpr ⟨lw_r3, lw_r4⟩⟩⟩
-- ===== end of PART A; then your names; then what follows =====
end
section
/-! ===== BEGIN printed: names, fields, word lists, decode rows ===== -/
def RX0 : String := "FoldedMap$Creases"
def TX0 : u_T := fun k => match k with
  | 0 => ("FoldedMap$Creases", "size", "I", false)
  | 1 => ("FoldedMap$Creases", "first", "[I", true)
  | 2 => ("FoldedMap$Creases", "second", "[I", true)
  | _ => ("FoldedMap$Creases", "times", "[I", true)
def tyX0 : Nat → FieldType := fun k => match k with
  | 0 => .int
  | 1 => .array .int
  | 2 => .array .int
  | _ => .array .int
abbrev wsX00 : List Cond := u_ws RX0 TX0 4
theorem nmX0 : ∀ a, a < 4 → ∀ b, b < 4 → a ≠ b → (TX0 a).2.1 ≠ (TX0 b).2.1 := by decide +kernel
theorem tyX0_ok : ∀ k, k < 4 → parseFieldDescriptor (TX0 k).2.2.1 = some (tyX0 k) := by decide +kernel
abbrev cX0_init : ByteArray := prog_2_method_1_code
def yX0_init : MethodName := ⟨RX0, "<init>", "()V"⟩
abbrev cX0_layOut : ByteArray := prog_2_method_2_code
def yX0_layOut : MethodName := ⟨RX0, "layOut", "(LFoldedMap$Packet;)V"⟩
abbrev cX0_find : ByteArray := prog_2_method_3_code
def yX0_find : MethodName := ⟨RX0, "find", "(II)I"⟩
abbrev cX0_wouldTear : ByteArray := prog_2_method_4_code
def yX0_wouldTear : MethodName := ⟨RX0, "wouldTear", "(LFoldedMap$Packet;II)Z"⟩
abbrev cX0_bend : ByteArray := prog_2_method_5_code
def yX0_bend : MethodName := ⟨RX0, "bend", "(LFoldedMap$Packet;I)V"⟩
def RX1 : String := "FoldedMap$Duchy"
def TX1 : u_T := fun k => match k with
  | 0 => ("FoldedMap$Duchy", "wide", "I", false)
  | 1 => ("FoldedMap$Duchy", "high", "I", false)
  | 2 => ("FoldedMap$Duchy", "tear", "I", false)
  | 3 => ("FoldedMap$Duchy", "worths", "[I", true)
  | _ => ("FoldedMap$Duchy", "quarrels", "LFoldedMap$Pairs;", true)
def tyX1 : Nat → FieldType := fun k => match k with
  | 0 => .int
  | 1 => .int
  | 2 => .int
  | 3 => .array .int
  | _ => .object "FoldedMap$Pairs"
abbrev wsX10 : List Cond := u_ws RX1 TX1 5
theorem nmX1 : ∀ a, a < 5 → ∀ b, b < 5 → a ≠ b → (TX1 a).2.1 ≠ (TX1 b).2.1 := by decide +kernel
theorem tyX1_ok : ∀ k, k < 5 → parseFieldDescriptor (TX1 k).2.2.1 = some (tyX1 k) := by decide +kernel
abbrev cX1_init : ByteArray := prog_3_method_1_code
def yX1_init : MethodName := ⟨RX1, "<init>", "()V"⟩
abbrev cX1_becomeAsAtFirst : ByteArray := prog_3_method_2_code
def yX1_becomeAsAtFirst : MethodName := ⟨RX1, "becomeAsAtFirst", "()V"⟩
abbrev cX1_setWorth : ByteArray := prog_3_method_3_code
def yX1_setWorth : MethodName := ⟨RX1, "setWorth", "(II)V"⟩
abbrev cX1_copyFrom : ByteArray := prog_3_method_4_code
def yX1_copyFrom : MethodName := ⟨RX1, "copyFrom", "(LFoldedMap$Duchy;)V"⟩
def RX2 : String := "FoldedMap$Moment"
def TX2 : u_T := fun k => match k with
  | 0 => ("FoldedMap$Moment", "kept", "Z", false)
  | 1 => ("FoldedMap$Moment", "date", "I", false)
  | 2 => ("FoldedMap$Moment", "folds", "I", false)
  | 3 => ("FoldedMap$Moment", "numbers", "[I", true)
  | _ => ("FoldedMap$Moment", "bentAtDawn", "[I", true)
def tyX2 : Nat → FieldType := fun k => match k with
  | 0 => .boolean
  | 1 => .int
  | 2 => .int
  | 3 => .array .int
  | _ => .array .int
abbrev wsX20 : List Cond := u_ws RX2 TX2 5
theorem nmX2 : ∀ a, a < 5 → ∀ b, b < 5 → a ≠ b → (TX2 a).2.1 ≠ (TX2 b).2.1 := by decide +kernel
theorem tyX2_ok : ∀ k, k < 5 → parseFieldDescriptor (TX2 k).2.2.1 = some (tyX2 k) := by decide +kernel
abbrev cX2_init : ByteArray := prog_4_method_1_code
def yX2_init : MethodName := ⟨RX2, "<init>", "()V"⟩
abbrev cX2_begin : ByteArray := prog_4_method_2_code
def yX2_begin : MethodName := ⟨RX2, "begin", "()V"⟩
abbrev cX2_addFold : ByteArray := prog_4_method_3_code
def yX2_addFold : MethodName := ⟨RX2, "addFold", "(I)V"⟩
abbrev cX2_nextDay : ByteArray := prog_4_method_4_code
def yX2_nextDay : MethodName := ⟨RX2, "nextDay", "(LFoldedMap$Creases;)V"⟩
abbrev cX2_copyFrom : ByteArray := prog_4_method_5_code
def yX2_copyFrom : MethodName := ⟨RX2, "copyFrom", "(LFoldedMap$Moment;)V"⟩
def RX3 : String := "FoldedMap$Packet"
def TX3 : u_T := fun k => match k with
  | 0 => ("FoldedMap$Packet", "cells", "I", false)
  | 1 => ("FoldedMap$Packet", "wide", "I", false)
  | 2 => ("FoldedMap$Packet", "high", "I", false)
  | 3 => ("FoldedMap$Packet", "x", "[I", true)
  | 4 => ("FoldedMap$Packet", "y", "[I", true)
  | 5 => ("FoldedMap$Packet", "layer", "[I", true)
  | 6 => ("FoldedMap$Packet", "up", "[I", true)
  | _ => ("FoldedMap$Packet", "heights", "[I", true)
def tyX3 : Nat → FieldType := fun k => match k with
  | 0 => .int
  | 1 => .int
  | 2 => .int
  | 3 => .array .int
  | 4 => .array .int
  | 5 => .array .int
  | 6 => .array .int
  | _ => .array .int
abbrev wsX30 : List Cond := u_ws RX3 TX3 8
theorem nmX3 : ∀ a, a < 8 → ∀ b, b < 8 → a ≠ b → (TX3 a).2.1 ≠ (TX3 b).2.1 := by decide +kernel
theorem tyX3_ok : ∀ k, k < 8 → parseFieldDescriptor (TX3 k).2.2.1 = some (tyX3 k) := by decide +kernel
abbrev cX3_init : ByteArray := prog_5_method_1_code
def yX3_init : MethodName := ⟨RX3, "<init>", "()V"⟩
abbrev cX3_axisOf : ByteArray := prog_5_method_2_code
def yX3_axisOf : MethodName := ⟨RX3, "axisOf", "(I)I"⟩
abbrev cX3_partOf : ByteArray := prog_5_method_3_code
def yX3_partOf : MethodName := ⟨RX3, "partOf", "(I)I"⟩
abbrev cX3_overOf : ByteArray := prog_5_method_4_code
def yX3_overOf : MethodName := ⟨RX3, "overOf", "(I)I"⟩
abbrev cX3_lineOf : ByteArray := prog_5_method_5_code
def yX3_lineOf : MethodName := ⟨RX3, "lineOf", "(I)I"⟩
abbrev cX3_layFlat : ByteArray := prog_5_method_6_code
def yX3_layFlat : MethodName := ⟨RX3, "layFlat", "(II)V"⟩
abbrev cX3_copyFrom : ByteArray := prog_5_method_7_code
def yX3_copyFrom : MethodName := ⟨RX3, "copyFrom", "(LFoldedMap$Packet;)V"⟩
abbrev cX3_canBend : ByteArray := prog_5_method_8_code
def yX3_canBend : MethodName := ⟨RX3, "canBend", "(I)Z"⟩
abbrev cX3_bend : ByteArray := prog_5_method_9_code
def yX3_bend : MethodName := ⟨RX3, "bend", "(I)V"⟩
abbrev cX3_shiftOf : ByteArray := prog_5_method_10_code
def yX3_shiftOf : MethodName := ⟨RX3, "shiftOf", "(I)I"⟩
abbrev cX3_shrink : ByteArray := prog_5_method_11_code
def yX3_shrink : MethodName := ⟨RX3, "shrink", "(II)V"⟩
abbrev cX3_countHeights : ByteArray := prog_5_method_12_code
def yX3_countHeights : MethodName := ⟨RX3, "countHeights", "()V"⟩
abbrev cX3_heightAt : ByteArray := prog_5_method_13_code
def yX3_heightAt : MethodName := ⟨RX3, "heightAt", "(II)I"⟩
abbrev cX3_isPlace : ByteArray := prog_5_method_14_code
def yX3_isPlace : MethodName := ⟨RX3, "isPlace", "(II)Z"⟩
abbrev cX3_isParted : ByteArray := prog_5_method_15_code
def yX3_isParted : MethodName := ⟨RX3, "isParted", "(III)Z"⟩
abbrev cX3_thickest : ByteArray := prog_5_method_16_code
def yX3_thickest : MethodName := ⟨RX3, "thickest", "()I"⟩
abbrev cX3_touching : ByteArray := prog_5_method_17_code
def yX3_touching : MethodName := ⟨RX3, "touching", "(II)I"⟩
abbrev cX3_gainOf : ByteArray := prog_5_method_18_code
def yX3_gainOf : MethodName := ⟨RX3, "gainOf", "(I[I)I"⟩
abbrev cX3_countFought : ByteArray := prog_5_method_19_code
def yX3_countFought : MethodName := ⟨RX3, "countFought", "(LFoldedMap$Pairs;)I"⟩
abbrev cX3_countFrontPairs : ByteArray := prog_5_method_20_code
def yX3_countFrontPairs : MethodName := ⟨RX3, "countFrontPairs", "()I"⟩
abbrev cX3_allTouch : ByteArray := prog_5_method_21_code
def yX3_allTouch : MethodName := ⟨RX3, "allTouch", "(LFoldedMap$Pairs;)Z"⟩
abbrev cX3_meetingFold : ByteArray := prog_5_method_22_code
def yX3_meetingFold : MethodName := ⟨RX3, "meetingFold", "(II)I"⟩
abbrev cX3_isOutermost : ByteArray := prog_5_method_23_code
def yX3_isOutermost : MethodName := ⟨RX3, "isOutermost", "(II)Z"⟩
def RX4 : String := "FoldedMap$Pairs"
def TX4 : u_T := fun k => match k with
  | 0 => ("FoldedMap$Pairs", "size", "I", false)
  | 1 => ("FoldedMap$Pairs", "first", "[I", true)
  | _ => ("FoldedMap$Pairs", "second", "[I", true)
def tyX4 : Nat → FieldType := fun k => match k with
  | 0 => .int
  | 1 => .array .int
  | _ => .array .int
abbrev wsX40 : List Cond := u_ws RX4 TX4 3
theorem nmX4 : ∀ a, a < 3 → ∀ b, b < 3 → a ≠ b → (TX4 a).2.1 ≠ (TX4 b).2.1 := by decide +kernel
theorem tyX4_ok : ∀ k, k < 3 → parseFieldDescriptor (TX4 k).2.2.1 = some (tyX4 k) := by decide +kernel
abbrev cX4_init : ByteArray := prog_6_method_1_code
def yX4_init : MethodName := ⟨RX4, "<init>", "()V"⟩
abbrev cX4_isFull : ByteArray := prog_6_method_2_code
def yX4_isFull : MethodName := ⟨RX4, "isFull", "()Z"⟩
abbrev cX4_add : ByteArray := prog_6_method_3_code
def yX4_add : MethodName := ⟨RX4, "add", "(II)V"⟩
abbrev cX4_copyFrom : ByteArray := prog_6_method_4_code
def yX4_copyFrom : MethodName := ⟨RX4, "copyFrom", "(LFoldedMap$Pairs;)V"⟩
def RX5 : String := "FoldedMap$Plans"
def TX5 : u_T := fun k => match k with
  | 0 => ("FoldedMap$Plans", "foundFolds", "I", false)
  | 1 => ("FoldedMap$Plans", "found", "[I", true)
  | 2 => ("FoldedMap$Plans", "laid", "[I", true)
  | 3 => ("FoldedMap$Plans", "stages", "[LFoldedMap$Packet;", true)
  | _ => ("FoldedMap$Plans", "firstLaid", "Z", false)
def tyX5 : Nat → FieldType := fun k => match k with
  | 0 => .int
  | 1 => .array .int
  | 2 => .array .int
  | 3 => .array (.object "FoldedMap$Packet")
  | _ => .boolean
abbrev wsX50 : List Cond := u_ws RX5 TX5 5
theorem nmX5 : ∀ a, a < 5 → ∀ b, b < 5 → a ≠ b → (TX5 a).2.1 ≠ (TX5 b).2.1 := by decide +kernel
theorem tyX5_ok : ∀ k, k < 5 → parseFieldDescriptor (TX5 k).2.2.1 = some (tyX5 k) := by decide +kernel
abbrev cX5_init : ByteArray := prog_7_method_1_code
def yX5_init : MethodName := ⟨RX5, "<init>", "()V"⟩
abbrev cX5_startFrom : ByteArray := prog_7_method_2_code
def yX5_startFrom : MethodName := ⟨RX5, "startFrom", "(LFoldedMap$Packet;)V"⟩
abbrev cX5_foundFold : ByteArray := prog_7_method_3_code
def yX5_foundFold : MethodName := ⟨RX5, "foundFold", "(I)I"⟩
abbrev cX5_findMeeting : ByteArray := prog_7_method_4_code
def yX5_findMeeting : MethodName := ⟨RX5, "findMeeting", "(II)Z"⟩
abbrev cX5_findBestGain : ByteArray := prog_7_method_5_code
def yX5_findBestGain : MethodName := ⟨RX5, "findBestGain", "(I[I)I"⟩
abbrev cX5_countFitting : ByteArray := prog_7_method_6_code
def yX5_countFitting : MethodName := ⟨RX5, "countFitting", "(ILFoldedMap$Pairs;)I"⟩
abbrev cX5_noteFound : ByteArray := prog_7_method_7_code
def yX5_noteFound : MethodName := ⟨RX5, "noteFound", "(I)V"⟩
abbrev cX5_lay : ByteArray := prog_7_method_8_code
def yX5_lay : MethodName := ⟨RX5, "lay", "(II)Z"⟩
abbrev cX5_layFold : ByteArray := prog_7_method_9_code
def yX5_layFold : MethodName := ⟨RX5, "layFold", "(II)Z"⟩
def RX6 : String := "FoldedMap$Reader"
def TX6 : u_T := fun k => match k with
  | 0 => ("FoldedMap$Reader", "text", "LFoldedMap$Text;", true)
  | 1 => ("FoldedMap$Reader", "draft", "LFoldedMap$Duchy;", true)
  | 2 => ("FoldedMap$Reader", "items", "I", false)
  | 3 => ("FoldedMap$Reader", "item", "I", false)
  | 4 => ("FoldedMap$Reader", "told", "I", false)
  | 5 => ("FoldedMap$Reader", "first", "I", false)
  | 6 => ("FoldedMap$Reader", "second", "I", false)
  | _ => ("FoldedMap$Reader", "tearTold", "Z", false)
def tyX6 : Nat → FieldType := fun k => match k with
  | 0 => .object "FoldedMap$Text"
  | 1 => .object "FoldedMap$Duchy"
  | 2 => .int
  | 3 => .int
  | 4 => .int
  | 5 => .int
  | 6 => .int
  | _ => .boolean
abbrev wsX60 : List Cond := u_ws RX6 TX6 8
theorem nmX6 : ∀ a, a < 8 → ∀ b, b < 8 → a ≠ b → (TX6 a).2.1 ≠ (TX6 b).2.1 := by decide +kernel
theorem tyX6_ok : ∀ k, k < 8 → parseFieldDescriptor (TX6 k).2.2.1 = some (tyX6 k) := by decide +kernel
abbrev cX6_init : ByteArray := prog_8_method_1_code
def yX6_init : MethodName := ⟨RX6, "<init>", "()V"⟩
abbrev cX6_readAll : ByteArray := prog_8_method_2_code
def yX6_readAll : MethodName := ⟨RX6, "readAll", "()Z"⟩
abbrev cX6_takesToken : ByteArray := prog_8_method_3_code
def yX6_takesToken : MethodName := ⟨RX6, "takesToken", "()Z"⟩
abbrev cX6_takesWord : ByteArray := prog_8_method_4_code
def yX6_takesWord : MethodName := ⟨RX6, "takesWord", "()Z"⟩
abbrev cX6_mayBegin : ByteArray := prog_8_method_5_code
def yX6_mayBegin : MethodName := ⟨RX6, "mayBegin", "(I)Z"⟩
abbrev cX6_takesNumber : ByteArray := prog_8_method_6_code
def yX6_takesNumber : MethodName := ⟨RX6, "takesNumber", "()Z"⟩
abbrev cX6_mostNumber : ByteArray := prog_8_method_7_code
def yX6_mostNumber : MethodName := ⟨RX6, "mostNumber", "()I"⟩
abbrev cX6_takesEnd : ByteArray := prog_8_method_8_code
def yX6_takesEnd : MethodName := ⟨RX6, "takesEnd", "()Z"⟩
def RX7 : String := "FoldedMap$Text"
def TX7 : u_T := fun k => match k with
  | 0 => ("FoldedMap$Text", "length", "I", false)
  | 1 => ("FoldedMap$Text", "bytes", "[I", true)
  | 2 => ("FoldedMap$Text", "start", "I", false)
  | 3 => ("FoldedMap$Text", "next", "I", false)
  | 4 => ("FoldedMap$Text", "token", "I", false)
  | _ => ("FoldedMap$Text", "value", "I", false)
def tyX7 : Nat → FieldType := fun k => match k with
  | 0 => .int
  | 1 => .array .int
  | 2 => .int
  | 3 => .int
  | 4 => .int
  | _ => .int
abbrev wsX70 : List Cond := u_ws RX7 TX7 6
theorem nmX7 : ∀ a, a < 6 → ∀ b, b < 6 → a ≠ b → (TX7 a).2.1 ≠ (TX7 b).2.1 := by decide +kernel
theorem tyX7_ok : ∀ k, k < 6 → parseFieldDescriptor (TX7 k).2.2.1 = some (tyX7 k) := by decide +kernel
abbrev cX7_init : ByteArray := prog_9_method_1_code
def yX7_init : MethodName := ⟨RX7, "<init>", "()V"⟩
abbrev cX7_append : ByteArray := prog_9_method_2_code
def yX7_append : MethodName := ⟨RX7, "append", "(I)V"⟩
abbrev cX7_rewind : ByteArray := prog_9_method_3_code
def yX7_rewind : MethodName := ⟨RX7, "rewind", "()V"⟩
abbrev cX7_readToken : ByteArray := prog_9_method_4_code
def yX7_readToken : MethodName := ⟨RX7, "readToken", "()V"⟩
abbrev cX7_readWord : ByteArray := prog_9_method_5_code
def yX7_readWord : MethodName := ⟨RX7, "readWord", "()V"⟩
abbrev cX7_isWord : ByteArray := prog_9_method_6_code
def yX7_isWord : MethodName := ⟨RX7, "isWord", "(Ljava/lang/String;)Z"⟩
abbrev cX7_readNumber : ByteArray := prog_9_method_7_code
def yX7_readNumber : MethodName := ⟨RX7, "readNumber", "()V"⟩
abbrev cX7_byteAt : ByteArray := prog_9_method_8_code
def yX7_byteAt : MethodName := ⟨RX7, "byteAt", "(I)I"⟩
abbrev cX7_isLetter : ByteArray := prog_9_method_9_code
def yX7_isLetter : MethodName := ⟨RX7, "isLetter", "(I)Z"⟩
abbrev cX7_isDigit : ByteArray := prog_9_method_10_code
def yX7_isDigit : MethodName := ⟨RX7, "isDigit", "(I)Z"⟩
def RX8 : String := "FoldedMap"
def TX8 : u_T := fun k => match k with
  | 0 => ("FoldedMap", "reader", "LFoldedMap$Reader;", true)
  | 1 => ("FoldedMap", "text", "LFoldedMap$Text;", true)
  | 2 => ("FoldedMap", "duchy", "LFoldedMap$Duchy;", true)
  | 3 => ("FoldedMap", "flat", "LFoldedMap$Packet;", true)
  | 4 => ("FoldedMap", "folded", "LFoldedMap$Packet;", true)
  | 5 => ("FoldedMap", "creases", "LFoldedMap$Creases;", true)
  | 6 => ("FoldedMap", "now", "LFoldedMap$Moment;", true)
  | 7 => ("FoldedMap", "images", "[LFoldedMap$Moment;", true)
  | 8 => ("FoldedMap", "seen", "LFoldedMap$Pairs;", true)
  | 9 => ("FoldedMap", "plans", "LFoldedMap$Plans;", true)
  | _ => ("FoldedMap", "traced", "J", false)
def tyX8 : Nat → FieldType := fun k => match k with
  | 0 => .object "FoldedMap$Reader"
  | 1 => .object "FoldedMap$Text"
  | 2 => .object "FoldedMap$Duchy"
  | 3 => .object "FoldedMap$Packet"
  | 4 => .object "FoldedMap$Packet"
  | 5 => .object "FoldedMap$Creases"
  | 6 => .object "FoldedMap$Moment"
  | 7 => .array (.object "FoldedMap$Moment")
  | 8 => .object "FoldedMap$Pairs"
  | 9 => .object "FoldedMap$Plans"
  | _ => .long
abbrev wsX80 : List Cond := u_ws RX8 TX8 11
theorem nmX8 : ∀ a, a < 11 → ∀ b, b < 11 → a ≠ b → (TX8 a).2.1 ≠ (TX8 b).2.1 := by decide +kernel
theorem tyX8_ok : ∀ k, k < 11 → parseFieldDescriptor (TX8 k).2.2.1 = some (tyX8 k) := by decide +kernel
abbrev cX8_init : ByteArray := prog_1_method_1_code
def yX8_init : MethodName := ⟨RX8, "<init>", "()V"⟩
abbrev cX8_type : ByteArray := prog_1_method_2_code
def yX8_type : MethodName := ⟨RX8, "type", "(JI)I"⟩
abbrev cX8_clear : ByteArray := prog_1_method_3_code
def yX8_clear : MethodName := ⟨RX8, "clear", "()I"⟩
abbrev cX8_map : ByteArray := prog_1_method_4_code
def yX8_map : MethodName := ⟨RX8, "map", "()I"⟩
abbrev cX8_cell : ByteArray := prog_1_method_5_code
def yX8_cell : MethodName := ⟨RX8, "cell", "(II)I"⟩
abbrev cX8_at : ByteArray := prog_1_method_6_code
def yX8_at : MethodName := ⟨RX8, "at", "(III)I"⟩
abbrev cX8_fold : ByteArray := prog_1_method_7_code
def yX8_fold : MethodName := ⟨RX8, "fold", "(IIII)I"⟩
abbrev cX8_undo : ByteArray := prog_1_method_8_code
def yX8_undo : MethodName := ⟨RX8, "undo", "()I"⟩
abbrev cX8_day : ByteArray := prog_1_method_9_code
def yX8_day : MethodName := ⟨RX8, "day", "()I"⟩
abbrev cX8_bent : ByteArray := prog_1_method_10_code
def yX8_bent : MethodName := ⟨RX8, "bent", "(II)I"⟩
abbrev cX8_touch : ByteArray := prog_1_method_11_code
def yX8_touch : MethodName := ⟨RX8, "touch", "(II)I"⟩
abbrev cX8_packet : ByteArray := prog_1_method_12_code
def yX8_packet : MethodName := ⟨RX8, "packet", "(I)I"⟩
abbrev cX8_reach : ByteArray := prog_1_method_13_code
def yX8_reach : MethodName := ⟨RX8, "reach", "(III)I"⟩
abbrev cX8_serves : ByteArray := prog_1_method_14_code
def yX8_serves : MethodName := ⟨RX8, "serves", "(II)I"⟩
abbrev cX8_saw : ByteArray := prog_1_method_15_code
def yX8_saw : MethodName := ⟨RX8, "saw", "(II)I"⟩
abbrev cX8_forget : ByteArray := prog_1_method_16_code
def yX8_forget : MethodName := ⟨RX8, "forget", "()I"⟩
abbrev cX8_fits : ByteArray := prog_1_method_17_code
def yX8_fits : MethodName := ⟨RX8, "fits", "(I)I"⟩
abbrev cX8_rate : ByteArray := prog_1_method_18_code
def yX8_rate : MethodName := ⟨RX8, "rate", "(II)I"⟩
abbrev cX8_keep : ByteArray := prog_1_method_19_code
def yX8_keep : MethodName := ⟨RX8, "keep", "(I)I"⟩
abbrev cX8_back : ByteArray := prog_1_method_20_code
def yX8_back : MethodName := ⟨RX8, "back", "(I)I"⟩
abbrev cX8_count : ByteArray := prog_1_method_21_code
def yX8_count : MethodName := ⟨RX8, "count", "(I)I"⟩
abbrev cX8_trace : ByteArray := prog_1_method_22_code
def yX8_trace : MethodName := ⟨RX8, "trace", "()J"⟩
abbrev cX8_isBit : ByteArray := prog_1_method_23_code
def yX8_isBit : MethodName := ⟨RX8, "isBit", "(I)Z"⟩
abbrev cX8_isImage : ByteArray := prog_1_method_24_code
def yX8_isImage : MethodName := ⟨RX8, "isImage", "(I)Z"⟩
abbrev cX8_isCell : ByteArray := prog_1_method_25_code
def yX8_isCell : MethodName := ⟨RX8, "isCell", "(I)Z"⟩
abbrev cX8_areTwoCells : ByteArray := prog_1_method_26_code
def yX8_areTwoCells : MethodName := ⟨RX8, "areTwoCells", "(II)Z"⟩
abbrev cX8_beginAnew : ByteArray := prog_1_method_27_code
def yX8_beginAnew : MethodName := ⟨RX8, "beginAnew", "()V"⟩
abbrev cX8_foldAsNowTells : ByteArray := prog_1_method_28_code
def yX8_foldAsNowTells : MethodName := ⟨RX8, "foldAsNowTells", "()V"⟩
abbrev cX8_bendBy : ByteArray := prog_1_method_29_code
def yX8_bendBy : MethodName := ⟨RX8, "bendBy", "(I)V"⟩
abbrev cX8_rateAsCell : ByteArray := prog_1_method_30_code
def yX8_rateAsCell : MethodName := ⟨RX8, "rateAsCell", "(I)I"⟩
abbrev cX8_rateAsWell : ByteArray := prog_1_method_31_code
def yX8_rateAsWell : MethodName := ⟨RX8, "rateAsWell", "(I)I"⟩
abbrev cX8_rateAsHermit : ByteArray := prog_1_method_32_code
def yX8_rateAsHermit : MethodName := ⟨RX8, "rateAsHermit", "(I)I"⟩
abbrev cX8_rateAsLight : ByteArray := prog_1_method_33_code
def yX8_rateAsLight : MethodName := ⟨RX8, "rateAsLight", "(I)I"⟩
abbrev cX8_rateAsFolder : ByteArray := prog_1_method_34_code
def yX8_rateAsFolder : MethodName := ⟨RX8, "rateAsFolder", "(I)I"⟩
abbrev cX8_rateAsDuke : ByteArray := prog_1_method_35_code
def yX8_rateAsDuke : MethodName := ⟨RX8, "rateAsDuke", "(I)I"⟩
def RX9 : String := "FoldedMapModel"
def TX9 : u_T := fun k => match k with
  | 0 => ("FoldedMapModel", "trace", "J", false)
  | 1 => ("FoldedMapModel", "text", "[I", true)
  | 2 => ("FoldedMapModel", "typed", "I", false)
  | 3 => ("FoldedMapModel", "told", "[I", true)
  | 4 => ("FoldedMapModel", "draft", "[I", true)
  | 5 => ("FoldedMapModel", "s", "[I", true)
  | 6 => ("FoldedMapModel", "images", "[I", true)
  | 7 => ("FoldedMapModel", "kept", "[Z", true)
  | 8 => ("FoldedMapModel", "seenOne", "[I", true)
  | 9 => ("FoldedMapModel", "seenOther", "[I", true)
  | 10 => ("FoldedMapModel", "seen", "I", false)
  | 11 => ("FoldedMapModel", "at", "I", false)
  | 12 => ("FoldedMapModel", "sort", "I", false)
  | 13 => ("FoldedMapModel", "start", "I", false)
  | 14 => ("FoldedMapModel", "size", "I", false)
  | 15 => ("FoldedMapModel", "packet", "[I", true)
  | 16 => ("FoldedMapModel", "extent", "[I", true)
  | 17 => ("FoldedMapModel", "goes", "[Z", true)
  | 18 => ("FoldedMapModel", "to", "[I", true)
  | 19 => ("FoldedMapModel", "best", "I", false)
  | 20 => ("FoldedMapModel", "bestMany", "I", false)
  | _ => ("FoldedMapModel", "bestRow", "I", false)
def tyX9 : Nat → FieldType := fun k => match k with
  | 0 => .long
  | 1 => .array .int
  | 2 => .int
  | 3 => .array .int
  | 4 => .array .int
  | 5 => .array .int
  | 6 => .array .int
  | 7 => .array .boolean
  | 8 => .array .int
  | 9 => .array .int
  | 10 => .int
  | 11 => .int
  | 12 => .int
  | 13 => .int
  | 14 => .int
  | 15 => .array .int
  | 16 => .array .int
  | 17 => .array .boolean
  | 18 => .array .int
  | 19 => .int
  | 20 => .int
  | _ => .int
abbrev wsX90 : List Cond := u_ws RX9 TX9 22
theorem nmX9 : ∀ a, a < 22 → ∀ b, b < 22 → a ≠ b → (TX9 a).2.1 ≠ (TX9 b).2.1 := by decide +kernel
theorem tyX9_ok : ∀ k, k < 22 → parseFieldDescriptor (TX9 k).2.2.1 = some (tyX9 k) := by decide +kernel
abbrev cX9_init : ByteArray := prog_11_method_1_code
def yX9_init : MethodName := ⟨RX9, "<init>", "()V"⟩
abbrev cX9_in : ByteArray := prog_11_method_3_code
def yX9_in : MethodName := ⟨RX9, "in", "(III)Z"⟩
abbrev cX9_cells : ByteArray := prog_11_method_4_code
def yX9_cells : MethodName := ⟨RX9, "cells", "()I"⟩
abbrev cX9_isCell : ByteArray := prog_11_method_5_code
def yX9_isCell : MethodName := ⟨RX9, "isCell", "(I)Z"⟩
abbrev cX9_areTwo : ByteArray := prog_11_method_6_code
def yX9_areTwo : MethodName := ⟨RX9, "areTwo", "(II)Z"⟩
abbrev cX9_type : ByteArray := prog_11_method_7_code
def yX9_type : MethodName := ⟨RX9, "type", "(JI)I"⟩
abbrev cX9_clear : ByteArray := prog_11_method_8_code
def yX9_clear : MethodName := ⟨RX9, "clear", "()I"⟩
abbrev cX9_byteAt : ByteArray := prog_11_method_9_code
def yX9_byteAt : MethodName := ⟨RX9, "byteAt", "(I)I"⟩
abbrev cX9_sortOf : ByteArray := prog_11_method_10_code
def yX9_sortOf : MethodName := ⟨RX9, "sortOf", "(I)I"⟩
abbrev cX9_token : ByteArray := prog_11_method_11_code
def yX9_token : MethodName := ⟨RX9, "token", "()V"⟩
abbrev cX9_verb : ByteArray := prog_11_method_12_code
def yX9_verb : MethodName := ⟨RX9, "verb", "()I"⟩
abbrev cX9_number : ByteArray := prog_11_method_13_code
def yX9_number : MethodName := ⟨RX9, "number", "(II)I"⟩
abbrev cX9_draftCells : ByteArray := prog_11_method_14_code
def yX9_draftCells : MethodName := ⟨RX9, "draftCells", "()I"⟩
abbrev cX9_readsMap : ByteArray := prog_11_method_15_code
def yX9_readsMap : MethodName := ⟨RX9, "readsMap", "()Z"⟩
abbrev cX9_readsWorth : ByteArray := prog_11_method_16_code
def yX9_readsWorth : MethodName := ⟨RX9, "readsWorth", "()Z"⟩
abbrev cX9_readsQuarrel : ByteArray := prog_11_method_17_code
def yX9_readsQuarrel : MethodName := ⟨RX9, "readsQuarrel", "()Z"⟩
abbrev cX9_readsTear : ByteArray := prog_11_method_18_code
def yX9_readsTear : MethodName := ⟨RX9, "readsTear", "()Z"⟩
abbrev cX9_readsItem : ByteArray := prog_11_method_19_code
def yX9_readsItem : MethodName := ⟨RX9, "readsItem", "(I)Z"⟩
abbrev cX9_reads : ByteArray := prog_11_method_20_code
def yX9_reads : MethodName := ⟨RX9, "reads", "()Z"⟩
abbrev cX9_map : ByteArray := prog_11_method_21_code
def yX9_map : MethodName := ⟨RX9, "map", "()I"⟩
abbrev cX9_flat : ByteArray := prog_11_method_22_code
def yX9_flat : MethodName := ⟨RX9, "flat", "()V"⟩
abbrev cX9_manyAt : ByteArray := prog_11_method_23_code
def yX9_manyAt : MethodName := ⟨RX9, "manyAt", "(IIIZ)I"⟩
abbrev cX9_folds : ByteArray := prog_11_method_24_code
def yX9_folds : MethodName := ⟨RX9, "folds", "(II)Z"⟩
abbrev cX9_falls : ByteArray := prog_11_method_25_code
def yX9_falls : MethodName := ⟨RX9, "falls", "(I)V"⟩
abbrev cX9_now : ByteArray := prog_11_method_26_code
def yX9_now : MethodName := ⟨RX9, "now", "(I)V"⟩
abbrev cX9_thick : ByteArray := prog_11_method_27_code
def yX9_thick : MethodName := ⟨RX9, "thick", "()I"⟩
abbrev cX9_touches : ByteArray := prog_11_method_28_code
def yX9_touches : MethodName := ⟨RX9, "touches", "(III)I"⟩
abbrev cX9_gain : ByteArray := prog_11_method_29_code
def yX9_gain : MethodName := ⟨RX9, "gain", "(II)I"⟩
abbrev cX9_cell : ByteArray := prog_11_method_30_code
def yX9_cell : MethodName := ⟨RX9, "cell", "(II)I"⟩
abbrev cX9_at : ByteArray := prog_11_method_31_code
def yX9_at : MethodName := ⟨RX9, "at", "(III)I"⟩
abbrev cX9_bends : ByteArray := prog_11_method_32_code
def yX9_bends : MethodName := ⟨RX9, "bends", "(IIII)Z"⟩
abbrev cX9_neighbour : ByteArray := prog_11_method_33_code
def yX9_neighbour : MethodName := ⟨RX9, "neighbour", "(II)I"⟩
abbrev cX9_bendsAll : ByteArray := prog_11_method_34_code
def yX9_bendsAll : MethodName := ⟨RX9, "bendsAll", "(II)I"⟩
abbrev cX9_fold : ByteArray := prog_11_method_35_code
def yX9_fold : MethodName := ⟨RX9, "fold", "(IIII)I"⟩
abbrev cX9_undo : ByteArray := prog_11_method_36_code
def yX9_undo : MethodName := ⟨RX9, "undo", "()I"⟩
abbrev cX9_day : ByteArray := prog_11_method_37_code
def yX9_day : MethodName := ⟨RX9, "day", "()I"⟩
abbrev cX9_bent : ByteArray := prog_11_method_38_code
def yX9_bent : MethodName := ⟨RX9, "bent", "(II)I"⟩
abbrev cX9_touch : ByteArray := prog_11_method_39_code
def yX9_touch : MethodName := ⟨RX9, "touch", "(II)I"⟩
abbrev cX9_packet : ByteArray := prog_11_method_40_code
def yX9_packet : MethodName := ⟨RX9, "packet", "(I)I"⟩
abbrev cX9_reaches : ByteArray := prog_11_method_41_code
def yX9_reaches : MethodName := ⟨RX9, "reaches", "(III)I"⟩
abbrev cX9_reachesOn : ByteArray := prog_11_method_42_code
def yX9_reachesOn : MethodName := ⟨RX9, "reachesOn", "(IIII)I"⟩
abbrev cX9_member : ByteArray := prog_11_method_43_code
def yX9_member : MethodName := ⟨RX9, "member", "(III)I"⟩
abbrev cX9_reach : ByteArray := prog_11_method_44_code
def yX9_reach : MethodName := ⟨RX9, "reach", "(III)I"⟩
abbrev cX9_tries : ByteArray := prog_11_method_45_code
def yX9_tries : MethodName := ⟨RX9, "tries", "(III)V"⟩
abbrev cX9_serves : ByteArray := prog_11_method_46_code
def yX9_serves : MethodName := ⟨RX9, "serves", "(II)I"⟩
abbrev cX9_saw : ByteArray := prog_11_method_47_code
def yX9_saw : MethodName := ⟨RX9, "saw", "(II)I"⟩
abbrev cX9_forget : ByteArray := prog_11_method_48_code
def yX9_forget : MethodName := ⟨RX9, "forget", "()I"⟩
abbrev cX9_fitsAt : ByteArray := prog_11_method_49_code
def yX9_fitsAt : MethodName := ⟨RX9, "fitsAt", "(I)I"⟩
abbrev cX9_fits : ByteArray := prog_11_method_50_code
def yX9_fits : MethodName := ⟨RX9, "fits", "(I)I"⟩
abbrev cX9_rate : ByteArray := prog_11_method_51_code
def yX9_rate : MethodName := ⟨RX9, "rate", "(II)I"⟩
abbrev cX9_keep : ByteArray := prog_11_method_52_code
def yX9_keep : MethodName := ⟨RX9, "keep", "(I)I"⟩
abbrev cX9_back : ByteArray := prog_11_method_53_code
def yX9_back : MethodName := ⟨RX9, "back", "(I)I"⟩
abbrev cX9_count : ByteArray := prog_11_method_54_code
def yX9_count : MethodName := ⟨RX9, "count", "(I)I"⟩
abbrev cX9_trace : ByteArray := prog_11_method_55_code
def yX9_trace : MethodName := ⟨RX9, "trace", "()J"⟩
def RJ9 : String := "java/lang/Math"
def TJ9 : u_T := fun k => match k with
  | _ => ("", "", "", false)
def tyJ9 : Nat → FieldType := fun k => match k with
  | _ => .int
abbrev wsJ90 : List Cond := u_ws RJ9 TJ9 0
theorem nmJ9 : ∀ a, a < 0 → ∀ b, b < 0 → a ≠ b → (TJ9 a).2.1 ≠ (TJ9 b).2.1 := by decide +kernel
theorem tyJ9_ok : ∀ k, k < 0 → parseFieldDescriptor (TJ9 k).2.2.1 = some (tyJ9 k) := by decide +kernel
abbrev cJ9_abs_0f7a4 : ByteArray := prog_12_method_59_code
def yJ9_abs_0f7a4 : MethodName := ⟨RJ9, "abs", "(I)I"⟩
abbrev cJ9_max_7cf53 : ByteArray := prog_12_method_65_code
def yJ9_max_7cf53 : MethodName := ⟨RJ9, "max", "(II)I"⟩
abbrev cJ9_min_7cf53 : ByteArray := prog_12_method_69_code
def yJ9_min_7cf53 : MethodName := ⟨RJ9, "min", "(II)I"⟩
def RJ0 : String := "java/lang/String"
def TJ0 : u_T := fun k => match k with
  | _ => ("", "", "", false)
def tyJ0 : Nat → FieldType := fun k => match k with
  | _ => .int
abbrev wsJ00 : List Cond := u_ws RJ0 TJ0 0
theorem nmJ0 : ∀ a, a < 0 → ∀ b, b < 0 → a ≠ b → (TJ0 a).2.1 ≠ (TJ0 b).2.1 := by decide +kernel
theorem tyJ0_ok : ∀ k, k < 0 → parseFieldDescriptor (TJ0 k).2.2.1 = some (tyJ0 k) := by decide +kernel
abbrev cJ0_length_8abf5 : ByteArray := prog_13_method_54_code
def yJ0_length_8abf5 : MethodName := ⟨RJ0, "length", "()I"⟩
abbrev cJ0_charAt_5068e : ByteArray := prog_13_method_56_code
def yJ0_charAt_5068e : MethodName := ⟨RJ0, "charAt", "(I)C"⟩
abbrev cJ0_coder_7d493 : ByteArray := prog_13_method_152_code
def yJ0_coder_7d493 : MethodName := ⟨RJ0, "coder", "()B"⟩
abbrev cJ0_isLatin1_aae02 : ByteArray := prog_13_method_154_code
def yJ0_isLatin1_aae02 : MethodName := ⟨RJ0, "isLatin1", "()Z"⟩
abbrev cJ0_checkIndex_df160 : ByteArray := prog_13_method_155_code
def yJ0_checkIndex_df160 : MethodName := ⟨RJ0, "checkIndex", "(II)V"⟩
def RJ1 : String := "java/lang/StringLatin1"
def TJ1 : u_T := fun k => match k with
  | _ => ("", "", "", false)
def tyJ1 : Nat → FieldType := fun k => match k with
  | _ => .int
abbrev wsJ10 : List Cond := u_ws RJ1 TJ1 0
theorem nmJ1 : ∀ a, a < 0 → ∀ b, b < 0 → a ≠ b → (TJ1 a).2.1 ≠ (TJ1 b).2.1 := by decide +kernel
theorem tyJ1_ok : ∀ k, k < 0 → parseFieldDescriptor (TJ1 k).2.2.1 = some (tyJ1 k) := by decide +kernel
abbrev cJ1_charAt_3b067 : ByteArray := prog_14_method_2_code
def yJ1_charAt_3b067 : MethodName := ⟨RJ1, "charAt", "([BI)C"⟩
def RJ2 : String := "java/lang/StringUTF16"
def TJ2 : u_T := fun k => match k with
  | _ => ("", "", "", false)
def tyJ2 : Nat → FieldType := fun k => match k with
  | _ => .int
abbrev wsJ20 : List Cond := u_ws RJ2 TJ2 0
theorem nmJ2 : ∀ a, a < 0 → ∀ b, b < 0 → a ≠ b → (TJ2 a).2.1 ≠ (TJ2 b).2.1 := by decide +kernel
theorem tyJ2_ok : ∀ k, k < 0 → parseFieldDescriptor (TJ2 k).2.2.1 = some (tyJ2 k) := by decide +kernel
abbrev cJ2_getChar_3b067 : ByteArray := prog_15_method_5_code
def yJ2_getChar_3b067 : MethodName := ⟨RJ2, "getChar", "([BI)C"⟩
abbrev cJ2_length_9d52b : ByteArray := prog_15_method_6_code
def yJ2_length_9d52b : MethodName := ⟨RJ2, "length", "([B)I"⟩
abbrev cJ2_charAt_3b067 : ByteArray := prog_15_method_83_code
def yJ2_charAt_3b067 : MethodName := ⟨RJ2, "charAt", "([BI)C"⟩
abbrev cJ2_checkIndex_2214a : ByteArray := prog_15_method_91_code
def yJ2_checkIndex_2214a : MethodName := ⟨RJ2, "checkIndex", "(I[B)V"⟩
def RJ10 : String := "java/lang/System"
def TJ10 : u_T := fun k => match k with
  | _ => ("", "", "", false)
def tyJ10 : Nat → FieldType := fun k => match k with
  | _ => .int
abbrev wsJ100 : List Cond := u_ws RJ10 TJ10 0
theorem nmJ10 : ∀ a, a < 0 → ∀ b, b < 0 → a ≠ b → (TJ10 a).2.1 ≠ (TJ10 b).2.1 := by decide +kernel
theorem tyJ10_ok : ∀ k, k < 0 → parseFieldDescriptor (TJ10 k).2.2.1 = some (tyJ10 k) := by decide +kernel
def RJ3 : String := "jdk/internal/util/Preconditions"
def TJ3 : u_T := fun k => match k with
  | _ => ("", "", "", false)
def tyJ3 : Nat → FieldType := fun k => match k with
  | _ => .int
abbrev wsJ30 : List Cond := u_ws RJ3 TJ3 0
theorem nmJ3 : ∀ a, a < 0 → ∀ b, b < 0 → a ≠ b → (TJ3 a).2.1 ≠ (TJ3 b).2.1 := by decide +kernel
theorem tyJ3_ok : ∀ k, k < 0 → parseFieldDescriptor (TJ3 k).2.2.1 = some (tyJ3 k) := by decide +kernel
abbrev cJ3_checkIndex_8e157 : ByteArray := prog_17_method_11_code
def yJ3_checkIndex_8e157 : MethodName := ⟨RJ3, "checkIndex", "(IILjava/util/function/BiFunction;)I"⟩
def RL : String := "FoldedMapLaw"
abbrev cL_law : ByteArray := code
def yL_law : MethodName := ⟨RL, "law", "([I)Z"⟩
abbrev vwCl : List vw_C := [(RX0, TX0, 4), (RX1, TX1, 5), (RX2, TX2, 5), (RX3, TX3, 8), (RX4, TX4, 3), (RX5, TX5, 5), (RX6, TX6, 8), (RX7, TX7, 6), (RX8, TX8, 11), (RX9, TX9, 22)]
end
section
theorem dX0_init_0 : decode cX0_init 0 = .ok (.aload_n 0, 1) := by decide +kernel
theorem dX0_init_1 : decode cX0_init 1 = .ok (.invokespecial 3, 3) := by decide +kernel
theorem dX0_init_4 : decode cX0_init 4 = .ok (.aload_n 0, 1) := by decide +kernel
theorem dX0_init_5 : decode cX0_init 5 = .ok (.iconst 0, 1) := by decide +kernel
theorem dX0_init_6 : decode cX0_init 6 = .ok (.putfield 9, 3) := by decide +kernel
theorem dX0_init_9 : decode cX0_init 9 = .ok (.aload_n 0, 1) := by decide +kernel
theorem dX0_init_10 : decode cX0_init 10 = .ok (.bipush 24, 2) := by decide +kernel
theorem dX0_init_12 : decode cX0_init 12 = .ok (.newarray .int, 2) := by decide +kernel
theorem dX0_init_14 : decode cX0_init 14 = .ok (.putfield 15, 3) := by decide +kernel
theorem dX0_init_17 : decode cX0_init 17 = .ok (.aload_n 0, 1) := by decide +kernel
theorem dX0_init_18 : decode cX0_init 18 = .ok (.bipush 24, 2) := by decide +kernel
theorem dX0_init_20 : decode cX0_init 20 = .ok (.newarray .int, 2) := by decide +kernel
theorem dX0_init_22 : decode cX0_init 22 = .ok (.putfield 19, 3) := by decide +kernel
theorem dX0_init_25 : decode cX0_init 25 = .ok (.aload_n 0, 1) := by decide +kernel
theorem dX0_init_26 : decode cX0_init 26 = .ok (.bipush 24, 2) := by decide +kernel
theorem dX0_init_28 : decode cX0_init 28 = .ok (.newarray .int, 2) := by decide +kernel
theorem dX0_init_30 : decode cX0_init 30 = .ok (.putfield 22, 3) := by decide +kernel
theorem dX0_init_33 : decode cX0_init 33 = .ok (.return_, 1) := by decide +kernel
theorem dX0_layOut_0 : decode cX0_layOut 0 = .ok (.aload_n 0, 1) := by decide +kernel
theorem dX0_layOut_1 : decode cX0_layOut 1 = .ok (.iconst 0, 1) := by decide +kernel
theorem dX0_layOut_2 : decode cX0_layOut 2 = .ok (.putfield 9, 3) := by decide +kernel
theorem dX0_layOut_5 : decode cX0_layOut 5 = .ok (.iconst 0, 1) := by decide +kernel
theorem dX0_layOut_6 : decode cX0_layOut 6 = .ok (.istore_n 2, 1) := by decide +kernel
theorem dX0_layOut_7 : decode cX0_layOut 7 = .ok (.iload_n 2, 1) := by decide +kernel
theorem dX0_layOut_8 : decode cX0_layOut 8 = .ok (.aload_n 1, 1) := by decide +kernel
theorem dX0_layOut_9 : decode cX0_layOut 9 = .ok (.getfield 25, 3) := by decide +kernel
theorem dX0_layOut_12 : decode cX0_layOut 12 = .ok (.if_icmp .ge 107, 3) := by decide +kernel
theorem dX0_layOut_15 : decode cX0_layOut 15 = .ok (.iload_n 2, 1) := by decide +kernel
theorem dX0_layOut_16 : decode cX0_layOut 16 = .ok (.iconst 1, 1) := by decide +kernel
theorem dX0_layOut_17 : decode cX0_layOut 17 = .ok (.iadd, 1) := by decide +kernel
theorem dX0_layOut_18 : decode cX0_layOut 18 = .ok (.istore_n 3, 1) := by decide +kernel
theorem dX0_layOut_19 : decode cX0_layOut 19 = .ok (.iload_n 3, 1) := by decide +kernel
theorem dX0_layOut_20 : decode cX0_layOut 20 = .ok (.aload_n 1, 1) := by decide +kernel
theorem dX0_layOut_21 : decode cX0_layOut 21 = .ok (.getfield 25, 3) := by decide +kernel
theorem dX0_layOut_24 : decode cX0_layOut 24 = .ok (.if_icmp .ge 89, 3) := by decide +kernel
theorem dX0_layOut_27 : decode cX0_layOut 27 = .ok (.aload_n 1, 1) := by decide +kernel
theorem dX0_layOut_28 : decode cX0_layOut 28 = .ok (.getfield 30, 3) := by decide +kernel
theorem dX0_layOut_31 : decode cX0_layOut 31 = .ok (.iload_n 2, 1) := by decide +kernel
theorem dX0_layOut_32 : decode cX0_layOut 32 = .ok (.iaload, 1) := by decide +kernel
theorem dX0_layOut_33 : decode cX0_layOut 33 = .ok (.aload_n 1, 1) := by decide +kernel
theorem dX0_layOut_34 : decode cX0_layOut 34 = .ok (.getfield 30, 3) := by decide +kernel
theorem dX0_layOut_37 : decode cX0_layOut 37 = .ok (.iload_n 3, 1) := by decide +kernel
theorem dX0_layOut_38 : decode cX0_layOut 38 = .ok (.iaload, 1) := by decide +kernel
theorem dX0_layOut_39 : decode cX0_layOut 39 = .ok (.isub, 1) := by decide +kernel
theorem dX0_layOut_40 : decode cX0_layOut 40 = .ok (.invokestatic 33, 3) := by decide +kernel
theorem dX0_layOut_43 : decode cX0_layOut 43 = .ok (.aload_n 1, 1) := by decide +kernel
theorem dX0_layOut_44 : decode cX0_layOut 44 = .ok (.getfield 39, 3) := by decide +kernel
theorem dX0_layOut_47 : decode cX0_layOut 47 = .ok (.iload_n 2, 1) := by decide +kernel
theorem dX0_layOut_48 : decode cX0_layOut 48 = .ok (.iaload, 1) := by decide +kernel
theorem dX0_layOut_49 : decode cX0_layOut 49 = .ok (.aload_n 1, 1) := by decide +kernel
theorem dX0_layOut_50 : decode cX0_layOut 50 = .ok (.getfield 39, 3) := by decide +kernel
theorem dX0_layOut_53 : decode cX0_layOut 53 = .ok (.iload_n 3, 1) := by decide +kernel
theorem dX0_layOut_54 : decode cX0_layOut 54 = .ok (.iaload, 1) := by decide +kernel
theorem dX0_layOut_55 : decode cX0_layOut 55 = .ok (.isub, 1) := by decide +kernel
theorem dX0_layOut_56 : decode cX0_layOut 56 = .ok (.invokestatic 33, 3) := by decide +kernel
theorem dX0_layOut_59 : decode cX0_layOut 59 = .ok (.iadd, 1) := by decide +kernel
theorem dX0_layOut_60 : decode cX0_layOut 60 = .ok (.istore 4, 2) := by decide +kernel
theorem dX0_layOut_62 : decode cX0_layOut 62 = .ok (.iload 4, 2) := by decide +kernel
theorem dX0_layOut_64 : decode cX0_layOut 64 = .ok (.iconst 1, 1) := by decide +kernel
theorem dX0_layOut_65 : decode cX0_layOut 65 = .ok (.if_icmp .ne 42, 3) := by decide +kernel
theorem dX0_layOut_68 : decode cX0_layOut 68 = .ok (.aload_n 0, 1) := by decide +kernel
theorem dX0_layOut_69 : decode cX0_layOut 69 = .ok (.getfield 9, 3) := by decide +kernel
theorem dX0_layOut_72 : decode cX0_layOut 72 = .ok (.bipush 24, 2) := by decide +kernel
theorem dX0_layOut_74 : decode cX0_layOut 74 = .ok (.if_icmp .ge 33, 3) := by decide +kernel
theorem dX0_layOut_77 : decode cX0_layOut 77 = .ok (.aload_n 0, 1) := by decide +kernel
theorem dX0_layOut_78 : decode cX0_layOut 78 = .ok (.getfield 15, 3) := by decide +kernel
theorem dX0_layOut_81 : decode cX0_layOut 81 = .ok (.aload_n 0, 1) := by decide +kernel
theorem dX0_layOut_82 : decode cX0_layOut 82 = .ok (.getfield 9, 3) := by decide +kernel
theorem dX0_layOut_85 : decode cX0_layOut 85 = .ok (.iload_n 2, 1) := by decide +kernel
theorem dX0_layOut_86 : decode cX0_layOut 86 = .ok (.iastore, 1) := by decide +kernel
theorem dX0_layOut_87 : decode cX0_layOut 87 = .ok (.aload_n 0, 1) := by decide +kernel
theorem dX0_layOut_88 : decode cX0_layOut 88 = .ok (.getfield 19, 3) := by decide +kernel
theorem dX0_layOut_91 : decode cX0_layOut 91 = .ok (.aload_n 0, 1) := by decide +kernel
theorem dX0_layOut_92 : decode cX0_layOut 92 = .ok (.getfield 9, 3) := by decide +kernel
theorem dX0_layOut_95 : decode cX0_layOut 95 = .ok (.iload_n 3, 1) := by decide +kernel
theorem dX0_layOut_96 : decode cX0_layOut 96 = .ok (.iastore, 1) := by decide +kernel
theorem dX0_layOut_97 : decode cX0_layOut 97 = .ok (.aload_n 0, 1) := by decide +kernel
theorem dX0_layOut_98 : decode cX0_layOut 98 = .ok (.dup, 1) := by decide +kernel
theorem dX0_layOut_99 : decode cX0_layOut 99 = .ok (.getfield 9, 3) := by decide +kernel
theorem dX0_layOut_102 : decode cX0_layOut 102 = .ok (.iconst 1, 1) := by decide +kernel
theorem dX0_layOut_103 : decode cX0_layOut 103 = .ok (.iadd, 1) := by decide +kernel
theorem dX0_layOut_104 : decode cX0_layOut 104 = .ok (.putfield 9, 3) := by decide +kernel
theorem dX0_layOut_107 : decode cX0_layOut 107 = .ok (.iinc 3 1, 3) := by decide +kernel
theorem dX0_layOut_110 : decode cX0_layOut 110 = .ok (.goto (-91), 3) := by decide +kernel
theorem dX0_layOut_113 : decode cX0_layOut 113 = .ok (.iinc 2 1, 3) := by decide +kernel
theorem dX0_layOut_116 : decode cX0_layOut 116 = .ok (.goto (-109), 3) := by decide +kernel
theorem dX0_layOut_119 : decode cX0_layOut 119 = .ok (.return_, 1) := by decide +kernel
theorem dX0_find_0 : decode cX0_find 0 = .ok (.iload_n 1, 1) := by decide +kernel
theorem dX0_find_1 : decode cX0_find 1 = .ok (.iload_n 2, 1) := by decide +kernel
theorem dX0_find_2 : decode cX0_find 2 = .ok (.invokestatic 42, 3) := by decide +kernel
theorem dX0_find_5 : decode cX0_find 5 = .ok (.istore_n 3, 1) := by decide +kernel
theorem dX0_find_6 : decode cX0_find 6 = .ok (.iload_n 1, 1) := by decide +kernel
theorem dX0_find_7 : decode cX0_find 7 = .ok (.iload_n 2, 1) := by decide +kernel
theorem dX0_find_8 : decode cX0_find 8 = .ok (.invokestatic 46, 3) := by decide +kernel
theorem dX0_find_11 : decode cX0_find 11 = .ok (.istore 4, 2) := by decide +kernel
theorem dX0_find_13 : decode cX0_find 13 = .ok (.iconst 0, 1) := by decide +kernel
theorem dX0_find_14 : decode cX0_find 14 = .ok (.istore 5, 2) := by decide +kernel
theorem dX0_find_16 : decode cX0_find 16 = .ok (.iload 5, 2) := by decide +kernel
theorem dX0_find_18 : decode cX0_find 18 = .ok (.aload_n 0, 1) := by decide +kernel
theorem dX0_find_19 : decode cX0_find 19 = .ok (.getfield 9, 3) := by decide +kernel
theorem dX0_find_22 : decode cX0_find 22 = .ok (.if_icmp .ge 35, 3) := by decide +kernel
theorem dX0_find_25 : decode cX0_find 25 = .ok (.aload_n 0, 1) := by decide +kernel
theorem dX0_find_26 : decode cX0_find 26 = .ok (.getfield 15, 3) := by decide +kernel
theorem dX0_find_29 : decode cX0_find 29 = .ok (.iload 5, 2) := by decide +kernel
theorem dX0_find_31 : decode cX0_find 31 = .ok (.iaload, 1) := by decide +kernel
theorem dX0_find_32 : decode cX0_find 32 = .ok (.iload_n 3, 1) := by decide +kernel
theorem dX0_find_33 : decode cX0_find 33 = .ok (.if_icmp .ne 18, 3) := by decide +kernel
theorem dX0_find_36 : decode cX0_find 36 = .ok (.aload_n 0, 1) := by decide +kernel
theorem dX0_find_37 : decode cX0_find 37 = .ok (.getfield 19, 3) := by decide +kernel
theorem dX0_find_40 : decode cX0_find 40 = .ok (.iload 5, 2) := by decide +kernel
theorem dX0_find_42 : decode cX0_find 42 = .ok (.iaload, 1) := by decide +kernel
theorem dX0_find_43 : decode cX0_find 43 = .ok (.iload 4, 2) := by decide +kernel
theorem dX0_find_45 : decode cX0_find 45 = .ok (.if_icmp .ne 6, 3) := by decide +kernel
theorem dX0_find_48 : decode cX0_find 48 = .ok (.iload 5, 2) := by decide +kernel
theorem dX0_find_50 : decode cX0_find 50 = .ok (.ireturn, 1) := by decide +kernel
theorem dX0_find_51 : decode cX0_find 51 = .ok (.iinc 5 1, 3) := by decide +kernel
theorem dX0_find_54 : decode cX0_find 54 = .ok (.goto (-38), 3) := by decide +kernel
theorem dX0_find_57 : decode cX0_find 57 = .ok (.bipush (-9), 2) := by decide +kernel
theorem dX0_find_59 : decode cX0_find 59 = .ok (.ireturn, 1) := by decide +kernel
theorem dX0_wouldTear_0 : decode cX0_wouldTear 0 = .ok (.iconst 0, 1) := by decide +kernel
theorem dX0_wouldTear_1 : decode cX0_wouldTear 1 = .ok (.istore 4, 2) := by decide +kernel
theorem dX0_wouldTear_3 : decode cX0_wouldTear 3 = .ok (.iload 4, 2) := by decide +kernel
theorem dX0_wouldTear_5 : decode cX0_wouldTear 5 = .ok (.aload_n 0, 1) := by decide +kernel
theorem dX0_wouldTear_6 : decode cX0_wouldTear 6 = .ok (.getfield 9, 3) := by decide +kernel
theorem dX0_wouldTear_9 : decode cX0_wouldTear 9 = .ok (.if_icmp .ge 44, 3) := by decide +kernel
theorem dX0_wouldTear_12 : decode cX0_wouldTear 12 = .ok (.aload_n 0, 1) := by decide +kernel
theorem dX0_wouldTear_13 : decode cX0_wouldTear 13 = .ok (.getfield 22, 3) := by decide +kernel
theorem dX0_wouldTear_16 : decode cX0_wouldTear 16 = .ok (.iload 4, 2) := by decide +kernel
theorem dX0_wouldTear_18 : decode cX0_wouldTear 18 = .ok (.iaload, 1) := by decide +kernel
theorem dX0_wouldTear_19 : decode cX0_wouldTear 19 = .ok (.iload_n 3, 1) := by decide +kernel
theorem dX0_wouldTear_20 : decode cX0_wouldTear 20 = .ok (.if_icmp .lt 27, 3) := by decide +kernel
theorem dX0_wouldTear_23 : decode cX0_wouldTear 23 = .ok (.aload_n 1, 1) := by decide +kernel
theorem dX0_wouldTear_24 : decode cX0_wouldTear 24 = .ok (.aload_n 0, 1) := by decide +kernel
theorem dX0_wouldTear_25 : decode cX0_wouldTear 25 = .ok (.getfield 15, 3) := by decide +kernel
theorem dX0_wouldTear_28 : decode cX0_wouldTear 28 = .ok (.iload 4, 2) := by decide +kernel
theorem dX0_wouldTear_30 : decode cX0_wouldTear 30 = .ok (.iaload, 1) := by decide +kernel
theorem dX0_wouldTear_31 : decode cX0_wouldTear 31 = .ok (.aload_n 0, 1) := by decide +kernel
theorem dX0_wouldTear_32 : decode cX0_wouldTear 32 = .ok (.getfield 19, 3) := by decide +kernel
theorem dX0_wouldTear_35 : decode cX0_wouldTear 35 = .ok (.iload 4, 2) := by decide +kernel
theorem dX0_wouldTear_37 : decode cX0_wouldTear 37 = .ok (.iaload, 1) := by decide +kernel
theorem dX0_wouldTear_38 : decode cX0_wouldTear 38 = .ok (.iload_n 2, 1) := by decide +kernel
theorem dX0_wouldTear_39 : decode cX0_wouldTear 39 = .ok (.invokevirtual 49, 3) := by decide +kernel
theorem dX0_wouldTear_42 : decode cX0_wouldTear 42 = .ok (.ifCond .eq 5, 3) := by decide +kernel
theorem dX0_wouldTear_45 : decode cX0_wouldTear 45 = .ok (.iconst 1, 1) := by decide +kernel
theorem dX0_wouldTear_46 : decode cX0_wouldTear 46 = .ok (.ireturn, 1) := by decide +kernel
theorem dX0_wouldTear_47 : decode cX0_wouldTear 47 = .ok (.iinc 4 1, 3) := by decide +kernel
theorem dX0_wouldTear_50 : decode cX0_wouldTear 50 = .ok (.goto (-47), 3) := by decide +kernel
theorem dX0_wouldTear_53 : decode cX0_wouldTear 53 = .ok (.iconst 0, 1) := by decide +kernel
theorem dX0_wouldTear_54 : decode cX0_wouldTear 54 = .ok (.ireturn, 1) := by decide +kernel
theorem dX0_bend_0 : decode cX0_bend 0 = .ok (.iconst 0, 1) := by decide +kernel
theorem dX0_bend_1 : decode cX0_bend 1 = .ok (.istore_n 3, 1) := by decide +kernel
theorem dX0_bend_2 : decode cX0_bend 2 = .ok (.iload_n 3, 1) := by decide +kernel
theorem dX0_bend_3 : decode cX0_bend 3 = .ok (.aload_n 0, 1) := by decide +kernel
theorem dX0_bend_4 : decode cX0_bend 4 = .ok (.getfield 9, 3) := by decide +kernel
theorem dX0_bend_7 : decode cX0_bend 7 = .ok (.if_icmp .ge 39, 3) := by decide +kernel
theorem dX0_bend_10 : decode cX0_bend 10 = .ok (.aload_n 1, 1) := by decide +kernel
theorem dX0_bend_11 : decode cX0_bend 11 = .ok (.aload_n 0, 1) := by decide +kernel
theorem dX0_bend_12 : decode cX0_bend 12 = .ok (.getfield 15, 3) := by decide +kernel
theorem dX0_bend_15 : decode cX0_bend 15 = .ok (.iload_n 3, 1) := by decide +kernel
theorem dX0_bend_16 : decode cX0_bend 16 = .ok (.iaload, 1) := by decide +kernel
theorem dX0_bend_17 : decode cX0_bend 17 = .ok (.aload_n 0, 1) := by decide +kernel
theorem dX0_bend_18 : decode cX0_bend 18 = .ok (.getfield 19, 3) := by decide +kernel
theorem dX0_bend_21 : decode cX0_bend 21 = .ok (.iload_n 3, 1) := by decide +kernel
theorem dX0_bend_22 : decode cX0_bend 22 = .ok (.iaload, 1) := by decide +kernel
theorem dX0_bend_23 : decode cX0_bend 23 = .ok (.iload_n 2, 1) := by decide +kernel
theorem dX0_bend_24 : decode cX0_bend 24 = .ok (.invokevirtual 49, 3) := by decide +kernel
theorem dX0_bend_27 : decode cX0_bend 27 = .ok (.ifCond .eq 13, 3) := by decide +kernel
theorem dX0_bend_30 : decode cX0_bend 30 = .ok (.aload_n 0, 1) := by decide +kernel
theorem dX0_bend_31 : decode cX0_bend 31 = .ok (.getfield 22, 3) := by decide +kernel
theorem dX0_bend_34 : decode cX0_bend 34 = .ok (.iload_n 3, 1) := by decide +kernel
theorem dX0_bend_35 : decode cX0_bend 35 = .ok (.dup2, 1) := by decide +kernel
theorem dX0_bend_36 : decode cX0_bend 36 = .ok (.iaload, 1) := by decide +kernel
theorem dX0_bend_37 : decode cX0_bend 37 = .ok (.iconst 1, 1) := by decide +kernel
theorem dX0_bend_38 : decode cX0_bend 38 = .ok (.iadd, 1) := by decide +kernel
theorem dX0_bend_39 : decode cX0_bend 39 = .ok (.iastore, 1) := by decide +kernel
theorem dX0_bend_40 : decode cX0_bend 40 = .ok (.iinc 3 1, 3) := by decide +kernel
theorem dX0_bend_43 : decode cX0_bend 43 = .ok (.goto (-41), 3) := by decide +kernel
theorem dX0_bend_46 : decode cX0_bend 46 = .ok (.return_, 1) := by decide +kernel
theorem dX1_init_0 : decode cX1_init 0 = .ok (.aload_n 0, 1) := by decide +kernel
theorem dX1_init_1 : decode cX1_init 1 = .ok (.invokespecial 3, 3) := by decide +kernel
theorem dX1_init_4 : decode cX1_init 4 = .ok (.aload_n 0, 1) := by decide +kernel
theorem dX1_init_5 : decode cX1_init 5 = .ok (.bipush 16, 2) := by decide +kernel
theorem dX1_init_7 : decode cX1_init 7 = .ok (.newarray .int, 2) := by decide +kernel
theorem dX1_init_9 : decode cX1_init 9 = .ok (.putfield 9, 3) := by decide +kernel
theorem dX1_init_12 : decode cX1_init 12 = .ok (.aload_n 0, 1) := by decide +kernel
theorem dX1_init_13 : decode cX1_init 13 = .ok (.new 15, 3) := by decide +kernel
theorem dX1_init_16 : decode cX1_init 16 = .ok (.dup, 1) := by decide +kernel
theorem dX1_init_17 : decode cX1_init 17 = .ok (.invokespecial 17, 3) := by decide +kernel
theorem dX1_init_20 : decode cX1_init 20 = .ok (.putfield 18, 3) := by decide +kernel
theorem dX1_init_23 : decode cX1_init 23 = .ok (.aload_n 0, 1) := by decide +kernel
theorem dX1_init_24 : decode cX1_init 24 = .ok (.invokevirtual 22, 3) := by decide +kernel
theorem dX1_init_27 : decode cX1_init 27 = .ok (.return_, 1) := by decide +kernel
theorem dX1_becomeAsAtFirst_0 : decode cX1_becomeAsAtFirst 0 = .ok (.aload_n 0, 1) := by decide +kernel
theorem dX1_becomeAsAtFirst_1 : decode cX1_becomeAsAtFirst 1 = .ok (.iconst 3, 1) := by decide +kernel
theorem dX1_becomeAsAtFirst_2 : decode cX1_becomeAsAtFirst 2 = .ok (.putfield 25, 3) := by decide +kernel
theorem dX1_becomeAsAtFirst_5 : decode cX1_becomeAsAtFirst 5 = .ok (.aload_n 0, 1) := by decide +kernel
theorem dX1_becomeAsAtFirst_6 : decode cX1_becomeAsAtFirst 6 = .ok (.iconst 2, 1) := by decide +kernel
theorem dX1_becomeAsAtFirst_7 : decode cX1_becomeAsAtFirst 7 = .ok (.putfield 29, 3) := by decide +kernel
theorem dX1_becomeAsAtFirst_10 : decode cX1_becomeAsAtFirst 10 = .ok (.aload_n 0, 1) := by decide +kernel
theorem dX1_becomeAsAtFirst_11 : decode cX1_becomeAsAtFirst 11 = .ok (.iconst 3, 1) := by decide +kernel
theorem dX1_becomeAsAtFirst_12 : decode cX1_becomeAsAtFirst 12 = .ok (.putfield 32, 3) := by decide +kernel
theorem dX1_becomeAsAtFirst_15 : decode cX1_becomeAsAtFirst 15 = .ok (.iconst 0, 1) := by decide +kernel
theorem dX1_becomeAsAtFirst_16 : decode cX1_becomeAsAtFirst 16 = .ok (.istore_n 1, 1) := by decide +kernel
theorem dX1_becomeAsAtFirst_17 : decode cX1_becomeAsAtFirst 17 = .ok (.iload_n 1, 1) := by decide +kernel
theorem dX1_becomeAsAtFirst_18 : decode cX1_becomeAsAtFirst 18 = .ok (.bipush 16, 2) := by decide +kernel
theorem dX1_becomeAsAtFirst_20 : decode cX1_becomeAsAtFirst 20 = .ok (.if_icmp .ge 16, 3) := by decide +kernel
theorem dX1_becomeAsAtFirst_23 : decode cX1_becomeAsAtFirst 23 = .ok (.aload_n 0, 1) := by decide +kernel
theorem dX1_becomeAsAtFirst_24 : decode cX1_becomeAsAtFirst 24 = .ok (.getfield 9, 3) := by decide +kernel
theorem dX1_becomeAsAtFirst_27 : decode cX1_becomeAsAtFirst 27 = .ok (.iload_n 1, 1) := by decide +kernel
theorem dX1_becomeAsAtFirst_28 : decode cX1_becomeAsAtFirst 28 = .ok (.iconst 1, 1) := by decide +kernel
theorem dX1_becomeAsAtFirst_29 : decode cX1_becomeAsAtFirst 29 = .ok (.iastore, 1) := by decide +kernel
theorem dX1_becomeAsAtFirst_30 : decode cX1_becomeAsAtFirst 30 = .ok (.iinc 1 1, 3) := by decide +kernel
theorem dX1_becomeAsAtFirst_33 : decode cX1_becomeAsAtFirst 33 = .ok (.goto (-16), 3) := by decide +kernel
theorem dX1_becomeAsAtFirst_36 : decode cX1_becomeAsAtFirst 36 = .ok (.aload_n 0, 1) := by decide +kernel
theorem dX1_becomeAsAtFirst_37 : decode cX1_becomeAsAtFirst 37 = .ok (.getfield 18, 3) := by decide +kernel
theorem dX1_becomeAsAtFirst_40 : decode cX1_becomeAsAtFirst 40 = .ok (.iconst 0, 1) := by decide +kernel
theorem dX1_becomeAsAtFirst_41 : decode cX1_becomeAsAtFirst 41 = .ok (.putfield 35, 3) := by decide +kernel
theorem dX1_becomeAsAtFirst_44 : decode cX1_becomeAsAtFirst 44 = .ok (.return_, 1) := by decide +kernel
theorem dX1_setWorth_0 : decode cX1_setWorth 0 = .ok (.iload_n 1, 1) := by decide +kernel
theorem dX1_setWorth_1 : decode cX1_setWorth 1 = .ok (.ifCond .lt 16, 3) := by decide +kernel
theorem dX1_setWorth_4 : decode cX1_setWorth 4 = .ok (.iload_n 1, 1) := by decide +kernel
theorem dX1_setWorth_5 : decode cX1_setWorth 5 = .ok (.bipush 16, 2) := by decide +kernel
theorem dX1_setWorth_7 : decode cX1_setWorth 7 = .ok (.if_icmp .ge 10, 3) := by decide +kernel
theorem dX1_setWorth_10 : decode cX1_setWorth 10 = .ok (.aload_n 0, 1) := by decide +kernel
theorem dX1_setWorth_11 : decode cX1_setWorth 11 = .ok (.getfield 9, 3) := by decide +kernel
theorem dX1_setWorth_14 : decode cX1_setWorth 14 = .ok (.iload_n 1, 1) := by decide +kernel
theorem dX1_setWorth_15 : decode cX1_setWorth 15 = .ok (.iload_n 2, 1) := by decide +kernel
theorem dX1_setWorth_16 : decode cX1_setWorth 16 = .ok (.iastore, 1) := by decide +kernel
theorem dX1_setWorth_17 : decode cX1_setWorth 17 = .ok (.return_, 1) := by decide +kernel
theorem dX1_copyFrom_0 : decode cX1_copyFrom 0 = .ok (.aload_n 0, 1) := by decide +kernel
theorem dX1_copyFrom_1 : decode cX1_copyFrom 1 = .ok (.aload_n 1, 1) := by decide +kernel
theorem dX1_copyFrom_2 : decode cX1_copyFrom 2 = .ok (.getfield 25, 3) := by decide +kernel
theorem dX1_copyFrom_5 : decode cX1_copyFrom 5 = .ok (.putfield 25, 3) := by decide +kernel
theorem dX1_copyFrom_8 : decode cX1_copyFrom 8 = .ok (.aload_n 0, 1) := by decide +kernel
theorem dX1_copyFrom_9 : decode cX1_copyFrom 9 = .ok (.aload_n 1, 1) := by decide +kernel
theorem dX1_copyFrom_10 : decode cX1_copyFrom 10 = .ok (.getfield 29, 3) := by decide +kernel
theorem dX1_copyFrom_13 : decode cX1_copyFrom 13 = .ok (.putfield 29, 3) := by decide +kernel
theorem dX1_copyFrom_16 : decode cX1_copyFrom 16 = .ok (.aload_n 0, 1) := by decide +kernel
theorem dX1_copyFrom_17 : decode cX1_copyFrom 17 = .ok (.aload_n 1, 1) := by decide +kernel
theorem dX1_copyFrom_18 : decode cX1_copyFrom 18 = .ok (.getfield 32, 3) := by decide +kernel
theorem dX1_copyFrom_21 : decode cX1_copyFrom 21 = .ok (.putfield 32, 3) := by decide +kernel
theorem dX1_copyFrom_24 : decode cX1_copyFrom 24 = .ok (.aload_n 1, 1) := by decide +kernel
theorem dX1_copyFrom_25 : decode cX1_copyFrom 25 = .ok (.getfield 9, 3) := by decide +kernel
theorem dX1_copyFrom_28 : decode cX1_copyFrom 28 = .ok (.iconst 0, 1) := by decide +kernel
theorem dX1_copyFrom_29 : decode cX1_copyFrom 29 = .ok (.aload_n 0, 1) := by decide +kernel
theorem dX1_copyFrom_30 : decode cX1_copyFrom 30 = .ok (.getfield 9, 3) := by decide +kernel
theorem dX1_copyFrom_33 : decode cX1_copyFrom 33 = .ok (.iconst 0, 1) := by decide +kernel
theorem dX1_copyFrom_34 : decode cX1_copyFrom 34 = .ok (.bipush 16, 2) := by decide +kernel
theorem dX1_copyFrom_36 : decode cX1_copyFrom 36 = .ok (.invokestatic 38, 3) := by decide +kernel
theorem dX1_copyFrom_39 : decode cX1_copyFrom 39 = .ok (.aload_n 0, 1) := by decide +kernel
theorem dX1_copyFrom_40 : decode cX1_copyFrom 40 = .ok (.getfield 18, 3) := by decide +kernel
theorem dX1_copyFrom_43 : decode cX1_copyFrom 43 = .ok (.aload_n 1, 1) := by decide +kernel
theorem dX1_copyFrom_44 : decode cX1_copyFrom 44 = .ok (.getfield 18, 3) := by decide +kernel
theorem dX1_copyFrom_47 : decode cX1_copyFrom 47 = .ok (.invokevirtual 44, 3) := by decide +kernel
theorem dX1_copyFrom_50 : decode cX1_copyFrom 50 = .ok (.return_, 1) := by decide +kernel
theorem dX2_init_0 : decode cX2_init 0 = .ok (.aload_n 0, 1) := by decide +kernel
theorem dX2_init_1 : decode cX2_init 1 = .ok (.invokespecial 3, 3) := by decide +kernel
theorem dX2_init_4 : decode cX2_init 4 = .ok (.aload_n 0, 1) := by decide +kernel
theorem dX2_init_5 : decode cX2_init 5 = .ok (.iconst 0, 1) := by decide +kernel
theorem dX2_init_6 : decode cX2_init 6 = .ok (.putfield 9, 3) := by decide +kernel
theorem dX2_init_9 : decode cX2_init 9 = .ok (.aload_n 0, 1) := by decide +kernel
theorem dX2_init_10 : decode cX2_init 10 = .ok (.iconst 0, 1) := by decide +kernel
theorem dX2_init_11 : decode cX2_init 11 = .ok (.putfield 15, 3) := by decide +kernel
theorem dX2_init_14 : decode cX2_init 14 = .ok (.aload_n 0, 1) := by decide +kernel
theorem dX2_init_15 : decode cX2_init 15 = .ok (.iconst 0, 1) := by decide +kernel
theorem dX2_init_16 : decode cX2_init 16 = .ok (.putfield 19, 3) := by decide +kernel
theorem dX2_init_19 : decode cX2_init 19 = .ok (.aload_n 0, 1) := by decide +kernel
theorem dX2_init_20 : decode cX2_init 20 = .ok (.bipush 6, 2) := by decide +kernel
theorem dX2_init_22 : decode cX2_init 22 = .ok (.newarray .int, 2) := by decide +kernel
theorem dX2_init_24 : decode cX2_init 24 = .ok (.putfield 22, 3) := by decide +kernel
theorem dX2_init_27 : decode cX2_init 27 = .ok (.aload_n 0, 1) := by decide +kernel
theorem dX2_init_28 : decode cX2_init 28 = .ok (.bipush 24, 2) := by decide +kernel
theorem dX2_init_30 : decode cX2_init 30 = .ok (.newarray .int, 2) := by decide +kernel
theorem dX2_init_32 : decode cX2_init 32 = .ok (.putfield 26, 3) := by decide +kernel
theorem dX2_init_35 : decode cX2_init 35 = .ok (.return_, 1) := by decide +kernel
theorem dX2_begin_0 : decode cX2_begin 0 = .ok (.aload_n 0, 1) := by decide +kernel
theorem dX2_begin_1 : decode cX2_begin 1 = .ok (.iconst 0, 1) := by decide +kernel
theorem dX2_begin_2 : decode cX2_begin 2 = .ok (.putfield 15, 3) := by decide +kernel
theorem dX2_begin_5 : decode cX2_begin 5 = .ok (.aload_n 0, 1) := by decide +kernel
theorem dX2_begin_6 : decode cX2_begin 6 = .ok (.iconst 0, 1) := by decide +kernel
theorem dX2_begin_7 : decode cX2_begin 7 = .ok (.putfield 19, 3) := by decide +kernel
theorem dX2_begin_10 : decode cX2_begin 10 = .ok (.iconst 0, 1) := by decide +kernel
theorem dX2_begin_11 : decode cX2_begin 11 = .ok (.istore_n 1, 1) := by decide +kernel
theorem dX2_begin_12 : decode cX2_begin 12 = .ok (.iload_n 1, 1) := by decide +kernel
theorem dX2_begin_13 : decode cX2_begin 13 = .ok (.bipush 24, 2) := by decide +kernel
theorem dX2_begin_15 : decode cX2_begin 15 = .ok (.if_icmp .ge 16, 3) := by decide +kernel
theorem dX2_begin_18 : decode cX2_begin 18 = .ok (.aload_n 0, 1) := by decide +kernel
theorem dX2_begin_19 : decode cX2_begin 19 = .ok (.getfield 26, 3) := by decide +kernel
theorem dX2_begin_22 : decode cX2_begin 22 = .ok (.iload_n 1, 1) := by decide +kernel
theorem dX2_begin_23 : decode cX2_begin 23 = .ok (.iconst 0, 1) := by decide +kernel
theorem dX2_begin_24 : decode cX2_begin 24 = .ok (.iastore, 1) := by decide +kernel
theorem dX2_begin_25 : decode cX2_begin 25 = .ok (.iinc 1 1, 3) := by decide +kernel
theorem dX2_begin_28 : decode cX2_begin 28 = .ok (.goto (-16), 3) := by decide +kernel
theorem dX2_begin_31 : decode cX2_begin 31 = .ok (.return_, 1) := by decide +kernel
theorem dX2_addFold_0 : decode cX2_addFold 0 = .ok (.aload_n 0, 1) := by decide +kernel
theorem dX2_addFold_1 : decode cX2_addFold 1 = .ok (.getfield 19, 3) := by decide +kernel
theorem dX2_addFold_4 : decode cX2_addFold 4 = .ok (.bipush 6, 2) := by decide +kernel
theorem dX2_addFold_6 : decode cX2_addFold 6 = .ok (.if_icmp .ge 23, 3) := by decide +kernel
theorem dX2_addFold_9 : decode cX2_addFold 9 = .ok (.aload_n 0, 1) := by decide +kernel
theorem dX2_addFold_10 : decode cX2_addFold 10 = .ok (.getfield 22, 3) := by decide +kernel
theorem dX2_addFold_13 : decode cX2_addFold 13 = .ok (.aload_n 0, 1) := by decide +kernel
theorem dX2_addFold_14 : decode cX2_addFold 14 = .ok (.getfield 19, 3) := by decide +kernel
theorem dX2_addFold_17 : decode cX2_addFold 17 = .ok (.iload_n 1, 1) := by decide +kernel
theorem dX2_addFold_18 : decode cX2_addFold 18 = .ok (.iastore, 1) := by decide +kernel
theorem dX2_addFold_19 : decode cX2_addFold 19 = .ok (.aload_n 0, 1) := by decide +kernel
theorem dX2_addFold_20 : decode cX2_addFold 20 = .ok (.dup, 1) := by decide +kernel
theorem dX2_addFold_21 : decode cX2_addFold 21 = .ok (.getfield 19, 3) := by decide +kernel
theorem dX2_addFold_24 : decode cX2_addFold 24 = .ok (.iconst 1, 1) := by decide +kernel
theorem dX2_addFold_25 : decode cX2_addFold 25 = .ok (.iadd, 1) := by decide +kernel
theorem dX2_addFold_26 : decode cX2_addFold 26 = .ok (.putfield 19, 3) := by decide +kernel
theorem dX2_addFold_29 : decode cX2_addFold 29 = .ok (.return_, 1) := by decide +kernel
theorem dX2_nextDay_0 : decode cX2_nextDay 0 = .ok (.aload_n 0, 1) := by decide +kernel
theorem dX2_nextDay_1 : decode cX2_nextDay 1 = .ok (.dup, 1) := by decide +kernel
theorem dX2_nextDay_2 : decode cX2_nextDay 2 = .ok (.getfield 15, 3) := by decide +kernel
theorem dX2_nextDay_5 : decode cX2_nextDay 5 = .ok (.iconst 1, 1) := by decide +kernel
theorem dX2_nextDay_6 : decode cX2_nextDay 6 = .ok (.iadd, 1) := by decide +kernel
theorem dX2_nextDay_7 : decode cX2_nextDay 7 = .ok (.putfield 15, 3) := by decide +kernel
theorem dX2_nextDay_10 : decode cX2_nextDay 10 = .ok (.aload_n 0, 1) := by decide +kernel
theorem dX2_nextDay_11 : decode cX2_nextDay 11 = .ok (.iconst 0, 1) := by decide +kernel
theorem dX2_nextDay_12 : decode cX2_nextDay 12 = .ok (.putfield 19, 3) := by decide +kernel
theorem dX2_nextDay_15 : decode cX2_nextDay 15 = .ok (.aload_n 1, 1) := by decide +kernel
theorem dX2_nextDay_16 : decode cX2_nextDay 16 = .ok (.getfield 29, 3) := by decide +kernel
theorem dX2_nextDay_19 : decode cX2_nextDay 19 = .ok (.iconst 0, 1) := by decide +kernel
theorem dX2_nextDay_20 : decode cX2_nextDay 20 = .ok (.aload_n 0, 1) := by decide +kernel
theorem dX2_nextDay_21 : decode cX2_nextDay 21 = .ok (.getfield 26, 3) := by decide +kernel
theorem dX2_nextDay_24 : decode cX2_nextDay 24 = .ok (.iconst 0, 1) := by decide +kernel
theorem dX2_nextDay_25 : decode cX2_nextDay 25 = .ok (.bipush 24, 2) := by decide +kernel
theorem dX2_nextDay_27 : decode cX2_nextDay 27 = .ok (.invokestatic 34, 3) := by decide +kernel
theorem dX2_nextDay_30 : decode cX2_nextDay 30 = .ok (.return_, 1) := by decide +kernel
theorem dX2_copyFrom_0 : decode cX2_copyFrom 0 = .ok (.aload_n 0, 1) := by decide +kernel
theorem dX2_copyFrom_1 : decode cX2_copyFrom 1 = .ok (.aload_n 1, 1) := by decide +kernel
theorem dX2_copyFrom_2 : decode cX2_copyFrom 2 = .ok (.getfield 15, 3) := by decide +kernel
theorem dX2_copyFrom_5 : decode cX2_copyFrom 5 = .ok (.putfield 15, 3) := by decide +kernel
theorem dX2_copyFrom_8 : decode cX2_copyFrom 8 = .ok (.aload_n 0, 1) := by decide +kernel
theorem dX2_copyFrom_9 : decode cX2_copyFrom 9 = .ok (.aload_n 1, 1) := by decide +kernel
theorem dX2_copyFrom_10 : decode cX2_copyFrom 10 = .ok (.getfield 19, 3) := by decide +kernel
theorem dX2_copyFrom_13 : decode cX2_copyFrom 13 = .ok (.putfield 19, 3) := by decide +kernel
theorem dX2_copyFrom_16 : decode cX2_copyFrom 16 = .ok (.aload_n 1, 1) := by decide +kernel
theorem dX2_copyFrom_17 : decode cX2_copyFrom 17 = .ok (.getfield 22, 3) := by decide +kernel
theorem dX2_copyFrom_20 : decode cX2_copyFrom 20 = .ok (.iconst 0, 1) := by decide +kernel
theorem dX2_copyFrom_21 : decode cX2_copyFrom 21 = .ok (.aload_n 0, 1) := by decide +kernel
theorem dX2_copyFrom_22 : decode cX2_copyFrom 22 = .ok (.getfield 22, 3) := by decide +kernel
theorem dX2_copyFrom_25 : decode cX2_copyFrom 25 = .ok (.iconst 0, 1) := by decide +kernel
theorem dX2_copyFrom_26 : decode cX2_copyFrom 26 = .ok (.bipush 6, 2) := by decide +kernel
theorem dX2_copyFrom_28 : decode cX2_copyFrom 28 = .ok (.invokestatic 34, 3) := by decide +kernel
theorem dX2_copyFrom_31 : decode cX2_copyFrom 31 = .ok (.aload_n 1, 1) := by decide +kernel
theorem dX2_copyFrom_32 : decode cX2_copyFrom 32 = .ok (.getfield 26, 3) := by decide +kernel
theorem dX2_copyFrom_35 : decode cX2_copyFrom 35 = .ok (.iconst 0, 1) := by decide +kernel
theorem dX2_copyFrom_36 : decode cX2_copyFrom 36 = .ok (.aload_n 0, 1) := by decide +kernel
theorem dX2_copyFrom_37 : decode cX2_copyFrom 37 = .ok (.getfield 26, 3) := by decide +kernel
theorem dX2_copyFrom_40 : decode cX2_copyFrom 40 = .ok (.iconst 0, 1) := by decide +kernel
theorem dX2_copyFrom_41 : decode cX2_copyFrom 41 = .ok (.bipush 24, 2) := by decide +kernel
theorem dX2_copyFrom_43 : decode cX2_copyFrom 43 = .ok (.invokestatic 34, 3) := by decide +kernel
theorem dX2_copyFrom_46 : decode cX2_copyFrom 46 = .ok (.return_, 1) := by decide +kernel
theorem dX3_init_0 : decode cX3_init 0 = .ok (.aload_n 0, 1) := by decide +kernel
theorem dX3_init_1 : decode cX3_init 1 = .ok (.invokespecial 3, 3) := by decide +kernel
theorem dX3_init_4 : decode cX3_init 4 = .ok (.aload_n 0, 1) := by decide +kernel
theorem dX3_init_5 : decode cX3_init 5 = .ok (.iconst 0, 1) := by decide +kernel
theorem dX3_init_6 : decode cX3_init 6 = .ok (.putfield 9, 3) := by decide +kernel
theorem dX3_init_9 : decode cX3_init 9 = .ok (.aload_n 0, 1) := by decide +kernel
theorem dX3_init_10 : decode cX3_init 10 = .ok (.iconst 0, 1) := by decide +kernel
theorem dX3_init_11 : decode cX3_init 11 = .ok (.putfield 15, 3) := by decide +kernel
theorem dX3_init_14 : decode cX3_init 14 = .ok (.aload_n 0, 1) := by decide +kernel
theorem dX3_init_15 : decode cX3_init 15 = .ok (.iconst 0, 1) := by decide +kernel
theorem dX3_init_16 : decode cX3_init 16 = .ok (.putfield 18, 3) := by decide +kernel
theorem dX3_init_19 : decode cX3_init 19 = .ok (.aload_n 0, 1) := by decide +kernel
theorem dX3_init_20 : decode cX3_init 20 = .ok (.bipush 16, 2) := by decide +kernel
theorem dX3_init_22 : decode cX3_init 22 = .ok (.newarray .int, 2) := by decide +kernel
theorem dX3_init_24 : decode cX3_init 24 = .ok (.putfield 21, 3) := by decide +kernel
theorem dX3_init_27 : decode cX3_init 27 = .ok (.aload_n 0, 1) := by decide +kernel
theorem dX3_init_28 : decode cX3_init 28 = .ok (.bipush 16, 2) := by decide +kernel
theorem dX3_init_30 : decode cX3_init 30 = .ok (.newarray .int, 2) := by decide +kernel
theorem dX3_init_32 : decode cX3_init 32 = .ok (.putfield 25, 3) := by decide +kernel
theorem dX3_init_35 : decode cX3_init 35 = .ok (.aload_n 0, 1) := by decide +kernel
theorem dX3_init_36 : decode cX3_init 36 = .ok (.bipush 16, 2) := by decide +kernel
theorem dX3_init_38 : decode cX3_init 38 = .ok (.newarray .int, 2) := by decide +kernel
theorem dX3_init_40 : decode cX3_init 40 = .ok (.putfield 28, 3) := by decide +kernel
theorem dX3_init_43 : decode cX3_init 43 = .ok (.aload_n 0, 1) := by decide +kernel
theorem dX3_init_44 : decode cX3_init 44 = .ok (.bipush 16, 2) := by decide +kernel
theorem dX3_init_46 : decode cX3_init 46 = .ok (.newarray .int, 2) := by decide +kernel
theorem dX3_init_48 : decode cX3_init 48 = .ok (.putfield 31, 3) := by decide +kernel
theorem dX3_init_51 : decode cX3_init 51 = .ok (.aload_n 0, 1) := by decide +kernel
theorem dX3_init_52 : decode cX3_init 52 = .ok (.bipush 16, 2) := by decide +kernel
theorem dX3_init_54 : decode cX3_init 54 = .ok (.newarray .int, 2) := by decide +kernel
theorem dX3_init_56 : decode cX3_init 56 = .ok (.putfield 34, 3) := by decide +kernel
theorem dX3_init_59 : decode cX3_init 59 = .ok (.return_, 1) := by decide +kernel
theorem dX3_axisOf_0 : decode cX3_axisOf 0 = .ok (.iload_n 0, 1) := by decide +kernel
theorem dX3_axisOf_1 : decode cX3_axisOf 1 = .ok (.iconst 1, 1) := by decide +kernel
theorem dX3_axisOf_2 : decode cX3_axisOf 2 = .ok (.iand, 1) := by decide +kernel
theorem dX3_axisOf_3 : decode cX3_axisOf 3 = .ok (.ireturn, 1) := by decide +kernel
theorem dX3_partOf_0 : decode cX3_partOf 0 = .ok (.iload_n 0, 1) := by decide +kernel
theorem dX3_partOf_1 : decode cX3_partOf 1 = .ok (.iconst 1, 1) := by decide +kernel
theorem dX3_partOf_2 : decode cX3_partOf 2 = .ok (.ishr, 1) := by decide +kernel
theorem dX3_partOf_3 : decode cX3_partOf 3 = .ok (.iconst 1, 1) := by decide +kernel
theorem dX3_partOf_4 : decode cX3_partOf 4 = .ok (.iand, 1) := by decide +kernel
theorem dX3_partOf_5 : decode cX3_partOf 5 = .ok (.ireturn, 1) := by decide +kernel
theorem dX3_overOf_0 : decode cX3_overOf 0 = .ok (.iload_n 0, 1) := by decide +kernel
theorem dX3_overOf_1 : decode cX3_overOf 1 = .ok (.iconst 2, 1) := by decide +kernel
theorem dX3_overOf_2 : decode cX3_overOf 2 = .ok (.ishr, 1) := by decide +kernel
theorem dX3_overOf_3 : decode cX3_overOf 3 = .ok (.iconst 1, 1) := by decide +kernel
theorem dX3_overOf_4 : decode cX3_overOf 4 = .ok (.iand, 1) := by decide +kernel
theorem dX3_overOf_5 : decode cX3_overOf 5 = .ok (.ireturn, 1) := by decide +kernel
theorem dX3_lineOf_0 : decode cX3_lineOf 0 = .ok (.iload_n 0, 1) := by decide +kernel
theorem dX3_lineOf_1 : decode cX3_lineOf 1 = .ok (.iconst 3, 1) := by decide +kernel
theorem dX3_lineOf_2 : decode cX3_lineOf 2 = .ok (.ishr, 1) := by decide +kernel
theorem dX3_lineOf_3 : decode cX3_lineOf 3 = .ok (.iconst 1, 1) := by decide +kernel
theorem dX3_lineOf_4 : decode cX3_lineOf 4 = .ok (.iadd, 1) := by decide +kernel
theorem dX3_lineOf_5 : decode cX3_lineOf 5 = .ok (.ireturn, 1) := by decide +kernel
theorem dX3_layFlat_0 : decode cX3_layFlat 0 = .ok (.aload_n 0, 1) := by decide +kernel
theorem dX3_layFlat_1 : decode cX3_layFlat 1 = .ok (.iload_n 1, 1) := by decide +kernel
theorem dX3_layFlat_2 : decode cX3_layFlat 2 = .ok (.iconst 4, 1) := by decide +kernel
theorem dX3_layFlat_3 : decode cX3_layFlat 3 = .ok (.invokestatic 37, 3) := by decide +kernel
theorem dX3_layFlat_6 : decode cX3_layFlat 6 = .ok (.putfield 15, 3) := by decide +kernel
theorem dX3_layFlat_9 : decode cX3_layFlat 9 = .ok (.aload_n 0, 1) := by decide +kernel
theorem dX3_layFlat_10 : decode cX3_layFlat 10 = .ok (.iload_n 2, 1) := by decide +kernel
theorem dX3_layFlat_11 : decode cX3_layFlat 11 = .ok (.iconst 4, 1) := by decide +kernel
theorem dX3_layFlat_12 : decode cX3_layFlat 12 = .ok (.invokestatic 37, 3) := by decide +kernel
theorem dX3_layFlat_15 : decode cX3_layFlat 15 = .ok (.putfield 18, 3) := by decide +kernel
theorem dX3_layFlat_18 : decode cX3_layFlat 18 = .ok (.aload_n 0, 1) := by decide +kernel
theorem dX3_layFlat_19 : decode cX3_layFlat 19 = .ok (.iconst 0, 1) := by decide +kernel
theorem dX3_layFlat_20 : decode cX3_layFlat 20 = .ok (.putfield 9, 3) := by decide +kernel
theorem dX3_layFlat_23 : decode cX3_layFlat 23 = .ok (.iconst 0, 1) := by decide +kernel
theorem dX3_layFlat_24 : decode cX3_layFlat 24 = .ok (.istore_n 3, 1) := by decide +kernel
theorem dX3_layFlat_25 : decode cX3_layFlat 25 = .ok (.iload_n 3, 1) := by decide +kernel
theorem dX3_layFlat_26 : decode cX3_layFlat 26 = .ok (.aload_n 0, 1) := by decide +kernel
theorem dX3_layFlat_27 : decode cX3_layFlat 27 = .ok (.getfield 18, 3) := by decide +kernel
theorem dX3_layFlat_30 : decode cX3_layFlat 30 = .ok (.if_icmp .ge 78, 3) := by decide +kernel
theorem dX3_layFlat_33 : decode cX3_layFlat 33 = .ok (.iconst 0, 1) := by decide +kernel
theorem dX3_layFlat_34 : decode cX3_layFlat 34 = .ok (.istore 4, 2) := by decide +kernel
theorem dX3_layFlat_36 : decode cX3_layFlat 36 = .ok (.iload 4, 2) := by decide +kernel
theorem dX3_layFlat_38 : decode cX3_layFlat 38 = .ok (.aload_n 0, 1) := by decide +kernel
theorem dX3_layFlat_39 : decode cX3_layFlat 39 = .ok (.getfield 15, 3) := by decide +kernel
theorem dX3_layFlat_42 : decode cX3_layFlat 42 = .ok (.if_icmp .ge 60, 3) := by decide +kernel
theorem dX3_layFlat_45 : decode cX3_layFlat 45 = .ok (.aload_n 0, 1) := by decide +kernel
theorem dX3_layFlat_46 : decode cX3_layFlat 46 = .ok (.getfield 21, 3) := by decide +kernel
theorem dX3_layFlat_49 : decode cX3_layFlat 49 = .ok (.aload_n 0, 1) := by decide +kernel
theorem dX3_layFlat_50 : decode cX3_layFlat 50 = .ok (.getfield 9, 3) := by decide +kernel
theorem dX3_layFlat_53 : decode cX3_layFlat 53 = .ok (.iload 4, 2) := by decide +kernel
theorem dX3_layFlat_55 : decode cX3_layFlat 55 = .ok (.iastore, 1) := by decide +kernel
theorem dX3_layFlat_56 : decode cX3_layFlat 56 = .ok (.aload_n 0, 1) := by decide +kernel
theorem dX3_layFlat_57 : decode cX3_layFlat 57 = .ok (.getfield 25, 3) := by decide +kernel
theorem dX3_layFlat_60 : decode cX3_layFlat 60 = .ok (.aload_n 0, 1) := by decide +kernel
theorem dX3_layFlat_61 : decode cX3_layFlat 61 = .ok (.getfield 9, 3) := by decide +kernel
theorem dX3_layFlat_64 : decode cX3_layFlat 64 = .ok (.iload_n 3, 1) := by decide +kernel
theorem dX3_layFlat_65 : decode cX3_layFlat 65 = .ok (.iastore, 1) := by decide +kernel
theorem dX3_layFlat_66 : decode cX3_layFlat 66 = .ok (.aload_n 0, 1) := by decide +kernel
theorem dX3_layFlat_67 : decode cX3_layFlat 67 = .ok (.getfield 28, 3) := by decide +kernel
theorem dX3_layFlat_70 : decode cX3_layFlat 70 = .ok (.aload_n 0, 1) := by decide +kernel
theorem dX3_layFlat_71 : decode cX3_layFlat 71 = .ok (.getfield 9, 3) := by decide +kernel
theorem dX3_layFlat_74 : decode cX3_layFlat 74 = .ok (.iconst 0, 1) := by decide +kernel
theorem dX3_layFlat_75 : decode cX3_layFlat 75 = .ok (.iastore, 1) := by decide +kernel
theorem dX3_layFlat_76 : decode cX3_layFlat 76 = .ok (.aload_n 0, 1) := by decide +kernel
theorem dX3_layFlat_77 : decode cX3_layFlat 77 = .ok (.getfield 31, 3) := by decide +kernel
theorem dX3_layFlat_80 : decode cX3_layFlat 80 = .ok (.aload_n 0, 1) := by decide +kernel
theorem dX3_layFlat_81 : decode cX3_layFlat 81 = .ok (.getfield 9, 3) := by decide +kernel
theorem dX3_layFlat_84 : decode cX3_layFlat 84 = .ok (.iconst 1, 1) := by decide +kernel
theorem dX3_layFlat_85 : decode cX3_layFlat 85 = .ok (.iastore, 1) := by decide +kernel
theorem dX3_layFlat_86 : decode cX3_layFlat 86 = .ok (.aload_n 0, 1) := by decide +kernel
theorem dX3_layFlat_87 : decode cX3_layFlat 87 = .ok (.dup, 1) := by decide +kernel
theorem dX3_layFlat_88 : decode cX3_layFlat 88 = .ok (.getfield 9, 3) := by decide +kernel
theorem dX3_layFlat_91 : decode cX3_layFlat 91 = .ok (.iconst 1, 1) := by decide +kernel
theorem dX3_layFlat_92 : decode cX3_layFlat 92 = .ok (.iadd, 1) := by decide +kernel
theorem dX3_layFlat_93 : decode cX3_layFlat 93 = .ok (.putfield 9, 3) := by decide +kernel
theorem dX3_layFlat_96 : decode cX3_layFlat 96 = .ok (.iinc 4 1, 3) := by decide +kernel
theorem dX3_layFlat_99 : decode cX3_layFlat 99 = .ok (.goto (-63), 3) := by decide +kernel
theorem dX3_layFlat_102 : decode cX3_layFlat 102 = .ok (.iinc 3 1, 3) := by decide +kernel
theorem dX3_layFlat_105 : decode cX3_layFlat 105 = .ok (.goto (-80), 3) := by decide +kernel
theorem dX3_layFlat_108 : decode cX3_layFlat 108 = .ok (.return_, 1) := by decide +kernel
theorem dX3_copyFrom_0 : decode cX3_copyFrom 0 = .ok (.aload_n 0, 1) := by decide +kernel
theorem dX3_copyFrom_1 : decode cX3_copyFrom 1 = .ok (.aload_n 1, 1) := by decide +kernel
theorem dX3_copyFrom_2 : decode cX3_copyFrom 2 = .ok (.getfield 9, 3) := by decide +kernel
theorem dX3_copyFrom_5 : decode cX3_copyFrom 5 = .ok (.putfield 9, 3) := by decide +kernel
theorem dX3_copyFrom_8 : decode cX3_copyFrom 8 = .ok (.aload_n 0, 1) := by decide +kernel
theorem dX3_copyFrom_9 : decode cX3_copyFrom 9 = .ok (.aload_n 1, 1) := by decide +kernel
theorem dX3_copyFrom_10 : decode cX3_copyFrom 10 = .ok (.getfield 15, 3) := by decide +kernel
theorem dX3_copyFrom_13 : decode cX3_copyFrom 13 = .ok (.putfield 15, 3) := by decide +kernel
theorem dX3_copyFrom_16 : decode cX3_copyFrom 16 = .ok (.aload_n 0, 1) := by decide +kernel
theorem dX3_copyFrom_17 : decode cX3_copyFrom 17 = .ok (.aload_n 1, 1) := by decide +kernel
theorem dX3_copyFrom_18 : decode cX3_copyFrom 18 = .ok (.getfield 18, 3) := by decide +kernel
theorem dX3_copyFrom_21 : decode cX3_copyFrom 21 = .ok (.putfield 18, 3) := by decide +kernel
theorem dX3_copyFrom_24 : decode cX3_copyFrom 24 = .ok (.aload_n 1, 1) := by decide +kernel
theorem dX3_copyFrom_25 : decode cX3_copyFrom 25 = .ok (.getfield 21, 3) := by decide +kernel
theorem dX3_copyFrom_28 : decode cX3_copyFrom 28 = .ok (.iconst 0, 1) := by decide +kernel
theorem dX3_copyFrom_29 : decode cX3_copyFrom 29 = .ok (.aload_n 0, 1) := by decide +kernel
theorem dX3_copyFrom_30 : decode cX3_copyFrom 30 = .ok (.getfield 21, 3) := by decide +kernel
theorem dX3_copyFrom_33 : decode cX3_copyFrom 33 = .ok (.iconst 0, 1) := by decide +kernel
theorem dX3_copyFrom_34 : decode cX3_copyFrom 34 = .ok (.aload_n 0, 1) := by decide +kernel
theorem dX3_copyFrom_35 : decode cX3_copyFrom 35 = .ok (.getfield 9, 3) := by decide +kernel
theorem dX3_copyFrom_38 : decode cX3_copyFrom 38 = .ok (.invokestatic 43, 3) := by decide +kernel
theorem dX3_copyFrom_41 : decode cX3_copyFrom 41 = .ok (.aload_n 1, 1) := by decide +kernel
theorem dX3_copyFrom_42 : decode cX3_copyFrom 42 = .ok (.getfield 25, 3) := by decide +kernel
theorem dX3_copyFrom_45 : decode cX3_copyFrom 45 = .ok (.iconst 0, 1) := by decide +kernel
theorem dX3_copyFrom_46 : decode cX3_copyFrom 46 = .ok (.aload_n 0, 1) := by decide +kernel
theorem dX3_copyFrom_47 : decode cX3_copyFrom 47 = .ok (.getfield 25, 3) := by decide +kernel
theorem dX3_copyFrom_50 : decode cX3_copyFrom 50 = .ok (.iconst 0, 1) := by decide +kernel
theorem dX3_copyFrom_51 : decode cX3_copyFrom 51 = .ok (.aload_n 0, 1) := by decide +kernel
theorem dX3_copyFrom_52 : decode cX3_copyFrom 52 = .ok (.getfield 9, 3) := by decide +kernel
theorem dX3_copyFrom_55 : decode cX3_copyFrom 55 = .ok (.invokestatic 43, 3) := by decide +kernel
theorem dX3_copyFrom_58 : decode cX3_copyFrom 58 = .ok (.aload_n 1, 1) := by decide +kernel
theorem dX3_copyFrom_59 : decode cX3_copyFrom 59 = .ok (.getfield 28, 3) := by decide +kernel
theorem dX3_copyFrom_62 : decode cX3_copyFrom 62 = .ok (.iconst 0, 1) := by decide +kernel
theorem dX3_copyFrom_63 : decode cX3_copyFrom 63 = .ok (.aload_n 0, 1) := by decide +kernel
theorem dX3_copyFrom_64 : decode cX3_copyFrom 64 = .ok (.getfield 28, 3) := by decide +kernel
theorem dX3_copyFrom_67 : decode cX3_copyFrom 67 = .ok (.iconst 0, 1) := by decide +kernel
theorem dX3_copyFrom_68 : decode cX3_copyFrom 68 = .ok (.aload_n 0, 1) := by decide +kernel
theorem dX3_copyFrom_69 : decode cX3_copyFrom 69 = .ok (.getfield 9, 3) := by decide +kernel
theorem dX3_copyFrom_72 : decode cX3_copyFrom 72 = .ok (.invokestatic 43, 3) := by decide +kernel
theorem dX3_copyFrom_75 : decode cX3_copyFrom 75 = .ok (.aload_n 1, 1) := by decide +kernel
theorem dX3_copyFrom_76 : decode cX3_copyFrom 76 = .ok (.getfield 31, 3) := by decide +kernel
theorem dX3_copyFrom_79 : decode cX3_copyFrom 79 = .ok (.iconst 0, 1) := by decide +kernel
theorem dX3_copyFrom_80 : decode cX3_copyFrom 80 = .ok (.aload_n 0, 1) := by decide +kernel
theorem dX3_copyFrom_81 : decode cX3_copyFrom 81 = .ok (.getfield 31, 3) := by decide +kernel
theorem dX3_copyFrom_84 : decode cX3_copyFrom 84 = .ok (.iconst 0, 1) := by decide +kernel
theorem dX3_copyFrom_85 : decode cX3_copyFrom 85 = .ok (.aload_n 0, 1) := by decide +kernel
theorem dX3_copyFrom_86 : decode cX3_copyFrom 86 = .ok (.getfield 9, 3) := by decide +kernel
theorem dX3_copyFrom_89 : decode cX3_copyFrom 89 = .ok (.invokestatic 43, 3) := by decide +kernel
theorem dX3_copyFrom_92 : decode cX3_copyFrom 92 = .ok (.return_, 1) := by decide +kernel
theorem dX3_canBend_0 : decode cX3_canBend 0 = .ok (.iload_n 1, 1) := by decide +kernel
theorem dX3_canBend_1 : decode cX3_canBend 1 = .ok (.invokestatic 49, 3) := by decide +kernel
theorem dX3_canBend_4 : decode cX3_canBend 4 = .ok (.ifCond .ne 10, 3) := by decide +kernel
theorem dX3_canBend_7 : decode cX3_canBend 7 = .ok (.aload_n 0, 1) := by decide +kernel
theorem dX3_canBend_8 : decode cX3_canBend 8 = .ok (.getfield 15, 3) := by decide +kernel
theorem dX3_canBend_11 : decode cX3_canBend 11 = .ok (.goto 7, 3) := by decide +kernel
theorem dX3_canBend_14 : decode cX3_canBend 14 = .ok (.aload_n 0, 1) := by decide +kernel
theorem dX3_canBend_15 : decode cX3_canBend 15 = .ok (.getfield 18, 3) := by decide +kernel
theorem dX3_canBend_18 : decode cX3_canBend 18 = .ok (.istore_n 2, 1) := by decide +kernel
theorem dX3_canBend_19 : decode cX3_canBend 19 = .ok (.iload_n 1, 1) := by decide +kernel
theorem dX3_canBend_20 : decode cX3_canBend 20 = .ok (.ifCond .lt 15, 3) := by decide +kernel
theorem dX3_canBend_23 : decode cX3_canBend 23 = .ok (.iload_n 1, 1) := by decide +kernel
theorem dX3_canBend_24 : decode cX3_canBend 24 = .ok (.invokestatic 53, 3) := by decide +kernel
theorem dX3_canBend_27 : decode cX3_canBend 27 = .ok (.iload_n 2, 1) := by decide +kernel
theorem dX3_canBend_28 : decode cX3_canBend 28 = .ok (.if_icmp .ge 7, 3) := by decide +kernel
theorem dX3_canBend_31 : decode cX3_canBend 31 = .ok (.iconst 1, 1) := by decide +kernel
theorem dX3_canBend_32 : decode cX3_canBend 32 = .ok (.goto 4, 3) := by decide +kernel
theorem dX3_canBend_35 : decode cX3_canBend 35 = .ok (.iconst 0, 1) := by decide +kernel
theorem dX3_canBend_36 : decode cX3_canBend 36 = .ok (.ireturn, 1) := by decide +kernel
theorem dX3_bend_0 : decode cX3_bend 0 = .ok (.aload_n 0, 1) := by decide +kernel
theorem dX3_bend_1 : decode cX3_bend 1 = .ok (.invokevirtual 56, 3) := by decide +kernel
theorem dX3_bend_4 : decode cX3_bend 4 = .ok (.iload_n 1, 1) := by decide +kernel
theorem dX3_bend_5 : decode cX3_bend 5 = .ok (.invokestatic 49, 3) := by decide +kernel
theorem dX3_bend_8 : decode cX3_bend 8 = .ok (.istore_n 2, 1) := by decide +kernel
theorem dX3_bend_9 : decode cX3_bend 9 = .ok (.iload_n 1, 1) := by decide +kernel
theorem dX3_bend_10 : decode cX3_bend 10 = .ok (.invokestatic 53, 3) := by decide +kernel
theorem dX3_bend_13 : decode cX3_bend 13 = .ok (.istore_n 3, 1) := by decide +kernel
theorem dX3_bend_14 : decode cX3_bend 14 = .ok (.iload_n 1, 1) := by decide +kernel
theorem dX3_bend_15 : decode cX3_bend 15 = .ok (.invokestatic 59, 3) := by decide +kernel
theorem dX3_bend_18 : decode cX3_bend 18 = .ok (.iconst 1, 1) := by decide +kernel
theorem dX3_bend_19 : decode cX3_bend 19 = .ok (.if_icmp .ne 7, 3) := by decide +kernel
theorem dX3_bend_22 : decode cX3_bend 22 = .ok (.iconst 1, 1) := by decide +kernel
theorem dX3_bend_23 : decode cX3_bend 23 = .ok (.goto 4, 3) := by decide +kernel
theorem dX3_bend_26 : decode cX3_bend 26 = .ok (.iconst 0, 1) := by decide +kernel
theorem dX3_bend_27 : decode cX3_bend 27 = .ok (.istore 4, 2) := by decide +kernel
theorem dX3_bend_29 : decode cX3_bend 29 = .ok (.iload_n 2, 1) := by decide +kernel
theorem dX3_bend_30 : decode cX3_bend 30 = .ok (.ifCond .ne 10, 3) := by decide +kernel
theorem dX3_bend_33 : decode cX3_bend 33 = .ok (.aload_n 0, 1) := by decide +kernel
theorem dX3_bend_34 : decode cX3_bend 34 = .ok (.getfield 21, 3) := by decide +kernel
theorem dX3_bend_37 : decode cX3_bend 37 = .ok (.goto 7, 3) := by decide +kernel
theorem dX3_bend_40 : decode cX3_bend 40 = .ok (.aload_n 0, 1) := by decide +kernel
theorem dX3_bend_41 : decode cX3_bend 41 = .ok (.getfield 25, 3) := by decide +kernel
theorem dX3_bend_44 : decode cX3_bend 44 = .ok (.astore 5, 2) := by decide +kernel
theorem dX3_bend_46 : decode cX3_bend 46 = .ok (.aload_n 0, 1) := by decide +kernel
theorem dX3_bend_47 : decode cX3_bend 47 = .ok (.iload_n 1, 1) := by decide +kernel
theorem dX3_bend_48 : decode cX3_bend 48 = .ok (.invokevirtual 62, 3) := by decide +kernel
theorem dX3_bend_51 : decode cX3_bend 51 = .ok (.istore 6, 2) := by decide +kernel
theorem dX3_bend_53 : decode cX3_bend 53 = .ok (.iconst 0, 1) := by decide +kernel
theorem dX3_bend_54 : decode cX3_bend 54 = .ok (.istore 7, 2) := by decide +kernel
theorem dX3_bend_56 : decode cX3_bend 56 = .ok (.iload 7, 2) := by decide +kernel
theorem dX3_bend_58 : decode cX3_bend 58 = .ok (.aload_n 0, 1) := by decide +kernel
theorem dX3_bend_59 : decode cX3_bend 59 = .ok (.getfield 9, 3) := by decide +kernel
theorem dX3_bend_62 : decode cX3_bend 62 = .ok (.if_icmp .ge 195, 3) := by decide +kernel
theorem dX3_bend_65 : decode cX3_bend 65 = .ok (.aload 5, 2) := by decide +kernel
theorem dX3_bend_67 : decode cX3_bend 67 = .ok (.iload 7, 2) := by decide +kernel
theorem dX3_bend_69 : decode cX3_bend 69 = .ok (.iaload, 1) := by decide +kernel
theorem dX3_bend_70 : decode cX3_bend 70 = .ok (.istore 8, 2) := by decide +kernel
theorem dX3_bend_72 : decode cX3_bend 72 = .ok (.iconst 2, 1) := by decide +kernel
theorem dX3_bend_73 : decode cX3_bend 73 = .ok (.iload_n 3, 1) := by decide +kernel
theorem dX3_bend_74 : decode cX3_bend 74 = .ok (.imul, 1) := by decide +kernel
theorem dX3_bend_75 : decode cX3_bend 75 = .ok (.iconst 1, 1) := by decide +kernel
theorem dX3_bend_76 : decode cX3_bend 76 = .ok (.isub, 1) := by decide +kernel
theorem dX3_bend_77 : decode cX3_bend 77 = .ok (.iload 8, 2) := by decide +kernel
theorem dX3_bend_79 : decode cX3_bend 79 = .ok (.isub, 1) := by decide +kernel
theorem dX3_bend_80 : decode cX3_bend 80 = .ok (.istore 9, 2) := by decide +kernel
theorem dX3_bend_82 : decode cX3_bend 82 = .ok (.iload_n 2, 1) := by decide +kernel
theorem dX3_bend_83 : decode cX3_bend 83 = .ok (.ifCond .ne 19, 3) := by decide +kernel
theorem dX3_bend_86 : decode cX3_bend 86 = .ok (.aload_n 0, 1) := by decide +kernel
theorem dX3_bend_87 : decode cX3_bend 87 = .ok (.iload 9, 2) := by decide +kernel
theorem dX3_bend_89 : decode cX3_bend 89 = .ok (.aload_n 0, 1) := by decide +kernel
theorem dX3_bend_90 : decode cX3_bend 90 = .ok (.getfield 25, 3) := by decide +kernel
theorem dX3_bend_93 : decode cX3_bend 93 = .ok (.iload 7, 2) := by decide +kernel
theorem dX3_bend_95 : decode cX3_bend 95 = .ok (.iaload, 1) := by decide +kernel
theorem dX3_bend_96 : decode cX3_bend 96 = .ok (.invokevirtual 65, 3) := by decide +kernel
theorem dX3_bend_99 : decode cX3_bend 99 = .ok (.goto 16, 3) := by decide +kernel
theorem dX3_bend_102 : decode cX3_bend 102 = .ok (.aload_n 0, 1) := by decide +kernel
theorem dX3_bend_103 : decode cX3_bend 103 = .ok (.aload_n 0, 1) := by decide +kernel
theorem dX3_bend_104 : decode cX3_bend 104 = .ok (.getfield 21, 3) := by decide +kernel
theorem dX3_bend_107 : decode cX3_bend 107 = .ok (.iload 7, 2) := by decide +kernel
theorem dX3_bend_109 : decode cX3_bend 109 = .ok (.iaload, 1) := by decide +kernel
theorem dX3_bend_110 : decode cX3_bend 110 = .ok (.iload 9, 2) := by decide +kernel
theorem dX3_bend_112 : decode cX3_bend 112 = .ok (.invokevirtual 65, 3) := by decide +kernel
theorem dX3_bend_115 : decode cX3_bend 115 = .ok (.istore 10, 2) := by decide +kernel
theorem dX3_bend_117 : decode cX3_bend 117 = .ok (.iload_n 1, 1) := by decide +kernel
theorem dX3_bend_118 : decode cX3_bend 118 = .ok (.invokestatic 68, 3) := by decide +kernel
theorem dX3_bend_121 : decode cX3_bend 121 = .ok (.ifCond .ne 12, 3) := by decide +kernel
theorem dX3_bend_124 : decode cX3_bend 124 = .ok (.iload 8, 2) := by decide +kernel
theorem dX3_bend_126 : decode cX3_bend 126 = .ok (.iload_n 3, 1) := by decide +kernel
theorem dX3_bend_127 : decode cX3_bend 127 = .ok (.if_icmp .ge 93, 3) := by decide +kernel
theorem dX3_bend_130 : decode cX3_bend 130 = .ok (.goto 9, 3) := by decide +kernel
theorem dX3_bend_133 : decode cX3_bend 133 = .ok (.iload 8, 2) := by decide +kernel
theorem dX3_bend_135 : decode cX3_bend 135 = .ok (.iload_n 3, 1) := by decide +kernel
theorem dX3_bend_136 : decode cX3_bend 136 = .ok (.if_icmp .lt 84, 3) := by decide +kernel
theorem dX3_bend_139 : decode cX3_bend 139 = .ok (.aload_n 0, 1) := by decide +kernel
theorem dX3_bend_140 : decode cX3_bend 140 = .ok (.aload_n 0, 1) := by decide +kernel
theorem dX3_bend_141 : decode cX3_bend 141 = .ok (.getfield 21, 3) := by decide +kernel
theorem dX3_bend_144 : decode cX3_bend 144 = .ok (.iload 7, 2) := by decide +kernel
theorem dX3_bend_146 : decode cX3_bend 146 = .ok (.iaload, 1) := by decide +kernel
theorem dX3_bend_147 : decode cX3_bend 147 = .ok (.aload_n 0, 1) := by decide +kernel
theorem dX3_bend_148 : decode cX3_bend 148 = .ok (.getfield 25, 3) := by decide +kernel
theorem dX3_bend_151 : decode cX3_bend 151 = .ok (.iload 7, 2) := by decide +kernel
theorem dX3_bend_153 : decode cX3_bend 153 = .ok (.iaload, 1) := by decide +kernel
theorem dX3_bend_154 : decode cX3_bend 154 = .ok (.invokevirtual 65, 3) := by decide +kernel
theorem dX3_bend_157 : decode cX3_bend 157 = .ok (.iconst 1, 1) := by decide +kernel
theorem dX3_bend_158 : decode cX3_bend 158 = .ok (.isub, 1) := by decide +kernel
theorem dX3_bend_159 : decode cX3_bend 159 = .ok (.aload_n 0, 1) := by decide +kernel
theorem dX3_bend_160 : decode cX3_bend 160 = .ok (.getfield 28, 3) := by decide +kernel
theorem dX3_bend_163 : decode cX3_bend 163 = .ok (.iload 7, 2) := by decide +kernel
theorem dX3_bend_165 : decode cX3_bend 165 = .ok (.iaload, 1) := by decide +kernel
theorem dX3_bend_166 : decode cX3_bend 166 = .ok (.isub, 1) := by decide +kernel
theorem dX3_bend_167 : decode cX3_bend 167 = .ok (.istore 11, 2) := by decide +kernel
theorem dX3_bend_169 : decode cX3_bend 169 = .ok (.aload_n 0, 1) := by decide +kernel
theorem dX3_bend_170 : decode cX3_bend 170 = .ok (.getfield 28, 3) := by decide +kernel
theorem dX3_bend_173 : decode cX3_bend 173 = .ok (.iload 7, 2) := by decide +kernel
theorem dX3_bend_175 : decode cX3_bend 175 = .ok (.iload 4, 2) := by decide +kernel
theorem dX3_bend_177 : decode cX3_bend 177 = .ok (.ifCond .eq 11, 3) := by decide +kernel
theorem dX3_bend_180 : decode cX3_bend 180 = .ok (.iload 10, 2) := by decide +kernel
theorem dX3_bend_182 : decode cX3_bend 182 = .ok (.iload 11, 2) := by decide +kernel
theorem dX3_bend_184 : decode cX3_bend 184 = .ok (.iadd, 1) := by decide +kernel
theorem dX3_bend_185 : decode cX3_bend 185 = .ok (.goto 5, 3) := by decide +kernel
theorem dX3_bend_188 : decode cX3_bend 188 = .ok (.iload 11, 2) := by decide +kernel
theorem dX3_bend_190 : decode cX3_bend 190 = .ok (.iastore, 1) := by decide +kernel
theorem dX3_bend_191 : decode cX3_bend 191 = .ok (.aload_n 0, 1) := by decide +kernel
theorem dX3_bend_192 : decode cX3_bend 192 = .ok (.getfield 31, 3) := by decide +kernel
theorem dX3_bend_195 : decode cX3_bend 195 = .ok (.iload 7, 2) := by decide +kernel
theorem dX3_bend_197 : decode cX3_bend 197 = .ok (.iconst 1, 1) := by decide +kernel
theorem dX3_bend_198 : decode cX3_bend 198 = .ok (.aload_n 0, 1) := by decide +kernel
theorem dX3_bend_199 : decode cX3_bend 199 = .ok (.getfield 31, 3) := by decide +kernel
theorem dX3_bend_202 : decode cX3_bend 202 = .ok (.iload 7, 2) := by decide +kernel
theorem dX3_bend_204 : decode cX3_bend 204 = .ok (.iaload, 1) := by decide +kernel
theorem dX3_bend_205 : decode cX3_bend 205 = .ok (.isub, 1) := by decide +kernel
theorem dX3_bend_206 : decode cX3_bend 206 = .ok (.iastore, 1) := by decide +kernel
theorem dX3_bend_207 : decode cX3_bend 207 = .ok (.aload 5, 2) := by decide +kernel
theorem dX3_bend_209 : decode cX3_bend 209 = .ok (.iload 7, 2) := by decide +kernel
theorem dX3_bend_211 : decode cX3_bend 211 = .ok (.iload 9, 2) := by decide +kernel
theorem dX3_bend_213 : decode cX3_bend 213 = .ok (.iload 6, 2) := by decide +kernel
theorem dX3_bend_215 : decode cX3_bend 215 = .ok (.iadd, 1) := by decide +kernel
theorem dX3_bend_216 : decode cX3_bend 216 = .ok (.iastore, 1) := by decide +kernel
theorem dX3_bend_217 : decode cX3_bend 217 = .ok (.goto 34, 3) := by decide +kernel
theorem dX3_bend_220 : decode cX3_bend 220 = .ok (.aload_n 0, 1) := by decide +kernel
theorem dX3_bend_221 : decode cX3_bend 221 = .ok (.getfield 28, 3) := by decide +kernel
theorem dX3_bend_224 : decode cX3_bend 224 = .ok (.iload 7, 2) := by decide +kernel
theorem dX3_bend_226 : decode cX3_bend 226 = .ok (.dup2, 1) := by decide +kernel
theorem dX3_bend_227 : decode cX3_bend 227 = .ok (.iaload, 1) := by decide +kernel
theorem dX3_bend_228 : decode cX3_bend 228 = .ok (.iload 4, 2) := by decide +kernel
theorem dX3_bend_230 : decode cX3_bend 230 = .ok (.ifCond .eq 7, 3) := by decide +kernel
theorem dX3_bend_233 : decode cX3_bend 233 = .ok (.iconst 0, 1) := by decide +kernel
theorem dX3_bend_234 : decode cX3_bend 234 = .ok (.goto 5, 3) := by decide +kernel
theorem dX3_bend_237 : decode cX3_bend 237 = .ok (.iload 10, 2) := by decide +kernel
theorem dX3_bend_239 : decode cX3_bend 239 = .ok (.iadd, 1) := by decide +kernel
theorem dX3_bend_240 : decode cX3_bend 240 = .ok (.iastore, 1) := by decide +kernel
theorem dX3_bend_241 : decode cX3_bend 241 = .ok (.aload 5, 2) := by decide +kernel
theorem dX3_bend_243 : decode cX3_bend 243 = .ok (.iload 7, 2) := by decide +kernel
theorem dX3_bend_245 : decode cX3_bend 245 = .ok (.iload 8, 2) := by decide +kernel
theorem dX3_bend_247 : decode cX3_bend 247 = .ok (.iload 6, 2) := by decide +kernel
theorem dX3_bend_249 : decode cX3_bend 249 = .ok (.iadd, 1) := by decide +kernel
theorem dX3_bend_250 : decode cX3_bend 250 = .ok (.iastore, 1) := by decide +kernel
theorem dX3_bend_251 : decode cX3_bend 251 = .ok (.iinc 7 1, 3) := by decide +kernel
theorem dX3_bend_254 : decode cX3_bend 254 = .ok (.goto (-198), 3) := by decide +kernel
theorem dX3_bend_257 : decode cX3_bend 257 = .ok (.aload_n 0, 1) := by decide +kernel
theorem dX3_bend_258 : decode cX3_bend 258 = .ok (.iload_n 2, 1) := by decide +kernel
theorem dX3_bend_259 : decode cX3_bend 259 = .ok (.iload_n 3, 1) := by decide +kernel
theorem dX3_bend_260 : decode cX3_bend 260 = .ok (.invokevirtual 71, 3) := by decide +kernel
theorem dX3_bend_263 : decode cX3_bend 263 = .ok (.return_, 1) := by decide +kernel
theorem dX3_shiftOf_0 : decode cX3_shiftOf 0 = .ok (.iload_n 1, 1) := by decide +kernel
theorem dX3_shiftOf_1 : decode cX3_shiftOf 1 = .ok (.invokestatic 53, 3) := by decide +kernel
theorem dX3_shiftOf_4 : decode cX3_shiftOf 4 = .ok (.istore_n 2, 1) := by decide +kernel
theorem dX3_shiftOf_5 : decode cX3_shiftOf 5 = .ok (.iload_n 1, 1) := by decide +kernel
theorem dX3_shiftOf_6 : decode cX3_shiftOf 6 = .ok (.invokestatic 49, 3) := by decide +kernel
theorem dX3_shiftOf_9 : decode cX3_shiftOf 9 = .ok (.ifCond .ne 10, 3) := by decide +kernel
theorem dX3_shiftOf_12 : decode cX3_shiftOf 12 = .ok (.aload_n 0, 1) := by decide +kernel
theorem dX3_shiftOf_13 : decode cX3_shiftOf 13 = .ok (.getfield 15, 3) := by decide +kernel
theorem dX3_shiftOf_16 : decode cX3_shiftOf 16 = .ok (.goto 7, 3) := by decide +kernel
theorem dX3_shiftOf_19 : decode cX3_shiftOf 19 = .ok (.aload_n 0, 1) := by decide +kernel
theorem dX3_shiftOf_20 : decode cX3_shiftOf 20 = .ok (.getfield 18, 3) := by decide +kernel
theorem dX3_shiftOf_23 : decode cX3_shiftOf 23 = .ok (.istore_n 3, 1) := by decide +kernel
theorem dX3_shiftOf_24 : decode cX3_shiftOf 24 = .ok (.iload_n 1, 1) := by decide +kernel
theorem dX3_shiftOf_25 : decode cX3_shiftOf 25 = .ok (.invokestatic 68, 3) := by decide +kernel
theorem dX3_shiftOf_28 : decode cX3_shiftOf 28 = .ok (.ifCond .ne 8, 3) := by decide +kernel
theorem dX3_shiftOf_31 : decode cX3_shiftOf 31 = .ok (.iload_n 2, 1) := by decide +kernel
theorem dX3_shiftOf_32 : decode cX3_shiftOf 32 = .ok (.ineg, 1) := by decide +kernel
theorem dX3_shiftOf_33 : decode cX3_shiftOf 33 = .ok (.goto 12, 3) := by decide +kernel
theorem dX3_shiftOf_36 : decode cX3_shiftOf 36 = .ok (.iconst 0, 1) := by decide +kernel
theorem dX3_shiftOf_37 : decode cX3_shiftOf 37 = .ok (.iload_n 3, 1) := by decide +kernel
theorem dX3_shiftOf_38 : decode cX3_shiftOf 38 = .ok (.iconst 2, 1) := by decide +kernel
theorem dX3_shiftOf_39 : decode cX3_shiftOf 39 = .ok (.iload_n 2, 1) := by decide +kernel
theorem dX3_shiftOf_40 : decode cX3_shiftOf 40 = .ok (.imul, 1) := by decide +kernel
theorem dX3_shiftOf_41 : decode cX3_shiftOf 41 = .ok (.isub, 1) := by decide +kernel
theorem dX3_shiftOf_42 : decode cX3_shiftOf 42 = .ok (.invokestatic 75, 3) := by decide +kernel
theorem dX3_shiftOf_45 : decode cX3_shiftOf 45 = .ok (.ireturn, 1) := by decide +kernel
theorem dX3_shrink_0 : decode cX3_shrink 0 = .ok (.iload_n 1, 1) := by decide +kernel
theorem dX3_shrink_1 : decode cX3_shrink 1 = .ok (.ifCond .ne 20, 3) := by decide +kernel
theorem dX3_shrink_4 : decode cX3_shrink 4 = .ok (.aload_n 0, 1) := by decide +kernel
theorem dX3_shrink_5 : decode cX3_shrink 5 = .ok (.iload_n 2, 1) := by decide +kernel
theorem dX3_shrink_6 : decode cX3_shrink 6 = .ok (.aload_n 0, 1) := by decide +kernel
theorem dX3_shrink_7 : decode cX3_shrink 7 = .ok (.getfield 15, 3) := by decide +kernel
theorem dX3_shrink_10 : decode cX3_shrink 10 = .ok (.iload_n 2, 1) := by decide +kernel
theorem dX3_shrink_11 : decode cX3_shrink 11 = .ok (.isub, 1) := by decide +kernel
theorem dX3_shrink_12 : decode cX3_shrink 12 = .ok (.invokestatic 75, 3) := by decide +kernel
theorem dX3_shrink_15 : decode cX3_shrink 15 = .ok (.putfield 15, 3) := by decide +kernel
theorem dX3_shrink_18 : decode cX3_shrink 18 = .ok (.goto 17, 3) := by decide +kernel
theorem dX3_shrink_21 : decode cX3_shrink 21 = .ok (.aload_n 0, 1) := by decide +kernel
theorem dX3_shrink_22 : decode cX3_shrink 22 = .ok (.iload_n 2, 1) := by decide +kernel
theorem dX3_shrink_23 : decode cX3_shrink 23 = .ok (.aload_n 0, 1) := by decide +kernel
theorem dX3_shrink_24 : decode cX3_shrink 24 = .ok (.getfield 18, 3) := by decide +kernel
theorem dX3_shrink_27 : decode cX3_shrink 27 = .ok (.iload_n 2, 1) := by decide +kernel
theorem dX3_shrink_28 : decode cX3_shrink 28 = .ok (.isub, 1) := by decide +kernel
theorem dX3_shrink_29 : decode cX3_shrink 29 = .ok (.invokestatic 75, 3) := by decide +kernel
theorem dX3_shrink_32 : decode cX3_shrink 32 = .ok (.putfield 18, 3) := by decide +kernel
theorem dX3_shrink_35 : decode cX3_shrink 35 = .ok (.return_, 1) := by decide +kernel
theorem dX3_countHeights_0 : decode cX3_countHeights 0 = .ok (.iconst 0, 1) := by decide +kernel
theorem dX3_countHeights_1 : decode cX3_countHeights 1 = .ok (.istore_n 1, 1) := by decide +kernel
theorem dX3_countHeights_2 : decode cX3_countHeights 2 = .ok (.iload_n 1, 1) := by decide +kernel
theorem dX3_countHeights_3 : decode cX3_countHeights 3 = .ok (.bipush 16, 2) := by decide +kernel
theorem dX3_countHeights_5 : decode cX3_countHeights 5 = .ok (.if_icmp .ge 16, 3) := by decide +kernel
theorem dX3_countHeights_8 : decode cX3_countHeights 8 = .ok (.aload_n 0, 1) := by decide +kernel
theorem dX3_countHeights_9 : decode cX3_countHeights 9 = .ok (.getfield 34, 3) := by decide +kernel
theorem dX3_countHeights_12 : decode cX3_countHeights 12 = .ok (.iload_n 1, 1) := by decide +kernel
theorem dX3_countHeights_13 : decode cX3_countHeights 13 = .ok (.iconst 0, 1) := by decide +kernel
theorem dX3_countHeights_14 : decode cX3_countHeights 14 = .ok (.iastore, 1) := by decide +kernel
theorem dX3_countHeights_15 : decode cX3_countHeights 15 = .ok (.iinc 1 1, 3) := by decide +kernel
theorem dX3_countHeights_18 : decode cX3_countHeights 18 = .ok (.goto (-16), 3) := by decide +kernel
theorem dX3_countHeights_21 : decode cX3_countHeights 21 = .ok (.iconst 0, 1) := by decide +kernel
theorem dX3_countHeights_22 : decode cX3_countHeights 22 = .ok (.istore_n 1, 1) := by decide +kernel
theorem dX3_countHeights_23 : decode cX3_countHeights 23 = .ok (.iload_n 1, 1) := by decide +kernel
theorem dX3_countHeights_24 : decode cX3_countHeights 24 = .ok (.aload_n 0, 1) := by decide +kernel
theorem dX3_countHeights_25 : decode cX3_countHeights 25 = .ok (.getfield 9, 3) := by decide +kernel
theorem dX3_countHeights_28 : decode cX3_countHeights 28 = .ok (.if_icmp .ge 51, 3) := by decide +kernel
theorem dX3_countHeights_31 : decode cX3_countHeights 31 = .ok (.aload_n 0, 1) := by decide +kernel
theorem dX3_countHeights_32 : decode cX3_countHeights 32 = .ok (.getfield 21, 3) := by decide +kernel
theorem dX3_countHeights_35 : decode cX3_countHeights 35 = .ok (.iload_n 1, 1) := by decide +kernel
theorem dX3_countHeights_36 : decode cX3_countHeights 36 = .ok (.iaload, 1) := by decide +kernel
theorem dX3_countHeights_37 : decode cX3_countHeights 37 = .ok (.aload_n 0, 1) := by decide +kernel
theorem dX3_countHeights_38 : decode cX3_countHeights 38 = .ok (.getfield 25, 3) := by decide +kernel
theorem dX3_countHeights_41 : decode cX3_countHeights 41 = .ok (.iload_n 1, 1) := by decide +kernel
theorem dX3_countHeights_42 : decode cX3_countHeights 42 = .ok (.iaload, 1) := by decide +kernel
theorem dX3_countHeights_43 : decode cX3_countHeights 43 = .ok (.invokestatic 78, 3) := by decide +kernel
theorem dX3_countHeights_46 : decode cX3_countHeights 46 = .ok (.ifCond .eq 27, 3) := by decide +kernel
theorem dX3_countHeights_49 : decode cX3_countHeights 49 = .ok (.aload_n 0, 1) := by decide +kernel
theorem dX3_countHeights_50 : decode cX3_countHeights 50 = .ok (.getfield 34, 3) := by decide +kernel
theorem dX3_countHeights_53 : decode cX3_countHeights 53 = .ok (.iconst 4, 1) := by decide +kernel
theorem dX3_countHeights_54 : decode cX3_countHeights 54 = .ok (.aload_n 0, 1) := by decide +kernel
theorem dX3_countHeights_55 : decode cX3_countHeights 55 = .ok (.getfield 25, 3) := by decide +kernel
theorem dX3_countHeights_58 : decode cX3_countHeights 58 = .ok (.iload_n 1, 1) := by decide +kernel
theorem dX3_countHeights_59 : decode cX3_countHeights 59 = .ok (.iaload, 1) := by decide +kernel
theorem dX3_countHeights_60 : decode cX3_countHeights 60 = .ok (.imul, 1) := by decide +kernel
theorem dX3_countHeights_61 : decode cX3_countHeights 61 = .ok (.aload_n 0, 1) := by decide +kernel
theorem dX3_countHeights_62 : decode cX3_countHeights 62 = .ok (.getfield 21, 3) := by decide +kernel
theorem dX3_countHeights_65 : decode cX3_countHeights 65 = .ok (.iload_n 1, 1) := by decide +kernel
theorem dX3_countHeights_66 : decode cX3_countHeights 66 = .ok (.iaload, 1) := by decide +kernel
theorem dX3_countHeights_67 : decode cX3_countHeights 67 = .ok (.iadd, 1) := by decide +kernel
theorem dX3_countHeights_68 : decode cX3_countHeights 68 = .ok (.dup2, 1) := by decide +kernel
theorem dX3_countHeights_69 : decode cX3_countHeights 69 = .ok (.iaload, 1) := by decide +kernel
theorem dX3_countHeights_70 : decode cX3_countHeights 70 = .ok (.iconst 1, 1) := by decide +kernel
theorem dX3_countHeights_71 : decode cX3_countHeights 71 = .ok (.iadd, 1) := by decide +kernel
theorem dX3_countHeights_72 : decode cX3_countHeights 72 = .ok (.iastore, 1) := by decide +kernel
theorem dX3_countHeights_73 : decode cX3_countHeights 73 = .ok (.iinc 1 1, 3) := by decide +kernel
theorem dX3_countHeights_76 : decode cX3_countHeights 76 = .ok (.goto (-53), 3) := by decide +kernel
theorem dX3_countHeights_79 : decode cX3_countHeights 79 = .ok (.return_, 1) := by decide +kernel
theorem dX3_heightAt_0 : decode cX3_heightAt 0 = .ok (.iload_n 1, 1) := by decide +kernel
theorem dX3_heightAt_1 : decode cX3_heightAt 1 = .ok (.iload_n 2, 1) := by decide +kernel
theorem dX3_heightAt_2 : decode cX3_heightAt 2 = .ok (.invokestatic 78, 3) := by decide +kernel
theorem dX3_heightAt_5 : decode cX3_heightAt 5 = .ok (.ifCond .eq 16, 3) := by decide +kernel
theorem dX3_heightAt_8 : decode cX3_heightAt 8 = .ok (.aload_n 0, 1) := by decide +kernel
theorem dX3_heightAt_9 : decode cX3_heightAt 9 = .ok (.getfield 34, 3) := by decide +kernel
theorem dX3_heightAt_12 : decode cX3_heightAt 12 = .ok (.iconst 4, 1) := by decide +kernel
theorem dX3_heightAt_13 : decode cX3_heightAt 13 = .ok (.iload_n 2, 1) := by decide +kernel
theorem dX3_heightAt_14 : decode cX3_heightAt 14 = .ok (.imul, 1) := by decide +kernel
theorem dX3_heightAt_15 : decode cX3_heightAt 15 = .ok (.iload_n 1, 1) := by decide +kernel
theorem dX3_heightAt_16 : decode cX3_heightAt 16 = .ok (.iadd, 1) := by decide +kernel
theorem dX3_heightAt_17 : decode cX3_heightAt 17 = .ok (.iaload, 1) := by decide +kernel
theorem dX3_heightAt_18 : decode cX3_heightAt 18 = .ok (.goto 4, 3) := by decide +kernel
theorem dX3_heightAt_21 : decode cX3_heightAt 21 = .ok (.iconst 0, 1) := by decide +kernel
theorem dX3_heightAt_22 : decode cX3_heightAt 22 = .ok (.ireturn, 1) := by decide +kernel
theorem dX3_isPlace_0 : decode cX3_isPlace 0 = .ok (.iload_n 0, 1) := by decide +kernel
theorem dX3_isPlace_1 : decode cX3_isPlace 1 = .ok (.ifCond .lt 21, 3) := by decide +kernel
theorem dX3_isPlace_4 : decode cX3_isPlace 4 = .ok (.iload_n 0, 1) := by decide +kernel
theorem dX3_isPlace_5 : decode cX3_isPlace 5 = .ok (.iconst 4, 1) := by decide +kernel
theorem dX3_isPlace_6 : decode cX3_isPlace 6 = .ok (.if_icmp .ge 16, 3) := by decide +kernel
theorem dX3_isPlace_9 : decode cX3_isPlace 9 = .ok (.iload_n 1, 1) := by decide +kernel
theorem dX3_isPlace_10 : decode cX3_isPlace 10 = .ok (.ifCond .lt 12, 3) := by decide +kernel
theorem dX3_isPlace_13 : decode cX3_isPlace 13 = .ok (.iload_n 1, 1) := by decide +kernel
theorem dX3_isPlace_14 : decode cX3_isPlace 14 = .ok (.iconst 4, 1) := by decide +kernel
theorem dX3_isPlace_15 : decode cX3_isPlace 15 = .ok (.if_icmp .ge 7, 3) := by decide +kernel
theorem dX3_isPlace_18 : decode cX3_isPlace 18 = .ok (.iconst 1, 1) := by decide +kernel
theorem dX3_isPlace_19 : decode cX3_isPlace 19 = .ok (.goto 4, 3) := by decide +kernel
theorem dX3_isPlace_22 : decode cX3_isPlace 22 = .ok (.iconst 0, 1) := by decide +kernel
theorem dX3_isPlace_23 : decode cX3_isPlace 23 = .ok (.ireturn, 1) := by decide +kernel
theorem dX3_isParted_0 : decode cX3_isParted 0 = .ok (.iload_n 3, 1) := by decide +kernel
theorem dX3_isParted_1 : decode cX3_isParted 1 = .ok (.invokestatic 49, 3) := by decide +kernel
theorem dX3_isParted_4 : decode cX3_isParted 4 = .ok (.ifCond .ne 10, 3) := by decide +kernel
theorem dX3_isParted_7 : decode cX3_isParted 7 = .ok (.aload_n 0, 1) := by decide +kernel
theorem dX3_isParted_8 : decode cX3_isParted 8 = .ok (.getfield 21, 3) := by decide +kernel
theorem dX3_isParted_11 : decode cX3_isParted 11 = .ok (.goto 7, 3) := by decide +kernel
theorem dX3_isParted_14 : decode cX3_isParted 14 = .ok (.aload_n 0, 1) := by decide +kernel
theorem dX3_isParted_15 : decode cX3_isParted 15 = .ok (.getfield 25, 3) := by decide +kernel
theorem dX3_isParted_18 : decode cX3_isParted 18 = .ok (.astore 4, 2) := by decide +kernel
theorem dX3_isParted_20 : decode cX3_isParted 20 = .ok (.iload_n 3, 1) := by decide +kernel
theorem dX3_isParted_21 : decode cX3_isParted 21 = .ok (.invokestatic 49, 3) := by decide +kernel
theorem dX3_isParted_24 : decode cX3_isParted 24 = .ok (.ifCond .ne 10, 3) := by decide +kernel
theorem dX3_isParted_27 : decode cX3_isParted 27 = .ok (.aload_n 0, 1) := by decide +kernel
theorem dX3_isParted_28 : decode cX3_isParted 28 = .ok (.getfield 25, 3) := by decide +kernel
theorem dX3_isParted_31 : decode cX3_isParted 31 = .ok (.goto 7, 3) := by decide +kernel
theorem dX3_isParted_34 : decode cX3_isParted 34 = .ok (.aload_n 0, 1) := by decide +kernel
theorem dX3_isParted_35 : decode cX3_isParted 35 = .ok (.getfield 21, 3) := by decide +kernel
theorem dX3_isParted_38 : decode cX3_isParted 38 = .ok (.astore 5, 2) := by decide +kernel
theorem dX3_isParted_40 : decode cX3_isParted 40 = .ok (.iload_n 3, 1) := by decide +kernel
theorem dX3_isParted_41 : decode cX3_isParted 41 = .ok (.invokestatic 53, 3) := by decide +kernel
theorem dX3_isParted_44 : decode cX3_isParted 44 = .ok (.istore 6, 2) := by decide +kernel
theorem dX3_isParted_46 : decode cX3_isParted 46 = .ok (.aload 5, 2) := by decide +kernel
theorem dX3_isParted_48 : decode cX3_isParted 48 = .ok (.iload_n 1, 1) := by decide +kernel
theorem dX3_isParted_49 : decode cX3_isParted 49 = .ok (.iaload, 1) := by decide +kernel
theorem dX3_isParted_50 : decode cX3_isParted 50 = .ok (.aload 5, 2) := by decide +kernel
theorem dX3_isParted_52 : decode cX3_isParted 52 = .ok (.iload_n 2, 1) := by decide +kernel
theorem dX3_isParted_53 : decode cX3_isParted 53 = .ok (.iaload, 1) := by decide +kernel
theorem dX3_isParted_54 : decode cX3_isParted 54 = .ok (.if_icmp .ne 41, 3) := by decide +kernel
theorem dX3_isParted_57 : decode cX3_isParted 57 = .ok (.aload 4, 2) := by decide +kernel
theorem dX3_isParted_59 : decode cX3_isParted 59 = .ok (.iload_n 1, 1) := by decide +kernel
theorem dX3_isParted_60 : decode cX3_isParted 60 = .ok (.iaload, 1) := by decide +kernel
theorem dX3_isParted_61 : decode cX3_isParted 61 = .ok (.aload 4, 2) := by decide +kernel
theorem dX3_isParted_63 : decode cX3_isParted 63 = .ok (.iload_n 2, 1) := by decide +kernel
theorem dX3_isParted_64 : decode cX3_isParted 64 = .ok (.iaload, 1) := by decide +kernel
theorem dX3_isParted_65 : decode cX3_isParted 65 = .ok (.invokestatic 37, 3) := by decide +kernel
theorem dX3_isParted_68 : decode cX3_isParted 68 = .ok (.iload 6, 2) := by decide +kernel
theorem dX3_isParted_70 : decode cX3_isParted 70 = .ok (.iconst 1, 1) := by decide +kernel
theorem dX3_isParted_71 : decode cX3_isParted 71 = .ok (.isub, 1) := by decide +kernel
theorem dX3_isParted_72 : decode cX3_isParted 72 = .ok (.if_icmp .ne 23, 3) := by decide +kernel
theorem dX3_isParted_75 : decode cX3_isParted 75 = .ok (.aload 4, 2) := by decide +kernel
theorem dX3_isParted_77 : decode cX3_isParted 77 = .ok (.iload_n 1, 1) := by decide +kernel
theorem dX3_isParted_78 : decode cX3_isParted 78 = .ok (.iaload, 1) := by decide +kernel
theorem dX3_isParted_79 : decode cX3_isParted 79 = .ok (.aload 4, 2) := by decide +kernel
theorem dX3_isParted_81 : decode cX3_isParted 81 = .ok (.iload_n 2, 1) := by decide +kernel
theorem dX3_isParted_82 : decode cX3_isParted 82 = .ok (.iaload, 1) := by decide +kernel
theorem dX3_isParted_83 : decode cX3_isParted 83 = .ok (.invokestatic 75, 3) := by decide +kernel
theorem dX3_isParted_86 : decode cX3_isParted 86 = .ok (.iload 6, 2) := by decide +kernel
theorem dX3_isParted_88 : decode cX3_isParted 88 = .ok (.if_icmp .ne 7, 3) := by decide +kernel
theorem dX3_isParted_91 : decode cX3_isParted 91 = .ok (.iconst 1, 1) := by decide +kernel
theorem dX3_isParted_92 : decode cX3_isParted 92 = .ok (.goto 4, 3) := by decide +kernel
theorem dX3_isParted_95 : decode cX3_isParted 95 = .ok (.iconst 0, 1) := by decide +kernel
theorem dX3_isParted_96 : decode cX3_isParted 96 = .ok (.ireturn, 1) := by decide +kernel
theorem dX3_thickest_0 : decode cX3_thickest 0 = .ok (.iconst 0, 1) := by decide +kernel
theorem dX3_thickest_1 : decode cX3_thickest 1 = .ok (.istore_n 1, 1) := by decide +kernel
theorem dX3_thickest_2 : decode cX3_thickest 2 = .ok (.iconst 0, 1) := by decide +kernel
theorem dX3_thickest_3 : decode cX3_thickest 3 = .ok (.istore_n 2, 1) := by decide +kernel
theorem dX3_thickest_4 : decode cX3_thickest 4 = .ok (.iload_n 2, 1) := by decide +kernel
theorem dX3_thickest_5 : decode cX3_thickest 5 = .ok (.aload_n 0, 1) := by decide +kernel
theorem dX3_thickest_6 : decode cX3_thickest 6 = .ok (.getfield 9, 3) := by decide +kernel
theorem dX3_thickest_9 : decode cX3_thickest 9 = .ok (.if_icmp .ge 22, 3) := by decide +kernel
theorem dX3_thickest_12 : decode cX3_thickest 12 = .ok (.iload_n 1, 1) := by decide +kernel
theorem dX3_thickest_13 : decode cX3_thickest 13 = .ok (.aload_n 0, 1) := by decide +kernel
theorem dX3_thickest_14 : decode cX3_thickest 14 = .ok (.getfield 28, 3) := by decide +kernel
theorem dX3_thickest_17 : decode cX3_thickest 17 = .ok (.iload_n 2, 1) := by decide +kernel
theorem dX3_thickest_18 : decode cX3_thickest 18 = .ok (.iaload, 1) := by decide +kernel
theorem dX3_thickest_19 : decode cX3_thickest 19 = .ok (.iconst 1, 1) := by decide +kernel
theorem dX3_thickest_20 : decode cX3_thickest 20 = .ok (.iadd, 1) := by decide +kernel
theorem dX3_thickest_21 : decode cX3_thickest 21 = .ok (.invokestatic 75, 3) := by decide +kernel
theorem dX3_thickest_24 : decode cX3_thickest 24 = .ok (.istore_n 1, 1) := by decide +kernel
theorem dX3_thickest_25 : decode cX3_thickest 25 = .ok (.iinc 2 1, 3) := by decide +kernel
theorem dX3_thickest_28 : decode cX3_thickest 28 = .ok (.goto (-24), 3) := by decide +kernel
theorem dX3_thickest_31 : decode cX3_thickest 31 = .ok (.iload_n 1, 1) := by decide +kernel
theorem dX3_thickest_32 : decode cX3_thickest 32 = .ok (.ireturn, 1) := by decide +kernel
theorem dX3_touching_0 : decode cX3_touching 0 = .ok (.aload_n 0, 1) := by decide +kernel
theorem dX3_touching_1 : decode cX3_touching 1 = .ok (.getfield 21, 3) := by decide +kernel
theorem dX3_touching_4 : decode cX3_touching 4 = .ok (.iload_n 1, 1) := by decide +kernel
theorem dX3_touching_5 : decode cX3_touching 5 = .ok (.iaload, 1) := by decide +kernel
theorem dX3_touching_6 : decode cX3_touching 6 = .ok (.aload_n 0, 1) := by decide +kernel
theorem dX3_touching_7 : decode cX3_touching 7 = .ok (.getfield 21, 3) := by decide +kernel
theorem dX3_touching_10 : decode cX3_touching 10 = .ok (.iload_n 2, 1) := by decide +kernel
theorem dX3_touching_11 : decode cX3_touching 11 = .ok (.iaload, 1) := by decide +kernel
theorem dX3_touching_12 : decode cX3_touching 12 = .ok (.if_icmp .ne 38, 3) := by decide +kernel
theorem dX3_touching_15 : decode cX3_touching 15 = .ok (.aload_n 0, 1) := by decide +kernel
theorem dX3_touching_16 : decode cX3_touching 16 = .ok (.getfield 25, 3) := by decide +kernel
theorem dX3_touching_19 : decode cX3_touching 19 = .ok (.iload_n 1, 1) := by decide +kernel
theorem dX3_touching_20 : decode cX3_touching 20 = .ok (.iaload, 1) := by decide +kernel
theorem dX3_touching_21 : decode cX3_touching 21 = .ok (.aload_n 0, 1) := by decide +kernel
theorem dX3_touching_22 : decode cX3_touching 22 = .ok (.getfield 25, 3) := by decide +kernel
theorem dX3_touching_25 : decode cX3_touching 25 = .ok (.iload_n 2, 1) := by decide +kernel
theorem dX3_touching_26 : decode cX3_touching 26 = .ok (.iaload, 1) := by decide +kernel
theorem dX3_touching_27 : decode cX3_touching 27 = .ok (.if_icmp .ne 23, 3) := by decide +kernel
theorem dX3_touching_30 : decode cX3_touching 30 = .ok (.aload_n 0, 1) := by decide +kernel
theorem dX3_touching_31 : decode cX3_touching 31 = .ok (.getfield 28, 3) := by decide +kernel
theorem dX3_touching_34 : decode cX3_touching 34 = .ok (.iload_n 1, 1) := by decide +kernel
theorem dX3_touching_35 : decode cX3_touching 35 = .ok (.iaload, 1) := by decide +kernel
theorem dX3_touching_36 : decode cX3_touching 36 = .ok (.aload_n 0, 1) := by decide +kernel
theorem dX3_touching_37 : decode cX3_touching 37 = .ok (.getfield 28, 3) := by decide +kernel
theorem dX3_touching_40 : decode cX3_touching 40 = .ok (.iload_n 2, 1) := by decide +kernel
theorem dX3_touching_41 : decode cX3_touching 41 = .ok (.iaload, 1) := by decide +kernel
theorem dX3_touching_42 : decode cX3_touching 42 = .ok (.isub, 1) := by decide +kernel
theorem dX3_touching_43 : decode cX3_touching 43 = .ok (.invokestatic 82, 3) := by decide +kernel
theorem dX3_touching_46 : decode cX3_touching 46 = .ok (.iconst 1, 1) := by decide +kernel
theorem dX3_touching_47 : decode cX3_touching 47 = .ok (.if_icmp .eq 5, 3) := by decide +kernel
theorem dX3_touching_50 : decode cX3_touching 50 = .ok (.iconst 0, 1) := by decide +kernel
theorem dX3_touching_51 : decode cX3_touching 51 = .ok (.ireturn, 1) := by decide +kernel
theorem dX3_touching_52 : decode cX3_touching 52 = .ok (.aload_n 0, 1) := by decide +kernel
theorem dX3_touching_53 : decode cX3_touching 53 = .ok (.getfield 31, 3) := by decide +kernel
theorem dX3_touching_56 : decode cX3_touching 56 = .ok (.iload_n 1, 1) := by decide +kernel
theorem dX3_touching_57 : decode cX3_touching 57 = .ok (.iaload, 1) := by decide +kernel
theorem dX3_touching_58 : decode cX3_touching 58 = .ok (.aload_n 0, 1) := by decide +kernel
theorem dX3_touching_59 : decode cX3_touching 59 = .ok (.getfield 31, 3) := by decide +kernel
theorem dX3_touching_62 : decode cX3_touching 62 = .ok (.iload_n 2, 1) := by decide +kernel
theorem dX3_touching_63 : decode cX3_touching 63 = .ok (.iaload, 1) := by decide +kernel
theorem dX3_touching_64 : decode cX3_touching 64 = .ok (.if_icmp .ne 5, 3) := by decide +kernel
theorem dX3_touching_67 : decode cX3_touching 67 = .ok (.iconst 3, 1) := by decide +kernel
theorem dX3_touching_68 : decode cX3_touching 68 = .ok (.ireturn, 1) := by decide +kernel
theorem dX3_touching_69 : decode cX3_touching 69 = .ok (.aload_n 0, 1) := by decide +kernel
theorem dX3_touching_70 : decode cX3_touching 70 = .ok (.getfield 28, 3) := by decide +kernel
theorem dX3_touching_73 : decode cX3_touching 73 = .ok (.iload_n 1, 1) := by decide +kernel
theorem dX3_touching_74 : decode cX3_touching 74 = .ok (.iaload, 1) := by decide +kernel
theorem dX3_touching_75 : decode cX3_touching 75 = .ok (.aload_n 0, 1) := by decide +kernel
theorem dX3_touching_76 : decode cX3_touching 76 = .ok (.getfield 28, 3) := by decide +kernel
theorem dX3_touching_79 : decode cX3_touching 79 = .ok (.iload_n 2, 1) := by decide +kernel
theorem dX3_touching_80 : decode cX3_touching 80 = .ok (.iaload, 1) := by decide +kernel
theorem dX3_touching_81 : decode cX3_touching 81 = .ok (.if_icmp .ge 7, 3) := by decide +kernel
theorem dX3_touching_84 : decode cX3_touching 84 = .ok (.iload_n 1, 1) := by decide +kernel
theorem dX3_touching_85 : decode cX3_touching 85 = .ok (.goto 4, 3) := by decide +kernel
theorem dX3_touching_88 : decode cX3_touching 88 = .ok (.iload_n 2, 1) := by decide +kernel
theorem dX3_touching_89 : decode cX3_touching 89 = .ok (.istore_n 3, 1) := by decide +kernel
theorem dX3_touching_90 : decode cX3_touching 90 = .ok (.aload_n 0, 1) := by decide +kernel
theorem dX3_touching_91 : decode cX3_touching 91 = .ok (.getfield 31, 3) := by decide +kernel
theorem dX3_touching_94 : decode cX3_touching 94 = .ok (.iload_n 3, 1) := by decide +kernel
theorem dX3_touching_95 : decode cX3_touching 95 = .ok (.iaload, 1) := by decide +kernel
theorem dX3_touching_96 : decode cX3_touching 96 = .ok (.iconst 1, 1) := by decide +kernel
theorem dX3_touching_97 : decode cX3_touching 97 = .ok (.if_icmp .ne 7, 3) := by decide +kernel
theorem dX3_touching_100 : decode cX3_touching 100 = .ok (.iconst 1, 1) := by decide +kernel
theorem dX3_touching_101 : decode cX3_touching 101 = .ok (.goto 4, 3) := by decide +kernel
theorem dX3_touching_104 : decode cX3_touching 104 = .ok (.iconst 2, 1) := by decide +kernel
theorem dX3_touching_105 : decode cX3_touching 105 = .ok (.ireturn, 1) := by decide +kernel
theorem dX3_gainOf_0 : decode cX3_gainOf 0 = .ok (.iconst 0, 1) := by decide +kernel
theorem dX3_gainOf_1 : decode cX3_gainOf 1 = .ok (.istore_n 3, 1) := by decide +kernel
theorem dX3_gainOf_2 : decode cX3_gainOf 2 = .ok (.iconst 0, 1) := by decide +kernel
theorem dX3_gainOf_3 : decode cX3_gainOf 3 = .ok (.istore 4, 2) := by decide +kernel
theorem dX3_gainOf_5 : decode cX3_gainOf 5 = .ok (.iload 4, 2) := by decide +kernel
theorem dX3_gainOf_7 : decode cX3_gainOf 7 = .ok (.aload_n 0, 1) := by decide +kernel
theorem dX3_gainOf_8 : decode cX3_gainOf 8 = .ok (.getfield 9, 3) := by decide +kernel
theorem dX3_gainOf_11 : decode cX3_gainOf 11 = .ok (.if_icmp .ge 33, 3) := by decide +kernel
theorem dX3_gainOf_14 : decode cX3_gainOf 14 = .ok (.iload 4, 2) := by decide +kernel
theorem dX3_gainOf_16 : decode cX3_gainOf 16 = .ok (.iload_n 1, 1) := by decide +kernel
theorem dX3_gainOf_17 : decode cX3_gainOf 17 = .ok (.if_icmp .eq 21, 3) := by decide +kernel
theorem dX3_gainOf_20 : decode cX3_gainOf 20 = .ok (.aload_n 0, 1) := by decide +kernel
theorem dX3_gainOf_21 : decode cX3_gainOf 21 = .ok (.iload_n 1, 1) := by decide +kernel
theorem dX3_gainOf_22 : decode cX3_gainOf 22 = .ok (.iload 4, 2) := by decide +kernel
theorem dX3_gainOf_24 : decode cX3_gainOf 24 = .ok (.invokevirtual 85, 3) := by decide +kernel
theorem dX3_gainOf_27 : decode cX3_gainOf 27 = .ok (.iconst 1, 1) := by decide +kernel
theorem dX3_gainOf_28 : decode cX3_gainOf 28 = .ok (.if_icmp .ne 10, 3) := by decide +kernel
theorem dX3_gainOf_31 : decode cX3_gainOf 31 = .ok (.iload_n 3, 1) := by decide +kernel
theorem dX3_gainOf_32 : decode cX3_gainOf 32 = .ok (.aload_n 2, 1) := by decide +kernel
theorem dX3_gainOf_33 : decode cX3_gainOf 33 = .ok (.iload 4, 2) := by decide +kernel
theorem dX3_gainOf_35 : decode cX3_gainOf 35 = .ok (.iaload, 1) := by decide +kernel
theorem dX3_gainOf_36 : decode cX3_gainOf 36 = .ok (.iadd, 1) := by decide +kernel
theorem dX3_gainOf_37 : decode cX3_gainOf 37 = .ok (.istore_n 3, 1) := by decide +kernel
theorem dX3_gainOf_38 : decode cX3_gainOf 38 = .ok (.iinc 4 1, 3) := by decide +kernel
theorem dX3_gainOf_41 : decode cX3_gainOf 41 = .ok (.goto (-36), 3) := by decide +kernel
theorem dX3_gainOf_44 : decode cX3_gainOf 44 = .ok (.iload_n 3, 1) := by decide +kernel
theorem dX3_gainOf_45 : decode cX3_gainOf 45 = .ok (.ireturn, 1) := by decide +kernel
theorem dX3_countFought_0 : decode cX3_countFought 0 = .ok (.iconst 0, 1) := by decide +kernel
theorem dX3_countFought_1 : decode cX3_countFought 1 = .ok (.istore_n 2, 1) := by decide +kernel
theorem dX3_countFought_2 : decode cX3_countFought 2 = .ok (.iconst 0, 1) := by decide +kernel
theorem dX3_countFought_3 : decode cX3_countFought 3 = .ok (.istore_n 3, 1) := by decide +kernel
theorem dX3_countFought_4 : decode cX3_countFought 4 = .ok (.iload_n 3, 1) := by decide +kernel
theorem dX3_countFought_5 : decode cX3_countFought 5 = .ok (.aload_n 1, 1) := by decide +kernel
theorem dX3_countFought_6 : decode cX3_countFought 6 = .ok (.getfield 88, 3) := by decide +kernel
theorem dX3_countFought_9 : decode cX3_countFought 9 = .ok (.if_icmp .ge 32, 3) := by decide +kernel
theorem dX3_countFought_12 : decode cX3_countFought 12 = .ok (.aload_n 0, 1) := by decide +kernel
theorem dX3_countFought_13 : decode cX3_countFought 13 = .ok (.aload_n 1, 1) := by decide +kernel
theorem dX3_countFought_14 : decode cX3_countFought 14 = .ok (.getfield 93, 3) := by decide +kernel
theorem dX3_countFought_17 : decode cX3_countFought 17 = .ok (.iload_n 3, 1) := by decide +kernel
theorem dX3_countFought_18 : decode cX3_countFought 18 = .ok (.iaload, 1) := by decide +kernel
theorem dX3_countFought_19 : decode cX3_countFought 19 = .ok (.aload_n 1, 1) := by decide +kernel
theorem dX3_countFought_20 : decode cX3_countFought 20 = .ok (.getfield 96, 3) := by decide +kernel
theorem dX3_countFought_23 : decode cX3_countFought 23 = .ok (.iload_n 3, 1) := by decide +kernel
theorem dX3_countFought_24 : decode cX3_countFought 24 = .ok (.iaload, 1) := by decide +kernel
theorem dX3_countFought_25 : decode cX3_countFought 25 = .ok (.invokevirtual 85, 3) := by decide +kernel
theorem dX3_countFought_28 : decode cX3_countFought 28 = .ok (.iconst 1, 1) := by decide +kernel
theorem dX3_countFought_29 : decode cX3_countFought 29 = .ok (.if_icmp .ne 6, 3) := by decide +kernel
theorem dX3_countFought_32 : decode cX3_countFought 32 = .ok (.iinc 2 1, 3) := by decide +kernel
theorem dX3_countFought_35 : decode cX3_countFought 35 = .ok (.iinc 3 1, 3) := by decide +kernel
theorem dX3_countFought_38 : decode cX3_countFought 38 = .ok (.goto (-34), 3) := by decide +kernel
theorem dX3_countFought_41 : decode cX3_countFought 41 = .ok (.iload_n 2, 1) := by decide +kernel
theorem dX3_countFought_42 : decode cX3_countFought 42 = .ok (.ireturn, 1) := by decide +kernel
theorem dX3_countFrontPairs_0 : decode cX3_countFrontPairs 0 = .ok (.iconst 0, 1) := by decide +kernel
theorem dX3_countFrontPairs_1 : decode cX3_countFrontPairs 1 = .ok (.istore_n 1, 1) := by decide +kernel
theorem dX3_countFrontPairs_2 : decode cX3_countFrontPairs 2 = .ok (.iconst 0, 1) := by decide +kernel
theorem dX3_countFrontPairs_3 : decode cX3_countFrontPairs 3 = .ok (.istore_n 2, 1) := by decide +kernel
theorem dX3_countFrontPairs_4 : decode cX3_countFrontPairs 4 = .ok (.iload_n 2, 1) := by decide +kernel
theorem dX3_countFrontPairs_5 : decode cX3_countFrontPairs 5 = .ok (.aload_n 0, 1) := by decide +kernel
theorem dX3_countFrontPairs_6 : decode cX3_countFrontPairs 6 = .ok (.getfield 9, 3) := by decide +kernel
theorem dX3_countFrontPairs_9 : decode cX3_countFrontPairs 9 = .ok (.if_icmp .ge 40, 3) := by decide +kernel
theorem dX3_countFrontPairs_12 : decode cX3_countFrontPairs 12 = .ok (.iload_n 2, 1) := by decide +kernel
theorem dX3_countFrontPairs_13 : decode cX3_countFrontPairs 13 = .ok (.iconst 1, 1) := by decide +kernel
theorem dX3_countFrontPairs_14 : decode cX3_countFrontPairs 14 = .ok (.iadd, 1) := by decide +kernel
theorem dX3_countFrontPairs_15 : decode cX3_countFrontPairs 15 = .ok (.istore_n 3, 1) := by decide +kernel
theorem dX3_countFrontPairs_16 : decode cX3_countFrontPairs 16 = .ok (.iload_n 3, 1) := by decide +kernel
theorem dX3_countFrontPairs_17 : decode cX3_countFrontPairs 17 = .ok (.aload_n 0, 1) := by decide +kernel
theorem dX3_countFrontPairs_18 : decode cX3_countFrontPairs 18 = .ok (.getfield 9, 3) := by decide +kernel
theorem dX3_countFrontPairs_21 : decode cX3_countFrontPairs 21 = .ok (.if_icmp .ge 22, 3) := by decide +kernel
theorem dX3_countFrontPairs_24 : decode cX3_countFrontPairs 24 = .ok (.aload_n 0, 1) := by decide +kernel
theorem dX3_countFrontPairs_25 : decode cX3_countFrontPairs 25 = .ok (.iload_n 2, 1) := by decide +kernel
theorem dX3_countFrontPairs_26 : decode cX3_countFrontPairs 26 = .ok (.iload_n 3, 1) := by decide +kernel
theorem dX3_countFrontPairs_27 : decode cX3_countFrontPairs 27 = .ok (.invokevirtual 85, 3) := by decide +kernel
theorem dX3_countFrontPairs_30 : decode cX3_countFrontPairs 30 = .ok (.iconst 1, 1) := by decide +kernel
theorem dX3_countFrontPairs_31 : decode cX3_countFrontPairs 31 = .ok (.if_icmp .ne 6, 3) := by decide +kernel
theorem dX3_countFrontPairs_34 : decode cX3_countFrontPairs 34 = .ok (.iinc 1 1, 3) := by decide +kernel
theorem dX3_countFrontPairs_37 : decode cX3_countFrontPairs 37 = .ok (.iinc 3 1, 3) := by decide +kernel
theorem dX3_countFrontPairs_40 : decode cX3_countFrontPairs 40 = .ok (.goto (-24), 3) := by decide +kernel
theorem dX3_countFrontPairs_43 : decode cX3_countFrontPairs 43 = .ok (.iinc 2 1, 3) := by decide +kernel
theorem dX3_countFrontPairs_46 : decode cX3_countFrontPairs 46 = .ok (.goto (-42), 3) := by decide +kernel
theorem dX3_countFrontPairs_49 : decode cX3_countFrontPairs 49 = .ok (.iload_n 1, 1) := by decide +kernel
theorem dX3_countFrontPairs_50 : decode cX3_countFrontPairs 50 = .ok (.ireturn, 1) := by decide +kernel
theorem dX3_allTouch_0 : decode cX3_allTouch 0 = .ok (.iconst 0, 1) := by decide +kernel
theorem dX3_allTouch_1 : decode cX3_allTouch 1 = .ok (.istore_n 2, 1) := by decide +kernel
theorem dX3_allTouch_2 : decode cX3_allTouch 2 = .ok (.iload_n 2, 1) := by decide +kernel
theorem dX3_allTouch_3 : decode cX3_allTouch 3 = .ok (.aload_n 1, 1) := by decide +kernel
theorem dX3_allTouch_4 : decode cX3_allTouch 4 = .ok (.getfield 88, 3) := by decide +kernel
theorem dX3_allTouch_7 : decode cX3_allTouch 7 = .ok (.if_icmp .ge 30, 3) := by decide +kernel
theorem dX3_allTouch_10 : decode cX3_allTouch 10 = .ok (.aload_n 0, 1) := by decide +kernel
theorem dX3_allTouch_11 : decode cX3_allTouch 11 = .ok (.aload_n 1, 1) := by decide +kernel
theorem dX3_allTouch_12 : decode cX3_allTouch 12 = .ok (.getfield 93, 3) := by decide +kernel
theorem dX3_allTouch_15 : decode cX3_allTouch 15 = .ok (.iload_n 2, 1) := by decide +kernel
theorem dX3_allTouch_16 : decode cX3_allTouch 16 = .ok (.iaload, 1) := by decide +kernel
theorem dX3_allTouch_17 : decode cX3_allTouch 17 = .ok (.aload_n 1, 1) := by decide +kernel
theorem dX3_allTouch_18 : decode cX3_allTouch 18 = .ok (.getfield 96, 3) := by decide +kernel
theorem dX3_allTouch_21 : decode cX3_allTouch 21 = .ok (.iload_n 2, 1) := by decide +kernel
theorem dX3_allTouch_22 : decode cX3_allTouch 22 = .ok (.iaload, 1) := by decide +kernel
theorem dX3_allTouch_23 : decode cX3_allTouch 23 = .ok (.invokevirtual 85, 3) := by decide +kernel
theorem dX3_allTouch_26 : decode cX3_allTouch 26 = .ok (.ifCond .ne 5, 3) := by decide +kernel
theorem dX3_allTouch_29 : decode cX3_allTouch 29 = .ok (.iconst 0, 1) := by decide +kernel
theorem dX3_allTouch_30 : decode cX3_allTouch 30 = .ok (.ireturn, 1) := by decide +kernel
theorem dX3_allTouch_31 : decode cX3_allTouch 31 = .ok (.iinc 2 1, 3) := by decide +kernel
theorem dX3_allTouch_34 : decode cX3_allTouch 34 = .ok (.goto (-32), 3) := by decide +kernel
theorem dX3_allTouch_37 : decode cX3_allTouch 37 = .ok (.iconst 1, 1) := by decide +kernel
theorem dX3_allTouch_38 : decode cX3_allTouch 38 = .ok (.ireturn, 1) := by decide +kernel
theorem dX3_meetingFold_0 : decode cX3_meetingFold 0 = .ok (.aload_n 0, 1) := by decide +kernel
theorem dX3_meetingFold_1 : decode cX3_meetingFold 1 = .ok (.getfield 21, 3) := by decide +kernel
theorem dX3_meetingFold_4 : decode cX3_meetingFold 4 = .ok (.iload_n 1, 1) := by decide +kernel
theorem dX3_meetingFold_5 : decode cX3_meetingFold 5 = .ok (.iaload, 1) := by decide +kernel
theorem dX3_meetingFold_6 : decode cX3_meetingFold 6 = .ok (.aload_n 0, 1) := by decide +kernel
theorem dX3_meetingFold_7 : decode cX3_meetingFold 7 = .ok (.getfield 21, 3) := by decide +kernel
theorem dX3_meetingFold_10 : decode cX3_meetingFold 10 = .ok (.iload_n 2, 1) := by decide +kernel
theorem dX3_meetingFold_11 : decode cX3_meetingFold 11 = .ok (.iaload, 1) := by decide +kernel
theorem dX3_meetingFold_12 : decode cX3_meetingFold 12 = .ok (.if_icmp .ne 7, 3) := by decide +kernel
theorem dX3_meetingFold_15 : decode cX3_meetingFold 15 = .ok (.iconst 1, 1) := by decide +kernel
theorem dX3_meetingFold_16 : decode cX3_meetingFold 16 = .ok (.goto 4, 3) := by decide +kernel
theorem dX3_meetingFold_19 : decode cX3_meetingFold 19 = .ok (.iconst 0, 1) := by decide +kernel
theorem dX3_meetingFold_20 : decode cX3_meetingFold 20 = .ok (.istore_n 3, 1) := by decide +kernel
theorem dX3_meetingFold_21 : decode cX3_meetingFold 21 = .ok (.aload_n 0, 1) := by decide +kernel
theorem dX3_meetingFold_22 : decode cX3_meetingFold 22 = .ok (.getfield 25, 3) := by decide +kernel
theorem dX3_meetingFold_25 : decode cX3_meetingFold 25 = .ok (.iload_n 1, 1) := by decide +kernel
theorem dX3_meetingFold_26 : decode cX3_meetingFold 26 = .ok (.iaload, 1) := by decide +kernel
theorem dX3_meetingFold_27 : decode cX3_meetingFold 27 = .ok (.aload_n 0, 1) := by decide +kernel
theorem dX3_meetingFold_28 : decode cX3_meetingFold 28 = .ok (.getfield 25, 3) := by decide +kernel
theorem dX3_meetingFold_31 : decode cX3_meetingFold 31 = .ok (.iload_n 2, 1) := by decide +kernel
theorem dX3_meetingFold_32 : decode cX3_meetingFold 32 = .ok (.iaload, 1) := by decide +kernel
theorem dX3_meetingFold_33 : decode cX3_meetingFold 33 = .ok (.if_icmp .ne 7, 3) := by decide +kernel
theorem dX3_meetingFold_36 : decode cX3_meetingFold 36 = .ok (.iconst 1, 1) := by decide +kernel
theorem dX3_meetingFold_37 : decode cX3_meetingFold 37 = .ok (.goto 4, 3) := by decide +kernel
theorem dX3_meetingFold_40 : decode cX3_meetingFold 40 = .ok (.iconst 0, 1) := by decide +kernel
theorem dX3_meetingFold_41 : decode cX3_meetingFold 41 = .ok (.istore 4, 2) := by decide +kernel
theorem dX3_meetingFold_43 : decode cX3_meetingFold 43 = .ok (.iload_n 3, 1) := by decide +kernel
theorem dX3_meetingFold_44 : decode cX3_meetingFold 44 = .ok (.iload 4, 2) := by decide +kernel
theorem dX3_meetingFold_46 : decode cX3_meetingFold 46 = .ok (.if_icmp .eq 18, 3) := by decide +kernel
theorem dX3_meetingFold_49 : decode cX3_meetingFold 49 = .ok (.aload_n 0, 1) := by decide +kernel
theorem dX3_meetingFold_50 : decode cX3_meetingFold 50 = .ok (.getfield 31, 3) := by decide +kernel
theorem dX3_meetingFold_53 : decode cX3_meetingFold 53 = .ok (.iload_n 1, 1) := by decide +kernel
theorem dX3_meetingFold_54 : decode cX3_meetingFold 54 = .ok (.iaload, 1) := by decide +kernel
theorem dX3_meetingFold_55 : decode cX3_meetingFold 55 = .ok (.aload_n 0, 1) := by decide +kernel
theorem dX3_meetingFold_56 : decode cX3_meetingFold 56 = .ok (.getfield 31, 3) := by decide +kernel
theorem dX3_meetingFold_59 : decode cX3_meetingFold 59 = .ok (.iload_n 2, 1) := by decide +kernel
theorem dX3_meetingFold_60 : decode cX3_meetingFold 60 = .ok (.iaload, 1) := by decide +kernel
theorem dX3_meetingFold_61 : decode cX3_meetingFold 61 = .ok (.if_icmp .eq 6, 3) := by decide +kernel
theorem dX3_meetingFold_64 : decode cX3_meetingFold 64 = .ok (.bipush (-9), 2) := by decide +kernel
theorem dX3_meetingFold_66 : decode cX3_meetingFold 66 = .ok (.ireturn, 1) := by decide +kernel
theorem dX3_meetingFold_67 : decode cX3_meetingFold 67 = .ok (.iload 4, 2) := by decide +kernel
theorem dX3_meetingFold_69 : decode cX3_meetingFold 69 = .ok (.ifCond .eq 7, 3) := by decide +kernel
theorem dX3_meetingFold_72 : decode cX3_meetingFold 72 = .ok (.iconst 0, 1) := by decide +kernel
theorem dX3_meetingFold_73 : decode cX3_meetingFold 73 = .ok (.goto 4, 3) := by decide +kernel
theorem dX3_meetingFold_76 : decode cX3_meetingFold 76 = .ok (.iconst 1, 1) := by decide +kernel
theorem dX3_meetingFold_77 : decode cX3_meetingFold 77 = .ok (.istore 5, 2) := by decide +kernel
theorem dX3_meetingFold_79 : decode cX3_meetingFold 79 = .ok (.iload 4, 2) := by decide +kernel
theorem dX3_meetingFold_81 : decode cX3_meetingFold 81 = .ok (.ifCond .eq 19, 3) := by decide +kernel
theorem dX3_meetingFold_84 : decode cX3_meetingFold 84 = .ok (.aload_n 0, 1) := by decide +kernel
theorem dX3_meetingFold_85 : decode cX3_meetingFold 85 = .ok (.getfield 21, 3) := by decide +kernel
theorem dX3_meetingFold_88 : decode cX3_meetingFold 88 = .ok (.iload_n 1, 1) := by decide +kernel
theorem dX3_meetingFold_89 : decode cX3_meetingFold 89 = .ok (.iaload, 1) := by decide +kernel
theorem dX3_meetingFold_90 : decode cX3_meetingFold 90 = .ok (.aload_n 0, 1) := by decide +kernel
theorem dX3_meetingFold_91 : decode cX3_meetingFold 91 = .ok (.getfield 21, 3) := by decide +kernel
theorem dX3_meetingFold_94 : decode cX3_meetingFold 94 = .ok (.iload_n 2, 1) := by decide +kernel
theorem dX3_meetingFold_95 : decode cX3_meetingFold 95 = .ok (.iaload, 1) := by decide +kernel
theorem dX3_meetingFold_96 : decode cX3_meetingFold 96 = .ok (.iadd, 1) := by decide +kernel
theorem dX3_meetingFold_97 : decode cX3_meetingFold 97 = .ok (.goto 16, 3) := by decide +kernel
theorem dX3_meetingFold_100 : decode cX3_meetingFold 100 = .ok (.aload_n 0, 1) := by decide +kernel
theorem dX3_meetingFold_101 : decode cX3_meetingFold 101 = .ok (.getfield 25, 3) := by decide +kernel
theorem dX3_meetingFold_104 : decode cX3_meetingFold 104 = .ok (.iload_n 1, 1) := by decide +kernel
theorem dX3_meetingFold_105 : decode cX3_meetingFold 105 = .ok (.iaload, 1) := by decide +kernel
theorem dX3_meetingFold_106 : decode cX3_meetingFold 106 = .ok (.aload_n 0, 1) := by decide +kernel
theorem dX3_meetingFold_107 : decode cX3_meetingFold 107 = .ok (.getfield 25, 3) := by decide +kernel
theorem dX3_meetingFold_110 : decode cX3_meetingFold 110 = .ok (.iload_n 2, 1) := by decide +kernel
theorem dX3_meetingFold_111 : decode cX3_meetingFold 111 = .ok (.iaload, 1) := by decide +kernel
theorem dX3_meetingFold_112 : decode cX3_meetingFold 112 = .ok (.iadd, 1) := by decide +kernel
theorem dX3_meetingFold_113 : decode cX3_meetingFold 113 = .ok (.istore 6, 2) := by decide +kernel
theorem dX3_meetingFold_115 : decode cX3_meetingFold 115 = .ok (.aload_n 0, 1) := by decide +kernel
theorem dX3_meetingFold_116 : decode cX3_meetingFold 116 = .ok (.getfield 31, 3) := by decide +kernel
theorem dX3_meetingFold_119 : decode cX3_meetingFold 119 = .ok (.iload_n 1, 1) := by decide +kernel
theorem dX3_meetingFold_120 : decode cX3_meetingFold 120 = .ok (.iaload, 1) := by decide +kernel
theorem dX3_meetingFold_121 : decode cX3_meetingFold 121 = .ok (.istore 7, 2) := by decide +kernel
theorem dX3_meetingFold_123 : decode cX3_meetingFold 123 = .ok (.iload 6, 2) := by decide +kernel
theorem dX3_meetingFold_125 : decode cX3_meetingFold 125 = .ok (.iconst 2, 1) := by decide +kernel
theorem dX3_meetingFold_126 : decode cX3_meetingFold 126 = .ok (.irem, 1) := by decide +kernel
theorem dX3_meetingFold_127 : decode cX3_meetingFold 127 = .ok (.ifCond .eq 23, 3) := by decide +kernel
theorem dX3_meetingFold_130 : decode cX3_meetingFold 130 = .ok (.aload_n 0, 1) := by decide +kernel
theorem dX3_meetingFold_131 : decode cX3_meetingFold 131 = .ok (.iload_n 1, 1) := by decide +kernel
theorem dX3_meetingFold_132 : decode cX3_meetingFold 132 = .ok (.iload 7, 2) := by decide +kernel
theorem dX3_meetingFold_134 : decode cX3_meetingFold 134 = .ok (.invokevirtual 99, 3) := by decide +kernel
theorem dX3_meetingFold_137 : decode cX3_meetingFold 137 = .ok (.ifCond .eq 13, 3) := by decide +kernel
theorem dX3_meetingFold_140 : decode cX3_meetingFold 140 = .ok (.aload_n 0, 1) := by decide +kernel
theorem dX3_meetingFold_141 : decode cX3_meetingFold 141 = .ok (.iload_n 2, 1) := by decide +kernel
theorem dX3_meetingFold_142 : decode cX3_meetingFold 142 = .ok (.iload 7, 2) := by decide +kernel
theorem dX3_meetingFold_144 : decode cX3_meetingFold 144 = .ok (.invokevirtual 99, 3) := by decide +kernel
theorem dX3_meetingFold_147 : decode cX3_meetingFold 147 = .ok (.ifCond .ne 6, 3) := by decide +kernel
theorem dX3_meetingFold_150 : decode cX3_meetingFold 150 = .ok (.bipush (-9), 2) := by decide +kernel
theorem dX3_meetingFold_152 : decode cX3_meetingFold 152 = .ok (.ireturn, 1) := by decide +kernel
theorem dX3_meetingFold_153 : decode cX3_meetingFold 153 = .ok (.iload 6, 2) := by decide +kernel
theorem dX3_meetingFold_155 : decode cX3_meetingFold 155 = .ok (.iconst 1, 1) := by decide +kernel
theorem dX3_meetingFold_156 : decode cX3_meetingFold 156 = .ok (.iadd, 1) := by decide +kernel
theorem dX3_meetingFold_157 : decode cX3_meetingFold 157 = .ok (.iconst 2, 1) := by decide +kernel
theorem dX3_meetingFold_158 : decode cX3_meetingFold 158 = .ok (.idiv, 1) := by decide +kernel
theorem dX3_meetingFold_159 : decode cX3_meetingFold 159 = .ok (.istore 8, 2) := by decide +kernel
theorem dX3_meetingFold_161 : decode cX3_meetingFold 161 = .ok (.iload 5, 2) := by decide +kernel
theorem dX3_meetingFold_163 : decode cX3_meetingFold 163 = .ok (.iconst 4, 1) := by decide +kernel
theorem dX3_meetingFold_164 : decode cX3_meetingFold 164 = .ok (.iload 7, 2) := by decide +kernel
theorem dX3_meetingFold_166 : decode cX3_meetingFold 166 = .ok (.imul, 1) := by decide +kernel
theorem dX3_meetingFold_167 : decode cX3_meetingFold 167 = .ok (.iadd, 1) := by decide +kernel
theorem dX3_meetingFold_168 : decode cX3_meetingFold 168 = .ok (.bipush 8, 2) := by decide +kernel
theorem dX3_meetingFold_170 : decode cX3_meetingFold 170 = .ok (.iload 8, 2) := by decide +kernel
theorem dX3_meetingFold_172 : decode cX3_meetingFold 172 = .ok (.iconst 1, 1) := by decide +kernel
theorem dX3_meetingFold_173 : decode cX3_meetingFold 173 = .ok (.isub, 1) := by decide +kernel
theorem dX3_meetingFold_174 : decode cX3_meetingFold 174 = .ok (.imul, 1) := by decide +kernel
theorem dX3_meetingFold_175 : decode cX3_meetingFold 175 = .ok (.iadd, 1) := by decide +kernel
theorem dX3_meetingFold_176 : decode cX3_meetingFold 176 = .ok (.ireturn, 1) := by decide +kernel
theorem dX3_isOutermost_0 : decode cX3_isOutermost 0 = .ok (.iload_n 2, 1) := by decide +kernel
theorem dX3_isOutermost_1 : decode cX3_isOutermost 1 = .ok (.ifCond .ne 18, 3) := by decide +kernel
theorem dX3_isOutermost_4 : decode cX3_isOutermost 4 = .ok (.aload_n 0, 1) := by decide +kernel
theorem dX3_isOutermost_5 : decode cX3_isOutermost 5 = .ok (.getfield 28, 3) := by decide +kernel
theorem dX3_isOutermost_8 : decode cX3_isOutermost 8 = .ok (.iload_n 1, 1) := by decide +kernel
theorem dX3_isOutermost_9 : decode cX3_isOutermost 9 = .ok (.iaload, 1) := by decide +kernel
theorem dX3_isOutermost_10 : decode cX3_isOutermost 10 = .ok (.ifCond .ne 7, 3) := by decide +kernel
theorem dX3_isOutermost_13 : decode cX3_isOutermost 13 = .ok (.iconst 1, 1) := by decide +kernel
theorem dX3_isOutermost_14 : decode cX3_isOutermost 14 = .ok (.goto 4, 3) := by decide +kernel
theorem dX3_isOutermost_17 : decode cX3_isOutermost 17 = .ok (.iconst 0, 1) := by decide +kernel
theorem dX3_isOutermost_18 : decode cX3_isOutermost 18 = .ok (.ireturn, 1) := by decide +kernel
theorem dX3_isOutermost_19 : decode cX3_isOutermost 19 = .ok (.iconst 0, 1) := by decide +kernel
theorem dX3_isOutermost_20 : decode cX3_isOutermost 20 = .ok (.istore_n 3, 1) := by decide +kernel
theorem dX3_isOutermost_21 : decode cX3_isOutermost 21 = .ok (.iload_n 3, 1) := by decide +kernel
theorem dX3_isOutermost_22 : decode cX3_isOutermost 22 = .ok (.aload_n 0, 1) := by decide +kernel
theorem dX3_isOutermost_23 : decode cX3_isOutermost 23 = .ok (.getfield 9, 3) := by decide +kernel
theorem dX3_isOutermost_26 : decode cX3_isOutermost 26 = .ok (.if_icmp .ge 56, 3) := by decide +kernel
theorem dX3_isOutermost_29 : decode cX3_isOutermost 29 = .ok (.aload_n 0, 1) := by decide +kernel
theorem dX3_isOutermost_30 : decode cX3_isOutermost 30 = .ok (.getfield 21, 3) := by decide +kernel
theorem dX3_isOutermost_33 : decode cX3_isOutermost 33 = .ok (.iload_n 3, 1) := by decide +kernel
theorem dX3_isOutermost_34 : decode cX3_isOutermost 34 = .ok (.iaload, 1) := by decide +kernel
theorem dX3_isOutermost_35 : decode cX3_isOutermost 35 = .ok (.aload_n 0, 1) := by decide +kernel
theorem dX3_isOutermost_36 : decode cX3_isOutermost 36 = .ok (.getfield 21, 3) := by decide +kernel
theorem dX3_isOutermost_39 : decode cX3_isOutermost 39 = .ok (.iload_n 1, 1) := by decide +kernel
theorem dX3_isOutermost_40 : decode cX3_isOutermost 40 = .ok (.iaload, 1) := by decide +kernel
theorem dX3_isOutermost_41 : decode cX3_isOutermost 41 = .ok (.if_icmp .ne 35, 3) := by decide +kernel
theorem dX3_isOutermost_44 : decode cX3_isOutermost 44 = .ok (.aload_n 0, 1) := by decide +kernel
theorem dX3_isOutermost_45 : decode cX3_isOutermost 45 = .ok (.getfield 25, 3) := by decide +kernel
theorem dX3_isOutermost_48 : decode cX3_isOutermost 48 = .ok (.iload_n 3, 1) := by decide +kernel
theorem dX3_isOutermost_49 : decode cX3_isOutermost 49 = .ok (.iaload, 1) := by decide +kernel
theorem dX3_isOutermost_50 : decode cX3_isOutermost 50 = .ok (.aload_n 0, 1) := by decide +kernel
theorem dX3_isOutermost_51 : decode cX3_isOutermost 51 = .ok (.getfield 25, 3) := by decide +kernel
theorem dX3_isOutermost_54 : decode cX3_isOutermost 54 = .ok (.iload_n 1, 1) := by decide +kernel
theorem dX3_isOutermost_55 : decode cX3_isOutermost 55 = .ok (.iaload, 1) := by decide +kernel
theorem dX3_isOutermost_56 : decode cX3_isOutermost 56 = .ok (.if_icmp .ne 20, 3) := by decide +kernel
theorem dX3_isOutermost_59 : decode cX3_isOutermost 59 = .ok (.aload_n 0, 1) := by decide +kernel
theorem dX3_isOutermost_60 : decode cX3_isOutermost 60 = .ok (.getfield 28, 3) := by decide +kernel
theorem dX3_isOutermost_63 : decode cX3_isOutermost 63 = .ok (.iload_n 3, 1) := by decide +kernel
theorem dX3_isOutermost_64 : decode cX3_isOutermost 64 = .ok (.iaload, 1) := by decide +kernel
theorem dX3_isOutermost_65 : decode cX3_isOutermost 65 = .ok (.aload_n 0, 1) := by decide +kernel
theorem dX3_isOutermost_66 : decode cX3_isOutermost 66 = .ok (.getfield 28, 3) := by decide +kernel
theorem dX3_isOutermost_69 : decode cX3_isOutermost 69 = .ok (.iload_n 1, 1) := by decide +kernel
theorem dX3_isOutermost_70 : decode cX3_isOutermost 70 = .ok (.iaload, 1) := by decide +kernel
theorem dX3_isOutermost_71 : decode cX3_isOutermost 71 = .ok (.if_icmp .le 5, 3) := by decide +kernel
theorem dX3_isOutermost_74 : decode cX3_isOutermost 74 = .ok (.iconst 0, 1) := by decide +kernel
theorem dX3_isOutermost_75 : decode cX3_isOutermost 75 = .ok (.ireturn, 1) := by decide +kernel
theorem dX3_isOutermost_76 : decode cX3_isOutermost 76 = .ok (.iinc 3 1, 3) := by decide +kernel
theorem dX3_isOutermost_79 : decode cX3_isOutermost 79 = .ok (.goto (-58), 3) := by decide +kernel
theorem dX3_isOutermost_82 : decode cX3_isOutermost 82 = .ok (.iconst 1, 1) := by decide +kernel
theorem dX3_isOutermost_83 : decode cX3_isOutermost 83 = .ok (.ireturn, 1) := by decide +kernel
theorem dX4_init_0 : decode cX4_init 0 = .ok (.aload_n 0, 1) := by decide +kernel
theorem dX4_init_1 : decode cX4_init 1 = .ok (.invokespecial 3, 3) := by decide +kernel
theorem dX4_init_4 : decode cX4_init 4 = .ok (.aload_n 0, 1) := by decide +kernel
theorem dX4_init_5 : decode cX4_init 5 = .ok (.iconst 0, 1) := by decide +kernel
theorem dX4_init_6 : decode cX4_init 6 = .ok (.putfield 9, 3) := by decide +kernel
theorem dX4_init_9 : decode cX4_init 9 = .ok (.aload_n 0, 1) := by decide +kernel
theorem dX4_init_10 : decode cX4_init 10 = .ok (.bipush 6, 2) := by decide +kernel
theorem dX4_init_12 : decode cX4_init 12 = .ok (.newarray .int, 2) := by decide +kernel
theorem dX4_init_14 : decode cX4_init 14 = .ok (.putfield 15, 3) := by decide +kernel
theorem dX4_init_17 : decode cX4_init 17 = .ok (.aload_n 0, 1) := by decide +kernel
theorem dX4_init_18 : decode cX4_init 18 = .ok (.bipush 6, 2) := by decide +kernel
theorem dX4_init_20 : decode cX4_init 20 = .ok (.newarray .int, 2) := by decide +kernel
theorem dX4_init_22 : decode cX4_init 22 = .ok (.putfield 19, 3) := by decide +kernel
theorem dX4_init_25 : decode cX4_init 25 = .ok (.return_, 1) := by decide +kernel
theorem dX4_isFull_0 : decode cX4_isFull 0 = .ok (.aload_n 0, 1) := by decide +kernel
theorem dX4_isFull_1 : decode cX4_isFull 1 = .ok (.getfield 9, 3) := by decide +kernel
theorem dX4_isFull_4 : decode cX4_isFull 4 = .ok (.bipush 6, 2) := by decide +kernel
theorem dX4_isFull_6 : decode cX4_isFull 6 = .ok (.if_icmp .lt 7, 3) := by decide +kernel
theorem dX4_isFull_9 : decode cX4_isFull 9 = .ok (.iconst 1, 1) := by decide +kernel
theorem dX4_isFull_10 : decode cX4_isFull 10 = .ok (.goto 4, 3) := by decide +kernel
theorem dX4_isFull_13 : decode cX4_isFull 13 = .ok (.iconst 0, 1) := by decide +kernel
theorem dX4_isFull_14 : decode cX4_isFull 14 = .ok (.ireturn, 1) := by decide +kernel
theorem dX4_add_0 : decode cX4_add 0 = .ok (.aload_n 0, 1) := by decide +kernel
theorem dX4_add_1 : decode cX4_add 1 = .ok (.invokevirtual 22, 3) := by decide +kernel
theorem dX4_add_4 : decode cX4_add 4 = .ok (.ifCond .ne 33, 3) := by decide +kernel
theorem dX4_add_7 : decode cX4_add 7 = .ok (.aload_n 0, 1) := by decide +kernel
theorem dX4_add_8 : decode cX4_add 8 = .ok (.getfield 15, 3) := by decide +kernel
theorem dX4_add_11 : decode cX4_add 11 = .ok (.aload_n 0, 1) := by decide +kernel
theorem dX4_add_12 : decode cX4_add 12 = .ok (.getfield 9, 3) := by decide +kernel
theorem dX4_add_15 : decode cX4_add 15 = .ok (.iload_n 1, 1) := by decide +kernel
theorem dX4_add_16 : decode cX4_add 16 = .ok (.iastore, 1) := by decide +kernel
theorem dX4_add_17 : decode cX4_add 17 = .ok (.aload_n 0, 1) := by decide +kernel
theorem dX4_add_18 : decode cX4_add 18 = .ok (.getfield 19, 3) := by decide +kernel
theorem dX4_add_21 : decode cX4_add 21 = .ok (.aload_n 0, 1) := by decide +kernel
theorem dX4_add_22 : decode cX4_add 22 = .ok (.getfield 9, 3) := by decide +kernel
theorem dX4_add_25 : decode cX4_add 25 = .ok (.iload_n 2, 1) := by decide +kernel
theorem dX4_add_26 : decode cX4_add 26 = .ok (.iastore, 1) := by decide +kernel
theorem dX4_add_27 : decode cX4_add 27 = .ok (.aload_n 0, 1) := by decide +kernel
theorem dX4_add_28 : decode cX4_add 28 = .ok (.dup, 1) := by decide +kernel
theorem dX4_add_29 : decode cX4_add 29 = .ok (.getfield 9, 3) := by decide +kernel
theorem dX4_add_32 : decode cX4_add 32 = .ok (.iconst 1, 1) := by decide +kernel
theorem dX4_add_33 : decode cX4_add 33 = .ok (.iadd, 1) := by decide +kernel
theorem dX4_add_34 : decode cX4_add 34 = .ok (.putfield 9, 3) := by decide +kernel
theorem dX4_add_37 : decode cX4_add 37 = .ok (.return_, 1) := by decide +kernel
theorem dX4_copyFrom_0 : decode cX4_copyFrom 0 = .ok (.aload_n 0, 1) := by decide +kernel
theorem dX4_copyFrom_1 : decode cX4_copyFrom 1 = .ok (.aload_n 1, 1) := by decide +kernel
theorem dX4_copyFrom_2 : decode cX4_copyFrom 2 = .ok (.getfield 9, 3) := by decide +kernel
theorem dX4_copyFrom_5 : decode cX4_copyFrom 5 = .ok (.putfield 9, 3) := by decide +kernel
theorem dX4_copyFrom_8 : decode cX4_copyFrom 8 = .ok (.aload_n 1, 1) := by decide +kernel
theorem dX4_copyFrom_9 : decode cX4_copyFrom 9 = .ok (.getfield 15, 3) := by decide +kernel
theorem dX4_copyFrom_12 : decode cX4_copyFrom 12 = .ok (.iconst 0, 1) := by decide +kernel
theorem dX4_copyFrom_13 : decode cX4_copyFrom 13 = .ok (.aload_n 0, 1) := by decide +kernel
theorem dX4_copyFrom_14 : decode cX4_copyFrom 14 = .ok (.getfield 15, 3) := by decide +kernel
theorem dX4_copyFrom_17 : decode cX4_copyFrom 17 = .ok (.iconst 0, 1) := by decide +kernel
theorem dX4_copyFrom_18 : decode cX4_copyFrom 18 = .ok (.bipush 6, 2) := by decide +kernel
theorem dX4_copyFrom_20 : decode cX4_copyFrom 20 = .ok (.invokestatic 26, 3) := by decide +kernel
theorem dX4_copyFrom_23 : decode cX4_copyFrom 23 = .ok (.aload_n 1, 1) := by decide +kernel
theorem dX4_copyFrom_24 : decode cX4_copyFrom 24 = .ok (.getfield 19, 3) := by decide +kernel
theorem dX4_copyFrom_27 : decode cX4_copyFrom 27 = .ok (.iconst 0, 1) := by decide +kernel
theorem dX4_copyFrom_28 : decode cX4_copyFrom 28 = .ok (.aload_n 0, 1) := by decide +kernel
theorem dX4_copyFrom_29 : decode cX4_copyFrom 29 = .ok (.getfield 19, 3) := by decide +kernel
theorem dX4_copyFrom_32 : decode cX4_copyFrom 32 = .ok (.iconst 0, 1) := by decide +kernel
theorem dX4_copyFrom_33 : decode cX4_copyFrom 33 = .ok (.bipush 6, 2) := by decide +kernel
theorem dX4_copyFrom_35 : decode cX4_copyFrom 35 = .ok (.invokestatic 26, 3) := by decide +kernel
theorem dX4_copyFrom_38 : decode cX4_copyFrom 38 = .ok (.return_, 1) := by decide +kernel
theorem dX5_init_0 : decode cX5_init 0 = .ok (.aload_n 0, 1) := by decide +kernel
theorem dX5_init_1 : decode cX5_init 1 = .ok (.invokespecial 3, 3) := by decide +kernel
theorem dX5_init_4 : decode cX5_init 4 = .ok (.aload_n 0, 1) := by decide +kernel
theorem dX5_init_5 : decode cX5_init 5 = .ok (.iconst 0, 1) := by decide +kernel
theorem dX5_init_6 : decode cX5_init 6 = .ok (.putfield 9, 3) := by decide +kernel
theorem dX5_init_9 : decode cX5_init 9 = .ok (.aload_n 0, 1) := by decide +kernel
theorem dX5_init_10 : decode cX5_init 10 = .ok (.iconst 3, 1) := by decide +kernel
theorem dX5_init_11 : decode cX5_init 11 = .ok (.newarray .int, 2) := by decide +kernel
theorem dX5_init_13 : decode cX5_init 13 = .ok (.putfield 15, 3) := by decide +kernel
theorem dX5_init_16 : decode cX5_init 16 = .ok (.aload_n 0, 1) := by decide +kernel
theorem dX5_init_17 : decode cX5_init 17 = .ok (.iconst 2, 1) := by decide +kernel
theorem dX5_init_18 : decode cX5_init 18 = .ok (.newarray .int, 2) := by decide +kernel
theorem dX5_init_20 : decode cX5_init 20 = .ok (.putfield 19, 3) := by decide +kernel
theorem dX5_init_23 : decode cX5_init 23 = .ok (.aload_n 0, 1) := by decide +kernel
theorem dX5_init_24 : decode cX5_init 24 = .ok (.iconst 3, 1) := by decide +kernel
theorem dX5_init_25 : decode cX5_init 25 = .ok (.anewarray 22, 3) := by decide +kernel
theorem dX5_init_28 : decode cX5_init 28 = .ok (.putfield 24, 3) := by decide +kernel
theorem dX5_init_31 : decode cX5_init 31 = .ok (.aload_n 0, 1) := by decide +kernel
theorem dX5_init_32 : decode cX5_init 32 = .ok (.iconst 0, 1) := by decide +kernel
theorem dX5_init_33 : decode cX5_init 33 = .ok (.putfield 28, 3) := by decide +kernel
theorem dX5_init_36 : decode cX5_init 36 = .ok (.iconst 0, 1) := by decide +kernel
theorem dX5_init_37 : decode cX5_init 37 = .ok (.istore_n 1, 1) := by decide +kernel
theorem dX5_init_38 : decode cX5_init 38 = .ok (.iload_n 1, 1) := by decide +kernel
theorem dX5_init_39 : decode cX5_init 39 = .ok (.iconst 2, 1) := by decide +kernel
theorem dX5_init_40 : decode cX5_init 40 = .ok (.if_icmp .gt 22, 3) := by decide +kernel
theorem dX5_init_43 : decode cX5_init 43 = .ok (.aload_n 0, 1) := by decide +kernel
theorem dX5_init_44 : decode cX5_init 44 = .ok (.getfield 24, 3) := by decide +kernel
theorem dX5_init_47 : decode cX5_init 47 = .ok (.iload_n 1, 1) := by decide +kernel
theorem dX5_init_48 : decode cX5_init 48 = .ok (.new 22, 3) := by decide +kernel
theorem dX5_init_51 : decode cX5_init 51 = .ok (.dup, 1) := by decide +kernel
theorem dX5_init_52 : decode cX5_init 52 = .ok (.invokespecial 32, 3) := by decide +kernel
theorem dX5_init_55 : decode cX5_init 55 = .ok (.aastore, 1) := by decide +kernel
theorem dX5_init_56 : decode cX5_init 56 = .ok (.iinc 1 1, 3) := by decide +kernel
theorem dX5_init_59 : decode cX5_init 59 = .ok (.goto (-21), 3) := by decide +kernel
theorem dX5_init_62 : decode cX5_init 62 = .ok (.return_, 1) := by decide +kernel
theorem dX5_startFrom_0 : decode cX5_startFrom 0 = .ok (.aload_n 0, 1) := by decide +kernel
theorem dX5_startFrom_1 : decode cX5_startFrom 1 = .ok (.getfield 24, 3) := by decide +kernel
theorem dX5_startFrom_4 : decode cX5_startFrom 4 = .ok (.iconst 0, 1) := by decide +kernel
theorem dX5_startFrom_5 : decode cX5_startFrom 5 = .ok (.aaload, 1) := by decide +kernel
theorem dX5_startFrom_6 : decode cX5_startFrom 6 = .ok (.aload_n 1, 1) := by decide +kernel
theorem dX5_startFrom_7 : decode cX5_startFrom 7 = .ok (.invokevirtual 33, 3) := by decide +kernel
theorem dX5_startFrom_10 : decode cX5_startFrom 10 = .ok (.aload_n 0, 1) := by decide +kernel
theorem dX5_startFrom_11 : decode cX5_startFrom 11 = .ok (.iconst 0, 1) := by decide +kernel
theorem dX5_startFrom_12 : decode cX5_startFrom 12 = .ok (.putfield 9, 3) := by decide +kernel
theorem dX5_startFrom_15 : decode cX5_startFrom 15 = .ok (.return_, 1) := by decide +kernel
theorem dX5_foundFold_0 : decode cX5_foundFold 0 = .ok (.iload_n 1, 1) := by decide +kernel
theorem dX5_foundFold_1 : decode cX5_foundFold 1 = .ok (.ifCond .lt 25, 3) := by decide +kernel
theorem dX5_foundFold_4 : decode cX5_foundFold 4 = .ok (.iload_n 1, 1) := by decide +kernel
theorem dX5_foundFold_5 : decode cX5_foundFold 5 = .ok (.aload_n 0, 1) := by decide +kernel
theorem dX5_foundFold_6 : decode cX5_foundFold 6 = .ok (.getfield 9, 3) := by decide +kernel
theorem dX5_foundFold_9 : decode cX5_foundFold 9 = .ok (.if_icmp .ge 17, 3) := by decide +kernel
theorem dX5_foundFold_12 : decode cX5_foundFold 12 = .ok (.iload_n 1, 1) := by decide +kernel
theorem dX5_foundFold_13 : decode cX5_foundFold 13 = .ok (.iconst 2, 1) := by decide +kernel
theorem dX5_foundFold_14 : decode cX5_foundFold 14 = .ok (.if_icmp .gt 12, 3) := by decide +kernel
theorem dX5_foundFold_17 : decode cX5_foundFold 17 = .ok (.aload_n 0, 1) := by decide +kernel
theorem dX5_foundFold_18 : decode cX5_foundFold 18 = .ok (.getfield 15, 3) := by decide +kernel
theorem dX5_foundFold_21 : decode cX5_foundFold 21 = .ok (.iload_n 1, 1) := by decide +kernel
theorem dX5_foundFold_22 : decode cX5_foundFold 22 = .ok (.iaload, 1) := by decide +kernel
theorem dX5_foundFold_23 : decode cX5_foundFold 23 = .ok (.goto 5, 3) := by decide +kernel
theorem dX5_foundFold_26 : decode cX5_foundFold 26 = .ok (.bipush (-5), 2) := by decide +kernel
theorem dX5_foundFold_28 : decode cX5_foundFold 28 = .ok (.ireturn, 1) := by decide +kernel
theorem dX5_findMeeting_0 : decode cX5_findMeeting 0 = .ok (.aload_n 0, 1) := by decide +kernel
theorem dX5_findMeeting_1 : decode cX5_findMeeting 1 = .ok (.getfield 24, 3) := by decide +kernel
theorem dX5_findMeeting_4 : decode cX5_findMeeting 4 = .ok (.iconst 0, 1) := by decide +kernel
theorem dX5_findMeeting_5 : decode cX5_findMeeting 5 = .ok (.aaload, 1) := by decide +kernel
theorem dX5_findMeeting_6 : decode cX5_findMeeting 6 = .ok (.iload_n 1, 1) := by decide +kernel
theorem dX5_findMeeting_7 : decode cX5_findMeeting 7 = .ok (.iload_n 2, 1) := by decide +kernel
theorem dX5_findMeeting_8 : decode cX5_findMeeting 8 = .ok (.invokevirtual 37, 3) := by decide +kernel
theorem dX5_findMeeting_11 : decode cX5_findMeeting 11 = .ok (.iconst 1, 1) := by decide +kernel
theorem dX5_findMeeting_12 : decode cX5_findMeeting 12 = .ok (.if_icmp .ne 5, 3) := by decide +kernel
theorem dX5_findMeeting_15 : decode cX5_findMeeting 15 = .ok (.iconst 1, 1) := by decide +kernel
theorem dX5_findMeeting_16 : decode cX5_findMeeting 16 = .ok (.ireturn, 1) := by decide +kernel
theorem dX5_findMeeting_17 : decode cX5_findMeeting 17 = .ok (.iconst 0, 1) := by decide +kernel
theorem dX5_findMeeting_18 : decode cX5_findMeeting 18 = .ok (.istore_n 3, 1) := by decide +kernel
theorem dX5_findMeeting_19 : decode cX5_findMeeting 19 = .ok (.iload_n 3, 1) := by decide +kernel
theorem dX5_findMeeting_20 : decode cX5_findMeeting 20 = .ok (.iconst 2, 1) := by decide +kernel
theorem dX5_findMeeting_21 : decode cX5_findMeeting 21 = .ok (.if_icmp .gt 85, 3) := by decide +kernel
theorem dX5_findMeeting_24 : decode cX5_findMeeting 24 = .ok (.iconst 0, 1) := by decide +kernel
theorem dX5_findMeeting_25 : decode cX5_findMeeting 25 = .ok (.istore 4, 2) := by decide +kernel
theorem dX5_findMeeting_27 : decode cX5_findMeeting 27 = .ok (.iload 4, 2) := by decide +kernel
theorem dX5_findMeeting_29 : decode cX5_findMeeting 29 = .ok (.getstatic 41, 3) := by decide +kernel
theorem dX5_findMeeting_32 : decode cX5_findMeeting 32 = .ok (.iload_n 3, 1) := by decide +kernel
theorem dX5_findMeeting_33 : decode cX5_findMeeting 33 = .ok (.iaload, 1) := by decide +kernel
theorem dX5_findMeeting_34 : decode cX5_findMeeting 34 = .ok (.if_icmp .ge 66, 3) := by decide +kernel
theorem dX5_findMeeting_37 : decode cX5_findMeeting 37 = .ok (.aload_n 0, 1) := by decide +kernel
theorem dX5_findMeeting_38 : decode cX5_findMeeting 38 = .ok (.iload_n 3, 1) := by decide +kernel
theorem dX5_findMeeting_39 : decode cX5_findMeeting 39 = .ok (.iload 4, 2) := by decide +kernel
theorem dX5_findMeeting_41 : decode cX5_findMeeting 41 = .ok (.invokevirtual 44, 3) := by decide +kernel
theorem dX5_findMeeting_44 : decode cX5_findMeeting 44 = .ok (.ifCond .eq 17, 3) := by decide +kernel
theorem dX5_findMeeting_47 : decode cX5_findMeeting 47 = .ok (.aload_n 0, 1) := by decide +kernel
theorem dX5_findMeeting_48 : decode cX5_findMeeting 48 = .ok (.getfield 24, 3) := by decide +kernel
theorem dX5_findMeeting_51 : decode cX5_findMeeting 51 = .ok (.iload_n 3, 1) := by decide +kernel
theorem dX5_findMeeting_52 : decode cX5_findMeeting 52 = .ok (.aaload, 1) := by decide +kernel
theorem dX5_findMeeting_53 : decode cX5_findMeeting 53 = .ok (.iload_n 1, 1) := by decide +kernel
theorem dX5_findMeeting_54 : decode cX5_findMeeting 54 = .ok (.iload_n 2, 1) := by decide +kernel
theorem dX5_findMeeting_55 : decode cX5_findMeeting 55 = .ok (.invokevirtual 48, 3) := by decide +kernel
theorem dX5_findMeeting_58 : decode cX5_findMeeting 58 = .ok (.goto 5, 3) := by decide +kernel
theorem dX5_findMeeting_61 : decode cX5_findMeeting 61 = .ok (.bipush (-9), 2) := by decide +kernel
theorem dX5_findMeeting_63 : decode cX5_findMeeting 63 = .ok (.istore 5, 2) := by decide +kernel
theorem dX5_findMeeting_65 : decode cX5_findMeeting 65 = .ok (.iload 5, 2) := by decide +kernel
theorem dX5_findMeeting_67 : decode cX5_findMeeting 67 = .ok (.bipush (-9), 2) := by decide +kernel
theorem dX5_findMeeting_69 : decode cX5_findMeeting 69 = .ok (.if_icmp .eq 25, 3) := by decide +kernel
theorem dX5_findMeeting_72 : decode cX5_findMeeting 72 = .ok (.aload_n 0, 1) := by decide +kernel
theorem dX5_findMeeting_73 : decode cX5_findMeeting 73 = .ok (.iload_n 3, 1) := by decide +kernel
theorem dX5_findMeeting_74 : decode cX5_findMeeting 74 = .ok (.invokevirtual 51, 3) := by decide +kernel
theorem dX5_findMeeting_77 : decode cX5_findMeeting 77 = .ok (.aload_n 0, 1) := by decide +kernel
theorem dX5_findMeeting_78 : decode cX5_findMeeting 78 = .ok (.getfield 15, 3) := by decide +kernel
theorem dX5_findMeeting_81 : decode cX5_findMeeting 81 = .ok (.iload_n 3, 1) := by decide +kernel
theorem dX5_findMeeting_82 : decode cX5_findMeeting 82 = .ok (.iload 5, 2) := by decide +kernel
theorem dX5_findMeeting_84 : decode cX5_findMeeting 84 = .ok (.iastore, 1) := by decide +kernel
theorem dX5_findMeeting_85 : decode cX5_findMeeting 85 = .ok (.aload_n 0, 1) := by decide +kernel
theorem dX5_findMeeting_86 : decode cX5_findMeeting 86 = .ok (.iload_n 3, 1) := by decide +kernel
theorem dX5_findMeeting_87 : decode cX5_findMeeting 87 = .ok (.iconst 1, 1) := by decide +kernel
theorem dX5_findMeeting_88 : decode cX5_findMeeting 88 = .ok (.iadd, 1) := by decide +kernel
theorem dX5_findMeeting_89 : decode cX5_findMeeting 89 = .ok (.putfield 9, 3) := by decide +kernel
theorem dX5_findMeeting_92 : decode cX5_findMeeting 92 = .ok (.iconst 1, 1) := by decide +kernel
theorem dX5_findMeeting_93 : decode cX5_findMeeting 93 = .ok (.ireturn, 1) := by decide +kernel
theorem dX5_findMeeting_94 : decode cX5_findMeeting 94 = .ok (.iinc 4 1, 3) := by decide +kernel
theorem dX5_findMeeting_97 : decode cX5_findMeeting 97 = .ok (.goto (-70), 3) := by decide +kernel
theorem dX5_findMeeting_100 : decode cX5_findMeeting 100 = .ok (.iinc 3 1, 3) := by decide +kernel
theorem dX5_findMeeting_103 : decode cX5_findMeeting 103 = .ok (.goto (-84), 3) := by decide +kernel
theorem dX5_findMeeting_106 : decode cX5_findMeeting 106 = .ok (.iconst 0, 1) := by decide +kernel
theorem dX5_findMeeting_107 : decode cX5_findMeeting 107 = .ok (.ireturn, 1) := by decide +kernel
theorem dX5_findBestGain_0 : decode cX5_findBestGain 0 = .ok (.aload_n 0, 1) := by decide +kernel
theorem dX5_findBestGain_1 : decode cX5_findBestGain 1 = .ok (.getfield 24, 3) := by decide +kernel
theorem dX5_findBestGain_4 : decode cX5_findBestGain 4 = .ok (.iconst 0, 1) := by decide +kernel
theorem dX5_findBestGain_5 : decode cX5_findBestGain 5 = .ok (.aaload, 1) := by decide +kernel
theorem dX5_findBestGain_6 : decode cX5_findBestGain 6 = .ok (.iload_n 1, 1) := by decide +kernel
theorem dX5_findBestGain_7 : decode cX5_findBestGain 7 = .ok (.aload_n 2, 1) := by decide +kernel
theorem dX5_findBestGain_8 : decode cX5_findBestGain 8 = .ok (.invokevirtual 55, 3) := by decide +kernel
theorem dX5_findBestGain_11 : decode cX5_findBestGain 11 = .ok (.istore_n 3, 1) := by decide +kernel
theorem dX5_findBestGain_12 : decode cX5_findBestGain 12 = .ok (.iconst 1, 1) := by decide +kernel
theorem dX5_findBestGain_13 : decode cX5_findBestGain 13 = .ok (.istore 4, 2) := by decide +kernel
theorem dX5_findBestGain_15 : decode cX5_findBestGain 15 = .ok (.iload 4, 2) := by decide +kernel
theorem dX5_findBestGain_17 : decode cX5_findBestGain 17 = .ok (.iconst 2, 1) := by decide +kernel
theorem dX5_findBestGain_18 : decode cX5_findBestGain 18 = .ok (.if_icmp .gt 73, 3) := by decide +kernel
theorem dX5_findBestGain_21 : decode cX5_findBestGain 21 = .ok (.iconst 0, 1) := by decide +kernel
theorem dX5_findBestGain_22 : decode cX5_findBestGain 22 = .ok (.istore 5, 2) := by decide +kernel
theorem dX5_findBestGain_24 : decode cX5_findBestGain 24 = .ok (.iload 5, 2) := by decide +kernel
theorem dX5_findBestGain_26 : decode cX5_findBestGain 26 = .ok (.getstatic 41, 3) := by decide +kernel
theorem dX5_findBestGain_29 : decode cX5_findBestGain 29 = .ok (.iload 4, 2) := by decide +kernel
theorem dX5_findBestGain_31 : decode cX5_findBestGain 31 = .ok (.iaload, 1) := by decide +kernel
theorem dX5_findBestGain_32 : decode cX5_findBestGain 32 = .ok (.if_icmp .ge 53, 3) := by decide +kernel
theorem dX5_findBestGain_35 : decode cX5_findBestGain 35 = .ok (.aload_n 0, 1) := by decide +kernel
theorem dX5_findBestGain_36 : decode cX5_findBestGain 36 = .ok (.iload 4, 2) := by decide +kernel
theorem dX5_findBestGain_38 : decode cX5_findBestGain 38 = .ok (.iload 5, 2) := by decide +kernel
theorem dX5_findBestGain_40 : decode cX5_findBestGain 40 = .ok (.invokevirtual 44, 3) := by decide +kernel
theorem dX5_findBestGain_43 : decode cX5_findBestGain 43 = .ok (.ifCond .eq 18, 3) := by decide +kernel
theorem dX5_findBestGain_46 : decode cX5_findBestGain 46 = .ok (.aload_n 0, 1) := by decide +kernel
theorem dX5_findBestGain_47 : decode cX5_findBestGain 47 = .ok (.getfield 24, 3) := by decide +kernel
theorem dX5_findBestGain_50 : decode cX5_findBestGain 50 = .ok (.iload 4, 2) := by decide +kernel
theorem dX5_findBestGain_52 : decode cX5_findBestGain 52 = .ok (.aaload, 1) := by decide +kernel
theorem dX5_findBestGain_53 : decode cX5_findBestGain 53 = .ok (.iload_n 1, 1) := by decide +kernel
theorem dX5_findBestGain_54 : decode cX5_findBestGain 54 = .ok (.aload_n 2, 1) := by decide +kernel
theorem dX5_findBestGain_55 : decode cX5_findBestGain 55 = .ok (.invokevirtual 55, 3) := by decide +kernel
theorem dX5_findBestGain_58 : decode cX5_findBestGain 58 = .ok (.goto 4, 3) := by decide +kernel
theorem dX5_findBestGain_61 : decode cX5_findBestGain 61 = .ok (.iconst 0, 1) := by decide +kernel
theorem dX5_findBestGain_62 : decode cX5_findBestGain 62 = .ok (.istore 6, 2) := by decide +kernel
theorem dX5_findBestGain_64 : decode cX5_findBestGain 64 = .ok (.iload 6, 2) := by decide +kernel
theorem dX5_findBestGain_66 : decode cX5_findBestGain 66 = .ok (.iload_n 3, 1) := by decide +kernel
theorem dX5_findBestGain_67 : decode cX5_findBestGain 67 = .ok (.if_icmp .le 12, 3) := by decide +kernel
theorem dX5_findBestGain_70 : decode cX5_findBestGain 70 = .ok (.iload 6, 2) := by decide +kernel
theorem dX5_findBestGain_72 : decode cX5_findBestGain 72 = .ok (.istore_n 3, 1) := by decide +kernel
theorem dX5_findBestGain_73 : decode cX5_findBestGain 73 = .ok (.aload_n 0, 1) := by decide +kernel
theorem dX5_findBestGain_74 : decode cX5_findBestGain 74 = .ok (.iload 4, 2) := by decide +kernel
theorem dX5_findBestGain_76 : decode cX5_findBestGain 76 = .ok (.invokevirtual 51, 3) := by decide +kernel
theorem dX5_findBestGain_79 : decode cX5_findBestGain 79 = .ok (.iinc 5 1, 3) := by decide +kernel
theorem dX5_findBestGain_82 : decode cX5_findBestGain 82 = .ok (.goto (-58), 3) := by decide +kernel
theorem dX5_findBestGain_85 : decode cX5_findBestGain 85 = .ok (.iinc 4 1, 3) := by decide +kernel
theorem dX5_findBestGain_88 : decode cX5_findBestGain 88 = .ok (.goto (-73), 3) := by decide +kernel
theorem dX5_findBestGain_91 : decode cX5_findBestGain 91 = .ok (.iload_n 3, 1) := by decide +kernel
theorem dX5_findBestGain_92 : decode cX5_findBestGain 92 = .ok (.ireturn, 1) := by decide +kernel
theorem dX5_countFitting_0 : decode cX5_countFitting 0 = .ok (.iload_n 1, 1) := by decide +kernel
theorem dX5_countFitting_1 : decode cX5_countFitting 1 = .ok (.ifCond .lt 8, 3) := by decide +kernel
theorem dX5_countFitting_4 : decode cX5_countFitting 4 = .ok (.iload_n 1, 1) := by decide +kernel
theorem dX5_countFitting_5 : decode cX5_countFitting 5 = .ok (.iconst 2, 1) := by decide +kernel
theorem dX5_countFitting_6 : decode cX5_countFitting 6 = .ok (.if_icmp .le 5, 3) := by decide +kernel
theorem dX5_countFitting_9 : decode cX5_countFitting 9 = .ok (.iconst 0, 1) := by decide +kernel
theorem dX5_countFitting_10 : decode cX5_countFitting 10 = .ok (.ireturn, 1) := by decide +kernel
theorem dX5_countFitting_11 : decode cX5_countFitting 11 = .ok (.iconst 0, 1) := by decide +kernel
theorem dX5_countFitting_12 : decode cX5_countFitting 12 = .ok (.istore_n 3, 1) := by decide +kernel
theorem dX5_countFitting_13 : decode cX5_countFitting 13 = .ok (.iconst 0, 1) := by decide +kernel
theorem dX5_countFitting_14 : decode cX5_countFitting 14 = .ok (.istore 4, 2) := by decide +kernel
theorem dX5_countFitting_16 : decode cX5_countFitting 16 = .ok (.iload 4, 2) := by decide +kernel
theorem dX5_countFitting_18 : decode cX5_countFitting 18 = .ok (.getstatic 41, 3) := by decide +kernel
theorem dX5_countFitting_21 : decode cX5_countFitting 21 = .ok (.iload_n 1, 1) := by decide +kernel
theorem dX5_countFitting_22 : decode cX5_countFitting 22 = .ok (.iaload, 1) := by decide +kernel
theorem dX5_countFitting_23 : decode cX5_countFitting 23 = .ok (.if_icmp .ge 35, 3) := by decide +kernel
theorem dX5_countFitting_26 : decode cX5_countFitting 26 = .ok (.aload_n 0, 1) := by decide +kernel
theorem dX5_countFitting_27 : decode cX5_countFitting 27 = .ok (.iload_n 1, 1) := by decide +kernel
theorem dX5_countFitting_28 : decode cX5_countFitting 28 = .ok (.iload 4, 2) := by decide +kernel
theorem dX5_countFitting_30 : decode cX5_countFitting 30 = .ok (.invokevirtual 44, 3) := by decide +kernel
theorem dX5_countFitting_33 : decode cX5_countFitting 33 = .ok (.ifCond .eq 19, 3) := by decide +kernel
theorem dX5_countFitting_36 : decode cX5_countFitting 36 = .ok (.aload_n 0, 1) := by decide +kernel
theorem dX5_countFitting_37 : decode cX5_countFitting 37 = .ok (.getfield 24, 3) := by decide +kernel
theorem dX5_countFitting_40 : decode cX5_countFitting 40 = .ok (.iload_n 1, 1) := by decide +kernel
theorem dX5_countFitting_41 : decode cX5_countFitting 41 = .ok (.aaload, 1) := by decide +kernel
theorem dX5_countFitting_42 : decode cX5_countFitting 42 = .ok (.aload_n 2, 1) := by decide +kernel
theorem dX5_countFitting_43 : decode cX5_countFitting 43 = .ok (.invokevirtual 59, 3) := by decide +kernel
theorem dX5_countFitting_46 : decode cX5_countFitting 46 = .ok (.ifCond .eq 6, 3) := by decide +kernel
theorem dX5_countFitting_49 : decode cX5_countFitting 49 = .ok (.iinc 3 1, 3) := by decide +kernel
theorem dX5_countFitting_52 : decode cX5_countFitting 52 = .ok (.iinc 4 1, 3) := by decide +kernel
theorem dX5_countFitting_55 : decode cX5_countFitting 55 = .ok (.goto (-39), 3) := by decide +kernel
theorem dX5_countFitting_58 : decode cX5_countFitting 58 = .ok (.iload_n 3, 1) := by decide +kernel
theorem dX5_countFitting_59 : decode cX5_countFitting 59 = .ok (.iload_n 1, 1) := by decide +kernel
theorem dX5_countFitting_60 : decode cX5_countFitting 60 = .ok (.ishl, 1) := by decide +kernel
theorem dX5_countFitting_61 : decode cX5_countFitting 61 = .ok (.ireturn, 1) := by decide +kernel
theorem dX5_noteFound_0 : decode cX5_noteFound 0 = .ok (.aload_n 0, 1) := by decide +kernel
theorem dX5_noteFound_1 : decode cX5_noteFound 1 = .ok (.getfield 19, 3) := by decide +kernel
theorem dX5_noteFound_4 : decode cX5_noteFound 4 = .ok (.iconst 0, 1) := by decide +kernel
theorem dX5_noteFound_5 : decode cX5_noteFound 5 = .ok (.aload_n 0, 1) := by decide +kernel
theorem dX5_noteFound_6 : decode cX5_noteFound 6 = .ok (.getfield 15, 3) := by decide +kernel
theorem dX5_noteFound_9 : decode cX5_noteFound 9 = .ok (.iconst 0, 1) := by decide +kernel
theorem dX5_noteFound_10 : decode cX5_noteFound 10 = .ok (.iload_n 1, 1) := by decide +kernel
theorem dX5_noteFound_11 : decode cX5_noteFound 11 = .ok (.invokestatic 63, 3) := by decide +kernel
theorem dX5_noteFound_14 : decode cX5_noteFound 14 = .ok (.aload_n 0, 1) := by decide +kernel
theorem dX5_noteFound_15 : decode cX5_noteFound 15 = .ok (.iload_n 1, 1) := by decide +kernel
theorem dX5_noteFound_16 : decode cX5_noteFound 16 = .ok (.putfield 9, 3) := by decide +kernel
theorem dX5_noteFound_19 : decode cX5_noteFound 19 = .ok (.return_, 1) := by decide +kernel
theorem dX5_lay_0 : decode cX5_lay 0 = .ok (.iload_n 1, 1) := by decide +kernel
theorem dX5_lay_1 : decode cX5_lay 1 = .ok (.ifCond .ne 5, 3) := by decide +kernel
theorem dX5_lay_4 : decode cX5_lay 4 = .ok (.iconst 1, 1) := by decide +kernel
theorem dX5_lay_5 : decode cX5_lay 5 = .ok (.ireturn, 1) := by decide +kernel
theorem dX5_lay_6 : decode cX5_lay 6 = .ok (.iload_n 1, 1) := by decide +kernel
theorem dX5_lay_7 : decode cX5_lay 7 = .ok (.iconst 1, 1) := by decide +kernel
theorem dX5_lay_8 : decode cX5_lay 8 = .ok (.if_icmp .ne 10, 3) := by decide +kernel
theorem dX5_lay_11 : decode cX5_lay 11 = .ok (.aload_n 0, 1) := by decide +kernel
theorem dX5_lay_12 : decode cX5_lay 12 = .ok (.iconst 0, 1) := by decide +kernel
theorem dX5_lay_13 : decode cX5_lay 13 = .ok (.iload_n 2, 1) := by decide +kernel
theorem dX5_lay_14 : decode cX5_lay 14 = .ok (.invokevirtual 69, 3) := by decide +kernel
theorem dX5_lay_17 : decode cX5_lay 17 = .ok (.ireturn, 1) := by decide +kernel
theorem dX5_lay_18 : decode cX5_lay 18 = .ok (.iload_n 2, 1) := by decide +kernel
theorem dX5_lay_19 : decode cX5_lay 19 = .ok (.bipush 12, 2) := by decide +kernel
theorem dX5_lay_21 : decode cX5_lay 21 = .ok (.irem, 1) := by decide +kernel
theorem dX5_lay_22 : decode cX5_lay 22 = .ok (.istore_n 3, 1) := by decide +kernel
theorem dX5_lay_23 : decode cX5_lay 23 = .ok (.iload_n 3, 1) := by decide +kernel
theorem dX5_lay_24 : decode cX5_lay 24 = .ok (.ifCond .ne 16, 3) := by decide +kernel
theorem dX5_lay_27 : decode cX5_lay 27 = .ok (.aload_n 0, 1) := by decide +kernel
theorem dX5_lay_28 : decode cX5_lay 28 = .ok (.aload_n 0, 1) := by decide +kernel
theorem dX5_lay_29 : decode cX5_lay 29 = .ok (.iconst 0, 1) := by decide +kernel
theorem dX5_lay_30 : decode cX5_lay 30 = .ok (.iload_n 2, 1) := by decide +kernel
theorem dX5_lay_31 : decode cX5_lay 31 = .ok (.bipush 12, 2) := by decide +kernel
theorem dX5_lay_33 : decode cX5_lay 33 = .ok (.idiv, 1) := by decide +kernel
theorem dX5_lay_34 : decode cX5_lay 34 = .ok (.invokevirtual 69, 3) := by decide +kernel
theorem dX5_lay_37 : decode cX5_lay 37 = .ok (.putfield 28, 3) := by decide +kernel
theorem dX5_lay_40 : decode cX5_lay 40 = .ok (.aload_n 0, 1) := by decide +kernel
theorem dX5_lay_41 : decode cX5_lay 41 = .ok (.getfield 28, 3) := by decide +kernel
theorem dX5_lay_44 : decode cX5_lay 44 = .ok (.ifCond .eq 16, 3) := by decide +kernel
theorem dX5_lay_47 : decode cX5_lay 47 = .ok (.aload_n 0, 1) := by decide +kernel
theorem dX5_lay_48 : decode cX5_lay 48 = .ok (.iconst 1, 1) := by decide +kernel
theorem dX5_lay_49 : decode cX5_lay 49 = .ok (.iload_n 3, 1) := by decide +kernel
theorem dX5_lay_50 : decode cX5_lay 50 = .ok (.invokevirtual 69, 3) := by decide +kernel
theorem dX5_lay_53 : decode cX5_lay 53 = .ok (.ifCond .eq 7, 3) := by decide +kernel
theorem dX5_lay_56 : decode cX5_lay 56 = .ok (.iconst 1, 1) := by decide +kernel
theorem dX5_lay_57 : decode cX5_lay 57 = .ok (.goto 4, 3) := by decide +kernel
theorem dX5_lay_60 : decode cX5_lay 60 = .ok (.iconst 0, 1) := by decide +kernel
theorem dX5_lay_61 : decode cX5_lay 61 = .ok (.ireturn, 1) := by decide +kernel
theorem dX5_layFold_0 : decode cX5_layFold 0 = .ok (.iload_n 1, 1) := by decide +kernel
theorem dX5_layFold_1 : decode cX5_layFold 1 = .ok (.ifCond .lt 18, 3) := by decide +kernel
theorem dX5_layFold_4 : decode cX5_layFold 4 = .ok (.iload_n 1, 1) := by decide +kernel
theorem dX5_layFold_5 : decode cX5_layFold 5 = .ok (.iconst 2, 1) := by decide +kernel
theorem dX5_layFold_6 : decode cX5_layFold 6 = .ok (.if_icmp .ge 13, 3) := by decide +kernel
theorem dX5_layFold_9 : decode cX5_layFold 9 = .ok (.iload_n 2, 1) := by decide +kernel
theorem dX5_layFold_10 : decode cX5_layFold 10 = .ok (.ifCond .lt 9, 3) := by decide +kernel
theorem dX5_layFold_13 : decode cX5_layFold 13 = .ok (.iload_n 2, 1) := by decide +kernel
theorem dX5_layFold_14 : decode cX5_layFold 14 = .ok (.bipush 12, 2) := by decide +kernel
theorem dX5_layFold_16 : decode cX5_layFold 16 = .ok (.if_icmp .lt 5, 3) := by decide +kernel
theorem dX5_layFold_19 : decode cX5_layFold 19 = .ok (.iconst 0, 1) := by decide +kernel
theorem dX5_layFold_20 : decode cX5_layFold 20 = .ok (.ireturn, 1) := by decide +kernel
theorem dX5_layFold_21 : decode cX5_layFold 21 = .ok (.getstatic 72, 3) := by decide +kernel
theorem dX5_layFold_24 : decode cX5_layFold 24 = .ok (.iload_n 2, 1) := by decide +kernel
theorem dX5_layFold_25 : decode cX5_layFold 25 = .ok (.iaload, 1) := by decide +kernel
theorem dX5_layFold_26 : decode cX5_layFold 26 = .ok (.istore_n 3, 1) := by decide +kernel
theorem dX5_layFold_27 : decode cX5_layFold 27 = .ok (.aload_n 0, 1) := by decide +kernel
theorem dX5_layFold_28 : decode cX5_layFold 28 = .ok (.getfield 24, 3) := by decide +kernel
theorem dX5_layFold_31 : decode cX5_layFold 31 = .ok (.iload_n 1, 1) := by decide +kernel
theorem dX5_layFold_32 : decode cX5_layFold 32 = .ok (.aaload, 1) := by decide +kernel
theorem dX5_layFold_33 : decode cX5_layFold 33 = .ok (.iload_n 3, 1) := by decide +kernel
theorem dX5_layFold_34 : decode cX5_layFold 34 = .ok (.invokevirtual 75, 3) := by decide +kernel
theorem dX5_layFold_37 : decode cX5_layFold 37 = .ok (.ifCond .ne 5, 3) := by decide +kernel
theorem dX5_layFold_40 : decode cX5_layFold 40 = .ok (.iconst 0, 1) := by decide +kernel
theorem dX5_layFold_41 : decode cX5_layFold 41 = .ok (.ireturn, 1) := by decide +kernel
theorem dX5_layFold_42 : decode cX5_layFold 42 = .ok (.aload_n 0, 1) := by decide +kernel
theorem dX5_layFold_43 : decode cX5_layFold 43 = .ok (.getfield 19, 3) := by decide +kernel
theorem dX5_layFold_46 : decode cX5_layFold 46 = .ok (.iload_n 1, 1) := by decide +kernel
theorem dX5_layFold_47 : decode cX5_layFold 47 = .ok (.iload_n 3, 1) := by decide +kernel
theorem dX5_layFold_48 : decode cX5_layFold 48 = .ok (.iastore, 1) := by decide +kernel
theorem dX5_layFold_49 : decode cX5_layFold 49 = .ok (.aload_n 0, 1) := by decide +kernel
theorem dX5_layFold_50 : decode cX5_layFold 50 = .ok (.getfield 24, 3) := by decide +kernel
theorem dX5_layFold_53 : decode cX5_layFold 53 = .ok (.iload_n 1, 1) := by decide +kernel
theorem dX5_layFold_54 : decode cX5_layFold 54 = .ok (.iconst 1, 1) := by decide +kernel
theorem dX5_layFold_55 : decode cX5_layFold 55 = .ok (.iadd, 1) := by decide +kernel
theorem dX5_layFold_56 : decode cX5_layFold 56 = .ok (.aaload, 1) := by decide +kernel
theorem dX5_layFold_57 : decode cX5_layFold 57 = .ok (.aload_n 0, 1) := by decide +kernel
theorem dX5_layFold_58 : decode cX5_layFold 58 = .ok (.getfield 24, 3) := by decide +kernel
theorem dX5_layFold_61 : decode cX5_layFold 61 = .ok (.iload_n 1, 1) := by decide +kernel
theorem dX5_layFold_62 : decode cX5_layFold 62 = .ok (.aaload, 1) := by decide +kernel
theorem dX5_layFold_63 : decode cX5_layFold 63 = .ok (.invokevirtual 33, 3) := by decide +kernel
theorem dX5_layFold_66 : decode cX5_layFold 66 = .ok (.aload_n 0, 1) := by decide +kernel
theorem dX5_layFold_67 : decode cX5_layFold 67 = .ok (.getfield 24, 3) := by decide +kernel
theorem dX5_layFold_70 : decode cX5_layFold 70 = .ok (.iload_n 1, 1) := by decide +kernel
theorem dX5_layFold_71 : decode cX5_layFold 71 = .ok (.iconst 1, 1) := by decide +kernel
theorem dX5_layFold_72 : decode cX5_layFold 72 = .ok (.iadd, 1) := by decide +kernel
theorem dX5_layFold_73 : decode cX5_layFold 73 = .ok (.aaload, 1) := by decide +kernel
theorem dX5_layFold_74 : decode cX5_layFold 74 = .ok (.iload_n 3, 1) := by decide +kernel
theorem dX5_layFold_75 : decode cX5_layFold 75 = .ok (.invokevirtual 79, 3) := by decide +kernel
theorem dX5_layFold_78 : decode cX5_layFold 78 = .ok (.iconst 1, 1) := by decide +kernel
theorem dX5_layFold_79 : decode cX5_layFold 79 = .ok (.ireturn, 1) := by decide +kernel
theorem dX6_init_0 : decode cX6_init 0 = .ok (.aload_n 0, 1) := by decide +kernel
theorem dX6_init_1 : decode cX6_init 1 = .ok (.invokespecial 3, 3) := by decide +kernel
theorem dX6_init_4 : decode cX6_init 4 = .ok (.aload_n 0, 1) := by decide +kernel
theorem dX6_init_5 : decode cX6_init 5 = .ok (.new 9, 3) := by decide +kernel
theorem dX6_init_8 : decode cX6_init 8 = .ok (.dup, 1) := by decide +kernel
theorem dX6_init_9 : decode cX6_init 9 = .ok (.invokespecial 11, 3) := by decide +kernel
theorem dX6_init_12 : decode cX6_init 12 = .ok (.putfield 12, 3) := by decide +kernel
theorem dX6_init_15 : decode cX6_init 15 = .ok (.aload_n 0, 1) := by decide +kernel
theorem dX6_init_16 : decode cX6_init 16 = .ok (.new 18, 3) := by decide +kernel
theorem dX6_init_19 : decode cX6_init 19 = .ok (.dup, 1) := by decide +kernel
theorem dX6_init_20 : decode cX6_init 20 = .ok (.invokespecial 20, 3) := by decide +kernel
theorem dX6_init_23 : decode cX6_init 23 = .ok (.putfield 21, 3) := by decide +kernel
theorem dX6_init_26 : decode cX6_init 26 = .ok (.aload_n 0, 1) := by decide +kernel
theorem dX6_init_27 : decode cX6_init 27 = .ok (.iconst 0, 1) := by decide +kernel
theorem dX6_init_28 : decode cX6_init 28 = .ok (.putfield 25, 3) := by decide +kernel
theorem dX6_init_31 : decode cX6_init 31 = .ok (.aload_n 0, 1) := by decide +kernel
theorem dX6_init_32 : decode cX6_init 32 = .ok (.iconst 0, 1) := by decide +kernel
theorem dX6_init_33 : decode cX6_init 33 = .ok (.putfield 29, 3) := by decide +kernel
theorem dX6_init_36 : decode cX6_init 36 = .ok (.aload_n 0, 1) := by decide +kernel
theorem dX6_init_37 : decode cX6_init 37 = .ok (.iconst 0, 1) := by decide +kernel
theorem dX6_init_38 : decode cX6_init 38 = .ok (.putfield 32, 3) := by decide +kernel
theorem dX6_init_41 : decode cX6_init 41 = .ok (.aload_n 0, 1) := by decide +kernel
end
section
theorem dX6_init_42 : decode cX6_init 42 = .ok (.iconst 0, 1) := by decide +kernel
theorem dX6_init_43 : decode cX6_init 43 = .ok (.putfield 35, 3) := by decide +kernel
theorem dX6_init_46 : decode cX6_init 46 = .ok (.aload_n 0, 1) := by decide +kernel
theorem dX6_init_47 : decode cX6_init 47 = .ok (.iconst 0, 1) := by decide +kernel
theorem dX6_init_48 : decode cX6_init 48 = .ok (.putfield 38, 3) := by decide +kernel
theorem dX6_init_51 : decode cX6_init 51 = .ok (.aload_n 0, 1) := by decide +kernel
theorem dX6_init_52 : decode cX6_init 52 = .ok (.iconst 0, 1) := by decide +kernel
theorem dX6_init_53 : decode cX6_init 53 = .ok (.putfield 41, 3) := by decide +kernel
theorem dX6_init_56 : decode cX6_init 56 = .ok (.return_, 1) := by decide +kernel
theorem dX6_readAll_0 : decode cX6_readAll 0 = .ok (.aload_n 0, 1) := by decide +kernel
theorem dX6_readAll_1 : decode cX6_readAll 1 = .ok (.getfield 21, 3) := by decide +kernel
theorem dX6_readAll_4 : decode cX6_readAll 4 = .ok (.invokevirtual 45, 3) := by decide +kernel
theorem dX6_readAll_7 : decode cX6_readAll 7 = .ok (.aload_n 0, 1) := by decide +kernel
theorem dX6_readAll_8 : decode cX6_readAll 8 = .ok (.iconst 0, 1) := by decide +kernel
theorem dX6_readAll_9 : decode cX6_readAll 9 = .ok (.putfield 25, 3) := by decide +kernel
theorem dX6_readAll_12 : decode cX6_readAll 12 = .ok (.aload_n 0, 1) := by decide +kernel
theorem dX6_readAll_13 : decode cX6_readAll 13 = .ok (.iconst 0, 1) := by decide +kernel
theorem dX6_readAll_14 : decode cX6_readAll 14 = .ok (.putfield 29, 3) := by decide +kernel
theorem dX6_readAll_17 : decode cX6_readAll 17 = .ok (.aload_n 0, 1) := by decide +kernel
theorem dX6_readAll_18 : decode cX6_readAll 18 = .ok (.iconst 0, 1) := by decide +kernel
theorem dX6_readAll_19 : decode cX6_readAll 19 = .ok (.putfield 41, 3) := by decide +kernel
theorem dX6_readAll_22 : decode cX6_readAll 22 = .ok (.aload_n 0, 1) := by decide +kernel
theorem dX6_readAll_23 : decode cX6_readAll 23 = .ok (.getfield 12, 3) := by decide +kernel
theorem dX6_readAll_26 : decode cX6_readAll 26 = .ok (.invokevirtual 48, 3) := by decide +kernel
theorem dX6_readAll_29 : decode cX6_readAll 29 = .ok (.iconst 0, 1) := by decide +kernel
theorem dX6_readAll_30 : decode cX6_readAll 30 = .ok (.istore_n 1, 1) := by decide +kernel
theorem dX6_readAll_31 : decode cX6_readAll 31 = .ok (.iload_n 1, 1) := by decide +kernel
theorem dX6_readAll_32 : decode cX6_readAll 32 = .ok (.sipush 200, 3) := by decide +kernel
theorem dX6_readAll_35 : decode cX6_readAll 35 = .ok (.if_icmp .gt 48, 3) := by decide +kernel
theorem dX6_readAll_38 : decode cX6_readAll 38 = .ok (.aload_n 0, 1) := by decide +kernel
theorem dX6_readAll_39 : decode cX6_readAll 39 = .ok (.getfield 12, 3) := by decide +kernel
theorem dX6_readAll_42 : decode cX6_readAll 42 = .ok (.invokevirtual 51, 3) := by decide +kernel
theorem dX6_readAll_45 : decode cX6_readAll 45 = .ok (.aload_n 0, 1) := by decide +kernel
theorem dX6_readAll_46 : decode cX6_readAll 46 = .ok (.getfield 12, 3) := by decide +kernel
theorem dX6_readAll_49 : decode cX6_readAll 49 = .ok (.getfield 54, 3) := by decide +kernel
theorem dX6_readAll_52 : decode cX6_readAll 52 = .ok (.ifCond .ne 16, 3) := by decide +kernel
theorem dX6_readAll_55 : decode cX6_readAll 55 = .ok (.aload_n 0, 1) := by decide +kernel
theorem dX6_readAll_56 : decode cX6_readAll 56 = .ok (.getfield 29, 3) := by decide +kernel
theorem dX6_readAll_59 : decode cX6_readAll 59 = .ok (.ifCond .ne 7, 3) := by decide +kernel
theorem dX6_readAll_62 : decode cX6_readAll 62 = .ok (.iconst 1, 1) := by decide +kernel
theorem dX6_readAll_63 : decode cX6_readAll 63 = .ok (.goto 4, 3) := by decide +kernel
theorem dX6_readAll_66 : decode cX6_readAll 66 = .ok (.iconst 0, 1) := by decide +kernel
theorem dX6_readAll_67 : decode cX6_readAll 67 = .ok (.ireturn, 1) := by decide +kernel
theorem dX6_readAll_68 : decode cX6_readAll 68 = .ok (.aload_n 0, 1) := by decide +kernel
theorem dX6_readAll_69 : decode cX6_readAll 69 = .ok (.invokevirtual 57, 3) := by decide +kernel
theorem dX6_readAll_72 : decode cX6_readAll 72 = .ok (.ifCond .ne 5, 3) := by decide +kernel
theorem dX6_readAll_75 : decode cX6_readAll 75 = .ok (.iconst 0, 1) := by decide +kernel
theorem dX6_readAll_76 : decode cX6_readAll 76 = .ok (.ireturn, 1) := by decide +kernel
theorem dX6_readAll_77 : decode cX6_readAll 77 = .ok (.iinc 1 1, 3) := by decide +kernel
theorem dX6_readAll_80 : decode cX6_readAll 80 = .ok (.goto (-49), 3) := by decide +kernel
theorem dX6_readAll_83 : decode cX6_readAll 83 = .ok (.iconst 0, 1) := by decide +kernel
theorem dX6_readAll_84 : decode cX6_readAll 84 = .ok (.ireturn, 1) := by decide +kernel
theorem dX6_takesToken_0 : decode cX6_takesToken 0 = .ok (.aload_n 0, 1) := by decide +kernel
theorem dX6_takesToken_1 : decode cX6_takesToken 1 = .ok (.getfield 29, 3) := by decide +kernel
theorem dX6_takesToken_4 : decode cX6_takesToken 4 = .ok (.ifCond .ne 8, 3) := by decide +kernel
theorem dX6_takesToken_7 : decode cX6_takesToken 7 = .ok (.aload_n 0, 1) := by decide +kernel
theorem dX6_takesToken_8 : decode cX6_takesToken 8 = .ok (.invokevirtual 61, 3) := by decide +kernel
theorem dX6_takesToken_11 : decode cX6_takesToken 11 = .ok (.ireturn, 1) := by decide +kernel
theorem dX6_takesToken_12 : decode cX6_takesToken 12 = .ok (.aload_n 0, 1) := by decide +kernel
theorem dX6_takesToken_13 : decode cX6_takesToken 13 = .ok (.getfield 29, 3) := by decide +kernel
theorem dX6_takesToken_16 : decode cX6_takesToken 16 = .ok (.bipush 7, 2) := by decide +kernel
theorem dX6_takesToken_18 : decode cX6_takesToken 18 = .ok (.if_icmp .ne 7, 3) := by decide +kernel
theorem dX6_takesToken_21 : decode cX6_takesToken 21 = .ok (.iconst 1, 1) := by decide +kernel
theorem dX6_takesToken_22 : decode cX6_takesToken 22 = .ok (.goto 4, 3) := by decide +kernel
theorem dX6_takesToken_25 : decode cX6_takesToken 25 = .ok (.iconst 2, 1) := by decide +kernel
theorem dX6_takesToken_26 : decode cX6_takesToken 26 = .ok (.istore_n 1, 1) := by decide +kernel
theorem dX6_takesToken_27 : decode cX6_takesToken 27 = .ok (.aload_n 0, 1) := by decide +kernel
theorem dX6_takesToken_28 : decode cX6_takesToken 28 = .ok (.getfield 32, 3) := by decide +kernel
theorem dX6_takesToken_31 : decode cX6_takesToken 31 = .ok (.iload_n 1, 1) := by decide +kernel
theorem dX6_takesToken_32 : decode cX6_takesToken 32 = .ok (.if_icmp .ge 10, 3) := by decide +kernel
theorem dX6_takesToken_35 : decode cX6_takesToken 35 = .ok (.aload_n 0, 1) := by decide +kernel
theorem dX6_takesToken_36 : decode cX6_takesToken 36 = .ok (.invokevirtual 64, 3) := by decide +kernel
theorem dX6_takesToken_39 : decode cX6_takesToken 39 = .ok (.goto 7, 3) := by decide +kernel
theorem dX6_takesToken_42 : decode cX6_takesToken 42 = .ok (.aload_n 0, 1) := by decide +kernel
theorem dX6_takesToken_43 : decode cX6_takesToken 43 = .ok (.invokevirtual 67, 3) := by decide +kernel
theorem dX6_takesToken_46 : decode cX6_takesToken 46 = .ok (.ireturn, 1) := by decide +kernel
theorem dX6_takesWord_0 : decode cX6_takesWord 0 = .ok (.aload_n 0, 1) := by decide +kernel
theorem dX6_takesWord_1 : decode cX6_takesWord 1 = .ok (.aload_n 0, 1) := by decide +kernel
theorem dX6_takesWord_2 : decode cX6_takesWord 2 = .ok (.getfield 12, 3) := by decide +kernel
theorem dX6_takesWord_5 : decode cX6_takesWord 5 = .ok (.getfield 54, 3) := by decide +kernel
theorem dX6_takesWord_8 : decode cX6_takesWord 8 = .ok (.invokevirtual 70, 3) := by decide +kernel
theorem dX6_takesWord_11 : decode cX6_takesWord 11 = .ok (.ifCond .ne 5, 3) := by decide +kernel
theorem dX6_takesWord_14 : decode cX6_takesWord 14 = .ok (.iconst 0, 1) := by decide +kernel
theorem dX6_takesWord_15 : decode cX6_takesWord 15 = .ok (.ireturn, 1) := by decide +kernel
theorem dX6_takesWord_16 : decode cX6_takesWord 16 = .ok (.aload_n 0, 1) := by decide +kernel
theorem dX6_takesWord_17 : decode cX6_takesWord 17 = .ok (.aload_n 0, 1) := by decide +kernel
theorem dX6_takesWord_18 : decode cX6_takesWord 18 = .ok (.getfield 12, 3) := by decide +kernel
theorem dX6_takesWord_21 : decode cX6_takesWord 21 = .ok (.getfield 54, 3) := by decide +kernel
theorem dX6_takesWord_24 : decode cX6_takesWord 24 = .ok (.putfield 29, 3) := by decide +kernel
theorem dX6_takesWord_27 : decode cX6_takesWord 27 = .ok (.aload_n 0, 1) := by decide +kernel
theorem dX6_takesWord_28 : decode cX6_takesWord 28 = .ok (.iconst 0, 1) := by decide +kernel
theorem dX6_takesWord_29 : decode cX6_takesWord 29 = .ok (.putfield 32, 3) := by decide +kernel
theorem dX6_takesWord_32 : decode cX6_takesWord 32 = .ok (.iconst 1, 1) := by decide +kernel
theorem dX6_takesWord_33 : decode cX6_takesWord 33 = .ok (.ireturn, 1) := by decide +kernel
theorem dX6_mayBegin_0 : decode cX6_mayBegin 0 = .ok (.iload_n 1, 1) := by decide +kernel
theorem dX6_mayBegin_1 : decode cX6_mayBegin 1 = .ok (.tableswitch 78 4 7 #[31, 44, 46, 65], 31) := by decide +kernel
theorem dX6_mayBegin_32 : decode cX6_mayBegin 32 = .ok (.aload_n 0, 1) := by decide +kernel
theorem dX6_mayBegin_33 : decode cX6_mayBegin 33 = .ok (.getfield 25, 3) := by decide +kernel
theorem dX6_mayBegin_36 : decode cX6_mayBegin 36 = .ok (.ifCond .ne 7, 3) := by decide +kernel
theorem dX6_mayBegin_39 : decode cX6_mayBegin 39 = .ok (.iconst 1, 1) := by decide +kernel
theorem dX6_mayBegin_40 : decode cX6_mayBegin 40 = .ok (.goto 4, 3) := by decide +kernel
theorem dX6_mayBegin_43 : decode cX6_mayBegin 43 = .ok (.iconst 0, 1) := by decide +kernel
theorem dX6_mayBegin_44 : decode cX6_mayBegin 44 = .ok (.ireturn, 1) := by decide +kernel
theorem dX6_mayBegin_45 : decode cX6_mayBegin 45 = .ok (.iconst 1, 1) := by decide +kernel
theorem dX6_mayBegin_46 : decode cX6_mayBegin 46 = .ok (.ireturn, 1) := by decide +kernel
theorem dX6_mayBegin_47 : decode cX6_mayBegin 47 = .ok (.aload_n 0, 1) := by decide +kernel
theorem dX6_mayBegin_48 : decode cX6_mayBegin 48 = .ok (.getfield 21, 3) := by decide +kernel
theorem dX6_mayBegin_51 : decode cX6_mayBegin 51 = .ok (.getfield 74, 3) := by decide +kernel
theorem dX6_mayBegin_54 : decode cX6_mayBegin 54 = .ok (.invokevirtual 78, 3) := by decide +kernel
theorem dX6_mayBegin_57 : decode cX6_mayBegin 57 = .ok (.ifCond .ne 7, 3) := by decide +kernel
theorem dX6_mayBegin_60 : decode cX6_mayBegin 60 = .ok (.iconst 1, 1) := by decide +kernel
theorem dX6_mayBegin_61 : decode cX6_mayBegin 61 = .ok (.goto 4, 3) := by decide +kernel
theorem dX6_mayBegin_64 : decode cX6_mayBegin 64 = .ok (.iconst 0, 1) := by decide +kernel
theorem dX6_mayBegin_65 : decode cX6_mayBegin 65 = .ok (.ireturn, 1) := by decide +kernel
theorem dX6_mayBegin_66 : decode cX6_mayBegin 66 = .ok (.aload_n 0, 1) := by decide +kernel
theorem dX6_mayBegin_67 : decode cX6_mayBegin 67 = .ok (.getfield 41, 3) := by decide +kernel
theorem dX6_mayBegin_70 : decode cX6_mayBegin 70 = .ok (.ifCond .ne 7, 3) := by decide +kernel
theorem dX6_mayBegin_73 : decode cX6_mayBegin 73 = .ok (.iconst 1, 1) := by decide +kernel
theorem dX6_mayBegin_74 : decode cX6_mayBegin 74 = .ok (.goto 4, 3) := by decide +kernel
theorem dX6_mayBegin_77 : decode cX6_mayBegin 77 = .ok (.iconst 0, 1) := by decide +kernel
theorem dX6_mayBegin_78 : decode cX6_mayBegin 78 = .ok (.ireturn, 1) := by decide +kernel
theorem dX6_mayBegin_79 : decode cX6_mayBegin 79 = .ok (.iconst 0, 1) := by decide +kernel
theorem dX6_mayBegin_80 : decode cX6_mayBegin 80 = .ok (.ireturn, 1) := by decide +kernel
theorem dX6_takesNumber_0 : decode cX6_takesNumber 0 = .ok (.aload_n 0, 1) := by decide +kernel
theorem dX6_takesNumber_1 : decode cX6_takesNumber 1 = .ok (.getfield 29, 3) := by decide +kernel
theorem dX6_takesNumber_4 : decode cX6_takesNumber 4 = .ok (.iconst 4, 1) := by decide +kernel
theorem dX6_takesNumber_5 : decode cX6_takesNumber 5 = .ok (.if_icmp .eq 12, 3) := by decide +kernel
theorem dX6_takesNumber_8 : decode cX6_takesNumber 8 = .ok (.aload_n 0, 1) := by decide +kernel
theorem dX6_takesNumber_9 : decode cX6_takesNumber 9 = .ok (.getfield 29, 3) := by decide +kernel
theorem dX6_takesNumber_12 : decode cX6_takesNumber 12 = .ok (.bipush 7, 2) := by decide +kernel
theorem dX6_takesNumber_14 : decode cX6_takesNumber 14 = .ok (.if_icmp .ne 7, 3) := by decide +kernel
theorem dX6_takesNumber_17 : decode cX6_takesNumber 17 = .ok (.iconst 1, 1) := by decide +kernel
theorem dX6_takesNumber_18 : decode cX6_takesNumber 18 = .ok (.goto 4, 3) := by decide +kernel
theorem dX6_takesNumber_21 : decode cX6_takesNumber 21 = .ok (.iconst 0, 1) := by decide +kernel
theorem dX6_takesNumber_22 : decode cX6_takesNumber 22 = .ok (.istore_n 1, 1) := by decide +kernel
theorem dX6_takesNumber_23 : decode cX6_takesNumber 23 = .ok (.aload_n 0, 1) := by decide +kernel
theorem dX6_takesNumber_24 : decode cX6_takesNumber 24 = .ok (.getfield 12, 3) := by decide +kernel
theorem dX6_takesNumber_27 : decode cX6_takesNumber 27 = .ok (.getfield 54, 3) := by decide +kernel
theorem dX6_takesNumber_30 : decode cX6_takesNumber 30 = .ok (.iconst 2, 1) := by decide +kernel
theorem dX6_takesNumber_31 : decode cX6_takesNumber 31 = .ok (.if_icmp .ne 28, 3) := by decide +kernel
theorem dX6_takesNumber_34 : decode cX6_takesNumber 34 = .ok (.aload_n 0, 1) := by decide +kernel
theorem dX6_takesNumber_35 : decode cX6_takesNumber 35 = .ok (.getfield 12, 3) := by decide +kernel
theorem dX6_takesNumber_38 : decode cX6_takesNumber 38 = .ok (.getfield 83, 3) := by decide +kernel
theorem dX6_takesNumber_41 : decode cX6_takesNumber 41 = .ok (.iload_n 1, 1) := by decide +kernel
theorem dX6_takesNumber_42 : decode cX6_takesNumber 42 = .ok (.if_icmp .lt 17, 3) := by decide +kernel
theorem dX6_takesNumber_45 : decode cX6_takesNumber 45 = .ok (.aload_n 0, 1) := by decide +kernel
theorem dX6_takesNumber_46 : decode cX6_takesNumber 46 = .ok (.getfield 12, 3) := by decide +kernel
theorem dX6_takesNumber_49 : decode cX6_takesNumber 49 = .ok (.getfield 83, 3) := by decide +kernel
theorem dX6_takesNumber_52 : decode cX6_takesNumber 52 = .ok (.aload_n 0, 1) := by decide +kernel
theorem dX6_takesNumber_53 : decode cX6_takesNumber 53 = .ok (.invokevirtual 86, 3) := by decide +kernel
theorem dX6_takesNumber_56 : decode cX6_takesNumber 56 = .ok (.if_icmp .le 5, 3) := by decide +kernel
theorem dX6_takesNumber_59 : decode cX6_takesNumber 59 = .ok (.iconst 0, 1) := by decide +kernel
theorem dX6_takesNumber_60 : decode cX6_takesNumber 60 = .ok (.ireturn, 1) := by decide +kernel
theorem dX6_takesNumber_61 : decode cX6_takesNumber 61 = .ok (.aload_n 0, 1) := by decide +kernel
theorem dX6_takesNumber_62 : decode cX6_takesNumber 62 = .ok (.getfield 32, 3) := by decide +kernel
theorem dX6_takesNumber_65 : decode cX6_takesNumber 65 = .ok (.ifCond .ne 17, 3) := by decide +kernel
theorem dX6_takesNumber_68 : decode cX6_takesNumber 68 = .ok (.aload_n 0, 1) := by decide +kernel
theorem dX6_takesNumber_69 : decode cX6_takesNumber 69 = .ok (.aload_n 0, 1) := by decide +kernel
theorem dX6_takesNumber_70 : decode cX6_takesNumber 70 = .ok (.getfield 12, 3) := by decide +kernel
theorem dX6_takesNumber_73 : decode cX6_takesNumber 73 = .ok (.getfield 83, 3) := by decide +kernel
theorem dX6_takesNumber_76 : decode cX6_takesNumber 76 = .ok (.putfield 35, 3) := by decide +kernel
theorem dX6_takesNumber_79 : decode cX6_takesNumber 79 = .ok (.goto 39, 3) := by decide +kernel
theorem dX6_takesNumber_82 : decode cX6_takesNumber 82 = .ok (.aload_n 0, 1) := by decide +kernel
theorem dX6_takesNumber_83 : decode cX6_takesNumber 83 = .ok (.getfield 29, 3) := by decide +kernel
theorem dX6_takesNumber_86 : decode cX6_takesNumber 86 = .ok (.bipush 6, 2) := by decide +kernel
theorem dX6_takesNumber_88 : decode cX6_takesNumber 88 = .ok (.if_icmp .ne 19, 3) := by decide +kernel
theorem dX6_takesNumber_91 : decode cX6_takesNumber 91 = .ok (.aload_n 0, 1) := by decide +kernel
theorem dX6_takesNumber_92 : decode cX6_takesNumber 92 = .ok (.getfield 12, 3) := by decide +kernel
theorem dX6_takesNumber_95 : decode cX6_takesNumber 95 = .ok (.getfield 83, 3) := by decide +kernel
theorem dX6_takesNumber_98 : decode cX6_takesNumber 98 = .ok (.aload_n 0, 1) := by decide +kernel
theorem dX6_takesNumber_99 : decode cX6_takesNumber 99 = .ok (.getfield 35, 3) := by decide +kernel
theorem dX6_takesNumber_102 : decode cX6_takesNumber 102 = .ok (.if_icmp .ne 5, 3) := by decide +kernel
theorem dX6_takesNumber_105 : decode cX6_takesNumber 105 = .ok (.iconst 0, 1) := by decide +kernel
theorem dX6_takesNumber_106 : decode cX6_takesNumber 106 = .ok (.ireturn, 1) := by decide +kernel
theorem dX6_takesNumber_107 : decode cX6_takesNumber 107 = .ok (.aload_n 0, 1) := by decide +kernel
theorem dX6_takesNumber_108 : decode cX6_takesNumber 108 = .ok (.aload_n 0, 1) := by decide +kernel
theorem dX6_takesNumber_109 : decode cX6_takesNumber 109 = .ok (.getfield 12, 3) := by decide +kernel
theorem dX6_takesNumber_112 : decode cX6_takesNumber 112 = .ok (.getfield 83, 3) := by decide +kernel
theorem dX6_takesNumber_115 : decode cX6_takesNumber 115 = .ok (.putfield 38, 3) := by decide +kernel
theorem dX6_takesNumber_118 : decode cX6_takesNumber 118 = .ok (.aload_n 0, 1) := by decide +kernel
theorem dX6_takesNumber_119 : decode cX6_takesNumber 119 = .ok (.dup, 1) := by decide +kernel
theorem dX6_takesNumber_120 : decode cX6_takesNumber 120 = .ok (.getfield 32, 3) := by decide +kernel
theorem dX6_takesNumber_123 : decode cX6_takesNumber 123 = .ok (.iconst 1, 1) := by decide +kernel
theorem dX6_takesNumber_124 : decode cX6_takesNumber 124 = .ok (.iadd, 1) := by decide +kernel
theorem dX6_takesNumber_125 : decode cX6_takesNumber 125 = .ok (.putfield 32, 3) := by decide +kernel
theorem dX6_takesNumber_128 : decode cX6_takesNumber 128 = .ok (.iconst 1, 1) := by decide +kernel
theorem dX6_takesNumber_129 : decode cX6_takesNumber 129 = .ok (.ireturn, 1) := by decide +kernel
theorem dX6_mostNumber_0 : decode cX6_mostNumber 0 = .ok (.aload_n 0, 1) := by decide +kernel
theorem dX6_mostNumber_1 : decode cX6_mostNumber 1 = .ok (.getfield 29, 3) := by decide +kernel
theorem dX6_mostNumber_4 : decode cX6_mostNumber 4 = .ok (.iconst 4, 1) := by decide +kernel
theorem dX6_mostNumber_5 : decode cX6_mostNumber 5 = .ok (.if_icmp .ne 5, 3) := by decide +kernel
theorem dX6_mostNumber_8 : decode cX6_mostNumber 8 = .ok (.iconst 4, 1) := by decide +kernel
theorem dX6_mostNumber_9 : decode cX6_mostNumber 9 = .ok (.ireturn, 1) := by decide +kernel
theorem dX6_mostNumber_10 : decode cX6_mostNumber 10 = .ok (.aload_n 0, 1) := by decide +kernel
theorem dX6_mostNumber_11 : decode cX6_mostNumber 11 = .ok (.getfield 29, 3) := by decide +kernel
theorem dX6_mostNumber_14 : decode cX6_mostNumber 14 = .ok (.bipush 6, 2) := by decide +kernel
theorem dX6_mostNumber_16 : decode cX6_mostNumber 16 = .ok (.if_icmp .eq 18, 3) := by decide +kernel
theorem dX6_mostNumber_19 : decode cX6_mostNumber 19 = .ok (.aload_n 0, 1) := by decide +kernel
theorem dX6_mostNumber_20 : decode cX6_mostNumber 20 = .ok (.getfield 29, 3) := by decide +kernel
theorem dX6_mostNumber_23 : decode cX6_mostNumber 23 = .ok (.iconst 5, 1) := by decide +kernel
theorem dX6_mostNumber_24 : decode cX6_mostNumber 24 = .ok (.if_icmp .ne 14, 3) := by decide +kernel
theorem dX6_mostNumber_27 : decode cX6_mostNumber 27 = .ok (.aload_n 0, 1) := by decide +kernel
theorem dX6_mostNumber_28 : decode cX6_mostNumber 28 = .ok (.getfield 32, 3) := by decide +kernel
theorem dX6_mostNumber_31 : decode cX6_mostNumber 31 = .ok (.ifCond .ne 7, 3) := by decide +kernel
theorem dX6_mostNumber_34 : decode cX6_mostNumber 34 = .ok (.iconst 1, 1) := by decide +kernel
theorem dX6_mostNumber_35 : decode cX6_mostNumber 35 = .ok (.goto 4, 3) := by decide +kernel
theorem dX6_mostNumber_38 : decode cX6_mostNumber 38 = .ok (.iconst 0, 1) := by decide +kernel
theorem dX6_mostNumber_39 : decode cX6_mostNumber 39 = .ok (.istore_n 1, 1) := by decide +kernel
theorem dX6_mostNumber_40 : decode cX6_mostNumber 40 = .ok (.iload_n 1, 1) := by decide +kernel
theorem dX6_mostNumber_41 : decode cX6_mostNumber 41 = .ok (.ifCond .eq 23, 3) := by decide +kernel
theorem dX6_mostNumber_44 : decode cX6_mostNumber 44 = .ok (.aload_n 0, 1) := by decide +kernel
theorem dX6_mostNumber_45 : decode cX6_mostNumber 45 = .ok (.getfield 21, 3) := by decide +kernel
theorem dX6_mostNumber_48 : decode cX6_mostNumber 48 = .ok (.getfield 90, 3) := by decide +kernel
theorem dX6_mostNumber_51 : decode cX6_mostNumber 51 = .ok (.aload_n 0, 1) := by decide +kernel
theorem dX6_mostNumber_52 : decode cX6_mostNumber 52 = .ok (.getfield 21, 3) := by decide +kernel
theorem dX6_mostNumber_55 : decode cX6_mostNumber 55 = .ok (.getfield 93, 3) := by decide +kernel
theorem dX6_mostNumber_58 : decode cX6_mostNumber 58 = .ok (.imul, 1) := by decide +kernel
theorem dX6_mostNumber_59 : decode cX6_mostNumber 59 = .ok (.iconst 1, 1) := by decide +kernel
theorem dX6_mostNumber_60 : decode cX6_mostNumber 60 = .ok (.isub, 1) := by decide +kernel
theorem dX6_mostNumber_61 : decode cX6_mostNumber 61 = .ok (.goto 5, 3) := by decide +kernel
theorem dX6_mostNumber_64 : decode cX6_mostNumber 64 = .ok (.bipush 9, 2) := by decide +kernel
theorem dX6_mostNumber_66 : decode cX6_mostNumber 66 = .ok (.ireturn, 1) := by decide +kernel
theorem dX6_takesEnd_0 : decode cX6_takesEnd 0 = .ok (.aload_n 0, 1) := by decide +kernel
theorem dX6_takesEnd_1 : decode cX6_takesEnd 1 = .ok (.getfield 12, 3) := by decide +kernel
theorem dX6_takesEnd_4 : decode cX6_takesEnd 4 = .ok (.getfield 54, 3) := by decide +kernel
theorem dX6_takesEnd_7 : decode cX6_takesEnd 7 = .ok (.iconst 3, 1) := by decide +kernel
theorem dX6_takesEnd_8 : decode cX6_takesEnd 8 = .ok (.if_icmp .eq 5, 3) := by decide +kernel
theorem dX6_takesEnd_11 : decode cX6_takesEnd 11 = .ok (.iconst 0, 1) := by decide +kernel
theorem dX6_takesEnd_12 : decode cX6_takesEnd 12 = .ok (.ireturn, 1) := by decide +kernel
theorem dX6_takesEnd_13 : decode cX6_takesEnd 13 = .ok (.aload_n 0, 1) := by decide +kernel
theorem dX6_takesEnd_14 : decode cX6_takesEnd 14 = .ok (.getfield 29, 3) := by decide +kernel
theorem dX6_takesEnd_17 : decode cX6_takesEnd 17 = .ok (.iconst 4, 1) := by decide +kernel
theorem dX6_takesEnd_18 : decode cX6_takesEnd 18 = .ok (.if_icmp .ne 28, 3) := by decide +kernel
theorem dX6_takesEnd_21 : decode cX6_takesEnd 21 = .ok (.aload_n 0, 1) := by decide +kernel
theorem dX6_takesEnd_22 : decode cX6_takesEnd 22 = .ok (.getfield 21, 3) := by decide +kernel
theorem dX6_takesEnd_25 : decode cX6_takesEnd 25 = .ok (.aload_n 0, 1) := by decide +kernel
theorem dX6_takesEnd_26 : decode cX6_takesEnd 26 = .ok (.getfield 35, 3) := by decide +kernel
theorem dX6_takesEnd_29 : decode cX6_takesEnd 29 = .ok (.putfield 90, 3) := by decide +kernel
theorem dX6_takesEnd_32 : decode cX6_takesEnd 32 = .ok (.aload_n 0, 1) := by decide +kernel
theorem dX6_takesEnd_33 : decode cX6_takesEnd 33 = .ok (.getfield 21, 3) := by decide +kernel
theorem dX6_takesEnd_36 : decode cX6_takesEnd 36 = .ok (.aload_n 0, 1) := by decide +kernel
theorem dX6_takesEnd_37 : decode cX6_takesEnd 37 = .ok (.getfield 38, 3) := by decide +kernel
theorem dX6_takesEnd_40 : decode cX6_takesEnd 40 = .ok (.putfield 93, 3) := by decide +kernel
theorem dX6_takesEnd_43 : decode cX6_takesEnd 43 = .ok (.goto 75, 3) := by decide +kernel
theorem dX6_takesEnd_46 : decode cX6_takesEnd 46 = .ok (.aload_n 0, 1) := by decide +kernel
theorem dX6_takesEnd_47 : decode cX6_takesEnd 47 = .ok (.getfield 29, 3) := by decide +kernel
theorem dX6_takesEnd_50 : decode cX6_takesEnd 50 = .ok (.iconst 5, 1) := by decide +kernel
theorem dX6_takesEnd_51 : decode cX6_takesEnd 51 = .ok (.if_icmp .ne 21, 3) := by decide +kernel
theorem dX6_takesEnd_54 : decode cX6_takesEnd 54 = .ok (.aload_n 0, 1) := by decide +kernel
theorem dX6_takesEnd_55 : decode cX6_takesEnd 55 = .ok (.getfield 21, 3) := by decide +kernel
theorem dX6_takesEnd_58 : decode cX6_takesEnd 58 = .ok (.aload_n 0, 1) := by decide +kernel
theorem dX6_takesEnd_59 : decode cX6_takesEnd 59 = .ok (.getfield 35, 3) := by decide +kernel
theorem dX6_takesEnd_62 : decode cX6_takesEnd 62 = .ok (.aload_n 0, 1) := by decide +kernel
theorem dX6_takesEnd_63 : decode cX6_takesEnd 63 = .ok (.getfield 38, 3) := by decide +kernel
theorem dX6_takesEnd_66 : decode cX6_takesEnd 66 = .ok (.invokevirtual 96, 3) := by decide +kernel
theorem dX6_takesEnd_69 : decode cX6_takesEnd 69 = .ok (.goto 49, 3) := by decide +kernel
theorem dX6_takesEnd_72 : decode cX6_takesEnd 72 = .ok (.aload_n 0, 1) := by decide +kernel
theorem dX6_takesEnd_73 : decode cX6_takesEnd 73 = .ok (.getfield 29, 3) := by decide +kernel
theorem dX6_takesEnd_76 : decode cX6_takesEnd 76 = .ok (.bipush 6, 2) := by decide +kernel
theorem dX6_takesEnd_78 : decode cX6_takesEnd 78 = .ok (.if_icmp .ne 24, 3) := by decide +kernel
theorem dX6_takesEnd_81 : decode cX6_takesEnd 81 = .ok (.aload_n 0, 1) := by decide +kernel
theorem dX6_takesEnd_82 : decode cX6_takesEnd 82 = .ok (.getfield 21, 3) := by decide +kernel
theorem dX6_takesEnd_85 : decode cX6_takesEnd 85 = .ok (.getfield 74, 3) := by decide +kernel
theorem dX6_takesEnd_88 : decode cX6_takesEnd 88 = .ok (.aload_n 0, 1) := by decide +kernel
theorem dX6_takesEnd_89 : decode cX6_takesEnd 89 = .ok (.getfield 35, 3) := by decide +kernel
theorem dX6_takesEnd_92 : decode cX6_takesEnd 92 = .ok (.aload_n 0, 1) := by decide +kernel
theorem dX6_takesEnd_93 : decode cX6_takesEnd 93 = .ok (.getfield 38, 3) := by decide +kernel
theorem dX6_takesEnd_96 : decode cX6_takesEnd 96 = .ok (.invokevirtual 100, 3) := by decide +kernel
theorem dX6_takesEnd_99 : decode cX6_takesEnd 99 = .ok (.goto 19, 3) := by decide +kernel
theorem dX6_takesEnd_102 : decode cX6_takesEnd 102 = .ok (.aload_n 0, 1) := by decide +kernel
theorem dX6_takesEnd_103 : decode cX6_takesEnd 103 = .ok (.getfield 21, 3) := by decide +kernel
theorem dX6_takesEnd_106 : decode cX6_takesEnd 106 = .ok (.aload_n 0, 1) := by decide +kernel
theorem dX6_takesEnd_107 : decode cX6_takesEnd 107 = .ok (.getfield 35, 3) := by decide +kernel
theorem dX6_takesEnd_110 : decode cX6_takesEnd 110 = .ok (.putfield 103, 3) := by decide +kernel
theorem dX6_takesEnd_113 : decode cX6_takesEnd 113 = .ok (.aload_n 0, 1) := by decide +kernel
theorem dX6_takesEnd_114 : decode cX6_takesEnd 114 = .ok (.iconst 1, 1) := by decide +kernel
theorem dX6_takesEnd_115 : decode cX6_takesEnd 115 = .ok (.putfield 41, 3) := by decide +kernel
theorem dX6_takesEnd_118 : decode cX6_takesEnd 118 = .ok (.aload_n 0, 1) := by decide +kernel
theorem dX6_takesEnd_119 : decode cX6_takesEnd 119 = .ok (.iconst 0, 1) := by decide +kernel
theorem dX6_takesEnd_120 : decode cX6_takesEnd 120 = .ok (.putfield 29, 3) := by decide +kernel
theorem dX6_takesEnd_123 : decode cX6_takesEnd 123 = .ok (.aload_n 0, 1) := by decide +kernel
theorem dX6_takesEnd_124 : decode cX6_takesEnd 124 = .ok (.dup, 1) := by decide +kernel
theorem dX6_takesEnd_125 : decode cX6_takesEnd 125 = .ok (.getfield 25, 3) := by decide +kernel
theorem dX6_takesEnd_128 : decode cX6_takesEnd 128 = .ok (.iconst 1, 1) := by decide +kernel
theorem dX6_takesEnd_129 : decode cX6_takesEnd 129 = .ok (.iadd, 1) := by decide +kernel
theorem dX6_takesEnd_130 : decode cX6_takesEnd 130 = .ok (.putfield 25, 3) := by decide +kernel
theorem dX6_takesEnd_133 : decode cX6_takesEnd 133 = .ok (.iconst 1, 1) := by decide +kernel
theorem dX6_takesEnd_134 : decode cX6_takesEnd 134 = .ok (.ireturn, 1) := by decide +kernel
theorem dX7_init_0 : decode cX7_init 0 = .ok (.aload_n 0, 1) := by decide +kernel
theorem dX7_init_1 : decode cX7_init 1 = .ok (.invokespecial 3, 3) := by decide +kernel
theorem dX7_init_4 : decode cX7_init 4 = .ok (.aload_n 0, 1) := by decide +kernel
theorem dX7_init_5 : decode cX7_init 5 = .ok (.iconst 0, 1) := by decide +kernel
theorem dX7_init_6 : decode cX7_init 6 = .ok (.putfield 9, 3) := by decide +kernel
theorem dX7_init_9 : decode cX7_init 9 = .ok (.aload_n 0, 1) := by decide +kernel
theorem dX7_init_10 : decode cX7_init 10 = .ok (.sipush 200, 3) := by decide +kernel
theorem dX7_init_13 : decode cX7_init 13 = .ok (.newarray .int, 2) := by decide +kernel
theorem dX7_init_15 : decode cX7_init 15 = .ok (.putfield 15, 3) := by decide +kernel
theorem dX7_init_18 : decode cX7_init 18 = .ok (.aload_n 0, 1) := by decide +kernel
theorem dX7_init_19 : decode cX7_init 19 = .ok (.iconst 0, 1) := by decide +kernel
theorem dX7_init_20 : decode cX7_init 20 = .ok (.putfield 19, 3) := by decide +kernel
theorem dX7_init_23 : decode cX7_init 23 = .ok (.aload_n 0, 1) := by decide +kernel
theorem dX7_init_24 : decode cX7_init 24 = .ok (.iconst 0, 1) := by decide +kernel
theorem dX7_init_25 : decode cX7_init 25 = .ok (.putfield 22, 3) := by decide +kernel
theorem dX7_init_28 : decode cX7_init 28 = .ok (.aload_n 0, 1) := by decide +kernel
theorem dX7_init_29 : decode cX7_init 29 = .ok (.iconst 0, 1) := by decide +kernel
theorem dX7_init_30 : decode cX7_init 30 = .ok (.putfield 25, 3) := by decide +kernel
theorem dX7_init_33 : decode cX7_init 33 = .ok (.aload_n 0, 1) := by decide +kernel
theorem dX7_init_34 : decode cX7_init 34 = .ok (.iconst 0, 1) := by decide +kernel
theorem dX7_init_35 : decode cX7_init 35 = .ok (.putfield 28, 3) := by decide +kernel
theorem dX7_init_38 : decode cX7_init 38 = .ok (.return_, 1) := by decide +kernel
theorem dX7_append_0 : decode cX7_append 0 = .ok (.aload_n 0, 1) := by decide +kernel
theorem dX7_append_1 : decode cX7_append 1 = .ok (.getfield 9, 3) := by decide +kernel
theorem dX7_append_4 : decode cX7_append 4 = .ok (.sipush 200, 3) := by decide +kernel
theorem dX7_append_7 : decode cX7_append 7 = .ok (.if_icmp .ge 23, 3) := by decide +kernel
theorem dX7_append_10 : decode cX7_append 10 = .ok (.aload_n 0, 1) := by decide +kernel
theorem dX7_append_11 : decode cX7_append 11 = .ok (.getfield 15, 3) := by decide +kernel
theorem dX7_append_14 : decode cX7_append 14 = .ok (.aload_n 0, 1) := by decide +kernel
theorem dX7_append_15 : decode cX7_append 15 = .ok (.getfield 9, 3) := by decide +kernel
theorem dX7_append_18 : decode cX7_append 18 = .ok (.iload_n 1, 1) := by decide +kernel
theorem dX7_append_19 : decode cX7_append 19 = .ok (.iastore, 1) := by decide +kernel
theorem dX7_append_20 : decode cX7_append 20 = .ok (.aload_n 0, 1) := by decide +kernel
theorem dX7_append_21 : decode cX7_append 21 = .ok (.dup, 1) := by decide +kernel
theorem dX7_append_22 : decode cX7_append 22 = .ok (.getfield 9, 3) := by decide +kernel
theorem dX7_append_25 : decode cX7_append 25 = .ok (.iconst 1, 1) := by decide +kernel
theorem dX7_append_26 : decode cX7_append 26 = .ok (.iadd, 1) := by decide +kernel
theorem dX7_append_27 : decode cX7_append 27 = .ok (.putfield 9, 3) := by decide +kernel
theorem dX7_append_30 : decode cX7_append 30 = .ok (.return_, 1) := by decide +kernel
theorem dX7_rewind_0 : decode cX7_rewind 0 = .ok (.aload_n 0, 1) := by decide +kernel
theorem dX7_rewind_1 : decode cX7_rewind 1 = .ok (.iconst 0, 1) := by decide +kernel
theorem dX7_rewind_2 : decode cX7_rewind 2 = .ok (.putfield 19, 3) := by decide +kernel
theorem dX7_rewind_5 : decode cX7_rewind 5 = .ok (.aload_n 0, 1) := by decide +kernel
theorem dX7_rewind_6 : decode cX7_rewind 6 = .ok (.iconst 0, 1) := by decide +kernel
theorem dX7_rewind_7 : decode cX7_rewind 7 = .ok (.putfield 22, 3) := by decide +kernel
theorem dX7_rewind_10 : decode cX7_rewind 10 = .ok (.aload_n 0, 1) := by decide +kernel
theorem dX7_rewind_11 : decode cX7_rewind 11 = .ok (.iconst 0, 1) := by decide +kernel
theorem dX7_rewind_12 : decode cX7_rewind 12 = .ok (.putfield 25, 3) := by decide +kernel
theorem dX7_rewind_15 : decode cX7_rewind 15 = .ok (.aload_n 0, 1) := by decide +kernel
theorem dX7_rewind_16 : decode cX7_rewind 16 = .ok (.iconst 0, 1) := by decide +kernel
theorem dX7_rewind_17 : decode cX7_rewind 17 = .ok (.putfield 28, 3) := by decide +kernel
theorem dX7_rewind_20 : decode cX7_rewind 20 = .ok (.return_, 1) := by decide +kernel
theorem dX7_readToken_0 : decode cX7_readToken 0 = .ok (.aload_n 0, 1) := by decide +kernel
theorem dX7_readToken_1 : decode cX7_readToken 1 = .ok (.getfield 22, 3) := by decide +kernel
theorem dX7_readToken_4 : decode cX7_readToken 4 = .ok (.aload_n 0, 1) := by decide +kernel
theorem dX7_readToken_5 : decode cX7_readToken 5 = .ok (.getfield 9, 3) := by decide +kernel
theorem dX7_readToken_8 : decode cX7_readToken 8 = .ok (.if_icmp .ge 29, 3) := by decide +kernel
theorem dX7_readToken_11 : decode cX7_readToken 11 = .ok (.aload_n 0, 1) := by decide +kernel
theorem dX7_readToken_12 : decode cX7_readToken 12 = .ok (.aload_n 0, 1) := by decide +kernel
theorem dX7_readToken_13 : decode cX7_readToken 13 = .ok (.getfield 22, 3) := by decide +kernel
theorem dX7_readToken_16 : decode cX7_readToken 16 = .ok (.invokevirtual 31, 3) := by decide +kernel
theorem dX7_readToken_19 : decode cX7_readToken 19 = .ok (.bipush 32, 2) := by decide +kernel
theorem dX7_readToken_21 : decode cX7_readToken 21 = .ok (.if_icmp .ne 16, 3) := by decide +kernel
theorem dX7_readToken_24 : decode cX7_readToken 24 = .ok (.aload_n 0, 1) := by decide +kernel
theorem dX7_readToken_25 : decode cX7_readToken 25 = .ok (.dup, 1) := by decide +kernel
theorem dX7_readToken_26 : decode cX7_readToken 26 = .ok (.getfield 22, 3) := by decide +kernel
theorem dX7_readToken_29 : decode cX7_readToken 29 = .ok (.iconst 1, 1) := by decide +kernel
theorem dX7_readToken_30 : decode cX7_readToken 30 = .ok (.iadd, 1) := by decide +kernel
theorem dX7_readToken_31 : decode cX7_readToken 31 = .ok (.putfield 22, 3) := by decide +kernel
theorem dX7_readToken_34 : decode cX7_readToken 34 = .ok (.goto (-34), 3) := by decide +kernel
theorem dX7_readToken_37 : decode cX7_readToken 37 = .ok (.aload_n 0, 1) := by decide +kernel
theorem dX7_readToken_38 : decode cX7_readToken 38 = .ok (.aload_n 0, 1) := by decide +kernel
theorem dX7_readToken_39 : decode cX7_readToken 39 = .ok (.getfield 22, 3) := by decide +kernel
theorem dX7_readToken_42 : decode cX7_readToken 42 = .ok (.putfield 19, 3) := by decide +kernel
theorem dX7_readToken_45 : decode cX7_readToken 45 = .ok (.aload_n 0, 1) := by decide +kernel
theorem dX7_readToken_46 : decode cX7_readToken 46 = .ok (.aload_n 0, 1) := by decide +kernel
theorem dX7_readToken_47 : decode cX7_readToken 47 = .ok (.getfield 19, 3) := by decide +kernel
theorem dX7_readToken_50 : decode cX7_readToken 50 = .ok (.invokevirtual 31, 3) := by decide +kernel
theorem dX7_readToken_53 : decode cX7_readToken 53 = .ok (.istore_n 1, 1) := by decide +kernel
theorem dX7_readToken_54 : decode cX7_readToken 54 = .ok (.iload_n 1, 1) := by decide +kernel
theorem dX7_readToken_55 : decode cX7_readToken 55 = .ok (.ifCond .ge 11, 3) := by decide +kernel
theorem dX7_readToken_58 : decode cX7_readToken 58 = .ok (.aload_n 0, 1) := by decide +kernel
theorem dX7_readToken_59 : decode cX7_readToken 59 = .ok (.iconst 0, 1) := by decide +kernel
theorem dX7_readToken_60 : decode cX7_readToken 60 = .ok (.putfield 25, 3) := by decide +kernel
theorem dX7_readToken_63 : decode cX7_readToken 63 = .ok (.goto 56, 3) := by decide +kernel
theorem dX7_readToken_66 : decode cX7_readToken 66 = .ok (.iload_n 1, 1) := by decide +kernel
theorem dX7_readToken_67 : decode cX7_readToken 67 = .ok (.invokestatic 35, 3) := by decide +kernel
theorem dX7_readToken_70 : decode cX7_readToken 70 = .ok (.ifCond .eq 10, 3) := by decide +kernel
theorem dX7_readToken_73 : decode cX7_readToken 73 = .ok (.aload_n 0, 1) := by decide +kernel
theorem dX7_readToken_74 : decode cX7_readToken 74 = .ok (.invokevirtual 39, 3) := by decide +kernel
theorem dX7_readToken_77 : decode cX7_readToken 77 = .ok (.goto 42, 3) := by decide +kernel
theorem dX7_readToken_80 : decode cX7_readToken 80 = .ok (.iload_n 1, 1) := by decide +kernel
theorem dX7_readToken_81 : decode cX7_readToken 81 = .ok (.invokestatic 42, 3) := by decide +kernel
theorem dX7_readToken_84 : decode cX7_readToken 84 = .ok (.ifCond .eq 10, 3) := by decide +kernel
theorem dX7_readToken_87 : decode cX7_readToken 87 = .ok (.aload_n 0, 1) := by decide +kernel
theorem dX7_readToken_88 : decode cX7_readToken 88 = .ok (.invokevirtual 45, 3) := by decide +kernel
theorem dX7_readToken_91 : decode cX7_readToken 91 = .ok (.goto 28, 3) := by decide +kernel
theorem dX7_readToken_94 : decode cX7_readToken 94 = .ok (.aload_n 0, 1) := by decide +kernel
theorem dX7_readToken_95 : decode cX7_readToken 95 = .ok (.iload_n 1, 1) := by decide +kernel
theorem dX7_readToken_96 : decode cX7_readToken 96 = .ok (.bipush 59, 2) := by decide +kernel
theorem dX7_readToken_98 : decode cX7_readToken 98 = .ok (.if_icmp .ne 7, 3) := by decide +kernel
theorem dX7_readToken_101 : decode cX7_readToken 101 = .ok (.iconst 3, 1) := by decide +kernel
theorem dX7_readToken_102 : decode cX7_readToken 102 = .ok (.goto 4, 3) := by decide +kernel
theorem dX7_readToken_105 : decode cX7_readToken 105 = .ok (.iconst 1, 1) := by decide +kernel
theorem dX7_readToken_106 : decode cX7_readToken 106 = .ok (.putfield 25, 3) := by decide +kernel
theorem dX7_readToken_109 : decode cX7_readToken 109 = .ok (.aload_n 0, 1) := by decide +kernel
theorem dX7_readToken_110 : decode cX7_readToken 110 = .ok (.dup, 1) := by decide +kernel
theorem dX7_readToken_111 : decode cX7_readToken 111 = .ok (.getfield 22, 3) := by decide +kernel
theorem dX7_readToken_114 : decode cX7_readToken 114 = .ok (.iconst 1, 1) := by decide +kernel
theorem dX7_readToken_115 : decode cX7_readToken 115 = .ok (.iadd, 1) := by decide +kernel
theorem dX7_readToken_116 : decode cX7_readToken 116 = .ok (.putfield 22, 3) := by decide +kernel
theorem dX7_readToken_119 : decode cX7_readToken 119 = .ok (.return_, 1) := by decide +kernel
theorem dX7_readWord_0 : decode cX7_readWord 0 = .ok (.aload_n 0, 1) := by decide +kernel
theorem dX7_readWord_1 : decode cX7_readWord 1 = .ok (.getfield 22, 3) := by decide +kernel
theorem dX7_readWord_4 : decode cX7_readWord 4 = .ok (.aload_n 0, 1) := by decide +kernel
theorem dX7_readWord_5 : decode cX7_readWord 5 = .ok (.getfield 9, 3) := by decide +kernel
theorem dX7_readWord_8 : decode cX7_readWord 8 = .ok (.if_icmp .ge 30, 3) := by decide +kernel
theorem dX7_readWord_11 : decode cX7_readWord 11 = .ok (.aload_n 0, 1) := by decide +kernel
theorem dX7_readWord_12 : decode cX7_readWord 12 = .ok (.aload_n 0, 1) := by decide +kernel
theorem dX7_readWord_13 : decode cX7_readWord 13 = .ok (.getfield 22, 3) := by decide +kernel
theorem dX7_readWord_16 : decode cX7_readWord 16 = .ok (.invokevirtual 31, 3) := by decide +kernel
theorem dX7_readWord_19 : decode cX7_readWord 19 = .ok (.invokestatic 35, 3) := by decide +kernel
theorem dX7_readWord_22 : decode cX7_readWord 22 = .ok (.ifCond .eq 16, 3) := by decide +kernel
theorem dX7_readWord_25 : decode cX7_readWord 25 = .ok (.aload_n 0, 1) := by decide +kernel
theorem dX7_readWord_26 : decode cX7_readWord 26 = .ok (.dup, 1) := by decide +kernel
theorem dX7_readWord_27 : decode cX7_readWord 27 = .ok (.getfield 22, 3) := by decide +kernel
theorem dX7_readWord_30 : decode cX7_readWord 30 = .ok (.iconst 1, 1) := by decide +kernel
theorem dX7_readWord_31 : decode cX7_readWord 31 = .ok (.iadd, 1) := by decide +kernel
theorem dX7_readWord_32 : decode cX7_readWord 32 = .ok (.putfield 22, 3) := by decide +kernel
theorem dX7_readWord_35 : decode cX7_readWord 35 = .ok (.goto (-35), 3) := by decide +kernel
theorem dX7_readWord_38 : decode cX7_readWord 38 = .ok (.aload_n 0, 1) := by decide +kernel
theorem dX7_readWord_39 : decode cX7_readWord 39 = .ok (.ldc 48, 2) := by decide +kernel
theorem dX7_readWord_41 : decode cX7_readWord 41 = .ok (.invokevirtual 50, 3) := by decide +kernel
theorem dX7_readWord_44 : decode cX7_readWord 44 = .ok (.ifCond .eq 11, 3) := by decide +kernel
theorem dX7_readWord_47 : decode cX7_readWord 47 = .ok (.aload_n 0, 1) := by decide +kernel
theorem dX7_readWord_48 : decode cX7_readWord 48 = .ok (.iconst 4, 1) := by decide +kernel
theorem dX7_readWord_49 : decode cX7_readWord 49 = .ok (.putfield 25, 3) := by decide +kernel
theorem dX7_readWord_52 : decode cX7_readWord 52 = .ok (.goto 61, 3) := by decide +kernel
theorem dX7_readWord_55 : decode cX7_readWord 55 = .ok (.aload_n 0, 1) := by decide +kernel
theorem dX7_readWord_56 : decode cX7_readWord 56 = .ok (.ldc 54, 2) := by decide +kernel
theorem dX7_readWord_58 : decode cX7_readWord 58 = .ok (.invokevirtual 50, 3) := by decide +kernel
theorem dX7_readWord_61 : decode cX7_readWord 61 = .ok (.ifCond .eq 11, 3) := by decide +kernel
theorem dX7_readWord_64 : decode cX7_readWord 64 = .ok (.aload_n 0, 1) := by decide +kernel
theorem dX7_readWord_65 : decode cX7_readWord 65 = .ok (.iconst 5, 1) := by decide +kernel
theorem dX7_readWord_66 : decode cX7_readWord 66 = .ok (.putfield 25, 3) := by decide +kernel
theorem dX7_readWord_69 : decode cX7_readWord 69 = .ok (.goto 44, 3) := by decide +kernel
theorem dX7_readWord_72 : decode cX7_readWord 72 = .ok (.aload_n 0, 1) := by decide +kernel
theorem dX7_readWord_73 : decode cX7_readWord 73 = .ok (.ldc 56, 2) := by decide +kernel
theorem dX7_readWord_75 : decode cX7_readWord 75 = .ok (.invokevirtual 50, 3) := by decide +kernel
theorem dX7_readWord_78 : decode cX7_readWord 78 = .ok (.ifCond .eq 12, 3) := by decide +kernel
theorem dX7_readWord_81 : decode cX7_readWord 81 = .ok (.aload_n 0, 1) := by decide +kernel
theorem dX7_readWord_82 : decode cX7_readWord 82 = .ok (.bipush 6, 2) := by decide +kernel
theorem dX7_readWord_84 : decode cX7_readWord 84 = .ok (.putfield 25, 3) := by decide +kernel
theorem dX7_readWord_87 : decode cX7_readWord 87 = .ok (.goto 26, 3) := by decide +kernel
theorem dX7_readWord_90 : decode cX7_readWord 90 = .ok (.aload_n 0, 1) := by decide +kernel
theorem dX7_readWord_91 : decode cX7_readWord 91 = .ok (.ldc 58, 2) := by decide +kernel
theorem dX7_readWord_93 : decode cX7_readWord 93 = .ok (.invokevirtual 50, 3) := by decide +kernel
theorem dX7_readWord_96 : decode cX7_readWord 96 = .ok (.ifCond .eq 12, 3) := by decide +kernel
theorem dX7_readWord_99 : decode cX7_readWord 99 = .ok (.aload_n 0, 1) := by decide +kernel
theorem dX7_readWord_100 : decode cX7_readWord 100 = .ok (.bipush 7, 2) := by decide +kernel
theorem dX7_readWord_102 : decode cX7_readWord 102 = .ok (.putfield 25, 3) := by decide +kernel
theorem dX7_readWord_105 : decode cX7_readWord 105 = .ok (.goto 8, 3) := by decide +kernel
theorem dX7_readWord_108 : decode cX7_readWord 108 = .ok (.aload_n 0, 1) := by decide +kernel
theorem dX7_readWord_109 : decode cX7_readWord 109 = .ok (.iconst 1, 1) := by decide +kernel
theorem dX7_readWord_110 : decode cX7_readWord 110 = .ok (.putfield 25, 3) := by decide +kernel
theorem dX7_readWord_113 : decode cX7_readWord 113 = .ok (.return_, 1) := by decide +kernel
theorem dX7_isWord_0 : decode cX7_isWord 0 = .ok (.aload_n 0, 1) := by decide +kernel
theorem dX7_isWord_1 : decode cX7_isWord 1 = .ok (.getfield 22, 3) := by decide +kernel
theorem dX7_isWord_4 : decode cX7_isWord 4 = .ok (.aload_n 0, 1) := by decide +kernel
theorem dX7_isWord_5 : decode cX7_isWord 5 = .ok (.getfield 19, 3) := by decide +kernel
theorem dX7_isWord_8 : decode cX7_isWord 8 = .ok (.isub, 1) := by decide +kernel
theorem dX7_isWord_9 : decode cX7_isWord 9 = .ok (.aload_n 1, 1) := by decide +kernel
theorem dX7_isWord_10 : decode cX7_isWord 10 = .ok (.invokevirtual 60, 3) := by decide +kernel
theorem dX7_isWord_13 : decode cX7_isWord 13 = .ok (.if_icmp .eq 5, 3) := by decide +kernel
theorem dX7_isWord_16 : decode cX7_isWord 16 = .ok (.iconst 0, 1) := by decide +kernel
theorem dX7_isWord_17 : decode cX7_isWord 17 = .ok (.ireturn, 1) := by decide +kernel
theorem dX7_isWord_18 : decode cX7_isWord 18 = .ok (.iconst 0, 1) := by decide +kernel
theorem dX7_isWord_19 : decode cX7_isWord 19 = .ok (.istore_n 2, 1) := by decide +kernel
theorem dX7_isWord_20 : decode cX7_isWord 20 = .ok (.iload_n 2, 1) := by decide +kernel
theorem dX7_isWord_21 : decode cX7_isWord 21 = .ok (.aload_n 1, 1) := by decide +kernel
theorem dX7_isWord_22 : decode cX7_isWord 22 = .ok (.invokevirtual 60, 3) := by decide +kernel
theorem dX7_isWord_25 : decode cX7_isWord 25 = .ok (.if_icmp .ge 29, 3) := by decide +kernel
theorem dX7_isWord_28 : decode cX7_isWord 28 = .ok (.aload_n 0, 1) := by decide +kernel
theorem dX7_isWord_29 : decode cX7_isWord 29 = .ok (.aload_n 0, 1) := by decide +kernel
theorem dX7_isWord_30 : decode cX7_isWord 30 = .ok (.getfield 19, 3) := by decide +kernel
theorem dX7_isWord_33 : decode cX7_isWord 33 = .ok (.iload_n 2, 1) := by decide +kernel
theorem dX7_isWord_34 : decode cX7_isWord 34 = .ok (.iadd, 1) := by decide +kernel
theorem dX7_isWord_35 : decode cX7_isWord 35 = .ok (.invokevirtual 31, 3) := by decide +kernel
theorem dX7_isWord_38 : decode cX7_isWord 38 = .ok (.aload_n 1, 1) := by decide +kernel
theorem dX7_isWord_39 : decode cX7_isWord 39 = .ok (.iload_n 2, 1) := by decide +kernel
theorem dX7_isWord_40 : decode cX7_isWord 40 = .ok (.invokevirtual 65, 3) := by decide +kernel
theorem dX7_isWord_43 : decode cX7_isWord 43 = .ok (.if_icmp .eq 5, 3) := by decide +kernel
theorem dX7_isWord_46 : decode cX7_isWord 46 = .ok (.iconst 0, 1) := by decide +kernel
theorem dX7_isWord_47 : decode cX7_isWord 47 = .ok (.ireturn, 1) := by decide +kernel
theorem dX7_isWord_48 : decode cX7_isWord 48 = .ok (.iinc 2 1, 3) := by decide +kernel
theorem dX7_isWord_51 : decode cX7_isWord 51 = .ok (.goto (-31), 3) := by decide +kernel
theorem dX7_isWord_54 : decode cX7_isWord 54 = .ok (.iconst 1, 1) := by decide +kernel
theorem dX7_isWord_55 : decode cX7_isWord 55 = .ok (.ireturn, 1) := by decide +kernel
theorem dX7_readNumber_0 : decode cX7_readNumber 0 = .ok (.aload_n 0, 1) := by decide +kernel
theorem dX7_readNumber_1 : decode cX7_readNumber 1 = .ok (.iconst 0, 1) := by decide +kernel
theorem dX7_readNumber_2 : decode cX7_readNumber 2 = .ok (.putfield 28, 3) := by decide +kernel
theorem dX7_readNumber_5 : decode cX7_readNumber 5 = .ok (.aload_n 0, 1) := by decide +kernel
theorem dX7_readNumber_6 : decode cX7_readNumber 6 = .ok (.getfield 22, 3) := by decide +kernel
theorem dX7_readNumber_9 : decode cX7_readNumber 9 = .ok (.aload_n 0, 1) := by decide +kernel
theorem dX7_readNumber_10 : decode cX7_readNumber 10 = .ok (.getfield 9, 3) := by decide +kernel
theorem dX7_readNumber_13 : decode cX7_readNumber 13 = .ok (.if_icmp .ge 66, 3) := by decide +kernel
theorem dX7_readNumber_16 : decode cX7_readNumber 16 = .ok (.aload_n 0, 1) := by decide +kernel
theorem dX7_readNumber_17 : decode cX7_readNumber 17 = .ok (.aload_n 0, 1) := by decide +kernel
theorem dX7_readNumber_18 : decode cX7_readNumber 18 = .ok (.getfield 22, 3) := by decide +kernel
theorem dX7_readNumber_21 : decode cX7_readNumber 21 = .ok (.invokevirtual 31, 3) := by decide +kernel
theorem dX7_readNumber_24 : decode cX7_readNumber 24 = .ok (.invokestatic 42, 3) := by decide +kernel
theorem dX7_readNumber_27 : decode cX7_readNumber 27 = .ok (.ifCond .eq 52, 3) := by decide +kernel
theorem dX7_readNumber_30 : decode cX7_readNumber 30 = .ok (.aload_n 0, 1) := by decide +kernel
theorem dX7_readNumber_31 : decode cX7_readNumber 31 = .ok (.getfield 22, 3) := by decide +kernel
theorem dX7_readNumber_34 : decode cX7_readNumber 34 = .ok (.aload_n 0, 1) := by decide +kernel
theorem dX7_readNumber_35 : decode cX7_readNumber 35 = .ok (.getfield 19, 3) := by decide +kernel
theorem dX7_readNumber_38 : decode cX7_readNumber 38 = .ok (.isub, 1) := by decide +kernel
theorem dX7_readNumber_39 : decode cX7_readNumber 39 = .ok (.iconst 2, 1) := by decide +kernel
theorem dX7_readNumber_40 : decode cX7_readNumber 40 = .ok (.if_icmp .ge 26, 3) := by decide +kernel
theorem dX7_readNumber_43 : decode cX7_readNumber 43 = .ok (.aload_n 0, 1) := by decide +kernel
theorem dX7_readNumber_44 : decode cX7_readNumber 44 = .ok (.bipush 10, 2) := by decide +kernel
theorem dX7_readNumber_46 : decode cX7_readNumber 46 = .ok (.aload_n 0, 1) := by decide +kernel
theorem dX7_readNumber_47 : decode cX7_readNumber 47 = .ok (.getfield 28, 3) := by decide +kernel
theorem dX7_readNumber_50 : decode cX7_readNumber 50 = .ok (.imul, 1) := by decide +kernel
theorem dX7_readNumber_51 : decode cX7_readNumber 51 = .ok (.aload_n 0, 1) := by decide +kernel
theorem dX7_readNumber_52 : decode cX7_readNumber 52 = .ok (.aload_n 0, 1) := by decide +kernel
theorem dX7_readNumber_53 : decode cX7_readNumber 53 = .ok (.getfield 22, 3) := by decide +kernel
theorem dX7_readNumber_56 : decode cX7_readNumber 56 = .ok (.invokevirtual 31, 3) := by decide +kernel
theorem dX7_readNumber_59 : decode cX7_readNumber 59 = .ok (.iadd, 1) := by decide +kernel
theorem dX7_readNumber_60 : decode cX7_readNumber 60 = .ok (.bipush 48, 2) := by decide +kernel
theorem dX7_readNumber_62 : decode cX7_readNumber 62 = .ok (.isub, 1) := by decide +kernel
theorem dX7_readNumber_63 : decode cX7_readNumber 63 = .ok (.putfield 28, 3) := by decide +kernel
theorem dX7_readNumber_66 : decode cX7_readNumber 66 = .ok (.aload_n 0, 1) := by decide +kernel
theorem dX7_readNumber_67 : decode cX7_readNumber 67 = .ok (.dup, 1) := by decide +kernel
theorem dX7_readNumber_68 : decode cX7_readNumber 68 = .ok (.getfield 22, 3) := by decide +kernel
theorem dX7_readNumber_71 : decode cX7_readNumber 71 = .ok (.iconst 1, 1) := by decide +kernel
theorem dX7_readNumber_72 : decode cX7_readNumber 72 = .ok (.iadd, 1) := by decide +kernel
theorem dX7_readNumber_73 : decode cX7_readNumber 73 = .ok (.putfield 22, 3) := by decide +kernel
theorem dX7_readNumber_76 : decode cX7_readNumber 76 = .ok (.goto (-71), 3) := by decide +kernel
theorem dX7_readNumber_79 : decode cX7_readNumber 79 = .ok (.aload_n 0, 1) := by decide +kernel
theorem dX7_readNumber_80 : decode cX7_readNumber 80 = .ok (.getfield 22, 3) := by decide +kernel
theorem dX7_readNumber_83 : decode cX7_readNumber 83 = .ok (.aload_n 0, 1) := by decide +kernel
theorem dX7_readNumber_84 : decode cX7_readNumber 84 = .ok (.getfield 19, 3) := by decide +kernel
theorem dX7_readNumber_87 : decode cX7_readNumber 87 = .ok (.isub, 1) := by decide +kernel
theorem dX7_readNumber_88 : decode cX7_readNumber 88 = .ok (.istore_n 1, 1) := by decide +kernel
theorem dX7_readNumber_89 : decode cX7_readNumber 89 = .ok (.iload_n 1, 1) := by decide +kernel
theorem dX7_readNumber_90 : decode cX7_readNumber 90 = .ok (.iconst 1, 1) := by decide +kernel
theorem dX7_readNumber_91 : decode cX7_readNumber 91 = .ok (.if_icmp .le 20, 3) := by decide +kernel
theorem dX7_readNumber_94 : decode cX7_readNumber 94 = .ok (.aload_n 0, 1) := by decide +kernel
theorem dX7_readNumber_95 : decode cX7_readNumber 95 = .ok (.aload_n 0, 1) := by decide +kernel
theorem dX7_readNumber_96 : decode cX7_readNumber 96 = .ok (.getfield 19, 3) := by decide +kernel
theorem dX7_readNumber_99 : decode cX7_readNumber 99 = .ok (.invokevirtual 31, 3) := by decide +kernel
theorem dX7_readNumber_102 : decode cX7_readNumber 102 = .ok (.bipush 48, 2) := by decide +kernel
theorem dX7_readNumber_104 : decode cX7_readNumber 104 = .ok (.if_icmp .ne 7, 3) := by decide +kernel
theorem dX7_readNumber_107 : decode cX7_readNumber 107 = .ok (.iconst 1, 1) := by decide +kernel
theorem dX7_readNumber_108 : decode cX7_readNumber 108 = .ok (.goto 4, 3) := by decide +kernel
theorem dX7_readNumber_111 : decode cX7_readNumber 111 = .ok (.iconst 0, 1) := by decide +kernel
theorem dX7_readNumber_112 : decode cX7_readNumber 112 = .ok (.istore_n 2, 1) := by decide +kernel
theorem dX7_readNumber_113 : decode cX7_readNumber 113 = .ok (.aload_n 0, 1) := by decide +kernel
theorem dX7_readNumber_114 : decode cX7_readNumber 114 = .ok (.iload_n 1, 1) := by decide +kernel
theorem dX7_readNumber_115 : decode cX7_readNumber 115 = .ok (.iconst 2, 1) := by decide +kernel
theorem dX7_readNumber_116 : decode cX7_readNumber 116 = .ok (.if_icmp .gt 7, 3) := by decide +kernel
theorem dX7_readNumber_119 : decode cX7_readNumber 119 = .ok (.iload_n 2, 1) := by decide +kernel
theorem dX7_readNumber_120 : decode cX7_readNumber 120 = .ok (.ifCond .eq 7, 3) := by decide +kernel
theorem dX7_readNumber_123 : decode cX7_readNumber 123 = .ok (.iconst 1, 1) := by decide +kernel
theorem dX7_readNumber_124 : decode cX7_readNumber 124 = .ok (.goto 4, 3) := by decide +kernel
theorem dX7_readNumber_127 : decode cX7_readNumber 127 = .ok (.iconst 2, 1) := by decide +kernel
theorem dX7_readNumber_128 : decode cX7_readNumber 128 = .ok (.putfield 25, 3) := by decide +kernel
theorem dX7_readNumber_131 : decode cX7_readNumber 131 = .ok (.return_, 1) := by decide +kernel
theorem dX7_byteAt_0 : decode cX7_byteAt 0 = .ok (.iload_n 1, 1) := by decide +kernel
theorem dX7_byteAt_1 : decode cX7_byteAt 1 = .ok (.ifCond .lt 27, 3) := by decide +kernel
theorem dX7_byteAt_4 : decode cX7_byteAt 4 = .ok (.iload_n 1, 1) := by decide +kernel
theorem dX7_byteAt_5 : decode cX7_byteAt 5 = .ok (.aload_n 0, 1) := by decide +kernel
theorem dX7_byteAt_6 : decode cX7_byteAt 6 = .ok (.getfield 9, 3) := by decide +kernel
theorem dX7_byteAt_9 : decode cX7_byteAt 9 = .ok (.if_icmp .ge 19, 3) := by decide +kernel
theorem dX7_byteAt_12 : decode cX7_byteAt 12 = .ok (.iload_n 1, 1) := by decide +kernel
theorem dX7_byteAt_13 : decode cX7_byteAt 13 = .ok (.sipush 200, 3) := by decide +kernel
theorem dX7_byteAt_16 : decode cX7_byteAt 16 = .ok (.if_icmp .ge 12, 3) := by decide +kernel
theorem dX7_byteAt_19 : decode cX7_byteAt 19 = .ok (.aload_n 0, 1) := by decide +kernel
theorem dX7_byteAt_20 : decode cX7_byteAt 20 = .ok (.getfield 15, 3) := by decide +kernel
theorem dX7_byteAt_23 : decode cX7_byteAt 23 = .ok (.iload_n 1, 1) := by decide +kernel
theorem dX7_byteAt_24 : decode cX7_byteAt 24 = .ok (.iaload, 1) := by decide +kernel
theorem dX7_byteAt_25 : decode cX7_byteAt 25 = .ok (.goto 4, 3) := by decide +kernel
theorem dX7_byteAt_28 : decode cX7_byteAt 28 = .ok (.iconst (-1), 1) := by decide +kernel
theorem dX7_byteAt_29 : decode cX7_byteAt 29 = .ok (.ireturn, 1) := by decide +kernel
theorem dX7_isLetter_0 : decode cX7_isLetter 0 = .ok (.iload_n 0, 1) := by decide +kernel
theorem dX7_isLetter_1 : decode cX7_isLetter 1 = .ok (.bipush 97, 2) := by decide +kernel
theorem dX7_isLetter_3 : decode cX7_isLetter 3 = .ok (.if_icmp .lt 13, 3) := by decide +kernel
theorem dX7_isLetter_6 : decode cX7_isLetter 6 = .ok (.iload_n 0, 1) := by decide +kernel
theorem dX7_isLetter_7 : decode cX7_isLetter 7 = .ok (.bipush 122, 2) := by decide +kernel
theorem dX7_isLetter_9 : decode cX7_isLetter 9 = .ok (.if_icmp .gt 7, 3) := by decide +kernel
theorem dX7_isLetter_12 : decode cX7_isLetter 12 = .ok (.iconst 1, 1) := by decide +kernel
theorem dX7_isLetter_13 : decode cX7_isLetter 13 = .ok (.goto 4, 3) := by decide +kernel
theorem dX7_isLetter_16 : decode cX7_isLetter 16 = .ok (.iconst 0, 1) := by decide +kernel
theorem dX7_isLetter_17 : decode cX7_isLetter 17 = .ok (.ireturn, 1) := by decide +kernel
theorem dX7_isDigit_0 : decode cX7_isDigit 0 = .ok (.iload_n 0, 1) := by decide +kernel
theorem dX7_isDigit_1 : decode cX7_isDigit 1 = .ok (.bipush 48, 2) := by decide +kernel
theorem dX7_isDigit_3 : decode cX7_isDigit 3 = .ok (.if_icmp .lt 13, 3) := by decide +kernel
theorem dX7_isDigit_6 : decode cX7_isDigit 6 = .ok (.iload_n 0, 1) := by decide +kernel
theorem dX7_isDigit_7 : decode cX7_isDigit 7 = .ok (.bipush 57, 2) := by decide +kernel
theorem dX7_isDigit_9 : decode cX7_isDigit 9 = .ok (.if_icmp .gt 7, 3) := by decide +kernel
theorem dX7_isDigit_12 : decode cX7_isDigit 12 = .ok (.iconst 1, 1) := by decide +kernel
theorem dX7_isDigit_13 : decode cX7_isDigit 13 = .ok (.goto 4, 3) := by decide +kernel
theorem dX7_isDigit_16 : decode cX7_isDigit 16 = .ok (.iconst 0, 1) := by decide +kernel
theorem dX7_isDigit_17 : decode cX7_isDigit 17 = .ok (.ireturn, 1) := by decide +kernel
theorem dX8_init_0 : decode cX8_init 0 = .ok (.aload_n 0, 1) := by decide +kernel
theorem dX8_init_1 : decode cX8_init 1 = .ok (.invokespecial 1, 3) := by decide +kernel
theorem dX8_init_4 : decode cX8_init 4 = .ok (.aload_n 0, 1) := by decide +kernel
theorem dX8_init_5 : decode cX8_init 5 = .ok (.new 7, 3) := by decide +kernel
theorem dX8_init_8 : decode cX8_init 8 = .ok (.dup, 1) := by decide +kernel
theorem dX8_init_9 : decode cX8_init 9 = .ok (.invokespecial 9, 3) := by decide +kernel
theorem dX8_init_12 : decode cX8_init 12 = .ok (.putfield 10, 3) := by decide +kernel
theorem dX8_init_15 : decode cX8_init 15 = .ok (.aload_n 0, 1) := by decide +kernel
theorem dX8_init_16 : decode cX8_init 16 = .ok (.aload_n 0, 1) := by decide +kernel
theorem dX8_init_17 : decode cX8_init 17 = .ok (.getfield 10, 3) := by decide +kernel
theorem dX8_init_20 : decode cX8_init 20 = .ok (.getfield 16, 3) := by decide +kernel
theorem dX8_init_23 : decode cX8_init 23 = .ok (.putfield 20, 3) := by decide +kernel
theorem dX8_init_26 : decode cX8_init 26 = .ok (.aload_n 0, 1) := by decide +kernel
theorem dX8_init_27 : decode cX8_init 27 = .ok (.new 21, 3) := by decide +kernel
theorem dX8_init_30 : decode cX8_init 30 = .ok (.dup, 1) := by decide +kernel
theorem dX8_init_31 : decode cX8_init 31 = .ok (.invokespecial 23, 3) := by decide +kernel
theorem dX8_init_34 : decode cX8_init 34 = .ok (.putfield 24, 3) := by decide +kernel
theorem dX8_init_37 : decode cX8_init 37 = .ok (.aload_n 0, 1) := by decide +kernel
theorem dX8_init_38 : decode cX8_init 38 = .ok (.new 28, 3) := by decide +kernel
theorem dX8_init_41 : decode cX8_init 41 = .ok (.dup, 1) := by decide +kernel
theorem dX8_init_42 : decode cX8_init 42 = .ok (.invokespecial 30, 3) := by decide +kernel
theorem dX8_init_45 : decode cX8_init 45 = .ok (.putfield 31, 3) := by decide +kernel
theorem dX8_init_48 : decode cX8_init 48 = .ok (.aload_n 0, 1) := by decide +kernel
theorem dX8_init_49 : decode cX8_init 49 = .ok (.new 28, 3) := by decide +kernel
theorem dX8_init_52 : decode cX8_init 52 = .ok (.dup, 1) := by decide +kernel
theorem dX8_init_53 : decode cX8_init 53 = .ok (.invokespecial 30, 3) := by decide +kernel
theorem dX8_init_56 : decode cX8_init 56 = .ok (.putfield 35, 3) := by decide +kernel
theorem dX8_init_59 : decode cX8_init 59 = .ok (.aload_n 0, 1) := by decide +kernel
theorem dX8_init_60 : decode cX8_init 60 = .ok (.new 38, 3) := by decide +kernel
theorem dX8_init_63 : decode cX8_init 63 = .ok (.dup, 1) := by decide +kernel
theorem dX8_init_64 : decode cX8_init 64 = .ok (.invokespecial 40, 3) := by decide +kernel
theorem dX8_init_67 : decode cX8_init 67 = .ok (.putfield 41, 3) := by decide +kernel
theorem dX8_init_70 : decode cX8_init 70 = .ok (.aload_n 0, 1) := by decide +kernel
theorem dX8_init_71 : decode cX8_init 71 = .ok (.new 45, 3) := by decide +kernel
theorem dX8_init_74 : decode cX8_init 74 = .ok (.dup, 1) := by decide +kernel
theorem dX8_init_75 : decode cX8_init 75 = .ok (.invokespecial 47, 3) := by decide +kernel
theorem dX8_init_78 : decode cX8_init 78 = .ok (.putfield 48, 3) := by decide +kernel
theorem dX8_init_81 : decode cX8_init 81 = .ok (.aload_n 0, 1) := by decide +kernel
theorem dX8_init_82 : decode cX8_init 82 = .ok (.iconst 2, 1) := by decide +kernel
theorem dX8_init_83 : decode cX8_init 83 = .ok (.anewarray 45, 3) := by decide +kernel
theorem dX8_init_86 : decode cX8_init 86 = .ok (.putfield 52, 3) := by decide +kernel
theorem dX8_init_89 : decode cX8_init 89 = .ok (.aload_n 0, 1) := by decide +kernel
theorem dX8_init_90 : decode cX8_init 90 = .ok (.new 56, 3) := by decide +kernel
theorem dX8_init_93 : decode cX8_init 93 = .ok (.dup, 1) := by decide +kernel
theorem dX8_init_94 : decode cX8_init 94 = .ok (.invokespecial 58, 3) := by decide +kernel
theorem dX8_init_97 : decode cX8_init 97 = .ok (.putfield 59, 3) := by decide +kernel
theorem dX8_init_100 : decode cX8_init 100 = .ok (.aload_n 0, 1) := by decide +kernel
theorem dX8_init_101 : decode cX8_init 101 = .ok (.new 63, 3) := by decide +kernel
theorem dX8_init_104 : decode cX8_init 104 = .ok (.dup, 1) := by decide +kernel
theorem dX8_init_105 : decode cX8_init 105 = .ok (.invokespecial 65, 3) := by decide +kernel
theorem dX8_init_108 : decode cX8_init 108 = .ok (.putfield 66, 3) := by decide +kernel
theorem dX8_init_111 : decode cX8_init 111 = .ok (.aload_n 0, 1) := by decide +kernel
theorem dX8_init_112 : decode cX8_init 112 = .ok (.lconst 0, 1) := by decide +kernel
theorem dX8_init_113 : decode cX8_init 113 = .ok (.putfield 70, 3) := by decide +kernel
theorem dX8_init_116 : decode cX8_init 116 = .ok (.iconst 0, 1) := by decide +kernel
theorem dX8_init_117 : decode cX8_init 117 = .ok (.istore_n 1, 1) := by decide +kernel
theorem dX8_init_118 : decode cX8_init 118 = .ok (.iload_n 1, 1) := by decide +kernel
theorem dX8_init_119 : decode cX8_init 119 = .ok (.iconst 2, 1) := by decide +kernel
theorem dX8_init_120 : decode cX8_init 120 = .ok (.if_icmp .ge 22, 3) := by decide +kernel
theorem dX8_init_123 : decode cX8_init 123 = .ok (.aload_n 0, 1) := by decide +kernel
theorem dX8_init_124 : decode cX8_init 124 = .ok (.getfield 52, 3) := by decide +kernel
theorem dX8_init_127 : decode cX8_init 127 = .ok (.iload_n 1, 1) := by decide +kernel
theorem dX8_init_128 : decode cX8_init 128 = .ok (.new 45, 3) := by decide +kernel
theorem dX8_init_131 : decode cX8_init 131 = .ok (.dup, 1) := by decide +kernel
theorem dX8_init_132 : decode cX8_init 132 = .ok (.invokespecial 47, 3) := by decide +kernel
theorem dX8_init_135 : decode cX8_init 135 = .ok (.aastore, 1) := by decide +kernel
theorem dX8_init_136 : decode cX8_init 136 = .ok (.iinc 1 1, 3) := by decide +kernel
theorem dX8_init_139 : decode cX8_init 139 = .ok (.goto (-21), 3) := by decide +kernel
theorem dX8_init_142 : decode cX8_init 142 = .ok (.aload_n 0, 1) := by decide +kernel
theorem dX8_init_143 : decode cX8_init 143 = .ok (.invokevirtual 74, 3) := by decide +kernel
theorem dX8_init_146 : decode cX8_init 146 = .ok (.return_, 1) := by decide +kernel
theorem dX8_type_0 : decode cX8_type 0 = .ok (.iload_n 3, 1) := by decide +kernel
theorem dX8_type_1 : decode cX8_type 1 = .ok (.iconst 1, 1) := by decide +kernel
theorem dX8_type_2 : decode cX8_type 2 = .ok (.if_icmp .lt 9, 3) := by decide +kernel
theorem dX8_type_5 : decode cX8_type 5 = .ok (.iload_n 3, 1) := by decide +kernel
theorem dX8_type_6 : decode cX8_type 6 = .ok (.bipush 8, 2) := by decide +kernel
theorem dX8_type_8 : decode cX8_type 8 = .ok (.if_icmp .le 5, 3) := by decide +kernel
theorem dX8_type_11 : decode cX8_type 11 = .ok (.iconst (-1), 1) := by decide +kernel
theorem dX8_type_12 : decode cX8_type 12 = .ok (.ireturn, 1) := by decide +kernel
theorem dX8_type_13 : decode cX8_type 13 = .ok (.aload_n 0, 1) := by decide +kernel
theorem dX8_type_14 : decode cX8_type 14 = .ok (.getfield 20, 3) := by decide +kernel
theorem dX8_type_17 : decode cX8_type 17 = .ok (.getfield 77, 3) := by decide +kernel
theorem dX8_type_20 : decode cX8_type 20 = .ok (.iload_n 3, 1) := by decide +kernel
theorem dX8_type_21 : decode cX8_type 21 = .ok (.iadd, 1) := by decide +kernel
theorem dX8_type_22 : decode cX8_type 22 = .ok (.sipush 200, 3) := by decide +kernel
theorem dX8_type_25 : decode cX8_type 25 = .ok (.if_icmp .le 6, 3) := by decide +kernel
theorem dX8_type_28 : decode cX8_type 28 = .ok (.bipush (-3), 2) := by decide +kernel
theorem dX8_type_30 : decode cX8_type 30 = .ok (.ireturn, 1) := by decide +kernel
theorem dX8_type_31 : decode cX8_type 31 = .ok (.iload_n 3, 1) := by decide +kernel
theorem dX8_type_32 : decode cX8_type 32 = .ok (.iconst 1, 1) := by decide +kernel
theorem dX8_type_33 : decode cX8_type 33 = .ok (.isub, 1) := by decide +kernel
theorem dX8_type_34 : decode cX8_type 34 = .ok (.istore 4, 2) := by decide +kernel
theorem dX8_type_36 : decode cX8_type 36 = .ok (.iload 4, 2) := by decide +kernel
theorem dX8_type_38 : decode cX8_type 38 = .ok (.ifCond .lt 28, 3) := by decide +kernel
theorem dX8_type_41 : decode cX8_type 41 = .ok (.aload_n 0, 1) := by decide +kernel
theorem dX8_type_42 : decode cX8_type 42 = .ok (.getfield 20, 3) := by decide +kernel
theorem dX8_type_45 : decode cX8_type 45 = .ok (.lload_n 1, 1) := by decide +kernel
theorem dX8_type_46 : decode cX8_type 46 = .ok (.bipush 8, 2) := by decide +kernel
theorem dX8_type_48 : decode cX8_type 48 = .ok (.iload 4, 2) := by decide +kernel
theorem dX8_type_50 : decode cX8_type 50 = .ok (.imul, 1) := by decide +kernel
theorem dX8_type_51 : decode cX8_type 51 = .ok (.lushr, 1) := by decide +kernel
theorem dX8_type_52 : decode cX8_type 52 = .ok (.l2i, 1) := by decide +kernel
theorem dX8_type_53 : decode cX8_type 53 = .ok (.sipush 255, 3) := by decide +kernel
theorem dX8_type_56 : decode cX8_type 56 = .ok (.iand, 1) := by decide +kernel
theorem dX8_type_57 : decode cX8_type 57 = .ok (.invokevirtual 83, 3) := by decide +kernel
theorem dX8_type_60 : decode cX8_type 60 = .ok (.iinc 4 (-1), 3) := by decide +kernel
theorem dX8_type_63 : decode cX8_type 63 = .ok (.goto (-27), 3) := by decide +kernel
theorem dX8_type_66 : decode cX8_type 66 = .ok (.aload_n 0, 1) := by decide +kernel
theorem dX8_type_67 : decode cX8_type 67 = .ok (.getfield 20, 3) := by decide +kernel
theorem dX8_type_70 : decode cX8_type 70 = .ok (.getfield 77, 3) := by decide +kernel
theorem dX8_type_73 : decode cX8_type 73 = .ok (.ireturn, 1) := by decide +kernel
theorem dX8_clear_0 : decode cX8_clear 0 = .ok (.aload_n 0, 1) := by decide +kernel
theorem dX8_clear_1 : decode cX8_clear 1 = .ok (.getfield 20, 3) := by decide +kernel
theorem dX8_clear_4 : decode cX8_clear 4 = .ok (.getfield 77, 3) := by decide +kernel
theorem dX8_clear_7 : decode cX8_clear 7 = .ok (.istore_n 1, 1) := by decide +kernel
theorem dX8_clear_8 : decode cX8_clear 8 = .ok (.aload_n 0, 1) := by decide +kernel
theorem dX8_clear_9 : decode cX8_clear 9 = .ok (.getfield 20, 3) := by decide +kernel
theorem dX8_clear_12 : decode cX8_clear 12 = .ok (.iconst 0, 1) := by decide +kernel
theorem dX8_clear_13 : decode cX8_clear 13 = .ok (.putfield 77, 3) := by decide +kernel
theorem dX8_clear_16 : decode cX8_clear 16 = .ok (.iload_n 1, 1) := by decide +kernel
theorem dX8_clear_17 : decode cX8_clear 17 = .ok (.ireturn, 1) := by decide +kernel
theorem dX8_map_0 : decode cX8_map 0 = .ok (.aload_n 0, 1) := by decide +kernel
theorem dX8_map_1 : decode cX8_map 1 = .ok (.getfield 10, 3) := by decide +kernel
theorem dX8_map_4 : decode cX8_map 4 = .ok (.invokevirtual 87, 3) := by decide +kernel
theorem dX8_map_7 : decode cX8_map 7 = .ok (.ifCond .ne 14, 3) := by decide +kernel
theorem dX8_map_10 : decode cX8_map 10 = .ok (.bipush (-10), 2) := by decide +kernel
theorem dX8_map_12 : decode cX8_map 12 = .ok (.aload_n 0, 1) := by decide +kernel
theorem dX8_map_13 : decode cX8_map 13 = .ok (.getfield 20, 3) := by decide +kernel
theorem dX8_map_16 : decode cX8_map 16 = .ok (.getfield 91, 3) := by decide +kernel
theorem dX8_map_19 : decode cX8_map 19 = .ok (.isub, 1) := by decide +kernel
theorem dX8_map_20 : decode cX8_map 20 = .ok (.ireturn, 1) := by decide +kernel
theorem dX8_map_21 : decode cX8_map 21 = .ok (.aload_n 0, 1) := by decide +kernel
theorem dX8_map_22 : decode cX8_map 22 = .ok (.getfield 24, 3) := by decide +kernel
theorem dX8_map_25 : decode cX8_map 25 = .ok (.aload_n 0, 1) := by decide +kernel
theorem dX8_map_26 : decode cX8_map 26 = .ok (.getfield 10, 3) := by decide +kernel
theorem dX8_map_29 : decode cX8_map 29 = .ok (.getfield 94, 3) := by decide +kernel
theorem dX8_map_32 : decode cX8_map 32 = .ok (.invokevirtual 97, 3) := by decide +kernel
theorem dX8_map_35 : decode cX8_map 35 = .ok (.aload_n 0, 1) := by decide +kernel
theorem dX8_map_36 : decode cX8_map 36 = .ok (.getfield 20, 3) := by decide +kernel
theorem dX8_map_39 : decode cX8_map 39 = .ok (.iconst 0, 1) := by decide +kernel
theorem dX8_map_40 : decode cX8_map 40 = .ok (.putfield 77, 3) := by decide +kernel
theorem dX8_map_43 : decode cX8_map 43 = .ok (.aload_n 0, 1) := by decide +kernel
theorem dX8_map_44 : decode cX8_map 44 = .ok (.invokevirtual 74, 3) := by decide +kernel
theorem dX8_map_47 : decode cX8_map 47 = .ok (.aload_n 0, 1) := by decide +kernel
theorem dX8_map_48 : decode cX8_map 48 = .ok (.getfield 10, 3) := by decide +kernel
theorem dX8_map_51 : decode cX8_map 51 = .ok (.getfield 101, 3) := by decide +kernel
theorem dX8_map_54 : decode cX8_map 54 = .ok (.ireturn, 1) := by decide +kernel
theorem dX8_cell_0 : decode cX8_cell 0 = .ok (.aload_n 0, 1) := by decide +kernel
theorem dX8_cell_1 : decode cX8_cell 1 = .ok (.iload_n 1, 1) := by decide +kernel
theorem dX8_cell_2 : decode cX8_cell 2 = .ok (.invokevirtual 104, 3) := by decide +kernel
theorem dX8_cell_5 : decode cX8_cell 5 = .ok (.ifCond .ne 5, 3) := by decide +kernel
theorem dX8_cell_8 : decode cX8_cell 8 = .ok (.iconst (-1), 1) := by decide +kernel
theorem dX8_cell_9 : decode cX8_cell 9 = .ok (.ireturn, 1) := by decide +kernel
theorem dX8_cell_10 : decode cX8_cell 10 = .ok (.iload_n 2, 1) := by decide +kernel
theorem dX8_cell_11 : decode cX8_cell 11 = .ok (.tableswitch 103 0 5 #[37, 47, 57, 67, 77, 87], 37) := by decide +kernel
theorem dX8_cell_48 : decode cX8_cell 48 = .ok (.aload_n 0, 1) := by decide +kernel
theorem dX8_cell_49 : decode cX8_cell 49 = .ok (.getfield 35, 3) := by decide +kernel
theorem dX8_cell_52 : decode cX8_cell 52 = .ok (.getfield 108, 3) := by decide +kernel
theorem dX8_cell_55 : decode cX8_cell 55 = .ok (.iload_n 1, 1) := by decide +kernel
theorem dX8_cell_56 : decode cX8_cell 56 = .ok (.iaload, 1) := by decide +kernel
theorem dX8_cell_57 : decode cX8_cell 57 = .ok (.ireturn, 1) := by decide +kernel
theorem dX8_cell_58 : decode cX8_cell 58 = .ok (.aload_n 0, 1) := by decide +kernel
theorem dX8_cell_59 : decode cX8_cell 59 = .ok (.getfield 35, 3) := by decide +kernel
theorem dX8_cell_62 : decode cX8_cell 62 = .ok (.getfield 112, 3) := by decide +kernel
theorem dX8_cell_65 : decode cX8_cell 65 = .ok (.iload_n 1, 1) := by decide +kernel
theorem dX8_cell_66 : decode cX8_cell 66 = .ok (.iaload, 1) := by decide +kernel
theorem dX8_cell_67 : decode cX8_cell 67 = .ok (.ireturn, 1) := by decide +kernel
theorem dX8_cell_68 : decode cX8_cell 68 = .ok (.aload_n 0, 1) := by decide +kernel
theorem dX8_cell_69 : decode cX8_cell 69 = .ok (.getfield 35, 3) := by decide +kernel
theorem dX8_cell_72 : decode cX8_cell 72 = .ok (.getfield 115, 3) := by decide +kernel
theorem dX8_cell_75 : decode cX8_cell 75 = .ok (.iload_n 1, 1) := by decide +kernel
theorem dX8_cell_76 : decode cX8_cell 76 = .ok (.iaload, 1) := by decide +kernel
theorem dX8_cell_77 : decode cX8_cell 77 = .ok (.ireturn, 1) := by decide +kernel
theorem dX8_cell_78 : decode cX8_cell 78 = .ok (.aload_n 0, 1) := by decide +kernel
theorem dX8_cell_79 : decode cX8_cell 79 = .ok (.getfield 35, 3) := by decide +kernel
theorem dX8_cell_82 : decode cX8_cell 82 = .ok (.getfield 118, 3) := by decide +kernel
theorem dX8_cell_85 : decode cX8_cell 85 = .ok (.iload_n 1, 1) := by decide +kernel
theorem dX8_cell_86 : decode cX8_cell 86 = .ok (.iaload, 1) := by decide +kernel
theorem dX8_cell_87 : decode cX8_cell 87 = .ok (.ireturn, 1) := by decide +kernel
theorem dX8_cell_88 : decode cX8_cell 88 = .ok (.aload_n 0, 1) := by decide +kernel
theorem dX8_cell_89 : decode cX8_cell 89 = .ok (.getfield 24, 3) := by decide +kernel
theorem dX8_cell_92 : decode cX8_cell 92 = .ok (.getfield 121, 3) := by decide +kernel
theorem dX8_cell_95 : decode cX8_cell 95 = .ok (.iload_n 1, 1) := by decide +kernel
theorem dX8_cell_96 : decode cX8_cell 96 = .ok (.iaload, 1) := by decide +kernel
theorem dX8_cell_97 : decode cX8_cell 97 = .ok (.ireturn, 1) := by decide +kernel
theorem dX8_cell_98 : decode cX8_cell 98 = .ok (.aload_n 0, 1) := by decide +kernel
theorem dX8_cell_99 : decode cX8_cell 99 = .ok (.getfield 35, 3) := by decide +kernel
theorem dX8_cell_102 : decode cX8_cell 102 = .ok (.iload_n 1, 1) := by decide +kernel
theorem dX8_cell_103 : decode cX8_cell 103 = .ok (.aload_n 0, 1) := by decide +kernel
theorem dX8_cell_104 : decode cX8_cell 104 = .ok (.getfield 24, 3) := by decide +kernel
theorem dX8_cell_107 : decode cX8_cell 107 = .ok (.getfield 121, 3) := by decide +kernel
theorem dX8_cell_110 : decode cX8_cell 110 = .ok (.invokevirtual 124, 3) := by decide +kernel
theorem dX8_cell_113 : decode cX8_cell 113 = .ok (.ireturn, 1) := by decide +kernel
theorem dX8_cell_114 : decode cX8_cell 114 = .ok (.iconst (-1), 1) := by decide +kernel
theorem dX8_cell_115 : decode cX8_cell 115 = .ok (.ireturn, 1) := by decide +kernel
theorem dX8_at_0 : decode cX8_at 0 = .ok (.iload_n 1, 1) := by decide +kernel
theorem dX8_at_1 : decode cX8_at 1 = .ok (.ifCond .lt 11, 3) := by decide +kernel
theorem dX8_at_4 : decode cX8_at 4 = .ok (.iload_n 2, 1) := by decide +kernel
theorem dX8_at_5 : decode cX8_at 5 = .ok (.ifCond .lt 7, 3) := by decide +kernel
theorem dX8_at_8 : decode cX8_at 8 = .ok (.iload_n 3, 1) := by decide +kernel
theorem dX8_at_9 : decode cX8_at 9 = .ok (.ifCond .ge 5, 3) := by decide +kernel
theorem dX8_at_12 : decode cX8_at 12 = .ok (.iconst (-1), 1) := by decide +kernel
theorem dX8_at_13 : decode cX8_at 13 = .ok (.ireturn, 1) := by decide +kernel
theorem dX8_at_14 : decode cX8_at 14 = .ok (.iconst 0, 1) := by decide +kernel
theorem dX8_at_15 : decode cX8_at 15 = .ok (.istore 4, 2) := by decide +kernel
theorem dX8_at_17 : decode cX8_at 17 = .ok (.iload 4, 2) := by decide +kernel
theorem dX8_at_19 : decode cX8_at 19 = .ok (.aload_n 0, 1) := by decide +kernel
theorem dX8_at_20 : decode cX8_at 20 = .ok (.getfield 35, 3) := by decide +kernel
theorem dX8_at_23 : decode cX8_at 23 = .ok (.getfield 128, 3) := by decide +kernel
theorem dX8_at_26 : decode cX8_at 26 = .ok (.if_icmp .ge 54, 3) := by decide +kernel
theorem dX8_at_29 : decode cX8_at 29 = .ok (.aload_n 0, 1) := by decide +kernel
theorem dX8_at_30 : decode cX8_at 30 = .ok (.getfield 35, 3) := by decide +kernel
theorem dX8_at_33 : decode cX8_at 33 = .ok (.getfield 108, 3) := by decide +kernel
theorem dX8_at_36 : decode cX8_at 36 = .ok (.iload 4, 2) := by decide +kernel
theorem dX8_at_38 : decode cX8_at 38 = .ok (.iaload, 1) := by decide +kernel
theorem dX8_at_39 : decode cX8_at 39 = .ok (.iload_n 1, 1) := by decide +kernel
theorem dX8_at_40 : decode cX8_at 40 = .ok (.if_icmp .ne 34, 3) := by decide +kernel
theorem dX8_at_43 : decode cX8_at 43 = .ok (.aload_n 0, 1) := by decide +kernel
theorem dX8_at_44 : decode cX8_at 44 = .ok (.getfield 35, 3) := by decide +kernel
theorem dX8_at_47 : decode cX8_at 47 = .ok (.getfield 112, 3) := by decide +kernel
theorem dX8_at_50 : decode cX8_at 50 = .ok (.iload 4, 2) := by decide +kernel
theorem dX8_at_52 : decode cX8_at 52 = .ok (.iaload, 1) := by decide +kernel
theorem dX8_at_53 : decode cX8_at 53 = .ok (.iload_n 2, 1) := by decide +kernel
theorem dX8_at_54 : decode cX8_at 54 = .ok (.if_icmp .ne 20, 3) := by decide +kernel
theorem dX8_at_57 : decode cX8_at 57 = .ok (.aload_n 0, 1) := by decide +kernel
theorem dX8_at_58 : decode cX8_at 58 = .ok (.getfield 35, 3) := by decide +kernel
theorem dX8_at_61 : decode cX8_at 61 = .ok (.getfield 115, 3) := by decide +kernel
theorem dX8_at_64 : decode cX8_at 64 = .ok (.iload 4, 2) := by decide +kernel
theorem dX8_at_66 : decode cX8_at 66 = .ok (.iaload, 1) := by decide +kernel
theorem dX8_at_67 : decode cX8_at 67 = .ok (.iload_n 3, 1) := by decide +kernel
theorem dX8_at_68 : decode cX8_at 68 = .ok (.if_icmp .ne 6, 3) := by decide +kernel
theorem dX8_at_71 : decode cX8_at 71 = .ok (.iload 4, 2) := by decide +kernel
theorem dX8_at_73 : decode cX8_at 73 = .ok (.ireturn, 1) := by decide +kernel
theorem dX8_at_74 : decode cX8_at 74 = .ok (.iinc 4 1, 3) := by decide +kernel
theorem dX8_at_77 : decode cX8_at 77 = .ok (.goto (-60), 3) := by decide +kernel
theorem dX8_at_80 : decode cX8_at 80 = .ok (.bipush (-9), 2) := by decide +kernel
theorem dX8_at_82 : decode cX8_at 82 = .ok (.ireturn, 1) := by decide +kernel
theorem dX8_fold_0 : decode cX8_fold 0 = .ok (.iload_n 1, 1) := by decide +kernel
theorem dX8_fold_1 : decode cX8_fold 1 = .ok (.invokestatic 131, 3) := by decide +kernel
theorem dX8_fold_4 : decode cX8_fold 4 = .ok (.ifCond .eq 28, 3) := by decide +kernel
theorem dX8_fold_7 : decode cX8_fold 7 = .ok (.iload_n 3, 1) := by decide +kernel
theorem dX8_fold_8 : decode cX8_fold 8 = .ok (.invokestatic 131, 3) := by decide +kernel
theorem dX8_fold_11 : decode cX8_fold 11 = .ok (.ifCond .eq 21, 3) := by decide +kernel
theorem dX8_fold_14 : decode cX8_fold 14 = .ok (.iload 4, 2) := by decide +kernel
theorem dX8_fold_16 : decode cX8_fold 16 = .ok (.invokestatic 131, 3) := by decide +kernel
theorem dX8_fold_19 : decode cX8_fold 19 = .ok (.ifCond .eq 13, 3) := by decide +kernel
theorem dX8_fold_22 : decode cX8_fold 22 = .ok (.iload_n 2, 1) := by decide +kernel
theorem dX8_fold_23 : decode cX8_fold 23 = .ok (.iconst 1, 1) := by decide +kernel
theorem dX8_fold_24 : decode cX8_fold 24 = .ok (.if_icmp .lt 8, 3) := by decide +kernel
theorem dX8_fold_27 : decode cX8_fold 27 = .ok (.iload_n 2, 1) := by decide +kernel
theorem dX8_fold_28 : decode cX8_fold 28 = .ok (.iconst 4, 1) := by decide +kernel
theorem dX8_fold_29 : decode cX8_fold 29 = .ok (.if_icmp .lt 5, 3) := by decide +kernel
theorem dX8_fold_32 : decode cX8_fold 32 = .ok (.iconst (-1), 1) := by decide +kernel
theorem dX8_fold_33 : decode cX8_fold 33 = .ok (.ireturn, 1) := by decide +kernel
theorem dX8_fold_34 : decode cX8_fold 34 = .ok (.iload_n 1, 1) := by decide +kernel
theorem dX8_fold_35 : decode cX8_fold 35 = .ok (.iconst 2, 1) := by decide +kernel
theorem dX8_fold_36 : decode cX8_fold 36 = .ok (.iload_n 3, 1) := by decide +kernel
theorem dX8_fold_37 : decode cX8_fold 37 = .ok (.imul, 1) := by decide +kernel
theorem dX8_fold_38 : decode cX8_fold 38 = .ok (.iadd, 1) := by decide +kernel
theorem dX8_fold_39 : decode cX8_fold 39 = .ok (.iconst 4, 1) := by decide +kernel
theorem dX8_fold_40 : decode cX8_fold 40 = .ok (.iload 4, 2) := by decide +kernel
theorem dX8_fold_42 : decode cX8_fold 42 = .ok (.imul, 1) := by decide +kernel
theorem dX8_fold_43 : decode cX8_fold 43 = .ok (.iadd, 1) := by decide +kernel
theorem dX8_fold_44 : decode cX8_fold 44 = .ok (.bipush 8, 2) := by decide +kernel
theorem dX8_fold_46 : decode cX8_fold 46 = .ok (.iload_n 2, 1) := by decide +kernel
theorem dX8_fold_47 : decode cX8_fold 47 = .ok (.iconst 1, 1) := by decide +kernel
theorem dX8_fold_48 : decode cX8_fold 48 = .ok (.isub, 1) := by decide +kernel
theorem dX8_fold_49 : decode cX8_fold 49 = .ok (.imul, 1) := by decide +kernel
theorem dX8_fold_50 : decode cX8_fold 50 = .ok (.iadd, 1) := by decide +kernel
theorem dX8_fold_51 : decode cX8_fold 51 = .ok (.istore 5, 2) := by decide +kernel
theorem dX8_fold_53 : decode cX8_fold 53 = .ok (.aload_n 0, 1) := by decide +kernel
theorem dX8_fold_54 : decode cX8_fold 54 = .ok (.getfield 35, 3) := by decide +kernel
theorem dX8_fold_57 : decode cX8_fold 57 = .ok (.iload 5, 2) := by decide +kernel
theorem dX8_fold_59 : decode cX8_fold 59 = .ok (.invokevirtual 134, 3) := by decide +kernel
theorem dX8_fold_62 : decode cX8_fold 62 = .ok (.ifCond .eq 26, 3) := by decide +kernel
theorem dX8_fold_65 : decode cX8_fold 65 = .ok (.aload_n 0, 1) := by decide +kernel
theorem dX8_fold_66 : decode cX8_fold 66 = .ok (.getfield 41, 3) := by decide +kernel
theorem dX8_fold_69 : decode cX8_fold 69 = .ok (.aload_n 0, 1) := by decide +kernel
theorem dX8_fold_70 : decode cX8_fold 70 = .ok (.getfield 35, 3) := by decide +kernel
theorem dX8_fold_73 : decode cX8_fold 73 = .ok (.iload 5, 2) := by decide +kernel
theorem dX8_fold_75 : decode cX8_fold 75 = .ok (.aload_n 0, 1) := by decide +kernel
theorem dX8_fold_76 : decode cX8_fold 76 = .ok (.getfield 24, 3) := by decide +kernel
theorem dX8_fold_79 : decode cX8_fold 79 = .ok (.getfield 137, 3) := by decide +kernel
theorem dX8_fold_82 : decode cX8_fold 82 = .ok (.invokevirtual 140, 3) := by decide +kernel
theorem dX8_fold_85 : decode cX8_fold 85 = .ok (.ifCond .eq 6, 3) := by decide +kernel
theorem dX8_fold_88 : decode cX8_fold 88 = .ok (.bipush (-2), 2) := by decide +kernel
theorem dX8_fold_90 : decode cX8_fold 90 = .ok (.ireturn, 1) := by decide +kernel
theorem dX8_fold_91 : decode cX8_fold 91 = .ok (.aload_n 0, 1) := by decide +kernel
theorem dX8_fold_92 : decode cX8_fold 92 = .ok (.getfield 48, 3) := by decide +kernel
theorem dX8_fold_95 : decode cX8_fold 95 = .ok (.iload 5, 2) := by decide +kernel
theorem dX8_fold_97 : decode cX8_fold 97 = .ok (.invokevirtual 144, 3) := by decide +kernel
theorem dX8_fold_100 : decode cX8_fold 100 = .ok (.aload_n 0, 1) := by decide +kernel
theorem dX8_fold_101 : decode cX8_fold 101 = .ok (.iload 5, 2) := by decide +kernel
theorem dX8_fold_103 : decode cX8_fold 103 = .ok (.invokevirtual 147, 3) := by decide +kernel
theorem dX8_fold_106 : decode cX8_fold 106 = .ok (.aload_n 0, 1) := by decide +kernel
theorem dX8_fold_107 : decode cX8_fold 107 = .ok (.getfield 35, 3) := by decide +kernel
theorem dX8_fold_110 : decode cX8_fold 110 = .ok (.invokevirtual 150, 3) := by decide +kernel
theorem dX8_fold_113 : decode cX8_fold 113 = .ok (.ireturn, 1) := by decide +kernel
theorem dX8_undo_0 : decode cX8_undo 0 = .ok (.aload_n 0, 1) := by decide +kernel
theorem dX8_undo_1 : decode cX8_undo 1 = .ok (.getfield 48, 3) := by decide +kernel
theorem dX8_undo_4 : decode cX8_undo 4 = .ok (.getfield 154, 3) := by decide +kernel
theorem dX8_undo_7 : decode cX8_undo 7 = .ok (.ifCond .ne 6, 3) := by decide +kernel
theorem dX8_undo_10 : decode cX8_undo 10 = .ok (.bipush (-2), 2) := by decide +kernel
theorem dX8_undo_12 : decode cX8_undo 12 = .ok (.ireturn, 1) := by decide +kernel
theorem dX8_undo_13 : decode cX8_undo 13 = .ok (.aload_n 0, 1) := by decide +kernel
theorem dX8_undo_14 : decode cX8_undo 14 = .ok (.getfield 48, 3) := by decide +kernel
theorem dX8_undo_17 : decode cX8_undo 17 = .ok (.dup, 1) := by decide +kernel
theorem dX8_undo_18 : decode cX8_undo 18 = .ok (.getfield 154, 3) := by decide +kernel
theorem dX8_undo_21 : decode cX8_undo 21 = .ok (.iconst 1, 1) := by decide +kernel
theorem dX8_undo_22 : decode cX8_undo 22 = .ok (.isub, 1) := by decide +kernel
theorem dX8_undo_23 : decode cX8_undo 23 = .ok (.putfield 154, 3) := by decide +kernel
theorem dX8_undo_26 : decode cX8_undo 26 = .ok (.aload_n 0, 1) := by decide +kernel
theorem dX8_undo_27 : decode cX8_undo 27 = .ok (.invokevirtual 157, 3) := by decide +kernel
theorem dX8_undo_30 : decode cX8_undo 30 = .ok (.aload_n 0, 1) := by decide +kernel
theorem dX8_undo_31 : decode cX8_undo 31 = .ok (.getfield 48, 3) := by decide +kernel
theorem dX8_undo_34 : decode cX8_undo 34 = .ok (.getfield 154, 3) := by decide +kernel
theorem dX8_undo_37 : decode cX8_undo 37 = .ok (.ireturn, 1) := by decide +kernel
theorem dX8_day_0 : decode cX8_day 0 = .ok (.aload_n 0, 1) := by decide +kernel
theorem dX8_day_1 : decode cX8_day 1 = .ok (.getfield 48, 3) := by decide +kernel
theorem dX8_day_4 : decode cX8_day 4 = .ok (.aload_n 0, 1) := by decide +kernel
theorem dX8_day_5 : decode cX8_day 5 = .ok (.getfield 41, 3) := by decide +kernel
theorem dX8_day_8 : decode cX8_day 8 = .ok (.invokevirtual 160, 3) := by decide +kernel
theorem dX8_day_11 : decode cX8_day 11 = .ok (.aload_n 0, 1) := by decide +kernel
theorem dX8_day_12 : decode cX8_day 12 = .ok (.invokevirtual 157, 3) := by decide +kernel
theorem dX8_day_15 : decode cX8_day 15 = .ok (.aload_n 0, 1) := by decide +kernel
theorem dX8_day_16 : decode cX8_day 16 = .ok (.getfield 48, 3) := by decide +kernel
theorem dX8_day_19 : decode cX8_day 19 = .ok (.getfield 164, 3) := by decide +kernel
theorem dX8_day_22 : decode cX8_day 22 = .ok (.ireturn, 1) := by decide +kernel
theorem dX8_bent_0 : decode cX8_bent 0 = .ok (.aload_n 0, 1) := by decide +kernel
theorem dX8_bent_1 : decode cX8_bent 1 = .ok (.getfield 41, 3) := by decide +kernel
theorem dX8_bent_4 : decode cX8_bent 4 = .ok (.iload_n 1, 1) := by decide +kernel
theorem dX8_bent_5 : decode cX8_bent 5 = .ok (.iload_n 2, 1) := by decide +kernel
theorem dX8_bent_6 : decode cX8_bent 6 = .ok (.invokevirtual 167, 3) := by decide +kernel
theorem dX8_bent_9 : decode cX8_bent 9 = .ok (.istore_n 3, 1) := by decide +kernel
theorem dX8_bent_10 : decode cX8_bent 10 = .ok (.iload_n 3, 1) := by decide +kernel
theorem dX8_bent_11 : decode cX8_bent 11 = .ok (.bipush (-9), 2) := by decide +kernel
theorem dX8_bent_13 : decode cX8_bent 13 = .ok (.if_icmp .ne 7, 3) := by decide +kernel
theorem dX8_bent_16 : decode cX8_bent 16 = .ok (.iconst (-1), 1) := by decide +kernel
theorem dX8_bent_17 : decode cX8_bent 17 = .ok (.goto 12, 3) := by decide +kernel
theorem dX8_bent_20 : decode cX8_bent 20 = .ok (.aload_n 0, 1) := by decide +kernel
theorem dX8_bent_21 : decode cX8_bent 21 = .ok (.getfield 41, 3) := by decide +kernel
theorem dX8_bent_24 : decode cX8_bent 24 = .ok (.getfield 171, 3) := by decide +kernel
theorem dX8_bent_27 : decode cX8_bent 27 = .ok (.iload_n 3, 1) := by decide +kernel
theorem dX8_bent_28 : decode cX8_bent 28 = .ok (.iaload, 1) := by decide +kernel
theorem dX8_bent_29 : decode cX8_bent 29 = .ok (.ireturn, 1) := by decide +kernel
theorem dX8_touch_0 : decode cX8_touch 0 = .ok (.aload_n 0, 1) := by decide +kernel
theorem dX8_touch_1 : decode cX8_touch 1 = .ok (.iload_n 1, 1) := by decide +kernel
theorem dX8_touch_2 : decode cX8_touch 2 = .ok (.iload_n 2, 1) := by decide +kernel
theorem dX8_touch_3 : decode cX8_touch 3 = .ok (.invokevirtual 174, 3) := by decide +kernel
theorem dX8_touch_6 : decode cX8_touch 6 = .ok (.ifCond .eq 15, 3) := by decide +kernel
theorem dX8_touch_9 : decode cX8_touch 9 = .ok (.aload_n 0, 1) := by decide +kernel
theorem dX8_touch_10 : decode cX8_touch 10 = .ok (.getfield 35, 3) := by decide +kernel
theorem dX8_touch_13 : decode cX8_touch 13 = .ok (.iload_n 1, 1) := by decide +kernel
theorem dX8_touch_14 : decode cX8_touch 14 = .ok (.iload_n 2, 1) := by decide +kernel
theorem dX8_touch_15 : decode cX8_touch 15 = .ok (.invokevirtual 178, 3) := by decide +kernel
theorem dX8_touch_18 : decode cX8_touch 18 = .ok (.goto 4, 3) := by decide +kernel
theorem dX8_touch_21 : decode cX8_touch 21 = .ok (.iconst (-1), 1) := by decide +kernel
theorem dX8_touch_22 : decode cX8_touch 22 = .ok (.ireturn, 1) := by decide +kernel
theorem dX8_packet_0 : decode cX8_packet 0 = .ok (.iload_n 1, 1) := by decide +kernel
theorem dX8_packet_1 : decode cX8_packet 1 = .ok (.tableswitch 82 0 4 #[35, 43, 51, 59, 74], 35) := by decide +kernel
theorem dX8_packet_36 : decode cX8_packet 36 = .ok (.aload_n 0, 1) := by decide +kernel
theorem dX8_packet_37 : decode cX8_packet 37 = .ok (.getfield 35, 3) := by decide +kernel
theorem dX8_packet_40 : decode cX8_packet 40 = .ok (.getfield 181, 3) := by decide +kernel
theorem dX8_packet_43 : decode cX8_packet 43 = .ok (.ireturn, 1) := by decide +kernel
theorem dX8_packet_44 : decode cX8_packet 44 = .ok (.aload_n 0, 1) := by decide +kernel
theorem dX8_packet_45 : decode cX8_packet 45 = .ok (.getfield 35, 3) := by decide +kernel
theorem dX8_packet_48 : decode cX8_packet 48 = .ok (.getfield 184, 3) := by decide +kernel
theorem dX8_packet_51 : decode cX8_packet 51 = .ok (.ireturn, 1) := by decide +kernel
theorem dX8_packet_52 : decode cX8_packet 52 = .ok (.aload_n 0, 1) := by decide +kernel
theorem dX8_packet_53 : decode cX8_packet 53 = .ok (.getfield 35, 3) := by decide +kernel
theorem dX8_packet_56 : decode cX8_packet 56 = .ok (.invokevirtual 150, 3) := by decide +kernel
theorem dX8_packet_59 : decode cX8_packet 59 = .ok (.ireturn, 1) := by decide +kernel
theorem dX8_packet_60 : decode cX8_packet 60 = .ok (.aload_n 0, 1) := by decide +kernel
theorem dX8_packet_61 : decode cX8_packet 61 = .ok (.getfield 35, 3) := by decide +kernel
theorem dX8_packet_64 : decode cX8_packet 64 = .ok (.aload_n 0, 1) := by decide +kernel
theorem dX8_packet_65 : decode cX8_packet 65 = .ok (.getfield 24, 3) := by decide +kernel
theorem dX8_packet_68 : decode cX8_packet 68 = .ok (.getfield 187, 3) := by decide +kernel
theorem dX8_packet_71 : decode cX8_packet 71 = .ok (.invokevirtual 190, 3) := by decide +kernel
theorem dX8_packet_74 : decode cX8_packet 74 = .ok (.ireturn, 1) := by decide +kernel
theorem dX8_packet_75 : decode cX8_packet 75 = .ok (.aload_n 0, 1) := by decide +kernel
theorem dX8_packet_76 : decode cX8_packet 76 = .ok (.getfield 35, 3) := by decide +kernel
theorem dX8_packet_79 : decode cX8_packet 79 = .ok (.invokevirtual 194, 3) := by decide +kernel
theorem dX8_packet_82 : decode cX8_packet 82 = .ok (.ireturn, 1) := by decide +kernel
theorem dX8_packet_83 : decode cX8_packet 83 = .ok (.iconst (-1), 1) := by decide +kernel
theorem dX8_packet_84 : decode cX8_packet 84 = .ok (.ireturn, 1) := by decide +kernel
theorem dX8_reach_0 : decode cX8_reach 0 = .ok (.aload_n 0, 1) := by decide +kernel
theorem dX8_reach_1 : decode cX8_reach 1 = .ok (.iload_n 1, 1) := by decide +kernel
theorem dX8_reach_2 : decode cX8_reach 2 = .ok (.iload_n 2, 1) := by decide +kernel
theorem dX8_reach_3 : decode cX8_reach 3 = .ok (.invokevirtual 174, 3) := by decide +kernel
theorem dX8_reach_6 : decode cX8_reach 6 = .ok (.ifCond .eq 8, 3) := by decide +kernel
theorem dX8_reach_9 : decode cX8_reach 9 = .ok (.iload_n 3, 1) := by decide +kernel
theorem dX8_reach_10 : decode cX8_reach 10 = .ok (.iconst (-1), 1) := by decide +kernel
theorem dX8_reach_11 : decode cX8_reach 11 = .ok (.if_icmp .ge 5, 3) := by decide +kernel
theorem dX8_reach_14 : decode cX8_reach 14 = .ok (.iconst (-1), 1) := by decide +kernel
theorem dX8_reach_15 : decode cX8_reach 15 = .ok (.ireturn, 1) := by decide +kernel
theorem dX8_reach_16 : decode cX8_reach 16 = .ok (.aload_n 0, 1) := by decide +kernel
theorem dX8_reach_17 : decode cX8_reach 17 = .ok (.getfield 66, 3) := by decide +kernel
theorem dX8_reach_20 : decode cX8_reach 20 = .ok (.aload_n 0, 1) := by decide +kernel
theorem dX8_reach_21 : decode cX8_reach 21 = .ok (.getfield 35, 3) := by decide +kernel
theorem dX8_reach_24 : decode cX8_reach 24 = .ok (.invokevirtual 197, 3) := by decide +kernel
theorem dX8_reach_27 : decode cX8_reach 27 = .ok (.aload_n 0, 1) := by decide +kernel
theorem dX8_reach_28 : decode cX8_reach 28 = .ok (.getfield 66, 3) := by decide +kernel
theorem dX8_reach_31 : decode cX8_reach 31 = .ok (.iload_n 1, 1) := by decide +kernel
theorem dX8_reach_32 : decode cX8_reach 32 = .ok (.iload_n 2, 1) := by decide +kernel
theorem dX8_reach_33 : decode cX8_reach 33 = .ok (.invokevirtual 201, 3) := by decide +kernel
theorem dX8_reach_36 : decode cX8_reach 36 = .ok (.ifCond .ne 6, 3) := by decide +kernel
theorem dX8_reach_39 : decode cX8_reach 39 = .ok (.bipush (-9), 2) := by decide +kernel
theorem dX8_reach_41 : decode cX8_reach 41 = .ok (.ireturn, 1) := by decide +kernel
theorem dX8_reach_42 : decode cX8_reach 42 = .ok (.iload_n 3, 1) := by decide +kernel
theorem dX8_reach_43 : decode cX8_reach 43 = .ok (.iconst (-1), 1) := by decide +kernel
theorem dX8_reach_44 : decode cX8_reach 44 = .ok (.if_icmp .ne 13, 3) := by decide +kernel
theorem dX8_reach_47 : decode cX8_reach 47 = .ok (.aload_n 0, 1) := by decide +kernel
theorem dX8_reach_48 : decode cX8_reach 48 = .ok (.getfield 66, 3) := by decide +kernel
theorem dX8_reach_51 : decode cX8_reach 51 = .ok (.getfield 204, 3) := by decide +kernel
theorem dX8_reach_54 : decode cX8_reach 54 = .ok (.goto 11, 3) := by decide +kernel
theorem dX8_reach_57 : decode cX8_reach 57 = .ok (.aload_n 0, 1) := by decide +kernel
theorem dX8_reach_58 : decode cX8_reach 58 = .ok (.getfield 66, 3) := by decide +kernel
theorem dX8_reach_61 : decode cX8_reach 61 = .ok (.iload_n 3, 1) := by decide +kernel
theorem dX8_reach_62 : decode cX8_reach 62 = .ok (.invokevirtual 207, 3) := by decide +kernel
theorem dX8_reach_65 : decode cX8_reach 65 = .ok (.ireturn, 1) := by decide +kernel
theorem dX8_serves_0 : decode cX8_serves 0 = .ok (.aload_n 0, 1) := by decide +kernel
theorem dX8_serves_1 : decode cX8_serves 1 = .ok (.iload_n 1, 1) := by decide +kernel
theorem dX8_serves_2 : decode cX8_serves 2 = .ok (.invokevirtual 104, 3) := by decide +kernel
theorem dX8_serves_5 : decode cX8_serves 5 = .ok (.ifCond .eq 8, 3) := by decide +kernel
theorem dX8_serves_8 : decode cX8_serves 8 = .ok (.iload_n 2, 1) := by decide +kernel
theorem dX8_serves_9 : decode cX8_serves 9 = .ok (.iconst (-1), 1) := by decide +kernel
theorem dX8_serves_10 : decode cX8_serves 10 = .ok (.if_icmp .ge 5, 3) := by decide +kernel
theorem dX8_serves_13 : decode cX8_serves 13 = .ok (.iconst (-1), 1) := by decide +kernel
theorem dX8_serves_14 : decode cX8_serves 14 = .ok (.ireturn, 1) := by decide +kernel
theorem dX8_serves_15 : decode cX8_serves 15 = .ok (.aload_n 0, 1) := by decide +kernel
theorem dX8_serves_16 : decode cX8_serves 16 = .ok (.getfield 66, 3) := by decide +kernel
theorem dX8_serves_19 : decode cX8_serves 19 = .ok (.aload_n 0, 1) := by decide +kernel
theorem dX8_serves_20 : decode cX8_serves 20 = .ok (.getfield 35, 3) := by decide +kernel
theorem dX8_serves_23 : decode cX8_serves 23 = .ok (.invokevirtual 197, 3) := by decide +kernel
theorem dX8_serves_26 : decode cX8_serves 26 = .ok (.aload_n 0, 1) := by decide +kernel
theorem dX8_serves_27 : decode cX8_serves 27 = .ok (.getfield 66, 3) := by decide +kernel
theorem dX8_serves_30 : decode cX8_serves 30 = .ok (.iload_n 1, 1) := by decide +kernel
theorem dX8_serves_31 : decode cX8_serves 31 = .ok (.aload_n 0, 1) := by decide +kernel
theorem dX8_serves_32 : decode cX8_serves 32 = .ok (.getfield 24, 3) := by decide +kernel
theorem dX8_serves_35 : decode cX8_serves 35 = .ok (.getfield 121, 3) := by decide +kernel
theorem dX8_serves_38 : decode cX8_serves 38 = .ok (.invokevirtual 211, 3) := by decide +kernel
theorem dX8_serves_41 : decode cX8_serves 41 = .ok (.istore_n 3, 1) := by decide +kernel
theorem dX8_serves_42 : decode cX8_serves 42 = .ok (.iload_n 2, 1) := by decide +kernel
theorem dX8_serves_43 : decode cX8_serves 43 = .ok (.iconst (-1), 1) := by decide +kernel
theorem dX8_serves_44 : decode cX8_serves 44 = .ok (.if_icmp .ne 7, 3) := by decide +kernel
theorem dX8_serves_47 : decode cX8_serves 47 = .ok (.iload_n 3, 1) := by decide +kernel
theorem dX8_serves_48 : decode cX8_serves 48 = .ok (.goto 11, 3) := by decide +kernel
theorem dX8_serves_51 : decode cX8_serves 51 = .ok (.aload_n 0, 1) := by decide +kernel
theorem dX8_serves_52 : decode cX8_serves 52 = .ok (.getfield 66, 3) := by decide +kernel
theorem dX8_serves_55 : decode cX8_serves 55 = .ok (.iload_n 2, 1) := by decide +kernel
theorem dX8_serves_56 : decode cX8_serves 56 = .ok (.invokevirtual 207, 3) := by decide +kernel
theorem dX8_serves_59 : decode cX8_serves 59 = .ok (.ireturn, 1) := by decide +kernel
theorem dX8_saw_0 : decode cX8_saw 0 = .ok (.aload_n 0, 1) := by decide +kernel
theorem dX8_saw_1 : decode cX8_saw 1 = .ok (.iload_n 1, 1) := by decide +kernel
theorem dX8_saw_2 : decode cX8_saw 2 = .ok (.iload_n 2, 1) := by decide +kernel
theorem dX8_saw_3 : decode cX8_saw 3 = .ok (.invokevirtual 174, 3) := by decide +kernel
theorem dX8_saw_6 : decode cX8_saw 6 = .ok (.ifCond .ne 5, 3) := by decide +kernel
theorem dX8_saw_9 : decode cX8_saw 9 = .ok (.iconst (-1), 1) := by decide +kernel
theorem dX8_saw_10 : decode cX8_saw 10 = .ok (.ireturn, 1) := by decide +kernel
theorem dX8_saw_11 : decode cX8_saw 11 = .ok (.aload_n 0, 1) := by decide +kernel
theorem dX8_saw_12 : decode cX8_saw 12 = .ok (.getfield 59, 3) := by decide +kernel
theorem dX8_saw_15 : decode cX8_saw 15 = .ok (.invokevirtual 214, 3) := by decide +kernel
theorem dX8_saw_18 : decode cX8_saw 18 = .ok (.ifCond .eq 6, 3) := by decide +kernel
theorem dX8_saw_21 : decode cX8_saw 21 = .ok (.bipush (-3), 2) := by decide +kernel
theorem dX8_saw_23 : decode cX8_saw 23 = .ok (.ireturn, 1) := by decide +kernel
theorem dX8_saw_24 : decode cX8_saw 24 = .ok (.aload_n 0, 1) := by decide +kernel
theorem dX8_saw_25 : decode cX8_saw 25 = .ok (.getfield 59, 3) := by decide +kernel
theorem dX8_saw_28 : decode cX8_saw 28 = .ok (.iload_n 1, 1) := by decide +kernel
theorem dX8_saw_29 : decode cX8_saw 29 = .ok (.iload_n 2, 1) := by decide +kernel
theorem dX8_saw_30 : decode cX8_saw 30 = .ok (.invokevirtual 217, 3) := by decide +kernel
theorem dX8_saw_33 : decode cX8_saw 33 = .ok (.aload_n 0, 1) := by decide +kernel
theorem dX8_saw_34 : decode cX8_saw 34 = .ok (.getfield 59, 3) := by decide +kernel
theorem dX8_saw_37 : decode cX8_saw 37 = .ok (.getfield 221, 3) := by decide +kernel
theorem dX8_saw_40 : decode cX8_saw 40 = .ok (.ireturn, 1) := by decide +kernel
theorem dX8_forget_0 : decode cX8_forget 0 = .ok (.aload_n 0, 1) := by decide +kernel
theorem dX8_forget_1 : decode cX8_forget 1 = .ok (.getfield 59, 3) := by decide +kernel
theorem dX8_forget_4 : decode cX8_forget 4 = .ok (.getfield 221, 3) := by decide +kernel
theorem dX8_forget_7 : decode cX8_forget 7 = .ok (.istore_n 1, 1) := by decide +kernel
theorem dX8_forget_8 : decode cX8_forget 8 = .ok (.aload_n 0, 1) := by decide +kernel
theorem dX8_forget_9 : decode cX8_forget 9 = .ok (.getfield 59, 3) := by decide +kernel
theorem dX8_forget_12 : decode cX8_forget 12 = .ok (.iconst 0, 1) := by decide +kernel
theorem dX8_forget_13 : decode cX8_forget 13 = .ok (.putfield 221, 3) := by decide +kernel
theorem dX8_forget_16 : decode cX8_forget 16 = .ok (.iload_n 1, 1) := by decide +kernel
theorem dX8_forget_17 : decode cX8_forget 17 = .ok (.ireturn, 1) := by decide +kernel
theorem dX8_fits_0 : decode cX8_fits 0 = .ok (.iload_n 1, 1) := by decide +kernel
theorem dX8_fits_1 : decode cX8_fits 1 = .ok (.ifCond .lt 8, 3) := by decide +kernel
theorem dX8_fits_4 : decode cX8_fits 4 = .ok (.iload_n 1, 1) := by decide +kernel
theorem dX8_fits_5 : decode cX8_fits 5 = .ok (.iconst 2, 1) := by decide +kernel
theorem dX8_fits_6 : decode cX8_fits 6 = .ok (.if_icmp .le 5, 3) := by decide +kernel
theorem dX8_fits_9 : decode cX8_fits 9 = .ok (.iconst (-1), 1) := by decide +kernel
theorem dX8_fits_10 : decode cX8_fits 10 = .ok (.ireturn, 1) := by decide +kernel
theorem dX8_fits_11 : decode cX8_fits 11 = .ok (.aload_n 0, 1) := by decide +kernel
theorem dX8_fits_12 : decode cX8_fits 12 = .ok (.getfield 66, 3) := by decide +kernel
theorem dX8_fits_15 : decode cX8_fits 15 = .ok (.aload_n 0, 1) := by decide +kernel
theorem dX8_fits_16 : decode cX8_fits 16 = .ok (.getfield 31, 3) := by decide +kernel
theorem dX8_fits_19 : decode cX8_fits 19 = .ok (.invokevirtual 197, 3) := by decide +kernel
theorem dX8_fits_22 : decode cX8_fits 22 = .ok (.aload_n 0, 1) := by decide +kernel
theorem dX8_fits_23 : decode cX8_fits 23 = .ok (.getfield 66, 3) := by decide +kernel
theorem dX8_fits_26 : decode cX8_fits 26 = .ok (.iload_n 1, 1) := by decide +kernel
theorem dX8_fits_27 : decode cX8_fits 27 = .ok (.aload_n 0, 1) := by decide +kernel
theorem dX8_fits_28 : decode cX8_fits 28 = .ok (.getfield 59, 3) := by decide +kernel
theorem dX8_fits_31 : decode cX8_fits 31 = .ok (.invokevirtual 224, 3) := by decide +kernel
theorem dX8_fits_34 : decode cX8_fits 34 = .ok (.ireturn, 1) := by decide +kernel
theorem dX8_rate_0 : decode cX8_rate 0 = .ok (.iload_n 1, 1) := by decide +kernel
theorem dX8_rate_1 : decode cX8_rate 1 = .ok (.ifCond .lt 17, 3) := by decide +kernel
theorem dX8_rate_4 : decode cX8_rate 4 = .ok (.iload_n 1, 1) := by decide +kernel
theorem dX8_rate_5 : decode cX8_rate 5 = .ok (.bipush 6, 2) := by decide +kernel
theorem dX8_rate_7 : decode cX8_rate 7 = .ok (.if_icmp .ge 11, 3) := by decide +kernel
theorem dX8_rate_10 : decode cX8_rate 10 = .ok (.aload_n 0, 1) := by decide +kernel
theorem dX8_rate_11 : decode cX8_rate 11 = .ok (.iload_n 2, 1) := by decide +kernel
theorem dX8_rate_12 : decode cX8_rate 12 = .ok (.invokevirtual 104, 3) := by decide +kernel
theorem dX8_rate_15 : decode cX8_rate 15 = .ok (.ifCond .ne 6, 3) := by decide +kernel
theorem dX8_rate_18 : decode cX8_rate 18 = .ok (.ldc 228, 2) := by decide +kernel
theorem dX8_rate_20 : decode cX8_rate 20 = .ok (.ireturn, 1) := by decide +kernel
theorem dX8_rate_21 : decode cX8_rate 21 = .ok (.iload_n 1, 1) := by decide +kernel
theorem dX8_rate_22 : decode cX8_rate 22 = .ok (.tableswitch 64 1 5 #[34, 40, 46, 52, 58], 34) := by decide +kernel
theorem dX8_rate_56 : decode cX8_rate 56 = .ok (.aload_n 0, 1) := by decide +kernel
theorem dX8_rate_57 : decode cX8_rate 57 = .ok (.iload_n 2, 1) := by decide +kernel
theorem dX8_rate_58 : decode cX8_rate 58 = .ok (.invokevirtual 229, 3) := by decide +kernel
theorem dX8_rate_61 : decode cX8_rate 61 = .ok (.ireturn, 1) := by decide +kernel
theorem dX8_rate_62 : decode cX8_rate 62 = .ok (.aload_n 0, 1) := by decide +kernel
theorem dX8_rate_63 : decode cX8_rate 63 = .ok (.iload_n 2, 1) := by decide +kernel
theorem dX8_rate_64 : decode cX8_rate 64 = .ok (.invokevirtual 232, 3) := by decide +kernel
theorem dX8_rate_67 : decode cX8_rate 67 = .ok (.ireturn, 1) := by decide +kernel
theorem dX8_rate_68 : decode cX8_rate 68 = .ok (.aload_n 0, 1) := by decide +kernel
theorem dX8_rate_69 : decode cX8_rate 69 = .ok (.iload_n 2, 1) := by decide +kernel
theorem dX8_rate_70 : decode cX8_rate 70 = .ok (.invokevirtual 235, 3) := by decide +kernel
theorem dX8_rate_73 : decode cX8_rate 73 = .ok (.ireturn, 1) := by decide +kernel
theorem dX8_rate_74 : decode cX8_rate 74 = .ok (.aload_n 0, 1) := by decide +kernel
theorem dX8_rate_75 : decode cX8_rate 75 = .ok (.iload_n 2, 1) := by decide +kernel
theorem dX8_rate_76 : decode cX8_rate 76 = .ok (.invokevirtual 238, 3) := by decide +kernel
theorem dX8_rate_79 : decode cX8_rate 79 = .ok (.ireturn, 1) := by decide +kernel
theorem dX8_rate_80 : decode cX8_rate 80 = .ok (.aload_n 0, 1) := by decide +kernel
theorem dX8_rate_81 : decode cX8_rate 81 = .ok (.iload_n 2, 1) := by decide +kernel
theorem dX8_rate_82 : decode cX8_rate 82 = .ok (.invokevirtual 241, 3) := by decide +kernel
theorem dX8_rate_85 : decode cX8_rate 85 = .ok (.ireturn, 1) := by decide +kernel
theorem dX8_rate_86 : decode cX8_rate 86 = .ok (.aload_n 0, 1) := by decide +kernel
theorem dX8_rate_87 : decode cX8_rate 87 = .ok (.iload_n 2, 1) := by decide +kernel
theorem dX8_rate_88 : decode cX8_rate 88 = .ok (.invokevirtual 244, 3) := by decide +kernel
theorem dX8_rate_91 : decode cX8_rate 91 = .ok (.ireturn, 1) := by decide +kernel
theorem dX8_keep_0 : decode cX8_keep 0 = .ok (.iload_n 1, 1) := by decide +kernel
theorem dX8_keep_1 : decode cX8_keep 1 = .ok (.invokestatic 247, 3) := by decide +kernel
theorem dX8_keep_4 : decode cX8_keep 4 = .ok (.ifCond .ne 5, 3) := by decide +kernel
theorem dX8_keep_7 : decode cX8_keep 7 = .ok (.iconst (-1), 1) := by decide +kernel
theorem dX8_keep_8 : decode cX8_keep 8 = .ok (.ireturn, 1) := by decide +kernel
theorem dX8_keep_9 : decode cX8_keep 9 = .ok (.aload_n 0, 1) := by decide +kernel
theorem dX8_keep_10 : decode cX8_keep 10 = .ok (.getfield 52, 3) := by decide +kernel
theorem dX8_keep_13 : decode cX8_keep 13 = .ok (.iload_n 1, 1) := by decide +kernel
theorem dX8_keep_14 : decode cX8_keep 14 = .ok (.aaload, 1) := by decide +kernel
theorem dX8_keep_15 : decode cX8_keep 15 = .ok (.aload_n 0, 1) := by decide +kernel
theorem dX8_keep_16 : decode cX8_keep 16 = .ok (.getfield 48, 3) := by decide +kernel
theorem dX8_keep_19 : decode cX8_keep 19 = .ok (.invokevirtual 250, 3) := by decide +kernel
theorem dX8_keep_22 : decode cX8_keep 22 = .ok (.aload_n 0, 1) := by decide +kernel
theorem dX8_keep_23 : decode cX8_keep 23 = .ok (.getfield 52, 3) := by decide +kernel
theorem dX8_keep_26 : decode cX8_keep 26 = .ok (.iload_n 1, 1) := by decide +kernel
theorem dX8_keep_27 : decode cX8_keep 27 = .ok (.aaload, 1) := by decide +kernel
theorem dX8_keep_28 : decode cX8_keep 28 = .ok (.iconst 1, 1) := by decide +kernel
theorem dX8_keep_29 : decode cX8_keep 29 = .ok (.putfield 253, 3) := by decide +kernel
theorem dX8_keep_32 : decode cX8_keep 32 = .ok (.aload_n 0, 1) := by decide +kernel
theorem dX8_keep_33 : decode cX8_keep 33 = .ok (.getfield 48, 3) := by decide +kernel
theorem dX8_keep_36 : decode cX8_keep 36 = .ok (.getfield 164, 3) := by decide +kernel
theorem dX8_keep_39 : decode cX8_keep 39 = .ok (.ireturn, 1) := by decide +kernel
theorem dX8_back_0 : decode cX8_back 0 = .ok (.iload_n 1, 1) := by decide +kernel
theorem dX8_back_1 : decode cX8_back 1 = .ok (.invokestatic 247, 3) := by decide +kernel
theorem dX8_back_4 : decode cX8_back 4 = .ok (.ifCond .ne 5, 3) := by decide +kernel
theorem dX8_back_7 : decode cX8_back 7 = .ok (.iconst (-1), 1) := by decide +kernel
theorem dX8_back_8 : decode cX8_back 8 = .ok (.ireturn, 1) := by decide +kernel
theorem dX8_back_9 : decode cX8_back 9 = .ok (.aload_n 0, 1) := by decide +kernel
theorem dX8_back_10 : decode cX8_back 10 = .ok (.getfield 52, 3) := by decide +kernel
theorem dX8_back_13 : decode cX8_back 13 = .ok (.iload_n 1, 1) := by decide +kernel
theorem dX8_back_14 : decode cX8_back 14 = .ok (.aaload, 1) := by decide +kernel
theorem dX8_back_15 : decode cX8_back 15 = .ok (.getfield 253, 3) := by decide +kernel
theorem dX8_back_18 : decode cX8_back 18 = .ok (.ifCond .ne 6, 3) := by decide +kernel
theorem dX8_back_21 : decode cX8_back 21 = .ok (.bipush (-2), 2) := by decide +kernel
theorem dX8_back_23 : decode cX8_back 23 = .ok (.ireturn, 1) := by decide +kernel
theorem dX8_back_24 : decode cX8_back 24 = .ok (.aload_n 0, 1) := by decide +kernel
theorem dX8_back_25 : decode cX8_back 25 = .ok (.getfield 48, 3) := by decide +kernel
theorem dX8_back_28 : decode cX8_back 28 = .ok (.aload_n 0, 1) := by decide +kernel
theorem dX8_back_29 : decode cX8_back 29 = .ok (.getfield 52, 3) := by decide +kernel
theorem dX8_back_32 : decode cX8_back 32 = .ok (.iload_n 1, 1) := by decide +kernel
theorem dX8_back_33 : decode cX8_back 33 = .ok (.aaload, 1) := by decide +kernel
theorem dX8_back_34 : decode cX8_back 34 = .ok (.invokevirtual 250, 3) := by decide +kernel
theorem dX8_back_37 : decode cX8_back 37 = .ok (.aload_n 0, 1) := by decide +kernel
theorem dX8_back_38 : decode cX8_back 38 = .ok (.invokevirtual 157, 3) := by decide +kernel
theorem dX8_back_41 : decode cX8_back 41 = .ok (.aload_n 0, 1) := by decide +kernel
theorem dX8_back_42 : decode cX8_back 42 = .ok (.getfield 48, 3) := by decide +kernel
theorem dX8_back_45 : decode cX8_back 45 = .ok (.getfield 164, 3) := by decide +kernel
theorem dX8_back_48 : decode cX8_back 48 = .ok (.ireturn, 1) := by decide +kernel
theorem dX8_count_0 : decode cX8_count 0 = .ok (.iload_n 1, 1) := by decide +kernel
theorem dX8_count_1 : decode cX8_count 1 = .ok (.tableswitch 114 0 7 #[47, 55, 63, 74, 82, 90, 98, 106], 47) := by decide +kernel
theorem dX8_count_48 : decode cX8_count 48 = .ok (.aload_n 0, 1) := by decide +kernel
theorem dX8_count_49 : decode cX8_count 49 = .ok (.getfield 24, 3) := by decide +kernel
theorem dX8_count_52 : decode cX8_count 52 = .ok (.getfield 257, 3) := by decide +kernel
theorem dX8_count_55 : decode cX8_count 55 = .ok (.ireturn, 1) := by decide +kernel
theorem dX8_count_56 : decode cX8_count 56 = .ok (.aload_n 0, 1) := by decide +kernel
theorem dX8_count_57 : decode cX8_count 57 = .ok (.getfield 24, 3) := by decide +kernel
theorem dX8_count_60 : decode cX8_count 60 = .ok (.getfield 258, 3) := by decide +kernel
theorem dX8_count_63 : decode cX8_count 63 = .ok (.ireturn, 1) := by decide +kernel
theorem dX8_count_64 : decode cX8_count 64 = .ok (.aload_n 0, 1) := by decide +kernel
theorem dX8_count_65 : decode cX8_count 65 = .ok (.getfield 24, 3) := by decide +kernel
theorem dX8_count_68 : decode cX8_count 68 = .ok (.getfield 187, 3) := by decide +kernel
theorem dX8_count_71 : decode cX8_count 71 = .ok (.getfield 221, 3) := by decide +kernel
theorem dX8_count_74 : decode cX8_count 74 = .ok (.ireturn, 1) := by decide +kernel
theorem dX8_count_75 : decode cX8_count 75 = .ok (.aload_n 0, 1) := by decide +kernel
theorem dX8_count_76 : decode cX8_count 76 = .ok (.getfield 24, 3) := by decide +kernel
theorem dX8_count_79 : decode cX8_count 79 = .ok (.getfield 137, 3) := by decide +kernel
theorem dX8_count_82 : decode cX8_count 82 = .ok (.ireturn, 1) := by decide +kernel
theorem dX8_count_83 : decode cX8_count 83 = .ok (.aload_n 0, 1) := by decide +kernel
theorem dX8_count_84 : decode cX8_count 84 = .ok (.getfield 59, 3) := by decide +kernel
theorem dX8_count_87 : decode cX8_count 87 = .ok (.getfield 221, 3) := by decide +kernel
theorem dX8_count_90 : decode cX8_count 90 = .ok (.ireturn, 1) := by decide +kernel
theorem dX8_count_91 : decode cX8_count 91 = .ok (.aload_n 0, 1) := by decide +kernel
theorem dX8_count_92 : decode cX8_count 92 = .ok (.getfield 48, 3) := by decide +kernel
theorem dX8_count_95 : decode cX8_count 95 = .ok (.getfield 164, 3) := by decide +kernel
theorem dX8_count_98 : decode cX8_count 98 = .ok (.ireturn, 1) := by decide +kernel
theorem dX8_count_99 : decode cX8_count 99 = .ok (.aload_n 0, 1) := by decide +kernel
theorem dX8_count_100 : decode cX8_count 100 = .ok (.getfield 48, 3) := by decide +kernel
theorem dX8_count_103 : decode cX8_count 103 = .ok (.getfield 154, 3) := by decide +kernel
theorem dX8_count_106 : decode cX8_count 106 = .ok (.ireturn, 1) := by decide +kernel
theorem dX8_count_107 : decode cX8_count 107 = .ok (.aload_n 0, 1) := by decide +kernel
theorem dX8_count_108 : decode cX8_count 108 = .ok (.getfield 20, 3) := by decide +kernel
theorem dX8_count_111 : decode cX8_count 111 = .ok (.getfield 77, 3) := by decide +kernel
theorem dX8_count_114 : decode cX8_count 114 = .ok (.ireturn, 1) := by decide +kernel
theorem dX8_count_115 : decode cX8_count 115 = .ok (.iconst (-1), 1) := by decide +kernel
theorem dX8_count_116 : decode cX8_count 116 = .ok (.ireturn, 1) := by decide +kernel
theorem dX8_trace_0 : decode cX8_trace 0 = .ok (.aload_n 0, 1) := by decide +kernel
theorem dX8_trace_1 : decode cX8_trace 1 = .ok (.getfield 70, 3) := by decide +kernel
theorem dX8_trace_4 : decode cX8_trace 4 = .ok (.lreturn, 1) := by decide +kernel
theorem dX8_isBit_0 : decode cX8_isBit 0 = .ok (.iload_n 0, 1) := by decide +kernel
theorem dX8_isBit_1 : decode cX8_isBit 1 = .ok (.ifCond .eq 8, 3) := by decide +kernel
theorem dX8_isBit_4 : decode cX8_isBit 4 = .ok (.iload_n 0, 1) := by decide +kernel
theorem dX8_isBit_5 : decode cX8_isBit 5 = .ok (.iconst 1, 1) := by decide +kernel
theorem dX8_isBit_6 : decode cX8_isBit 6 = .ok (.if_icmp .ne 7, 3) := by decide +kernel
theorem dX8_isBit_9 : decode cX8_isBit 9 = .ok (.iconst 1, 1) := by decide +kernel
theorem dX8_isBit_10 : decode cX8_isBit 10 = .ok (.goto 4, 3) := by decide +kernel
theorem dX8_isBit_13 : decode cX8_isBit 13 = .ok (.iconst 0, 1) := by decide +kernel
theorem dX8_isBit_14 : decode cX8_isBit 14 = .ok (.ireturn, 1) := by decide +kernel
theorem dX8_isImage_0 : decode cX8_isImage 0 = .ok (.iload_n 0, 1) := by decide +kernel
theorem dX8_isImage_1 : decode cX8_isImage 1 = .ok (.ifCond .lt 12, 3) := by decide +kernel
theorem dX8_isImage_4 : decode cX8_isImage 4 = .ok (.iload_n 0, 1) := by decide +kernel
theorem dX8_isImage_5 : decode cX8_isImage 5 = .ok (.iconst 2, 1) := by decide +kernel
theorem dX8_isImage_6 : decode cX8_isImage 6 = .ok (.if_icmp .ge 7, 3) := by decide +kernel
theorem dX8_isImage_9 : decode cX8_isImage 9 = .ok (.iconst 1, 1) := by decide +kernel
theorem dX8_isImage_10 : decode cX8_isImage 10 = .ok (.goto 4, 3) := by decide +kernel
theorem dX8_isImage_13 : decode cX8_isImage 13 = .ok (.iconst 0, 1) := by decide +kernel
theorem dX8_isImage_14 : decode cX8_isImage 14 = .ok (.ireturn, 1) := by decide +kernel
theorem dX8_isCell_0 : decode cX8_isCell 0 = .ok (.iload_n 1, 1) := by decide +kernel
theorem dX8_isCell_1 : decode cX8_isCell 1 = .ok (.ifCond .lt 18, 3) := by decide +kernel
theorem dX8_isCell_4 : decode cX8_isCell 4 = .ok (.iload_n 1, 1) := by decide +kernel
theorem dX8_isCell_5 : decode cX8_isCell 5 = .ok (.aload_n 0, 1) := by decide +kernel
theorem dX8_isCell_6 : decode cX8_isCell 6 = .ok (.getfield 35, 3) := by decide +kernel
theorem dX8_isCell_9 : decode cX8_isCell 9 = .ok (.getfield 128, 3) := by decide +kernel
theorem dX8_isCell_12 : decode cX8_isCell 12 = .ok (.if_icmp .ge 7, 3) := by decide +kernel
theorem dX8_isCell_15 : decode cX8_isCell 15 = .ok (.iconst 1, 1) := by decide +kernel
theorem dX8_isCell_16 : decode cX8_isCell 16 = .ok (.goto 4, 3) := by decide +kernel
theorem dX8_isCell_19 : decode cX8_isCell 19 = .ok (.iconst 0, 1) := by decide +kernel
theorem dX8_isCell_20 : decode cX8_isCell 20 = .ok (.ireturn, 1) := by decide +kernel
theorem dX8_areTwoCells_0 : decode cX8_areTwoCells 0 = .ok (.aload_n 0, 1) := by decide +kernel
theorem dX8_areTwoCells_1 : decode cX8_areTwoCells 1 = .ok (.iload_n 1, 1) := by decide +kernel
theorem dX8_areTwoCells_2 : decode cX8_areTwoCells 2 = .ok (.invokevirtual 104, 3) := by decide +kernel
theorem dX8_areTwoCells_5 : decode cX8_areTwoCells 5 = .ok (.ifCond .eq 20, 3) := by decide +kernel
theorem dX8_areTwoCells_8 : decode cX8_areTwoCells 8 = .ok (.aload_n 0, 1) := by decide +kernel
theorem dX8_areTwoCells_9 : decode cX8_areTwoCells 9 = .ok (.iload_n 2, 1) := by decide +kernel
theorem dX8_areTwoCells_10 : decode cX8_areTwoCells 10 = .ok (.invokevirtual 104, 3) := by decide +kernel
theorem dX8_areTwoCells_13 : decode cX8_areTwoCells 13 = .ok (.ifCond .eq 12, 3) := by decide +kernel
theorem dX8_areTwoCells_16 : decode cX8_areTwoCells 16 = .ok (.iload_n 1, 1) := by decide +kernel
theorem dX8_areTwoCells_17 : decode cX8_areTwoCells 17 = .ok (.iload_n 2, 1) := by decide +kernel
theorem dX8_areTwoCells_18 : decode cX8_areTwoCells 18 = .ok (.if_icmp .eq 7, 3) := by decide +kernel
theorem dX8_areTwoCells_21 : decode cX8_areTwoCells 21 = .ok (.iconst 1, 1) := by decide +kernel
theorem dX8_areTwoCells_22 : decode cX8_areTwoCells 22 = .ok (.goto 4, 3) := by decide +kernel
theorem dX8_areTwoCells_25 : decode cX8_areTwoCells 25 = .ok (.iconst 0, 1) := by decide +kernel
theorem dX8_areTwoCells_26 : decode cX8_areTwoCells 26 = .ok (.ireturn, 1) := by decide +kernel
theorem dX8_beginAnew_0 : decode cX8_beginAnew 0 = .ok (.aload_n 0, 1) := by decide +kernel
theorem dX8_beginAnew_1 : decode cX8_beginAnew 1 = .ok (.getfield 31, 3) := by decide +kernel
theorem dX8_beginAnew_4 : decode cX8_beginAnew 4 = .ok (.aload_n 0, 1) := by decide +kernel
theorem dX8_beginAnew_5 : decode cX8_beginAnew 5 = .ok (.getfield 24, 3) := by decide +kernel
theorem dX8_beginAnew_8 : decode cX8_beginAnew 8 = .ok (.getfield 257, 3) := by decide +kernel
theorem dX8_beginAnew_11 : decode cX8_beginAnew 11 = .ok (.aload_n 0, 1) := by decide +kernel
theorem dX8_beginAnew_12 : decode cX8_beginAnew 12 = .ok (.getfield 24, 3) := by decide +kernel
theorem dX8_beginAnew_15 : decode cX8_beginAnew 15 = .ok (.getfield 258, 3) := by decide +kernel
theorem dX8_beginAnew_18 : decode cX8_beginAnew 18 = .ok (.invokevirtual 259, 3) := by decide +kernel
theorem dX8_beginAnew_21 : decode cX8_beginAnew 21 = .ok (.aload_n 0, 1) := by decide +kernel
theorem dX8_beginAnew_22 : decode cX8_beginAnew 22 = .ok (.getfield 41, 3) := by decide +kernel
theorem dX8_beginAnew_25 : decode cX8_beginAnew 25 = .ok (.aload_n 0, 1) := by decide +kernel
theorem dX8_beginAnew_26 : decode cX8_beginAnew 26 = .ok (.getfield 31, 3) := by decide +kernel
theorem dX8_beginAnew_29 : decode cX8_beginAnew 29 = .ok (.invokevirtual 262, 3) := by decide +kernel
theorem dX8_beginAnew_32 : decode cX8_beginAnew 32 = .ok (.aload_n 0, 1) := by decide +kernel
theorem dX8_beginAnew_33 : decode cX8_beginAnew 33 = .ok (.getfield 48, 3) := by decide +kernel
theorem dX8_beginAnew_36 : decode cX8_beginAnew 36 = .ok (.invokevirtual 265, 3) := by decide +kernel
theorem dX8_beginAnew_39 : decode cX8_beginAnew 39 = .ok (.iconst 0, 1) := by decide +kernel
theorem dX8_beginAnew_40 : decode cX8_beginAnew 40 = .ok (.istore_n 1, 1) := by decide +kernel
theorem dX8_beginAnew_41 : decode cX8_beginAnew 41 = .ok (.iload_n 1, 1) := by decide +kernel
theorem dX8_beginAnew_42 : decode cX8_beginAnew 42 = .ok (.iconst 2, 1) := by decide +kernel
theorem dX8_beginAnew_43 : decode cX8_beginAnew 43 = .ok (.if_icmp .ge 19, 3) := by decide +kernel
theorem dX8_beginAnew_46 : decode cX8_beginAnew 46 = .ok (.aload_n 0, 1) := by decide +kernel
theorem dX8_beginAnew_47 : decode cX8_beginAnew 47 = .ok (.getfield 52, 3) := by decide +kernel
theorem dX8_beginAnew_50 : decode cX8_beginAnew 50 = .ok (.iload_n 1, 1) := by decide +kernel
theorem dX8_beginAnew_51 : decode cX8_beginAnew 51 = .ok (.aaload, 1) := by decide +kernel
theorem dX8_beginAnew_52 : decode cX8_beginAnew 52 = .ok (.iconst 0, 1) := by decide +kernel
theorem dX8_beginAnew_53 : decode cX8_beginAnew 53 = .ok (.putfield 253, 3) := by decide +kernel
theorem dX8_beginAnew_56 : decode cX8_beginAnew 56 = .ok (.iinc 1 1, 3) := by decide +kernel
theorem dX8_beginAnew_59 : decode cX8_beginAnew 59 = .ok (.goto (-18), 3) := by decide +kernel
theorem dX8_beginAnew_62 : decode cX8_beginAnew 62 = .ok (.aload_n 0, 1) := by decide +kernel
theorem dX8_beginAnew_63 : decode cX8_beginAnew 63 = .ok (.getfield 59, 3) := by decide +kernel
theorem dX8_beginAnew_66 : decode cX8_beginAnew 66 = .ok (.iconst 0, 1) := by decide +kernel
theorem dX8_beginAnew_67 : decode cX8_beginAnew 67 = .ok (.putfield 221, 3) := by decide +kernel
theorem dX8_beginAnew_70 : decode cX8_beginAnew 70 = .ok (.aload_n 0, 1) := by decide +kernel
theorem dX8_beginAnew_71 : decode cX8_beginAnew 71 = .ok (.invokevirtual 157, 3) := by decide +kernel
theorem dX8_beginAnew_74 : decode cX8_beginAnew 74 = .ok (.return_, 1) := by decide +kernel
theorem dX8_foldAsNowTells_0 : decode cX8_foldAsNowTells 0 = .ok (.aload_n 0, 1) := by decide +kernel
theorem dX8_foldAsNowTells_1 : decode cX8_foldAsNowTells 1 = .ok (.getfield 35, 3) := by decide +kernel
theorem dX8_foldAsNowTells_4 : decode cX8_foldAsNowTells 4 = .ok (.aload_n 0, 1) := by decide +kernel
theorem dX8_foldAsNowTells_5 : decode cX8_foldAsNowTells 5 = .ok (.getfield 31, 3) := by decide +kernel
theorem dX8_foldAsNowTells_8 : decode cX8_foldAsNowTells 8 = .ok (.invokevirtual 268, 3) := by decide +kernel
theorem dX8_foldAsNowTells_11 : decode cX8_foldAsNowTells 11 = .ok (.aload_n 0, 1) := by decide +kernel
theorem dX8_foldAsNowTells_12 : decode cX8_foldAsNowTells 12 = .ok (.getfield 48, 3) := by decide +kernel
theorem dX8_foldAsNowTells_15 : decode cX8_foldAsNowTells 15 = .ok (.getfield 270, 3) := by decide +kernel
theorem dX8_foldAsNowTells_18 : decode cX8_foldAsNowTells 18 = .ok (.iconst 0, 1) := by decide +kernel
theorem dX8_foldAsNowTells_19 : decode cX8_foldAsNowTells 19 = .ok (.aload_n 0, 1) := by decide +kernel
theorem dX8_foldAsNowTells_20 : decode cX8_foldAsNowTells 20 = .ok (.getfield 41, 3) := by decide +kernel
theorem dX8_foldAsNowTells_23 : decode cX8_foldAsNowTells 23 = .ok (.getfield 171, 3) := by decide +kernel
theorem dX8_foldAsNowTells_26 : decode cX8_foldAsNowTells 26 = .ok (.iconst 0, 1) := by decide +kernel
theorem dX8_foldAsNowTells_27 : decode cX8_foldAsNowTells 27 = .ok (.bipush 24, 2) := by decide +kernel
theorem dX8_foldAsNowTells_29 : decode cX8_foldAsNowTells 29 = .ok (.invokestatic 273, 3) := by decide +kernel
theorem dX8_foldAsNowTells_32 : decode cX8_foldAsNowTells 32 = .ok (.iconst 0, 1) := by decide +kernel
theorem dX8_foldAsNowTells_33 : decode cX8_foldAsNowTells 33 = .ok (.istore_n 1, 1) := by decide +kernel
theorem dX8_foldAsNowTells_34 : decode cX8_foldAsNowTells 34 = .ok (.iload_n 1, 1) := by decide +kernel
theorem dX8_foldAsNowTells_35 : decode cX8_foldAsNowTells 35 = .ok (.aload_n 0, 1) := by decide +kernel
theorem dX8_foldAsNowTells_36 : decode cX8_foldAsNowTells 36 = .ok (.getfield 48, 3) := by decide +kernel
theorem dX8_foldAsNowTells_39 : decode cX8_foldAsNowTells 39 = .ok (.getfield 154, 3) := by decide +kernel
theorem dX8_foldAsNowTells_42 : decode cX8_foldAsNowTells 42 = .ok (.if_icmp .ge 22, 3) := by decide +kernel
theorem dX8_foldAsNowTells_45 : decode cX8_foldAsNowTells 45 = .ok (.aload_n 0, 1) := by decide +kernel
theorem dX8_foldAsNowTells_46 : decode cX8_foldAsNowTells 46 = .ok (.aload_n 0, 1) := by decide +kernel
theorem dX8_foldAsNowTells_47 : decode cX8_foldAsNowTells 47 = .ok (.getfield 48, 3) := by decide +kernel
theorem dX8_foldAsNowTells_50 : decode cX8_foldAsNowTells 50 = .ok (.getfield 279, 3) := by decide +kernel
theorem dX8_foldAsNowTells_53 : decode cX8_foldAsNowTells 53 = .ok (.iload_n 1, 1) := by decide +kernel
theorem dX8_foldAsNowTells_54 : decode cX8_foldAsNowTells 54 = .ok (.iaload, 1) := by decide +kernel
theorem dX8_foldAsNowTells_55 : decode cX8_foldAsNowTells 55 = .ok (.invokevirtual 147, 3) := by decide +kernel
theorem dX8_foldAsNowTells_58 : decode cX8_foldAsNowTells 58 = .ok (.iinc 1 1, 3) := by decide +kernel
theorem dX8_foldAsNowTells_61 : decode cX8_foldAsNowTells 61 = .ok (.goto (-27), 3) := by decide +kernel
theorem dX8_foldAsNowTells_64 : decode cX8_foldAsNowTells 64 = .ok (.return_, 1) := by decide +kernel
theorem dX8_bendBy_0 : decode cX8_bendBy 0 = .ok (.aload_n 0, 1) := by decide +kernel
theorem dX8_bendBy_1 : decode cX8_bendBy 1 = .ok (.getfield 41, 3) := by decide +kernel
theorem dX8_bendBy_4 : decode cX8_bendBy 4 = .ok (.aload_n 0, 1) := by decide +kernel
theorem dX8_bendBy_5 : decode cX8_bendBy 5 = .ok (.getfield 35, 3) := by decide +kernel
theorem dX8_bendBy_8 : decode cX8_bendBy 8 = .ok (.iload_n 1, 1) := by decide +kernel
theorem dX8_bendBy_9 : decode cX8_bendBy 9 = .ok (.invokevirtual 282, 3) := by decide +kernel
theorem dX8_bendBy_12 : decode cX8_bendBy 12 = .ok (.aload_n 0, 1) := by decide +kernel
theorem dX8_bendBy_13 : decode cX8_bendBy 13 = .ok (.getfield 35, 3) := by decide +kernel
theorem dX8_bendBy_16 : decode cX8_bendBy 16 = .ok (.iload_n 1, 1) := by decide +kernel
theorem dX8_bendBy_17 : decode cX8_bendBy 17 = .ok (.invokevirtual 286, 3) := by decide +kernel
theorem dX8_bendBy_20 : decode cX8_bendBy 20 = .ok (.return_, 1) := by decide +kernel
theorem dX8_rateAsCell_0 : decode cX8_rateAsCell 0 = .ok (.aload_n 0, 1) := by decide +kernel
theorem dX8_rateAsCell_1 : decode cX8_rateAsCell 1 = .ok (.dup, 1) := by decide +kernel
theorem dX8_rateAsCell_2 : decode cX8_rateAsCell 2 = .ok (.getfield 70, 3) := by decide +kernel
theorem dX8_rateAsCell_5 : decode cX8_rateAsCell 5 = .ok (.lconst 1, 1) := by decide +kernel
theorem dX8_rateAsCell_6 : decode cX8_rateAsCell 6 = .ok (.ladd, 1) := by decide +kernel
theorem dX8_rateAsCell_7 : decode cX8_rateAsCell 7 = .ok (.putfield 70, 3) := by decide +kernel
theorem dX8_rateAsCell_10 : decode cX8_rateAsCell 10 = .ok (.aload_n 0, 1) := by decide +kernel
theorem dX8_rateAsCell_11 : decode cX8_rateAsCell 11 = .ok (.getfield 24, 3) := by decide +kernel
theorem dX8_rateAsCell_14 : decode cX8_rateAsCell 14 = .ok (.getfield 121, 3) := by decide +kernel
theorem dX8_rateAsCell_17 : decode cX8_rateAsCell 17 = .ok (.iload_n 1, 1) := by decide +kernel
theorem dX8_rateAsCell_18 : decode cX8_rateAsCell 18 = .ok (.iaload, 1) := by decide +kernel
theorem dX8_rateAsCell_19 : decode cX8_rateAsCell 19 = .ok (.ireturn, 1) := by decide +kernel
theorem dX8_rateAsWell_0 : decode cX8_rateAsWell 0 = .ok (.aload_n 0, 1) := by decide +kernel
theorem dX8_rateAsWell_1 : decode cX8_rateAsWell 1 = .ok (.dup, 1) := by decide +kernel
theorem dX8_rateAsWell_2 : decode cX8_rateAsWell 2 = .ok (.getfield 70, 3) := by decide +kernel
theorem dX8_rateAsWell_5 : decode cX8_rateAsWell 5 = .ok (.ldc2_w 288, 3) := by decide +kernel
theorem dX8_rateAsWell_8 : decode cX8_rateAsWell 8 = .ok (.ladd, 1) := by decide +kernel
theorem dX8_rateAsWell_9 : decode cX8_rateAsWell 9 = .ok (.putfield 70, 3) := by decide +kernel
theorem dX8_rateAsWell_12 : decode cX8_rateAsWell 12 = .ok (.aload_n 0, 1) := by decide +kernel
theorem dX8_rateAsWell_13 : decode cX8_rateAsWell 13 = .ok (.iload_n 1, 1) := by decide +kernel
theorem dX8_rateAsWell_14 : decode cX8_rateAsWell 14 = .ok (.invokevirtual 244, 3) := by decide +kernel
theorem dX8_rateAsWell_17 : decode cX8_rateAsWell 17 = .ok (.aload_n 0, 1) := by decide +kernel
theorem dX8_rateAsWell_18 : decode cX8_rateAsWell 18 = .ok (.getfield 35, 3) := by decide +kernel
theorem dX8_rateAsWell_21 : decode cX8_rateAsWell 21 = .ok (.iload_n 1, 1) := by decide +kernel
theorem dX8_rateAsWell_22 : decode cX8_rateAsWell 22 = .ok (.aload_n 0, 1) := by decide +kernel
theorem dX8_rateAsWell_23 : decode cX8_rateAsWell 23 = .ok (.getfield 24, 3) := by decide +kernel
theorem dX8_rateAsWell_26 : decode cX8_rateAsWell 26 = .ok (.getfield 121, 3) := by decide +kernel
theorem dX8_rateAsWell_29 : decode cX8_rateAsWell 29 = .ok (.invokevirtual 124, 3) := by decide +kernel
theorem dX8_rateAsWell_32 : decode cX8_rateAsWell 32 = .ok (.iadd, 1) := by decide +kernel
theorem dX8_rateAsWell_33 : decode cX8_rateAsWell 33 = .ok (.ireturn, 1) := by decide +kernel
theorem dX8_rateAsHermit_0 : decode cX8_rateAsHermit 0 = .ok (.aload_n 0, 1) := by decide +kernel
theorem dX8_rateAsHermit_1 : decode cX8_rateAsHermit 1 = .ok (.dup, 1) := by decide +kernel
theorem dX8_rateAsHermit_2 : decode cX8_rateAsHermit 2 = .ok (.getfield 70, 3) := by decide +kernel
theorem dX8_rateAsHermit_5 : decode cX8_rateAsHermit 5 = .ok (.ldc2_w 290, 3) := by decide +kernel
theorem dX8_rateAsHermit_8 : decode cX8_rateAsHermit 8 = .ok (.ladd, 1) := by decide +kernel
theorem dX8_rateAsHermit_9 : decode cX8_rateAsHermit 9 = .ok (.putfield 70, 3) := by decide +kernel
theorem dX8_rateAsHermit_12 : decode cX8_rateAsHermit 12 = .ok (.aload_n 0, 1) := by decide +kernel
theorem dX8_rateAsHermit_13 : decode cX8_rateAsHermit 13 = .ok (.iload_n 1, 1) := by decide +kernel
theorem dX8_rateAsHermit_14 : decode cX8_rateAsHermit 14 = .ok (.invokevirtual 244, 3) := by decide +kernel
theorem dX8_rateAsHermit_17 : decode cX8_rateAsHermit 17 = .ok (.aload_n 0, 1) := by decide +kernel
theorem dX8_rateAsHermit_18 : decode cX8_rateAsHermit 18 = .ok (.getfield 35, 3) := by decide +kernel
theorem dX8_rateAsHermit_21 : decode cX8_rateAsHermit 21 = .ok (.getfield 115, 3) := by decide +kernel
theorem dX8_rateAsHermit_24 : decode cX8_rateAsHermit 24 = .ok (.iload_n 1, 1) := by decide +kernel
theorem dX8_rateAsHermit_25 : decode cX8_rateAsHermit 25 = .ok (.iaload, 1) := by decide +kernel
theorem dX8_rateAsHermit_26 : decode cX8_rateAsHermit 26 = .ok (.isub, 1) := by decide +kernel
theorem dX8_rateAsHermit_27 : decode cX8_rateAsHermit 27 = .ok (.ireturn, 1) := by decide +kernel
theorem dX8_rateAsLight_0 : decode cX8_rateAsLight 0 = .ok (.aload_n 0, 1) := by decide +kernel
theorem dX8_rateAsLight_1 : decode cX8_rateAsLight 1 = .ok (.dup, 1) := by decide +kernel
theorem dX8_rateAsLight_2 : decode cX8_rateAsLight 2 = .ok (.getfield 70, 3) := by decide +kernel
theorem dX8_rateAsLight_5 : decode cX8_rateAsLight 5 = .ok (.ldc2_w 292, 3) := by decide +kernel
theorem dX8_rateAsLight_8 : decode cX8_rateAsLight 8 = .ok (.ladd, 1) := by decide +kernel
theorem dX8_rateAsLight_9 : decode cX8_rateAsLight 9 = .ok (.putfield 70, 3) := by decide +kernel
theorem dX8_rateAsLight_12 : decode cX8_rateAsLight 12 = .ok (.iconst 2, 1) := by decide +kernel
theorem dX8_rateAsLight_13 : decode cX8_rateAsLight 13 = .ok (.aload_n 0, 1) := by decide +kernel
theorem dX8_rateAsLight_14 : decode cX8_rateAsLight 14 = .ok (.iload_n 1, 1) := by decide +kernel
theorem dX8_rateAsLight_15 : decode cX8_rateAsLight 15 = .ok (.invokevirtual 229, 3) := by decide +kernel
theorem dX8_rateAsLight_18 : decode cX8_rateAsLight 18 = .ok (.imul, 1) := by decide +kernel
theorem dX8_rateAsLight_19 : decode cX8_rateAsLight 19 = .ok (.ireturn, 1) := by decide +kernel
theorem dX8_rateAsFolder_0 : decode cX8_rateAsFolder 0 = .ok (.aload_n 0, 1) := by decide +kernel
theorem dX8_rateAsFolder_1 : decode cX8_rateAsFolder 1 = .ok (.dup, 1) := by decide +kernel
theorem dX8_rateAsFolder_2 : decode cX8_rateAsFolder 2 = .ok (.getfield 70, 3) := by decide +kernel
theorem dX8_rateAsFolder_5 : decode cX8_rateAsFolder 5 = .ok (.ldc2_w 294, 3) := by decide +kernel
theorem dX8_rateAsFolder_8 : decode cX8_rateAsFolder 8 = .ok (.ladd, 1) := by decide +kernel
theorem dX8_rateAsFolder_9 : decode cX8_rateAsFolder 9 = .ok (.putfield 70, 3) := by decide +kernel
theorem dX8_rateAsFolder_12 : decode cX8_rateAsFolder 12 = .ok (.aload_n 0, 1) := by decide +kernel
theorem dX8_rateAsFolder_13 : decode cX8_rateAsFolder 13 = .ok (.iload_n 1, 1) := by decide +kernel
theorem dX8_rateAsFolder_14 : decode cX8_rateAsFolder 14 = .ok (.invokevirtual 232, 3) := by decide +kernel
theorem dX8_rateAsFolder_17 : decode cX8_rateAsFolder 17 = .ok (.aload_n 0, 1) := by decide +kernel
theorem dX8_rateAsFolder_18 : decode cX8_rateAsFolder 18 = .ok (.getfield 48, 3) := by decide +kernel
theorem dX8_rateAsFolder_21 : decode cX8_rateAsFolder 21 = .ok (.getfield 154, 3) := by decide +kernel
theorem dX8_rateAsFolder_24 : decode cX8_rateAsFolder 24 = .ok (.iadd, 1) := by decide +kernel
theorem dX8_rateAsFolder_25 : decode cX8_rateAsFolder 25 = .ok (.ireturn, 1) := by decide +kernel
theorem dX8_rateAsDuke_0 : decode cX8_rateAsDuke 0 = .ok (.aload_n 0, 1) := by decide +kernel
theorem dX8_rateAsDuke_1 : decode cX8_rateAsDuke 1 = .ok (.dup, 1) := by decide +kernel
theorem dX8_rateAsDuke_2 : decode cX8_rateAsDuke 2 = .ok (.getfield 70, 3) := by decide +kernel
theorem dX8_rateAsDuke_5 : decode cX8_rateAsDuke 5 = .ok (.ldc2_w 296, 3) := by decide +kernel
theorem dX8_rateAsDuke_8 : decode cX8_rateAsDuke 8 = .ok (.ladd, 1) := by decide +kernel
theorem dX8_rateAsDuke_9 : decode cX8_rateAsDuke 9 = .ok (.putfield 70, 3) := by decide +kernel
theorem dX8_rateAsDuke_12 : decode cX8_rateAsDuke 12 = .ok (.aload_n 0, 1) := by decide +kernel
theorem dX8_rateAsDuke_13 : decode cX8_rateAsDuke 13 = .ok (.iload_n 1, 1) := by decide +kernel
theorem dX8_rateAsDuke_14 : decode cX8_rateAsDuke 14 = .ok (.invokevirtual 244, 3) := by decide +kernel
theorem dX8_rateAsDuke_17 : decode cX8_rateAsDuke 17 = .ok (.aload_n 0, 1) := by decide +kernel
theorem dX8_rateAsDuke_18 : decode cX8_rateAsDuke 18 = .ok (.getfield 48, 3) := by decide +kernel
theorem dX8_rateAsDuke_21 : decode cX8_rateAsDuke 21 = .ok (.getfield 164, 3) := by decide +kernel
theorem dX8_rateAsDuke_24 : decode cX8_rateAsDuke 24 = .ok (.iadd, 1) := by decide +kernel
theorem dX8_rateAsDuke_25 : decode cX8_rateAsDuke 25 = .ok (.ireturn, 1) := by decide +kernel
theorem dX9_init_0 : decode cX9_init 0 = .ok (.aload_n 0, 1) := by decide +kernel
theorem dX9_init_1 : decode cX9_init 1 = .ok (.invokespecial 1, 3) := by decide +kernel
theorem dX9_init_4 : decode cX9_init 4 = .ok (.aload_n 0, 1) := by decide +kernel
theorem dX9_init_5 : decode cX9_init 5 = .ok (.sipush 200, 3) := by decide +kernel
theorem dX9_init_8 : decode cX9_init 8 = .ok (.newarray .int, 2) := by decide +kernel
theorem dX9_init_10 : decode cX9_init 10 = .ok (.putfield 7, 3) := by decide +kernel
theorem dX9_init_13 : decode cX9_init 13 = .ok (.aload_n 0, 1) := by decide +kernel
theorem dX9_init_14 : decode cX9_init 14 = .ok (.bipush 35, 2) := by decide +kernel
theorem dX9_init_16 : decode cX9_init 16 = .ok (.newarray .int, 2) := by decide +kernel
theorem dX9_init_18 : decode cX9_init 18 = .ok (.putfield 13, 3) := by decide +kernel
theorem dX9_init_21 : decode cX9_init 21 = .ok (.aload_n 0, 1) := by decide +kernel
theorem dX9_init_22 : decode cX9_init 22 = .ok (.bipush 35, 2) := by decide +kernel
theorem dX9_init_24 : decode cX9_init 24 = .ok (.newarray .int, 2) := by decide +kernel
theorem dX9_init_26 : decode cX9_init 26 = .ok (.putfield 16, 3) := by decide +kernel
theorem dX9_init_29 : decode cX9_init 29 = .ok (.aload_n 0, 1) := by decide +kernel
theorem dX9_init_30 : decode cX9_init 30 = .ok (.bipush 40, 2) := by decide +kernel
theorem dX9_init_32 : decode cX9_init 32 = .ok (.newarray .int, 2) := by decide +kernel
theorem dX9_init_34 : decode cX9_init 34 = .ok (.putfield 19, 3) := by decide +kernel
theorem dX9_init_37 : decode cX9_init 37 = .ok (.aload_n 0, 1) := by decide +kernel
theorem dX9_init_38 : decode cX9_init 38 = .ok (.bipush 80, 2) := by decide +kernel
theorem dX9_init_40 : decode cX9_init 40 = .ok (.newarray .int, 2) := by decide +kernel
theorem dX9_init_42 : decode cX9_init 42 = .ok (.putfield 22, 3) := by decide +kernel
theorem dX9_init_45 : decode cX9_init 45 = .ok (.aload_n 0, 1) := by decide +kernel
theorem dX9_init_46 : decode cX9_init 46 = .ok (.iconst 2, 1) := by decide +kernel
theorem dX9_init_47 : decode cX9_init 47 = .ok (.newarray .boolean, 2) := by decide +kernel
theorem dX9_init_49 : decode cX9_init 49 = .ok (.putfield 25, 3) := by decide +kernel
theorem dX9_init_52 : decode cX9_init 52 = .ok (.aload_n 0, 1) := by decide +kernel
theorem dX9_init_53 : decode cX9_init 53 = .ok (.bipush 6, 2) := by decide +kernel
theorem dX9_init_55 : decode cX9_init 55 = .ok (.newarray .int, 2) := by decide +kernel
theorem dX9_init_57 : decode cX9_init 57 = .ok (.putfield 29, 3) := by decide +kernel
theorem dX9_init_60 : decode cX9_init 60 = .ok (.aload_n 0, 1) := by decide +kernel
theorem dX9_init_61 : decode cX9_init 61 = .ok (.bipush 6, 2) := by decide +kernel
theorem dX9_init_63 : decode cX9_init 63 = .ok (.newarray .int, 2) := by decide +kernel
theorem dX9_init_65 : decode cX9_init 65 = .ok (.putfield 32, 3) := by decide +kernel
theorem dX9_init_68 : decode cX9_init 68 = .ok (.aload_n 0, 1) := by decide +kernel
theorem dX9_init_69 : decode cX9_init 69 = .ok (.sipush 256, 3) := by decide +kernel
theorem dX9_init_72 : decode cX9_init 72 = .ok (.newarray .int, 2) := by decide +kernel
theorem dX9_init_74 : decode cX9_init 74 = .ok (.putfield 35, 3) := by decide +kernel
theorem dX9_init_77 : decode cX9_init 77 = .ok (.aload_n 0, 1) := by decide +kernel
theorem dX9_init_78 : decode cX9_init 78 = .ok (.bipush 8, 2) := by decide +kernel
theorem dX9_init_80 : decode cX9_init 80 = .ok (.newarray .int, 2) := by decide +kernel
theorem dX9_init_82 : decode cX9_init 82 = .ok (.putfield 38, 3) := by decide +kernel
theorem dX9_init_85 : decode cX9_init 85 = .ok (.aload_n 0, 1) := by decide +kernel
theorem dX9_init_86 : decode cX9_init 86 = .ok (.bipush 16, 2) := by decide +kernel
theorem dX9_init_88 : decode cX9_init 88 = .ok (.newarray .boolean, 2) := by decide +kernel
theorem dX9_init_90 : decode cX9_init 90 = .ok (.putfield 41, 3) := by decide +kernel
theorem dX9_init_93 : decode cX9_init 93 = .ok (.aload_n 0, 1) := by decide +kernel
theorem dX9_init_94 : decode cX9_init 94 = .ok (.bipush 16, 2) := by decide +kernel
theorem dX9_init_96 : decode cX9_init 96 = .ok (.newarray .int, 2) := by decide +kernel
theorem dX9_init_98 : decode cX9_init 98 = .ok (.putfield 44, 3) := by decide +kernel
theorem dX9_init_101 : decode cX9_init 101 = .ok (.aload_n 0, 1) := by decide +kernel
theorem dX9_init_102 : decode cX9_init 102 = .ok (.invokevirtual 47, 3) := by decide +kernel
theorem dX9_init_105 : decode cX9_init 105 = .ok (.pop, 1) := by decide +kernel
theorem dX9_init_106 : decode cX9_init 106 = .ok (.iconst 0, 1) := by decide +kernel
theorem dX9_init_107 : decode cX9_init 107 = .ok (.istore_n 1, 1) := by decide +kernel
theorem dX9_init_108 : decode cX9_init 108 = .ok (.iload_n 1, 1) := by decide +kernel
theorem dX9_init_109 : decode cX9_init 109 = .ok (.bipush 35, 2) := by decide +kernel
theorem dX9_init_111 : decode cX9_init 111 = .ok (.if_icmp .ge 21, 3) := by decide +kernel
theorem dX9_init_114 : decode cX9_init 114 = .ok (.aload_n 0, 1) := by decide +kernel
theorem dX9_init_115 : decode cX9_init 115 = .ok (.getfield 13, 3) := by decide +kernel
theorem dX9_init_118 : decode cX9_init 118 = .ok (.iload_n 1, 1) := by decide +kernel
theorem dX9_init_119 : decode cX9_init 119 = .ok (.aload_n 0, 1) := by decide +kernel
theorem dX9_init_120 : decode cX9_init 120 = .ok (.getfield 16, 3) := by decide +kernel
theorem dX9_init_123 : decode cX9_init 123 = .ok (.iload_n 1, 1) := by decide +kernel
theorem dX9_init_124 : decode cX9_init 124 = .ok (.iaload, 1) := by decide +kernel
theorem dX9_init_125 : decode cX9_init 125 = .ok (.iastore, 1) := by decide +kernel
theorem dX9_init_126 : decode cX9_init 126 = .ok (.iinc 1 1, 3) := by decide +kernel
theorem dX9_init_129 : decode cX9_init 129 = .ok (.goto (-21), 3) := by decide +kernel
theorem dX9_init_132 : decode cX9_init 132 = .ok (.return_, 1) := by decide +kernel
theorem dX9_in_0 : decode cX9_in 0 = .ok (.iload_n 0, 1) := by decide +kernel
theorem dX9_in_1 : decode cX9_in 1 = .ok (.iload_n 1, 1) := by decide +kernel
theorem dX9_in_2 : decode cX9_in 2 = .ok (.if_icmp .lt 12, 3) := by decide +kernel
theorem dX9_in_5 : decode cX9_in 5 = .ok (.iload_n 0, 1) := by decide +kernel
theorem dX9_in_6 : decode cX9_in 6 = .ok (.iload_n 2, 1) := by decide +kernel
theorem dX9_in_7 : decode cX9_in 7 = .ok (.if_icmp .gt 7, 3) := by decide +kernel
theorem dX9_in_10 : decode cX9_in 10 = .ok (.iconst 1, 1) := by decide +kernel
theorem dX9_in_11 : decode cX9_in 11 = .ok (.goto 4, 3) := by decide +kernel
theorem dX9_in_14 : decode cX9_in 14 = .ok (.iconst 0, 1) := by decide +kernel
theorem dX9_in_15 : decode cX9_in 15 = .ok (.ireturn, 1) := by decide +kernel
theorem dX9_cells_0 : decode cX9_cells 0 = .ok (.aload_n 0, 1) := by decide +kernel
theorem dX9_cells_1 : decode cX9_cells 1 = .ok (.getfield 13, 3) := by decide +kernel
theorem dX9_cells_4 : decode cX9_cells 4 = .ok (.iconst 0, 1) := by decide +kernel
theorem dX9_cells_5 : decode cX9_cells 5 = .ok (.iaload, 1) := by decide +kernel
theorem dX9_cells_6 : decode cX9_cells 6 = .ok (.aload_n 0, 1) := by decide +kernel
theorem dX9_cells_7 : decode cX9_cells 7 = .ok (.getfield 13, 3) := by decide +kernel
theorem dX9_cells_10 : decode cX9_cells 10 = .ok (.iconst 1, 1) := by decide +kernel
theorem dX9_cells_11 : decode cX9_cells 11 = .ok (.iaload, 1) := by decide +kernel
theorem dX9_cells_12 : decode cX9_cells 12 = .ok (.imul, 1) := by decide +kernel
theorem dX9_cells_13 : decode cX9_cells 13 = .ok (.ireturn, 1) := by decide +kernel
theorem dX9_isCell_0 : decode cX9_isCell 0 = .ok (.iload_n 1, 1) := by decide +kernel
theorem dX9_isCell_1 : decode cX9_isCell 1 = .ok (.iconst 0, 1) := by decide +kernel
theorem dX9_isCell_2 : decode cX9_isCell 2 = .ok (.aload_n 0, 1) := by decide +kernel
theorem dX9_isCell_3 : decode cX9_isCell 3 = .ok (.invokevirtual 51, 3) := by decide +kernel
theorem dX9_isCell_6 : decode cX9_isCell 6 = .ok (.iconst 1, 1) := by decide +kernel
theorem dX9_isCell_7 : decode cX9_isCell 7 = .ok (.isub, 1) := by decide +kernel
theorem dX9_isCell_8 : decode cX9_isCell 8 = .ok (.invokestatic 55, 3) := by decide +kernel
theorem dX9_isCell_11 : decode cX9_isCell 11 = .ok (.ireturn, 1) := by decide +kernel
theorem dX9_areTwo_0 : decode cX9_areTwo 0 = .ok (.aload_n 0, 1) := by decide +kernel
theorem dX9_areTwo_1 : decode cX9_areTwo 1 = .ok (.iload_n 1, 1) := by decide +kernel
theorem dX9_areTwo_2 : decode cX9_areTwo 2 = .ok (.invokevirtual 59, 3) := by decide +kernel
theorem dX9_areTwo_5 : decode cX9_areTwo 5 = .ok (.ifCond .eq 20, 3) := by decide +kernel
theorem dX9_areTwo_8 : decode cX9_areTwo 8 = .ok (.aload_n 0, 1) := by decide +kernel
theorem dX9_areTwo_9 : decode cX9_areTwo 9 = .ok (.iload_n 2, 1) := by decide +kernel
theorem dX9_areTwo_10 : decode cX9_areTwo 10 = .ok (.invokevirtual 59, 3) := by decide +kernel
theorem dX9_areTwo_13 : decode cX9_areTwo 13 = .ok (.ifCond .eq 12, 3) := by decide +kernel
theorem dX9_areTwo_16 : decode cX9_areTwo 16 = .ok (.iload_n 1, 1) := by decide +kernel
theorem dX9_areTwo_17 : decode cX9_areTwo 17 = .ok (.iload_n 2, 1) := by decide +kernel
theorem dX9_areTwo_18 : decode cX9_areTwo 18 = .ok (.if_icmp .eq 7, 3) := by decide +kernel
theorem dX9_areTwo_21 : decode cX9_areTwo 21 = .ok (.iconst 1, 1) := by decide +kernel
theorem dX9_areTwo_22 : decode cX9_areTwo 22 = .ok (.goto 4, 3) := by decide +kernel
theorem dX9_areTwo_25 : decode cX9_areTwo 25 = .ok (.iconst 0, 1) := by decide +kernel
theorem dX9_areTwo_26 : decode cX9_areTwo 26 = .ok (.ireturn, 1) := by decide +kernel
theorem dX9_type_0 : decode cX9_type 0 = .ok (.iload_n 3, 1) := by decide +kernel
theorem dX9_type_1 : decode cX9_type 1 = .ok (.iconst 1, 1) := by decide +kernel
theorem dX9_type_2 : decode cX9_type 2 = .ok (.bipush 8, 2) := by decide +kernel
theorem dX9_type_4 : decode cX9_type 4 = .ok (.invokestatic 55, 3) := by decide +kernel
theorem dX9_type_7 : decode cX9_type 7 = .ok (.ifCond .ne 5, 3) := by decide +kernel
theorem dX9_type_10 : decode cX9_type 10 = .ok (.iconst (-1), 1) := by decide +kernel
theorem dX9_type_11 : decode cX9_type 11 = .ok (.ireturn, 1) := by decide +kernel
theorem dX9_type_12 : decode cX9_type 12 = .ok (.aload_n 0, 1) := by decide +kernel
theorem dX9_type_13 : decode cX9_type 13 = .ok (.getfield 63, 3) := by decide +kernel
theorem dX9_type_16 : decode cX9_type 16 = .ok (.iload_n 3, 1) := by decide +kernel
theorem dX9_type_17 : decode cX9_type 17 = .ok (.iadd, 1) := by decide +kernel
theorem dX9_type_18 : decode cX9_type 18 = .ok (.sipush 200, 3) := by decide +kernel
theorem dX9_type_21 : decode cX9_type 21 = .ok (.if_icmp .le 6, 3) := by decide +kernel
theorem dX9_type_24 : decode cX9_type 24 = .ok (.bipush (-3), 2) := by decide +kernel
theorem dX9_type_26 : decode cX9_type 26 = .ok (.ireturn, 1) := by decide +kernel
theorem dX9_type_27 : decode cX9_type 27 = .ok (.iload_n 3, 1) := by decide +kernel
theorem dX9_type_28 : decode cX9_type 28 = .ok (.iconst 1, 1) := by decide +kernel
theorem dX9_type_29 : decode cX9_type 29 = .ok (.isub, 1) := by decide +kernel
theorem dX9_type_30 : decode cX9_type 30 = .ok (.istore 4, 2) := by decide +kernel
theorem dX9_type_32 : decode cX9_type 32 = .ok (.iload 4, 2) := by decide +kernel
theorem dX9_type_34 : decode cX9_type 34 = .ok (.ifCond .lt 40, 3) := by decide +kernel
theorem dX9_type_37 : decode cX9_type 37 = .ok (.aload_n 0, 1) := by decide +kernel
theorem dX9_type_38 : decode cX9_type 38 = .ok (.getfield 7, 3) := by decide +kernel
theorem dX9_type_41 : decode cX9_type 41 = .ok (.aload_n 0, 1) := by decide +kernel
theorem dX9_type_42 : decode cX9_type 42 = .ok (.getfield 63, 3) := by decide +kernel
theorem dX9_type_45 : decode cX9_type 45 = .ok (.lload_n 1, 1) := by decide +kernel
theorem dX9_type_46 : decode cX9_type 46 = .ok (.bipush 8, 2) := by decide +kernel
theorem dX9_type_48 : decode cX9_type 48 = .ok (.iload 4, 2) := by decide +kernel
theorem dX9_type_50 : decode cX9_type 50 = .ok (.imul, 1) := by decide +kernel
theorem dX9_type_51 : decode cX9_type 51 = .ok (.lshr, 1) := by decide +kernel
theorem dX9_type_52 : decode cX9_type 52 = .ok (.ldc2_w 67, 3) := by decide +kernel
theorem dX9_type_55 : decode cX9_type 55 = .ok (.land, 1) := by decide +kernel
theorem dX9_type_56 : decode cX9_type 56 = .ok (.l2i, 1) := by decide +kernel
theorem dX9_type_57 : decode cX9_type 57 = .ok (.iastore, 1) := by decide +kernel
theorem dX9_type_58 : decode cX9_type 58 = .ok (.aload_n 0, 1) := by decide +kernel
theorem dX9_type_59 : decode cX9_type 59 = .ok (.dup, 1) := by decide +kernel
theorem dX9_type_60 : decode cX9_type 60 = .ok (.getfield 63, 3) := by decide +kernel
theorem dX9_type_63 : decode cX9_type 63 = .ok (.iconst 1, 1) := by decide +kernel
theorem dX9_type_64 : decode cX9_type 64 = .ok (.iadd, 1) := by decide +kernel
theorem dX9_type_65 : decode cX9_type 65 = .ok (.putfield 63, 3) := by decide +kernel
theorem dX9_type_68 : decode cX9_type 68 = .ok (.iinc 4 (-1), 3) := by decide +kernel
theorem dX9_type_71 : decode cX9_type 71 = .ok (.goto (-39), 3) := by decide +kernel
theorem dX9_type_74 : decode cX9_type 74 = .ok (.aload_n 0, 1) := by decide +kernel
theorem dX9_type_75 : decode cX9_type 75 = .ok (.getfield 63, 3) := by decide +kernel
theorem dX9_type_78 : decode cX9_type 78 = .ok (.ireturn, 1) := by decide +kernel
theorem dX9_clear_0 : decode cX9_clear 0 = .ok (.aload_n 0, 1) := by decide +kernel
theorem dX9_clear_1 : decode cX9_clear 1 = .ok (.getfield 63, 3) := by decide +kernel
theorem dX9_clear_4 : decode cX9_clear 4 = .ok (.istore_n 1, 1) := by decide +kernel
theorem dX9_clear_5 : decode cX9_clear 5 = .ok (.aload_n 0, 1) := by decide +kernel
theorem dX9_clear_6 : decode cX9_clear 6 = .ok (.iconst 0, 1) := by decide +kernel
theorem dX9_clear_7 : decode cX9_clear 7 = .ok (.putfield 63, 3) := by decide +kernel
theorem dX9_clear_10 : decode cX9_clear 10 = .ok (.iload_n 1, 1) := by decide +kernel
theorem dX9_clear_11 : decode cX9_clear 11 = .ok (.ireturn, 1) := by decide +kernel
theorem dX9_byteAt_0 : decode cX9_byteAt 0 = .ok (.iload_n 1, 1) := by decide +kernel
theorem dX9_byteAt_1 : decode cX9_byteAt 1 = .ok (.aload_n 0, 1) := by decide +kernel
theorem dX9_byteAt_2 : decode cX9_byteAt 2 = .ok (.getfield 63, 3) := by decide +kernel
theorem dX9_byteAt_5 : decode cX9_byteAt 5 = .ok (.if_icmp .ge 12, 3) := by decide +kernel
end
section
theorem dX9_byteAt_8 : decode cX9_byteAt 8 = .ok (.aload_n 0, 1) := by decide +kernel
theorem dX9_byteAt_9 : decode cX9_byteAt 9 = .ok (.getfield 7, 3) := by decide +kernel
theorem dX9_byteAt_12 : decode cX9_byteAt 12 = .ok (.iload_n 1, 1) := by decide +kernel
theorem dX9_byteAt_13 : decode cX9_byteAt 13 = .ok (.iaload, 1) := by decide +kernel
theorem dX9_byteAt_14 : decode cX9_byteAt 14 = .ok (.goto 4, 3) := by decide +kernel
theorem dX9_byteAt_17 : decode cX9_byteAt 17 = .ok (.iconst (-1), 1) := by decide +kernel
theorem dX9_byteAt_18 : decode cX9_byteAt 18 = .ok (.ireturn, 1) := by decide +kernel
theorem dX9_sortOf_0 : decode cX9_sortOf 0 = .ok (.iload_n 0, 1) := by decide +kernel
theorem dX9_sortOf_1 : decode cX9_sortOf 1 = .ok (.ifCond .ge 7, 3) := by decide +kernel
theorem dX9_sortOf_4 : decode cX9_sortOf 4 = .ok (.iconst 0, 1) := by decide +kernel
theorem dX9_sortOf_5 : decode cX9_sortOf 5 = .ok (.goto 44, 3) := by decide +kernel
theorem dX9_sortOf_8 : decode cX9_sortOf 8 = .ok (.iload_n 0, 1) := by decide +kernel
theorem dX9_sortOf_9 : decode cX9_sortOf 9 = .ok (.bipush 97, 2) := by decide +kernel
theorem dX9_sortOf_11 : decode cX9_sortOf 11 = .ok (.bipush 122, 2) := by decide +kernel
theorem dX9_sortOf_13 : decode cX9_sortOf 13 = .ok (.invokestatic 55, 3) := by decide +kernel
theorem dX9_sortOf_16 : decode cX9_sortOf 16 = .ok (.ifCond .eq 7, 3) := by decide +kernel
theorem dX9_sortOf_19 : decode cX9_sortOf 19 = .ok (.iconst 1, 1) := by decide +kernel
theorem dX9_sortOf_20 : decode cX9_sortOf 20 = .ok (.goto 29, 3) := by decide +kernel
theorem dX9_sortOf_23 : decode cX9_sortOf 23 = .ok (.iload_n 0, 1) := by decide +kernel
theorem dX9_sortOf_24 : decode cX9_sortOf 24 = .ok (.bipush 48, 2) := by decide +kernel
theorem dX9_sortOf_26 : decode cX9_sortOf 26 = .ok (.bipush 57, 2) := by decide +kernel
theorem dX9_sortOf_28 : decode cX9_sortOf 28 = .ok (.invokestatic 55, 3) := by decide +kernel
theorem dX9_sortOf_31 : decode cX9_sortOf 31 = .ok (.ifCond .eq 7, 3) := by decide +kernel
theorem dX9_sortOf_34 : decode cX9_sortOf 34 = .ok (.iconst 2, 1) := by decide +kernel
theorem dX9_sortOf_35 : decode cX9_sortOf 35 = .ok (.goto 14, 3) := by decide +kernel
theorem dX9_sortOf_38 : decode cX9_sortOf 38 = .ok (.iload_n 0, 1) := by decide +kernel
theorem dX9_sortOf_39 : decode cX9_sortOf 39 = .ok (.bipush 59, 2) := by decide +kernel
theorem dX9_sortOf_41 : decode cX9_sortOf 41 = .ok (.if_icmp .ne 7, 3) := by decide +kernel
theorem dX9_sortOf_44 : decode cX9_sortOf 44 = .ok (.iconst 3, 1) := by decide +kernel
theorem dX9_sortOf_45 : decode cX9_sortOf 45 = .ok (.goto 4, 3) := by decide +kernel
theorem dX9_sortOf_48 : decode cX9_sortOf 48 = .ok (.iconst 4, 1) := by decide +kernel
theorem dX9_sortOf_49 : decode cX9_sortOf 49 = .ok (.ireturn, 1) := by decide +kernel
theorem dX9_token_0 : decode cX9_token 0 = .ok (.aload_n 0, 1) := by decide +kernel
theorem dX9_token_1 : decode cX9_token 1 = .ok (.aload_n 0, 1) := by decide +kernel
theorem dX9_token_2 : decode cX9_token 2 = .ok (.getfield 69, 3) := by decide +kernel
theorem dX9_token_5 : decode cX9_token 5 = .ok (.invokevirtual 72, 3) := by decide +kernel
theorem dX9_token_8 : decode cX9_token 8 = .ok (.bipush 32, 2) := by decide +kernel
theorem dX9_token_10 : decode cX9_token 10 = .ok (.if_icmp .ne 16, 3) := by decide +kernel
theorem dX9_token_13 : decode cX9_token 13 = .ok (.aload_n 0, 1) := by decide +kernel
theorem dX9_token_14 : decode cX9_token 14 = .ok (.dup, 1) := by decide +kernel
theorem dX9_token_15 : decode cX9_token 15 = .ok (.getfield 69, 3) := by decide +kernel
theorem dX9_token_18 : decode cX9_token 18 = .ok (.iconst 1, 1) := by decide +kernel
theorem dX9_token_19 : decode cX9_token 19 = .ok (.iadd, 1) := by decide +kernel
theorem dX9_token_20 : decode cX9_token 20 = .ok (.putfield 69, 3) := by decide +kernel
theorem dX9_token_23 : decode cX9_token 23 = .ok (.goto (-23), 3) := by decide +kernel
theorem dX9_token_26 : decode cX9_token 26 = .ok (.aload_n 0, 1) := by decide +kernel
theorem dX9_token_27 : decode cX9_token 27 = .ok (.aload_n 0, 1) := by decide +kernel
theorem dX9_token_28 : decode cX9_token 28 = .ok (.getfield 69, 3) := by decide +kernel
theorem dX9_token_31 : decode cX9_token 31 = .ok (.putfield 76, 3) := by decide +kernel
theorem dX9_token_34 : decode cX9_token 34 = .ok (.aload_n 0, 1) := by decide +kernel
theorem dX9_token_35 : decode cX9_token 35 = .ok (.aload_n 0, 1) := by decide +kernel
theorem dX9_token_36 : decode cX9_token 36 = .ok (.aload_n 0, 1) := by decide +kernel
theorem dX9_token_37 : decode cX9_token 37 = .ok (.getfield 69, 3) := by decide +kernel
theorem dX9_token_40 : decode cX9_token 40 = .ok (.invokevirtual 72, 3) := by decide +kernel
theorem dX9_token_43 : decode cX9_token 43 = .ok (.invokestatic 79, 3) := by decide +kernel
theorem dX9_token_46 : decode cX9_token 46 = .ok (.putfield 82, 3) := by decide +kernel
theorem dX9_token_49 : decode cX9_token 49 = .ok (.aload_n 0, 1) := by decide +kernel
theorem dX9_token_50 : decode cX9_token 50 = .ok (.iconst 0, 1) := by decide +kernel
theorem dX9_token_51 : decode cX9_token 51 = .ok (.putfield 85, 3) := by decide +kernel
theorem dX9_token_54 : decode cX9_token 54 = .ok (.aload_n 0, 1) := by decide +kernel
theorem dX9_token_55 : decode cX9_token 55 = .ok (.getfield 85, 3) := by decide +kernel
theorem dX9_token_58 : decode cX9_token 58 = .ok (.ifCond .ne 10, 3) := by decide +kernel
theorem dX9_token_61 : decode cX9_token 61 = .ok (.aload_n 0, 1) := by decide +kernel
theorem dX9_token_62 : decode cX9_token 62 = .ok (.getfield 82, 3) := by decide +kernel
theorem dX9_token_65 : decode cX9_token 65 = .ok (.ifCond .ne 37, 3) := by decide +kernel
theorem dX9_token_68 : decode cX9_token 68 = .ok (.aload_n 0, 1) := by decide +kernel
theorem dX9_token_69 : decode cX9_token 69 = .ok (.getfield 82, 3) := by decide +kernel
theorem dX9_token_72 : decode cX9_token 72 = .ok (.iconst 1, 1) := by decide +kernel
theorem dX9_token_73 : decode cX9_token 73 = .ok (.if_icmp .eq 11, 3) := by decide +kernel
theorem dX9_token_76 : decode cX9_token 76 = .ok (.aload_n 0, 1) := by decide +kernel
theorem dX9_token_77 : decode cX9_token 77 = .ok (.getfield 82, 3) := by decide +kernel
theorem dX9_token_80 : decode cX9_token 80 = .ok (.iconst 2, 1) := by decide +kernel
theorem dX9_token_81 : decode cX9_token 81 = .ok (.if_icmp .ne 44, 3) := by decide +kernel
theorem dX9_token_84 : decode cX9_token 84 = .ok (.aload_n 0, 1) := by decide +kernel
theorem dX9_token_85 : decode cX9_token 85 = .ok (.aload_n 0, 1) := by decide +kernel
theorem dX9_token_86 : decode cX9_token 86 = .ok (.getfield 69, 3) := by decide +kernel
theorem dX9_token_89 : decode cX9_token 89 = .ok (.invokevirtual 72, 3) := by decide +kernel
theorem dX9_token_92 : decode cX9_token 92 = .ok (.invokestatic 79, 3) := by decide +kernel
theorem dX9_token_95 : decode cX9_token 95 = .ok (.aload_n 0, 1) := by decide +kernel
theorem dX9_token_96 : decode cX9_token 96 = .ok (.getfield 82, 3) := by decide +kernel
theorem dX9_token_99 : decode cX9_token 99 = .ok (.if_icmp .ne 26, 3) := by decide +kernel
theorem dX9_token_102 : decode cX9_token 102 = .ok (.aload_n 0, 1) := by decide +kernel
theorem dX9_token_103 : decode cX9_token 103 = .ok (.dup, 1) := by decide +kernel
theorem dX9_token_104 : decode cX9_token 104 = .ok (.getfield 69, 3) := by decide +kernel
theorem dX9_token_107 : decode cX9_token 107 = .ok (.iconst 1, 1) := by decide +kernel
theorem dX9_token_108 : decode cX9_token 108 = .ok (.iadd, 1) := by decide +kernel
theorem dX9_token_109 : decode cX9_token 109 = .ok (.putfield 69, 3) := by decide +kernel
theorem dX9_token_112 : decode cX9_token 112 = .ok (.aload_n 0, 1) := by decide +kernel
theorem dX9_token_113 : decode cX9_token 113 = .ok (.dup, 1) := by decide +kernel
theorem dX9_token_114 : decode cX9_token 114 = .ok (.getfield 85, 3) := by decide +kernel
theorem dX9_token_117 : decode cX9_token 117 = .ok (.iconst 1, 1) := by decide +kernel
theorem dX9_token_118 : decode cX9_token 118 = .ok (.iadd, 1) := by decide +kernel
theorem dX9_token_119 : decode cX9_token 119 = .ok (.putfield 85, 3) := by decide +kernel
theorem dX9_token_122 : decode cX9_token 122 = .ok (.goto (-68), 3) := by decide +kernel
theorem dX9_token_125 : decode cX9_token 125 = .ok (.return_, 1) := by decide +kernel
theorem dX9_verb_0 : decode cX9_verb 0 = .ok (.lconst 0, 1) := by decide +kernel
theorem dX9_verb_1 : decode cX9_verb 1 = .ok (.lstore_n 1, 1) := by decide +kernel
theorem dX9_verb_2 : decode cX9_verb 2 = .ok (.iconst 0, 1) := by decide +kernel
theorem dX9_verb_3 : decode cX9_verb 3 = .ok (.istore_n 3, 1) := by decide +kernel
theorem dX9_verb_4 : decode cX9_verb 4 = .ok (.iload_n 3, 1) := by decide +kernel
theorem dX9_verb_5 : decode cX9_verb 5 = .ok (.aload_n 0, 1) := by decide +kernel
theorem dX9_verb_6 : decode cX9_verb 6 = .ok (.getfield 85, 3) := by decide +kernel
theorem dX9_verb_9 : decode cX9_verb 9 = .ok (.if_icmp .ge 44, 3) := by decide +kernel
theorem dX9_verb_12 : decode cX9_verb 12 = .ok (.aload_n 0, 1) := by decide +kernel
theorem dX9_verb_13 : decode cX9_verb 13 = .ok (.getfield 85, 3) := by decide +kernel
theorem dX9_verb_16 : decode cX9_verb 16 = .ok (.bipush 8, 2) := by decide +kernel
theorem dX9_verb_18 : decode cX9_verb 18 = .ok (.if_icmp .ge 35, 3) := by decide +kernel
theorem dX9_verb_21 : decode cX9_verb 21 = .ok (.aload_n 0, 1) := by decide +kernel
theorem dX9_verb_22 : decode cX9_verb 22 = .ok (.getfield 82, 3) := by decide +kernel
theorem dX9_verb_25 : decode cX9_verb 25 = .ok (.iconst 1, 1) := by decide +kernel
theorem dX9_verb_26 : decode cX9_verb 26 = .ok (.if_icmp .ne 27, 3) := by decide +kernel
theorem dX9_verb_29 : decode cX9_verb 29 = .ok (.ldc2_w 88, 3) := by decide +kernel
theorem dX9_verb_32 : decode cX9_verb 32 = .ok (.lload_n 1, 1) := by decide +kernel
theorem dX9_verb_33 : decode cX9_verb 33 = .ok (.lmul, 1) := by decide +kernel
theorem dX9_verb_34 : decode cX9_verb 34 = .ok (.aload_n 0, 1) := by decide +kernel
theorem dX9_verb_35 : decode cX9_verb 35 = .ok (.aload_n 0, 1) := by decide +kernel
theorem dX9_verb_36 : decode cX9_verb 36 = .ok (.getfield 76, 3) := by decide +kernel
theorem dX9_verb_39 : decode cX9_verb 39 = .ok (.iload_n 3, 1) := by decide +kernel
theorem dX9_verb_40 : decode cX9_verb 40 = .ok (.iadd, 1) := by decide +kernel
theorem dX9_verb_41 : decode cX9_verb 41 = .ok (.invokevirtual 72, 3) := by decide +kernel
theorem dX9_verb_44 : decode cX9_verb 44 = .ok (.i2l, 1) := by decide +kernel
theorem dX9_verb_45 : decode cX9_verb 45 = .ok (.ladd, 1) := by decide +kernel
theorem dX9_verb_46 : decode cX9_verb 46 = .ok (.lstore_n 1, 1) := by decide +kernel
theorem dX9_verb_47 : decode cX9_verb 47 = .ok (.iinc 3 1, 3) := by decide +kernel
theorem dX9_verb_50 : decode cX9_verb 50 = .ok (.goto (-46), 3) := by decide +kernel
theorem dX9_verb_53 : decode cX9_verb 53 = .ok (.lload_n 1, 1) := by decide +kernel
theorem dX9_verb_54 : decode cX9_verb 54 = .ok (.ldc2_w 90, 3) := by decide +kernel
theorem dX9_verb_57 : decode cX9_verb 57 = .ok (.lcmp, 1) := by decide +kernel
theorem dX9_verb_58 : decode cX9_verb 58 = .ok (.ifCond .ne 7, 3) := by decide +kernel
theorem dX9_verb_61 : decode cX9_verb 61 = .ok (.iconst 0, 1) := by decide +kernel
theorem dX9_verb_62 : decode cX9_verb 62 = .ok (.goto 41, 3) := by decide +kernel
theorem dX9_verb_65 : decode cX9_verb 65 = .ok (.lload_n 1, 1) := by decide +kernel
theorem dX9_verb_66 : decode cX9_verb 66 = .ok (.ldc2_w 92, 3) := by decide +kernel
theorem dX9_verb_69 : decode cX9_verb 69 = .ok (.lcmp, 1) := by decide +kernel
theorem dX9_verb_70 : decode cX9_verb 70 = .ok (.ifCond .ne 7, 3) := by decide +kernel
theorem dX9_verb_73 : decode cX9_verb 73 = .ok (.iconst 1, 1) := by decide +kernel
theorem dX9_verb_74 : decode cX9_verb 74 = .ok (.goto 29, 3) := by decide +kernel
theorem dX9_verb_77 : decode cX9_verb 77 = .ok (.lload_n 1, 1) := by decide +kernel
theorem dX9_verb_78 : decode cX9_verb 78 = .ok (.ldc2_w 94, 3) := by decide +kernel
theorem dX9_verb_81 : decode cX9_verb 81 = .ok (.lcmp, 1) := by decide +kernel
theorem dX9_verb_82 : decode cX9_verb 82 = .ok (.ifCond .ne 7, 3) := by decide +kernel
theorem dX9_verb_85 : decode cX9_verb 85 = .ok (.iconst 2, 1) := by decide +kernel
theorem dX9_verb_86 : decode cX9_verb 86 = .ok (.goto 17, 3) := by decide +kernel
theorem dX9_verb_89 : decode cX9_verb 89 = .ok (.lload_n 1, 1) := by decide +kernel
theorem dX9_verb_90 : decode cX9_verb 90 = .ok (.ldc2_w 96, 3) := by decide +kernel
theorem dX9_verb_93 : decode cX9_verb 93 = .ok (.lcmp, 1) := by decide +kernel
theorem dX9_verb_94 : decode cX9_verb 94 = .ok (.ifCond .ne 7, 3) := by decide +kernel
theorem dX9_verb_97 : decode cX9_verb 97 = .ok (.iconst 3, 1) := by decide +kernel
theorem dX9_verb_98 : decode cX9_verb 98 = .ok (.goto 5, 3) := by decide +kernel
theorem dX9_verb_101 : decode cX9_verb 101 = .ok (.bipush (-9), 2) := by decide +kernel
theorem dX9_verb_103 : decode cX9_verb 103 = .ok (.ireturn, 1) := by decide +kernel
theorem dX9_number_0 : decode cX9_number 0 = .ok (.aload_n 0, 1) := by decide +kernel
theorem dX9_number_1 : decode cX9_number 1 = .ok (.invokevirtual 98, 3) := by decide +kernel
theorem dX9_number_4 : decode cX9_number 4 = .ok (.aload_n 0, 1) := by decide +kernel
theorem dX9_number_5 : decode cX9_number 5 = .ok (.aload_n 0, 1) := by decide +kernel
theorem dX9_number_6 : decode cX9_number 6 = .ok (.getfield 76, 3) := by decide +kernel
theorem dX9_number_9 : decode cX9_number 9 = .ok (.invokevirtual 72, 3) := by decide +kernel
theorem dX9_number_12 : decode cX9_number 12 = .ok (.bipush 48, 2) := by decide +kernel
theorem dX9_number_14 : decode cX9_number 14 = .ok (.isub, 1) := by decide +kernel
theorem dX9_number_15 : decode cX9_number 15 = .ok (.istore_n 3, 1) := by decide +kernel
theorem dX9_number_16 : decode cX9_number 16 = .ok (.aload_n 0, 1) := by decide +kernel
theorem dX9_number_17 : decode cX9_number 17 = .ok (.getfield 85, 3) := by decide +kernel
theorem dX9_number_20 : decode cX9_number 20 = .ok (.iconst 2, 1) := by decide +kernel
theorem dX9_number_21 : decode cX9_number 21 = .ok (.if_icmp .ne 24, 3) := by decide +kernel
theorem dX9_number_24 : decode cX9_number 24 = .ok (.bipush 10, 2) := by decide +kernel
theorem dX9_number_26 : decode cX9_number 26 = .ok (.iload_n 3, 1) := by decide +kernel
theorem dX9_number_27 : decode cX9_number 27 = .ok (.imul, 1) := by decide +kernel
theorem dX9_number_28 : decode cX9_number 28 = .ok (.aload_n 0, 1) := by decide +kernel
theorem dX9_number_29 : decode cX9_number 29 = .ok (.aload_n 0, 1) := by decide +kernel
theorem dX9_number_30 : decode cX9_number 30 = .ok (.getfield 76, 3) := by decide +kernel
theorem dX9_number_33 : decode cX9_number 33 = .ok (.iconst 1, 1) := by decide +kernel
theorem dX9_number_34 : decode cX9_number 34 = .ok (.iadd, 1) := by decide +kernel
theorem dX9_number_35 : decode cX9_number 35 = .ok (.invokevirtual 72, 3) := by decide +kernel
theorem dX9_number_38 : decode cX9_number 38 = .ok (.iadd, 1) := by decide +kernel
theorem dX9_number_39 : decode cX9_number 39 = .ok (.bipush 48, 2) := by decide +kernel
theorem dX9_number_41 : decode cX9_number 41 = .ok (.isub, 1) := by decide +kernel
theorem dX9_number_42 : decode cX9_number 42 = .ok (.goto 4, 3) := by decide +kernel
theorem dX9_number_45 : decode cX9_number 45 = .ok (.iload_n 3, 1) := by decide +kernel
theorem dX9_number_46 : decode cX9_number 46 = .ok (.istore 4, 2) := by decide +kernel
theorem dX9_number_48 : decode cX9_number 48 = .ok (.aload_n 0, 1) := by decide +kernel
theorem dX9_number_49 : decode cX9_number 49 = .ok (.getfield 82, 3) := by decide +kernel
theorem dX9_number_52 : decode cX9_number 52 = .ok (.iconst 2, 1) := by decide +kernel
theorem dX9_number_53 : decode cX9_number 53 = .ok (.if_icmp .ne 38, 3) := by decide +kernel
theorem dX9_number_56 : decode cX9_number 56 = .ok (.aload_n 0, 1) := by decide +kernel
theorem dX9_number_57 : decode cX9_number 57 = .ok (.getfield 85, 3) := by decide +kernel
theorem dX9_number_60 : decode cX9_number 60 = .ok (.iconst 1, 1) := by decide +kernel
theorem dX9_number_61 : decode cX9_number 61 = .ok (.if_icmp .eq 15, 3) := by decide +kernel
theorem dX9_number_64 : decode cX9_number 64 = .ok (.aload_n 0, 1) := by decide +kernel
theorem dX9_number_65 : decode cX9_number 65 = .ok (.getfield 85, 3) := by decide +kernel
theorem dX9_number_68 : decode cX9_number 68 = .ok (.iconst 2, 1) := by decide +kernel
theorem dX9_number_69 : decode cX9_number 69 = .ok (.if_icmp .ne 22, 3) := by decide +kernel
theorem dX9_number_72 : decode cX9_number 72 = .ok (.iload_n 3, 1) := by decide +kernel
theorem dX9_number_73 : decode cX9_number 73 = .ok (.ifCond .le 18, 3) := by decide +kernel
theorem dX9_number_76 : decode cX9_number 76 = .ok (.iload 4, 2) := by decide +kernel
theorem dX9_number_78 : decode cX9_number 78 = .ok (.iload_n 1, 1) := by decide +kernel
theorem dX9_number_79 : decode cX9_number 79 = .ok (.iload_n 2, 1) := by decide +kernel
theorem dX9_number_80 : decode cX9_number 80 = .ok (.invokestatic 55, 3) := by decide +kernel
theorem dX9_number_83 : decode cX9_number 83 = .ok (.ifCond .eq 8, 3) := by decide +kernel
theorem dX9_number_86 : decode cX9_number 86 = .ok (.iload 4, 2) := by decide +kernel
theorem dX9_number_88 : decode cX9_number 88 = .ok (.goto 5, 3) := by decide +kernel
theorem dX9_number_91 : decode cX9_number 91 = .ok (.bipush (-9), 2) := by decide +kernel
theorem dX9_number_93 : decode cX9_number 93 = .ok (.ireturn, 1) := by decide +kernel
theorem dX9_draftCells_0 : decode cX9_draftCells 0 = .ok (.aload_n 0, 1) := by decide +kernel
theorem dX9_draftCells_1 : decode cX9_draftCells 1 = .ok (.getfield 16, 3) := by decide +kernel
theorem dX9_draftCells_4 : decode cX9_draftCells 4 = .ok (.iconst 0, 1) := by decide +kernel
theorem dX9_draftCells_5 : decode cX9_draftCells 5 = .ok (.iaload, 1) := by decide +kernel
theorem dX9_draftCells_6 : decode cX9_draftCells 6 = .ok (.aload_n 0, 1) := by decide +kernel
theorem dX9_draftCells_7 : decode cX9_draftCells 7 = .ok (.getfield 16, 3) := by decide +kernel
theorem dX9_draftCells_10 : decode cX9_draftCells 10 = .ok (.iconst 1, 1) := by decide +kernel
theorem dX9_draftCells_11 : decode cX9_draftCells 11 = .ok (.iaload, 1) := by decide +kernel
theorem dX9_draftCells_12 : decode cX9_draftCells 12 = .ok (.imul, 1) := by decide +kernel
theorem dX9_draftCells_13 : decode cX9_draftCells 13 = .ok (.ireturn, 1) := by decide +kernel
theorem dX9_readsMap_0 : decode cX9_readsMap 0 = .ok (.aload_n 0, 1) := by decide +kernel
theorem dX9_readsMap_1 : decode cX9_readsMap 1 = .ok (.getfield 16, 3) := by decide +kernel
theorem dX9_readsMap_4 : decode cX9_readsMap 4 = .ok (.iconst 4, 1) := by decide +kernel
theorem dX9_readsMap_5 : decode cX9_readsMap 5 = .ok (.iaload, 1) := by decide +kernel
theorem dX9_readsMap_6 : decode cX9_readsMap 6 = .ok (.ifCond .le 8, 3) := by decide +kernel
theorem dX9_readsMap_9 : decode cX9_readsMap 9 = .ok (.bipush (-9), 2) := by decide +kernel
theorem dX9_readsMap_11 : decode cX9_readsMap 11 = .ok (.goto 9, 3) := by decide +kernel
theorem dX9_readsMap_14 : decode cX9_readsMap 14 = .ok (.aload_n 0, 1) := by decide +kernel
theorem dX9_readsMap_15 : decode cX9_readsMap 15 = .ok (.iconst 1, 1) := by decide +kernel
theorem dX9_readsMap_16 : decode cX9_readsMap 16 = .ok (.iconst 4, 1) := by decide +kernel
theorem dX9_readsMap_17 : decode cX9_readsMap 17 = .ok (.invokevirtual 101, 3) := by decide +kernel
theorem dX9_readsMap_20 : decode cX9_readsMap 20 = .ok (.istore_n 1, 1) := by decide +kernel
theorem dX9_readsMap_21 : decode cX9_readsMap 21 = .ok (.iload_n 1, 1) := by decide +kernel
theorem dX9_readsMap_22 : decode cX9_readsMap 22 = .ok (.bipush (-9), 2) := by decide +kernel
theorem dX9_readsMap_24 : decode cX9_readsMap 24 = .ok (.if_icmp .ne 5, 3) := by decide +kernel
theorem dX9_readsMap_27 : decode cX9_readsMap 27 = .ok (.iconst 0, 1) := by decide +kernel
theorem dX9_readsMap_28 : decode cX9_readsMap 28 = .ok (.ireturn, 1) := by decide +kernel
theorem dX9_readsMap_29 : decode cX9_readsMap 29 = .ok (.aload_n 0, 1) := by decide +kernel
theorem dX9_readsMap_30 : decode cX9_readsMap 30 = .ok (.iconst 1, 1) := by decide +kernel
theorem dX9_readsMap_31 : decode cX9_readsMap 31 = .ok (.iconst 4, 1) := by decide +kernel
theorem dX9_readsMap_32 : decode cX9_readsMap 32 = .ok (.invokevirtual 101, 3) := by decide +kernel
theorem dX9_readsMap_35 : decode cX9_readsMap 35 = .ok (.istore_n 2, 1) := by decide +kernel
theorem dX9_readsMap_36 : decode cX9_readsMap 36 = .ok (.aload_n 0, 1) := by decide +kernel
theorem dX9_readsMap_37 : decode cX9_readsMap 37 = .ok (.getfield 16, 3) := by decide +kernel
theorem dX9_readsMap_40 : decode cX9_readsMap 40 = .ok (.iconst 0, 1) := by decide +kernel
theorem dX9_readsMap_41 : decode cX9_readsMap 41 = .ok (.iload_n 1, 1) := by decide +kernel
theorem dX9_readsMap_42 : decode cX9_readsMap 42 = .ok (.iastore, 1) := by decide +kernel
theorem dX9_readsMap_43 : decode cX9_readsMap 43 = .ok (.aload_n 0, 1) := by decide +kernel
theorem dX9_readsMap_44 : decode cX9_readsMap 44 = .ok (.getfield 16, 3) := by decide +kernel
theorem dX9_readsMap_47 : decode cX9_readsMap 47 = .ok (.iconst 1, 1) := by decide +kernel
theorem dX9_readsMap_48 : decode cX9_readsMap 48 = .ok (.iload_n 2, 1) := by decide +kernel
theorem dX9_readsMap_49 : decode cX9_readsMap 49 = .ok (.iastore, 1) := by decide +kernel
theorem dX9_readsMap_50 : decode cX9_readsMap 50 = .ok (.iload_n 2, 1) := by decide +kernel
theorem dX9_readsMap_51 : decode cX9_readsMap 51 = .ok (.bipush (-9), 2) := by decide +kernel
theorem dX9_readsMap_53 : decode cX9_readsMap 53 = .ok (.if_icmp .eq 7, 3) := by decide +kernel
theorem dX9_readsMap_56 : decode cX9_readsMap 56 = .ok (.iconst 1, 1) := by decide +kernel
theorem dX9_readsMap_57 : decode cX9_readsMap 57 = .ok (.goto 4, 3) := by decide +kernel
theorem dX9_readsMap_60 : decode cX9_readsMap 60 = .ok (.iconst 0, 1) := by decide +kernel
theorem dX9_readsMap_61 : decode cX9_readsMap 61 = .ok (.ireturn, 1) := by decide +kernel
theorem dX9_readsWorth_0 : decode cX9_readsWorth 0 = .ok (.aload_n 0, 1) := by decide +kernel
theorem dX9_readsWorth_1 : decode cX9_readsWorth 1 = .ok (.iconst 0, 1) := by decide +kernel
theorem dX9_readsWorth_2 : decode cX9_readsWorth 2 = .ok (.aload_n 0, 1) := by decide +kernel
theorem dX9_readsWorth_3 : decode cX9_readsWorth 3 = .ok (.invokevirtual 105, 3) := by decide +kernel
theorem dX9_readsWorth_6 : decode cX9_readsWorth 6 = .ok (.iconst 1, 1) := by decide +kernel
theorem dX9_readsWorth_7 : decode cX9_readsWorth 7 = .ok (.isub, 1) := by decide +kernel
theorem dX9_readsWorth_8 : decode cX9_readsWorth 8 = .ok (.invokevirtual 101, 3) := by decide +kernel
theorem dX9_readsWorth_11 : decode cX9_readsWorth 11 = .ok (.istore_n 1, 1) := by decide +kernel
theorem dX9_readsWorth_12 : decode cX9_readsWorth 12 = .ok (.iload_n 1, 1) := by decide +kernel
theorem dX9_readsWorth_13 : decode cX9_readsWorth 13 = .ok (.bipush (-9), 2) := by decide +kernel
theorem dX9_readsWorth_15 : decode cX9_readsWorth 15 = .ok (.if_icmp .ne 5, 3) := by decide +kernel
theorem dX9_readsWorth_18 : decode cX9_readsWorth 18 = .ok (.iconst 0, 1) := by decide +kernel
theorem dX9_readsWorth_19 : decode cX9_readsWorth 19 = .ok (.ireturn, 1) := by decide +kernel
theorem dX9_readsWorth_20 : decode cX9_readsWorth 20 = .ok (.aload_n 0, 1) := by decide +kernel
theorem dX9_readsWorth_21 : decode cX9_readsWorth 21 = .ok (.iconst 0, 1) := by decide +kernel
theorem dX9_readsWorth_22 : decode cX9_readsWorth 22 = .ok (.bipush 9, 2) := by decide +kernel
theorem dX9_readsWorth_24 : decode cX9_readsWorth 24 = .ok (.invokevirtual 101, 3) := by decide +kernel
theorem dX9_readsWorth_27 : decode cX9_readsWorth 27 = .ok (.istore_n 2, 1) := by decide +kernel
theorem dX9_readsWorth_28 : decode cX9_readsWorth 28 = .ok (.aload_n 0, 1) := by decide +kernel
theorem dX9_readsWorth_29 : decode cX9_readsWorth 29 = .ok (.getfield 16, 3) := by decide +kernel
theorem dX9_readsWorth_32 : decode cX9_readsWorth 32 = .ok (.bipush 6, 2) := by decide +kernel
theorem dX9_readsWorth_34 : decode cX9_readsWorth 34 = .ok (.iload_n 1, 1) := by decide +kernel
theorem dX9_readsWorth_35 : decode cX9_readsWorth 35 = .ok (.iadd, 1) := by decide +kernel
theorem dX9_readsWorth_36 : decode cX9_readsWorth 36 = .ok (.iload_n 2, 1) := by decide +kernel
theorem dX9_readsWorth_37 : decode cX9_readsWorth 37 = .ok (.iastore, 1) := by decide +kernel
theorem dX9_readsWorth_38 : decode cX9_readsWorth 38 = .ok (.iload_n 2, 1) := by decide +kernel
theorem dX9_readsWorth_39 : decode cX9_readsWorth 39 = .ok (.bipush (-9), 2) := by decide +kernel
theorem dX9_readsWorth_41 : decode cX9_readsWorth 41 = .ok (.if_icmp .eq 7, 3) := by decide +kernel
theorem dX9_readsWorth_44 : decode cX9_readsWorth 44 = .ok (.iconst 1, 1) := by decide +kernel
theorem dX9_readsWorth_45 : decode cX9_readsWorth 45 = .ok (.goto 4, 3) := by decide +kernel
theorem dX9_readsWorth_48 : decode cX9_readsWorth 48 = .ok (.iconst 0, 1) := by decide +kernel
theorem dX9_readsWorth_49 : decode cX9_readsWorth 49 = .ok (.ireturn, 1) := by decide +kernel
theorem dX9_readsQuarrel_0 : decode cX9_readsQuarrel 0 = .ok (.aload_n 0, 1) := by decide +kernel
theorem dX9_readsQuarrel_1 : decode cX9_readsQuarrel 1 = .ok (.getfield 16, 3) := by decide +kernel
theorem dX9_readsQuarrel_4 : decode cX9_readsQuarrel 4 = .ok (.iconst 3, 1) := by decide +kernel
theorem dX9_readsQuarrel_5 : decode cX9_readsQuarrel 5 = .ok (.iaload, 1) := by decide +kernel
theorem dX9_readsQuarrel_6 : decode cX9_readsQuarrel 6 = .ok (.istore_n 1, 1) := by decide +kernel
theorem dX9_readsQuarrel_7 : decode cX9_readsQuarrel 7 = .ok (.iload_n 1, 1) := by decide +kernel
theorem dX9_readsQuarrel_8 : decode cX9_readsQuarrel 8 = .ok (.bipush 6, 2) := by decide +kernel
theorem dX9_readsQuarrel_10 : decode cX9_readsQuarrel 10 = .ok (.if_icmp .ne 8, 3) := by decide +kernel
theorem dX9_readsQuarrel_13 : decode cX9_readsQuarrel 13 = .ok (.bipush (-9), 2) := by decide +kernel
theorem dX9_readsQuarrel_15 : decode cX9_readsQuarrel 15 = .ok (.goto 14, 3) := by decide +kernel
theorem dX9_readsQuarrel_18 : decode cX9_readsQuarrel 18 = .ok (.aload_n 0, 1) := by decide +kernel
theorem dX9_readsQuarrel_19 : decode cX9_readsQuarrel 19 = .ok (.iconst 0, 1) := by decide +kernel
theorem dX9_readsQuarrel_20 : decode cX9_readsQuarrel 20 = .ok (.aload_n 0, 1) := by decide +kernel
theorem dX9_readsQuarrel_21 : decode cX9_readsQuarrel 21 = .ok (.invokevirtual 105, 3) := by decide +kernel
theorem dX9_readsQuarrel_24 : decode cX9_readsQuarrel 24 = .ok (.iconst 1, 1) := by decide +kernel
theorem dX9_readsQuarrel_25 : decode cX9_readsQuarrel 25 = .ok (.isub, 1) := by decide +kernel
theorem dX9_readsQuarrel_26 : decode cX9_readsQuarrel 26 = .ok (.invokevirtual 101, 3) := by decide +kernel
theorem dX9_readsQuarrel_29 : decode cX9_readsQuarrel 29 = .ok (.istore_n 2, 1) := by decide +kernel
theorem dX9_readsQuarrel_30 : decode cX9_readsQuarrel 30 = .ok (.iload_n 2, 1) := by decide +kernel
theorem dX9_readsQuarrel_31 : decode cX9_readsQuarrel 31 = .ok (.bipush (-9), 2) := by decide +kernel
theorem dX9_readsQuarrel_33 : decode cX9_readsQuarrel 33 = .ok (.if_icmp .ne 5, 3) := by decide +kernel
theorem dX9_readsQuarrel_36 : decode cX9_readsQuarrel 36 = .ok (.iconst 0, 1) := by decide +kernel
theorem dX9_readsQuarrel_37 : decode cX9_readsQuarrel 37 = .ok (.ireturn, 1) := by decide +kernel
theorem dX9_readsQuarrel_38 : decode cX9_readsQuarrel 38 = .ok (.aload_n 0, 1) := by decide +kernel
theorem dX9_readsQuarrel_39 : decode cX9_readsQuarrel 39 = .ok (.iconst 0, 1) := by decide +kernel
theorem dX9_readsQuarrel_40 : decode cX9_readsQuarrel 40 = .ok (.aload_n 0, 1) := by decide +kernel
theorem dX9_readsQuarrel_41 : decode cX9_readsQuarrel 41 = .ok (.invokevirtual 105, 3) := by decide +kernel
theorem dX9_readsQuarrel_44 : decode cX9_readsQuarrel 44 = .ok (.iconst 1, 1) := by decide +kernel
theorem dX9_readsQuarrel_45 : decode cX9_readsQuarrel 45 = .ok (.isub, 1) := by decide +kernel
theorem dX9_readsQuarrel_46 : decode cX9_readsQuarrel 46 = .ok (.invokevirtual 101, 3) := by decide +kernel
theorem dX9_readsQuarrel_49 : decode cX9_readsQuarrel 49 = .ok (.istore_n 3, 1) := by decide +kernel
theorem dX9_readsQuarrel_50 : decode cX9_readsQuarrel 50 = .ok (.iload_n 3, 1) := by decide +kernel
theorem dX9_readsQuarrel_51 : decode cX9_readsQuarrel 51 = .ok (.bipush (-9), 2) := by decide +kernel
theorem dX9_readsQuarrel_53 : decode cX9_readsQuarrel 53 = .ok (.if_icmp .eq 8, 3) := by decide +kernel
theorem dX9_readsQuarrel_56 : decode cX9_readsQuarrel 56 = .ok (.iload_n 3, 1) := by decide +kernel
theorem dX9_readsQuarrel_57 : decode cX9_readsQuarrel 57 = .ok (.iload_n 2, 1) := by decide +kernel
theorem dX9_readsQuarrel_58 : decode cX9_readsQuarrel 58 = .ok (.if_icmp .ne 5, 3) := by decide +kernel
theorem dX9_readsQuarrel_61 : decode cX9_readsQuarrel 61 = .ok (.iconst 0, 1) := by decide +kernel
theorem dX9_readsQuarrel_62 : decode cX9_readsQuarrel 62 = .ok (.ireturn, 1) := by decide +kernel
theorem dX9_readsQuarrel_63 : decode cX9_readsQuarrel 63 = .ok (.aload_n 0, 1) := by decide +kernel
theorem dX9_readsQuarrel_64 : decode cX9_readsQuarrel 64 = .ok (.getfield 16, 3) := by decide +kernel
theorem dX9_readsQuarrel_67 : decode cX9_readsQuarrel 67 = .ok (.bipush 22, 2) := by decide +kernel
theorem dX9_readsQuarrel_69 : decode cX9_readsQuarrel 69 = .ok (.iload_n 1, 1) := by decide +kernel
theorem dX9_readsQuarrel_70 : decode cX9_readsQuarrel 70 = .ok (.iadd, 1) := by decide +kernel
theorem dX9_readsQuarrel_71 : decode cX9_readsQuarrel 71 = .ok (.iload_n 2, 1) := by decide +kernel
theorem dX9_readsQuarrel_72 : decode cX9_readsQuarrel 72 = .ok (.iastore, 1) := by decide +kernel
theorem dX9_readsQuarrel_73 : decode cX9_readsQuarrel 73 = .ok (.aload_n 0, 1) := by decide +kernel
theorem dX9_readsQuarrel_74 : decode cX9_readsQuarrel 74 = .ok (.getfield 16, 3) := by decide +kernel
theorem dX9_readsQuarrel_77 : decode cX9_readsQuarrel 77 = .ok (.bipush 28, 2) := by decide +kernel
theorem dX9_readsQuarrel_79 : decode cX9_readsQuarrel 79 = .ok (.iload_n 1, 1) := by decide +kernel
theorem dX9_readsQuarrel_80 : decode cX9_readsQuarrel 80 = .ok (.iadd, 1) := by decide +kernel
theorem dX9_readsQuarrel_81 : decode cX9_readsQuarrel 81 = .ok (.iload_n 3, 1) := by decide +kernel
theorem dX9_readsQuarrel_82 : decode cX9_readsQuarrel 82 = .ok (.iastore, 1) := by decide +kernel
theorem dX9_readsQuarrel_83 : decode cX9_readsQuarrel 83 = .ok (.aload_n 0, 1) := by decide +kernel
theorem dX9_readsQuarrel_84 : decode cX9_readsQuarrel 84 = .ok (.getfield 16, 3) := by decide +kernel
theorem dX9_readsQuarrel_87 : decode cX9_readsQuarrel 87 = .ok (.iconst 3, 1) := by decide +kernel
theorem dX9_readsQuarrel_88 : decode cX9_readsQuarrel 88 = .ok (.dup2, 1) := by decide +kernel
theorem dX9_readsQuarrel_89 : decode cX9_readsQuarrel 89 = .ok (.iaload, 1) := by decide +kernel
theorem dX9_readsQuarrel_90 : decode cX9_readsQuarrel 90 = .ok (.iconst 1, 1) := by decide +kernel
theorem dX9_readsQuarrel_91 : decode cX9_readsQuarrel 91 = .ok (.iadd, 1) := by decide +kernel
theorem dX9_readsQuarrel_92 : decode cX9_readsQuarrel 92 = .ok (.iastore, 1) := by decide +kernel
theorem dX9_readsQuarrel_93 : decode cX9_readsQuarrel 93 = .ok (.iconst 1, 1) := by decide +kernel
theorem dX9_readsQuarrel_94 : decode cX9_readsQuarrel 94 = .ok (.ireturn, 1) := by decide +kernel
theorem dX9_readsTear_0 : decode cX9_readsTear 0 = .ok (.aload_n 0, 1) := by decide +kernel
theorem dX9_readsTear_1 : decode cX9_readsTear 1 = .ok (.getfield 16, 3) := by decide +kernel
theorem dX9_readsTear_4 : decode cX9_readsTear 4 = .ok (.iconst 5, 1) := by decide +kernel
theorem dX9_readsTear_5 : decode cX9_readsTear 5 = .ok (.iaload, 1) := by decide +kernel
theorem dX9_readsTear_6 : decode cX9_readsTear 6 = .ok (.ifCond .le 8, 3) := by decide +kernel
theorem dX9_readsTear_9 : decode cX9_readsTear 9 = .ok (.bipush (-9), 2) := by decide +kernel
theorem dX9_readsTear_11 : decode cX9_readsTear 11 = .ok (.goto 10, 3) := by decide +kernel
theorem dX9_readsTear_14 : decode cX9_readsTear 14 = .ok (.aload_n 0, 1) := by decide +kernel
theorem dX9_readsTear_15 : decode cX9_readsTear 15 = .ok (.iconst 1, 1) := by decide +kernel
theorem dX9_readsTear_16 : decode cX9_readsTear 16 = .ok (.bipush 9, 2) := by decide +kernel
theorem dX9_readsTear_18 : decode cX9_readsTear 18 = .ok (.invokevirtual 101, 3) := by decide +kernel
theorem dX9_readsTear_21 : decode cX9_readsTear 21 = .ok (.istore_n 1, 1) := by decide +kernel
theorem dX9_readsTear_22 : decode cX9_readsTear 22 = .ok (.aload_n 0, 1) := by decide +kernel
theorem dX9_readsTear_23 : decode cX9_readsTear 23 = .ok (.getfield 16, 3) := by decide +kernel
theorem dX9_readsTear_26 : decode cX9_readsTear 26 = .ok (.iconst 5, 1) := by decide +kernel
theorem dX9_readsTear_27 : decode cX9_readsTear 27 = .ok (.iconst 1, 1) := by decide +kernel
theorem dX9_readsTear_28 : decode cX9_readsTear 28 = .ok (.iastore, 1) := by decide +kernel
theorem dX9_readsTear_29 : decode cX9_readsTear 29 = .ok (.aload_n 0, 1) := by decide +kernel
theorem dX9_readsTear_30 : decode cX9_readsTear 30 = .ok (.getfield 16, 3) := by decide +kernel
theorem dX9_readsTear_33 : decode cX9_readsTear 33 = .ok (.iconst 2, 1) := by decide +kernel
theorem dX9_readsTear_34 : decode cX9_readsTear 34 = .ok (.iload_n 1, 1) := by decide +kernel
theorem dX9_readsTear_35 : decode cX9_readsTear 35 = .ok (.iastore, 1) := by decide +kernel
theorem dX9_readsTear_36 : decode cX9_readsTear 36 = .ok (.iload_n 1, 1) := by decide +kernel
theorem dX9_readsTear_37 : decode cX9_readsTear 37 = .ok (.bipush (-9), 2) := by decide +kernel
theorem dX9_readsTear_39 : decode cX9_readsTear 39 = .ok (.if_icmp .eq 7, 3) := by decide +kernel
theorem dX9_readsTear_42 : decode cX9_readsTear 42 = .ok (.iconst 1, 1) := by decide +kernel
theorem dX9_readsTear_43 : decode cX9_readsTear 43 = .ok (.goto 4, 3) := by decide +kernel
theorem dX9_readsTear_46 : decode cX9_readsTear 46 = .ok (.iconst 0, 1) := by decide +kernel
theorem dX9_readsTear_47 : decode cX9_readsTear 47 = .ok (.ireturn, 1) := by decide +kernel
theorem dX9_readsItem_0 : decode cX9_readsItem 0 = .ok (.iload_n 1, 1) := by decide +kernel
theorem dX9_readsItem_1 : decode cX9_readsItem 1 = .ok (.ifCond .ne 10, 3) := by decide +kernel
theorem dX9_readsItem_4 : decode cX9_readsItem 4 = .ok (.aload_n 0, 1) := by decide +kernel
theorem dX9_readsItem_5 : decode cX9_readsItem 5 = .ok (.invokevirtual 108, 3) := by decide +kernel
theorem dX9_readsItem_8 : decode cX9_readsItem 8 = .ok (.goto 44, 3) := by decide +kernel
theorem dX9_readsItem_11 : decode cX9_readsItem 11 = .ok (.iload_n 1, 1) := by decide +kernel
theorem dX9_readsItem_12 : decode cX9_readsItem 12 = .ok (.iconst 1, 1) := by decide +kernel
theorem dX9_readsItem_13 : decode cX9_readsItem 13 = .ok (.if_icmp .ne 10, 3) := by decide +kernel
theorem dX9_readsItem_16 : decode cX9_readsItem 16 = .ok (.aload_n 0, 1) := by decide +kernel
theorem dX9_readsItem_17 : decode cX9_readsItem 17 = .ok (.invokevirtual 111, 3) := by decide +kernel
theorem dX9_readsItem_20 : decode cX9_readsItem 20 = .ok (.goto 32, 3) := by decide +kernel
theorem dX9_readsItem_23 : decode cX9_readsItem 23 = .ok (.iload_n 1, 1) := by decide +kernel
theorem dX9_readsItem_24 : decode cX9_readsItem 24 = .ok (.iconst 2, 1) := by decide +kernel
theorem dX9_readsItem_25 : decode cX9_readsItem 25 = .ok (.if_icmp .ne 10, 3) := by decide +kernel
theorem dX9_readsItem_28 : decode cX9_readsItem 28 = .ok (.aload_n 0, 1) := by decide +kernel
theorem dX9_readsItem_29 : decode cX9_readsItem 29 = .ok (.invokevirtual 114, 3) := by decide +kernel
theorem dX9_readsItem_32 : decode cX9_readsItem 32 = .ok (.goto 20, 3) := by decide +kernel
theorem dX9_readsItem_35 : decode cX9_readsItem 35 = .ok (.iload_n 1, 1) := by decide +kernel
theorem dX9_readsItem_36 : decode cX9_readsItem 36 = .ok (.iconst 3, 1) := by decide +kernel
theorem dX9_readsItem_37 : decode cX9_readsItem 37 = .ok (.if_icmp .ne 14, 3) := by decide +kernel
theorem dX9_readsItem_40 : decode cX9_readsItem 40 = .ok (.aload_n 0, 1) := by decide +kernel
theorem dX9_readsItem_41 : decode cX9_readsItem 41 = .ok (.invokevirtual 117, 3) := by decide +kernel
theorem dX9_readsItem_44 : decode cX9_readsItem 44 = .ok (.ifCond .eq 7, 3) := by decide +kernel
theorem dX9_readsItem_47 : decode cX9_readsItem 47 = .ok (.iconst 1, 1) := by decide +kernel
theorem dX9_readsItem_48 : decode cX9_readsItem 48 = .ok (.goto 4, 3) := by decide +kernel
theorem dX9_readsItem_51 : decode cX9_readsItem 51 = .ok (.iconst 0, 1) := by decide +kernel
theorem dX9_readsItem_52 : decode cX9_readsItem 52 = .ok (.ireturn, 1) := by decide +kernel
theorem dX9_reads_0 : decode cX9_reads 0 = .ok (.iconst 0, 1) := by decide +kernel
theorem dX9_reads_1 : decode cX9_reads 1 = .ok (.istore_n 1, 1) := by decide +kernel
theorem dX9_reads_2 : decode cX9_reads 2 = .ok (.iload_n 1, 1) := by decide +kernel
theorem dX9_reads_3 : decode cX9_reads 3 = .ok (.bipush 35, 2) := by decide +kernel
theorem dX9_reads_5 : decode cX9_reads 5 = .ok (.if_icmp .ge 31, 3) := by decide +kernel
theorem dX9_reads_8 : decode cX9_reads 8 = .ok (.aload_n 0, 1) := by decide +kernel
theorem dX9_reads_9 : decode cX9_reads 9 = .ok (.getfield 16, 3) := by decide +kernel
theorem dX9_reads_12 : decode cX9_reads 12 = .ok (.iload_n 1, 1) := by decide +kernel
theorem dX9_reads_13 : decode cX9_reads 13 = .ok (.iload_n 1, 1) := by decide +kernel
theorem dX9_reads_14 : decode cX9_reads 14 = .ok (.bipush 6, 2) := by decide +kernel
theorem dX9_reads_16 : decode cX9_reads 16 = .ok (.bipush 21, 2) := by decide +kernel
theorem dX9_reads_18 : decode cX9_reads 18 = .ok (.invokestatic 55, 3) := by decide +kernel
theorem dX9_reads_21 : decode cX9_reads 21 = .ok (.ifCond .eq 7, 3) := by decide +kernel
theorem dX9_reads_24 : decode cX9_reads 24 = .ok (.iconst 1, 1) := by decide +kernel
theorem dX9_reads_25 : decode cX9_reads 25 = .ok (.goto 4, 3) := by decide +kernel
theorem dX9_reads_28 : decode cX9_reads 28 = .ok (.iconst 0, 1) := by decide +kernel
theorem dX9_reads_29 : decode cX9_reads 29 = .ok (.iastore, 1) := by decide +kernel
theorem dX9_reads_30 : decode cX9_reads 30 = .ok (.iinc 1 1, 3) := by decide +kernel
theorem dX9_reads_33 : decode cX9_reads 33 = .ok (.goto (-31), 3) := by decide +kernel
theorem dX9_reads_36 : decode cX9_reads 36 = .ok (.aload_n 0, 1) := by decide +kernel
theorem dX9_reads_37 : decode cX9_reads 37 = .ok (.getfield 16, 3) := by decide +kernel
theorem dX9_reads_40 : decode cX9_reads 40 = .ok (.iconst 0, 1) := by decide +kernel
theorem dX9_reads_41 : decode cX9_reads 41 = .ok (.iconst 3, 1) := by decide +kernel
theorem dX9_reads_42 : decode cX9_reads 42 = .ok (.iastore, 1) := by decide +kernel
theorem dX9_reads_43 : decode cX9_reads 43 = .ok (.aload_n 0, 1) := by decide +kernel
theorem dX9_reads_44 : decode cX9_reads 44 = .ok (.getfield 16, 3) := by decide +kernel
theorem dX9_reads_47 : decode cX9_reads 47 = .ok (.iconst 1, 1) := by decide +kernel
theorem dX9_reads_48 : decode cX9_reads 48 = .ok (.iconst 2, 1) := by decide +kernel
theorem dX9_reads_49 : decode cX9_reads 49 = .ok (.iastore, 1) := by decide +kernel
theorem dX9_reads_50 : decode cX9_reads 50 = .ok (.aload_n 0, 1) := by decide +kernel
theorem dX9_reads_51 : decode cX9_reads 51 = .ok (.getfield 16, 3) := by decide +kernel
theorem dX9_reads_54 : decode cX9_reads 54 = .ok (.iconst 2, 1) := by decide +kernel
theorem dX9_reads_55 : decode cX9_reads 55 = .ok (.iconst 3, 1) := by decide +kernel
theorem dX9_reads_56 : decode cX9_reads 56 = .ok (.iastore, 1) := by decide +kernel
theorem dX9_reads_57 : decode cX9_reads 57 = .ok (.aload_n 0, 1) := by decide +kernel
theorem dX9_reads_58 : decode cX9_reads 58 = .ok (.iconst 0, 1) := by decide +kernel
theorem dX9_reads_59 : decode cX9_reads 59 = .ok (.putfield 69, 3) := by decide +kernel
theorem dX9_reads_62 : decode cX9_reads 62 = .ok (.aload_n 0, 1) := by decide +kernel
theorem dX9_reads_63 : decode cX9_reads 63 = .ok (.invokevirtual 98, 3) := by decide +kernel
theorem dX9_reads_66 : decode cX9_reads 66 = .ok (.aload_n 0, 1) := by decide +kernel
theorem dX9_reads_67 : decode cX9_reads 67 = .ok (.getfield 82, 3) := by decide +kernel
theorem dX9_reads_70 : decode cX9_reads 70 = .ok (.ifCond .eq 47, 3) := by decide +kernel
theorem dX9_reads_73 : decode cX9_reads 73 = .ok (.aload_n 0, 1) := by decide +kernel
theorem dX9_reads_74 : decode cX9_reads 74 = .ok (.aload_n 0, 1) := by decide +kernel
theorem dX9_reads_75 : decode cX9_reads 75 = .ok (.invokevirtual 120, 3) := by decide +kernel
theorem dX9_reads_78 : decode cX9_reads 78 = .ok (.invokevirtual 123, 3) := by decide +kernel
theorem dX9_reads_81 : decode cX9_reads 81 = .ok (.ifCond .ne 5, 3) := by decide +kernel
theorem dX9_reads_84 : decode cX9_reads 84 = .ok (.iconst 0, 1) := by decide +kernel
theorem dX9_reads_85 : decode cX9_reads 85 = .ok (.ireturn, 1) := by decide +kernel
theorem dX9_reads_86 : decode cX9_reads 86 = .ok (.aload_n 0, 1) := by decide +kernel
theorem dX9_reads_87 : decode cX9_reads 87 = .ok (.invokevirtual 98, 3) := by decide +kernel
theorem dX9_reads_90 : decode cX9_reads 90 = .ok (.aload_n 0, 1) := by decide +kernel
theorem dX9_reads_91 : decode cX9_reads 91 = .ok (.getfield 82, 3) := by decide +kernel
theorem dX9_reads_94 : decode cX9_reads 94 = .ok (.iconst 3, 1) := by decide +kernel
theorem dX9_reads_95 : decode cX9_reads 95 = .ok (.if_icmp .eq 5, 3) := by decide +kernel
theorem dX9_reads_98 : decode cX9_reads 98 = .ok (.iconst 0, 1) := by decide +kernel
theorem dX9_reads_99 : decode cX9_reads 99 = .ok (.ireturn, 1) := by decide +kernel
theorem dX9_reads_100 : decode cX9_reads 100 = .ok (.aload_n 0, 1) := by decide +kernel
theorem dX9_reads_101 : decode cX9_reads 101 = .ok (.getfield 16, 3) := by decide +kernel
theorem dX9_reads_104 : decode cX9_reads 104 = .ok (.iconst 4, 1) := by decide +kernel
theorem dX9_reads_105 : decode cX9_reads 105 = .ok (.dup2, 1) := by decide +kernel
theorem dX9_reads_106 : decode cX9_reads 106 = .ok (.iaload, 1) := by decide +kernel
theorem dX9_reads_107 : decode cX9_reads 107 = .ok (.iconst 1, 1) := by decide +kernel
theorem dX9_reads_108 : decode cX9_reads 108 = .ok (.iadd, 1) := by decide +kernel
theorem dX9_reads_109 : decode cX9_reads 109 = .ok (.iastore, 1) := by decide +kernel
theorem dX9_reads_110 : decode cX9_reads 110 = .ok (.aload_n 0, 1) := by decide +kernel
theorem dX9_reads_111 : decode cX9_reads 111 = .ok (.invokevirtual 98, 3) := by decide +kernel
theorem dX9_reads_114 : decode cX9_reads 114 = .ok (.goto (-48), 3) := by decide +kernel
theorem dX9_reads_117 : decode cX9_reads 117 = .ok (.iconst 1, 1) := by decide +kernel
theorem dX9_reads_118 : decode cX9_reads 118 = .ok (.ireturn, 1) := by decide +kernel
theorem dX9_map_0 : decode cX9_map 0 = .ok (.aload_n 0, 1) := by decide +kernel
theorem dX9_map_1 : decode cX9_map 1 = .ok (.invokevirtual 47, 3) := by decide +kernel
theorem dX9_map_4 : decode cX9_map 4 = .ok (.ifCond .ne 11, 3) := by decide +kernel
theorem dX9_map_7 : decode cX9_map 7 = .ok (.bipush (-10), 2) := by decide +kernel
theorem dX9_map_9 : decode cX9_map 9 = .ok (.aload_n 0, 1) := by decide +kernel
theorem dX9_map_10 : decode cX9_map 10 = .ok (.getfield 76, 3) := by decide +kernel
theorem dX9_map_13 : decode cX9_map 13 = .ok (.isub, 1) := by decide +kernel
theorem dX9_map_14 : decode cX9_map 14 = .ok (.ireturn, 1) := by decide +kernel
theorem dX9_map_15 : decode cX9_map 15 = .ok (.iconst 0, 1) := by decide +kernel
theorem dX9_map_16 : decode cX9_map 16 = .ok (.istore_n 1, 1) := by decide +kernel
theorem dX9_map_17 : decode cX9_map 17 = .ok (.iload_n 1, 1) := by decide +kernel
theorem dX9_map_18 : decode cX9_map 18 = .ok (.bipush 35, 2) := by decide +kernel
theorem dX9_map_20 : decode cX9_map 20 = .ok (.if_icmp .ge 21, 3) := by decide +kernel
theorem dX9_map_23 : decode cX9_map 23 = .ok (.aload_n 0, 1) := by decide +kernel
theorem dX9_map_24 : decode cX9_map 24 = .ok (.getfield 13, 3) := by decide +kernel
theorem dX9_map_27 : decode cX9_map 27 = .ok (.iload_n 1, 1) := by decide +kernel
theorem dX9_map_28 : decode cX9_map 28 = .ok (.aload_n 0, 1) := by decide +kernel
theorem dX9_map_29 : decode cX9_map 29 = .ok (.getfield 16, 3) := by decide +kernel
theorem dX9_map_32 : decode cX9_map 32 = .ok (.iload_n 1, 1) := by decide +kernel
theorem dX9_map_33 : decode cX9_map 33 = .ok (.iaload, 1) := by decide +kernel
theorem dX9_map_34 : decode cX9_map 34 = .ok (.iastore, 1) := by decide +kernel
theorem dX9_map_35 : decode cX9_map 35 = .ok (.iinc 1 1, 3) := by decide +kernel
theorem dX9_map_38 : decode cX9_map 38 = .ok (.goto (-21), 3) := by decide +kernel
theorem dX9_map_41 : decode cX9_map 41 = .ok (.iconst 0, 1) := by decide +kernel
theorem dX9_map_42 : decode cX9_map 42 = .ok (.istore_n 1, 1) := by decide +kernel
theorem dX9_map_43 : decode cX9_map 43 = .ok (.iload_n 1, 1) := by decide +kernel
theorem dX9_map_44 : decode cX9_map 44 = .ok (.bipush 40, 2) := by decide +kernel
theorem dX9_map_46 : decode cX9_map 46 = .ok (.if_icmp .ge 16, 3) := by decide +kernel
theorem dX9_map_49 : decode cX9_map 49 = .ok (.aload_n 0, 1) := by decide +kernel
theorem dX9_map_50 : decode cX9_map 50 = .ok (.getfield 19, 3) := by decide +kernel
theorem dX9_map_53 : decode cX9_map 53 = .ok (.iload_n 1, 1) := by decide +kernel
theorem dX9_map_54 : decode cX9_map 54 = .ok (.iconst 0, 1) := by decide +kernel
theorem dX9_map_55 : decode cX9_map 55 = .ok (.iastore, 1) := by decide +kernel
theorem dX9_map_56 : decode cX9_map 56 = .ok (.iinc 1 1, 3) := by decide +kernel
theorem dX9_map_59 : decode cX9_map 59 = .ok (.goto (-16), 3) := by decide +kernel
theorem dX9_map_62 : decode cX9_map 62 = .ok (.aload_n 0, 1) := by decide +kernel
theorem dX9_map_63 : decode cX9_map 63 = .ok (.getfield 25, 3) := by decide +kernel
theorem dX9_map_66 : decode cX9_map 66 = .ok (.iconst 0, 1) := by decide +kernel
theorem dX9_map_67 : decode cX9_map 67 = .ok (.iconst 0, 1) := by decide +kernel
theorem dX9_map_68 : decode cX9_map 68 = .ok (.bastore, 1) := by decide +kernel
theorem dX9_map_69 : decode cX9_map 69 = .ok (.aload_n 0, 1) := by decide +kernel
theorem dX9_map_70 : decode cX9_map 70 = .ok (.getfield 25, 3) := by decide +kernel
theorem dX9_map_73 : decode cX9_map 73 = .ok (.iconst 1, 1) := by decide +kernel
theorem dX9_map_74 : decode cX9_map 74 = .ok (.iconst 0, 1) := by decide +kernel
theorem dX9_map_75 : decode cX9_map 75 = .ok (.bastore, 1) := by decide +kernel
theorem dX9_map_76 : decode cX9_map 76 = .ok (.aload_n 0, 1) := by decide +kernel
theorem dX9_map_77 : decode cX9_map 77 = .ok (.iconst 0, 1) := by decide +kernel
theorem dX9_map_78 : decode cX9_map 78 = .ok (.putfield 126, 3) := by decide +kernel
theorem dX9_map_81 : decode cX9_map 81 = .ok (.aload_n 0, 1) := by decide +kernel
theorem dX9_map_82 : decode cX9_map 82 = .ok (.iconst 0, 1) := by decide +kernel
theorem dX9_map_83 : decode cX9_map 83 = .ok (.putfield 63, 3) := by decide +kernel
theorem dX9_map_86 : decode cX9_map 86 = .ok (.aload_n 0, 1) := by decide +kernel
theorem dX9_map_87 : decode cX9_map 87 = .ok (.getfield 13, 3) := by decide +kernel
theorem dX9_map_90 : decode cX9_map 90 = .ok (.iconst 4, 1) := by decide +kernel
theorem dX9_map_91 : decode cX9_map 91 = .ok (.iaload, 1) := by decide +kernel
theorem dX9_map_92 : decode cX9_map 92 = .ok (.ireturn, 1) := by decide +kernel
theorem dX9_flat_0 : decode cX9_flat 0 = .ok (.iconst 0, 1) := by decide +kernel
theorem dX9_flat_1 : decode cX9_flat 1 = .ok (.istore_n 1, 1) := by decide +kernel
theorem dX9_flat_2 : decode cX9_flat 2 = .ok (.iload_n 1, 1) := by decide +kernel
theorem dX9_flat_3 : decode cX9_flat 3 = .ok (.aload_n 0, 1) := by decide +kernel
theorem dX9_flat_4 : decode cX9_flat 4 = .ok (.invokevirtual 51, 3) := by decide +kernel
theorem dX9_flat_7 : decode cX9_flat 7 = .ok (.if_icmp .ge 60, 3) := by decide +kernel
theorem dX9_flat_10 : decode cX9_flat 10 = .ok (.aload_n 0, 1) := by decide +kernel
theorem dX9_flat_11 : decode cX9_flat 11 = .ok (.getfield 35, 3) := by decide +kernel
theorem dX9_flat_14 : decode cX9_flat 14 = .ok (.iload_n 1, 1) := by decide +kernel
theorem dX9_flat_15 : decode cX9_flat 15 = .ok (.iload_n 1, 1) := by decide +kernel
theorem dX9_flat_16 : decode cX9_flat 16 = .ok (.aload_n 0, 1) := by decide +kernel
theorem dX9_flat_17 : decode cX9_flat 17 = .ok (.getfield 13, 3) := by decide +kernel
theorem dX9_flat_20 : decode cX9_flat 20 = .ok (.iconst 0, 1) := by decide +kernel
theorem dX9_flat_21 : decode cX9_flat 21 = .ok (.iaload, 1) := by decide +kernel
theorem dX9_flat_22 : decode cX9_flat 22 = .ok (.irem, 1) := by decide +kernel
theorem dX9_flat_23 : decode cX9_flat 23 = .ok (.iastore, 1) := by decide +kernel
theorem dX9_flat_24 : decode cX9_flat 24 = .ok (.aload_n 0, 1) := by decide +kernel
theorem dX9_flat_25 : decode cX9_flat 25 = .ok (.getfield 35, 3) := by decide +kernel
theorem dX9_flat_28 : decode cX9_flat 28 = .ok (.bipush 16, 2) := by decide +kernel
theorem dX9_flat_30 : decode cX9_flat 30 = .ok (.iload_n 1, 1) := by decide +kernel
theorem dX9_flat_31 : decode cX9_flat 31 = .ok (.iadd, 1) := by decide +kernel
theorem dX9_flat_32 : decode cX9_flat 32 = .ok (.iload_n 1, 1) := by decide +kernel
theorem dX9_flat_33 : decode cX9_flat 33 = .ok (.aload_n 0, 1) := by decide +kernel
theorem dX9_flat_34 : decode cX9_flat 34 = .ok (.getfield 13, 3) := by decide +kernel
theorem dX9_flat_37 : decode cX9_flat 37 = .ok (.iconst 0, 1) := by decide +kernel
theorem dX9_flat_38 : decode cX9_flat 38 = .ok (.iaload, 1) := by decide +kernel
theorem dX9_flat_39 : decode cX9_flat 39 = .ok (.idiv, 1) := by decide +kernel
theorem dX9_flat_40 : decode cX9_flat 40 = .ok (.iastore, 1) := by decide +kernel
theorem dX9_flat_41 : decode cX9_flat 41 = .ok (.aload_n 0, 1) := by decide +kernel
theorem dX9_flat_42 : decode cX9_flat 42 = .ok (.getfield 35, 3) := by decide +kernel
theorem dX9_flat_45 : decode cX9_flat 45 = .ok (.bipush 32, 2) := by decide +kernel
theorem dX9_flat_47 : decode cX9_flat 47 = .ok (.iload_n 1, 1) := by decide +kernel
theorem dX9_flat_48 : decode cX9_flat 48 = .ok (.iadd, 1) := by decide +kernel
theorem dX9_flat_49 : decode cX9_flat 49 = .ok (.iconst 0, 1) := by decide +kernel
theorem dX9_flat_50 : decode cX9_flat 50 = .ok (.iastore, 1) := by decide +kernel
theorem dX9_flat_51 : decode cX9_flat 51 = .ok (.aload_n 0, 1) := by decide +kernel
theorem dX9_flat_52 : decode cX9_flat 52 = .ok (.getfield 35, 3) := by decide +kernel
theorem dX9_flat_55 : decode cX9_flat 55 = .ok (.bipush 48, 2) := by decide +kernel
theorem dX9_flat_57 : decode cX9_flat 57 = .ok (.iload_n 1, 1) := by decide +kernel
theorem dX9_flat_58 : decode cX9_flat 58 = .ok (.iadd, 1) := by decide +kernel
theorem dX9_flat_59 : decode cX9_flat 59 = .ok (.iconst 1, 1) := by decide +kernel
theorem dX9_flat_60 : decode cX9_flat 60 = .ok (.iastore, 1) := by decide +kernel
theorem dX9_flat_61 : decode cX9_flat 61 = .ok (.iinc 1 1, 3) := by decide +kernel
theorem dX9_flat_64 : decode cX9_flat 64 = .ok (.goto (-62), 3) := by decide +kernel
theorem dX9_flat_67 : decode cX9_flat 67 = .ok (.aload_n 0, 1) := by decide +kernel
theorem dX9_flat_68 : decode cX9_flat 68 = .ok (.getfield 38, 3) := by decide +kernel
theorem dX9_flat_71 : decode cX9_flat 71 = .ok (.iconst 0, 1) := by decide +kernel
theorem dX9_flat_72 : decode cX9_flat 72 = .ok (.aload_n 0, 1) := by decide +kernel
theorem dX9_flat_73 : decode cX9_flat 73 = .ok (.getfield 13, 3) := by decide +kernel
theorem dX9_flat_76 : decode cX9_flat 76 = .ok (.iconst 0, 1) := by decide +kernel
theorem dX9_flat_77 : decode cX9_flat 77 = .ok (.iaload, 1) := by decide +kernel
theorem dX9_flat_78 : decode cX9_flat 78 = .ok (.iastore, 1) := by decide +kernel
theorem dX9_flat_79 : decode cX9_flat 79 = .ok (.aload_n 0, 1) := by decide +kernel
theorem dX9_flat_80 : decode cX9_flat 80 = .ok (.getfield 38, 3) := by decide +kernel
theorem dX9_flat_83 : decode cX9_flat 83 = .ok (.iconst 1, 1) := by decide +kernel
theorem dX9_flat_84 : decode cX9_flat 84 = .ok (.aload_n 0, 1) := by decide +kernel
theorem dX9_flat_85 : decode cX9_flat 85 = .ok (.getfield 13, 3) := by decide +kernel
theorem dX9_flat_88 : decode cX9_flat 88 = .ok (.iconst 1, 1) := by decide +kernel
theorem dX9_flat_89 : decode cX9_flat 89 = .ok (.iaload, 1) := by decide +kernel
theorem dX9_flat_90 : decode cX9_flat 90 = .ok (.iastore, 1) := by decide +kernel
theorem dX9_flat_91 : decode cX9_flat 91 = .ok (.return_, 1) := by decide +kernel
theorem dX9_manyAt_0 : decode cX9_manyAt 0 = .ok (.iload_n 1, 1) := by decide +kernel
theorem dX9_manyAt_1 : decode cX9_manyAt 1 = .ok (.iload_n 2, 1) := by decide +kernel
theorem dX9_manyAt_2 : decode cX9_manyAt 2 = .ok (.ifCond .ne 8, 3) := by decide +kernel
theorem dX9_manyAt_5 : decode cX9_manyAt 5 = .ok (.bipush 16, 2) := by decide +kernel
theorem dX9_manyAt_7 : decode cX9_manyAt 7 = .ok (.goto 4, 3) := by decide +kernel
theorem dX9_manyAt_10 : decode cX9_manyAt 10 = .ok (.iconst 0, 1) := by decide +kernel
theorem dX9_manyAt_11 : decode cX9_manyAt 11 = .ok (.iadd, 1) := by decide +kernel
theorem dX9_manyAt_12 : decode cX9_manyAt 12 = .ok (.istore 5, 2) := by decide +kernel
theorem dX9_manyAt_14 : decode cX9_manyAt 14 = .ok (.iconst 0, 1) := by decide +kernel
theorem dX9_manyAt_15 : decode cX9_manyAt 15 = .ok (.istore 6, 2) := by decide +kernel
theorem dX9_manyAt_17 : decode cX9_manyAt 17 = .ok (.iconst 0, 1) := by decide +kernel
theorem dX9_manyAt_18 : decode cX9_manyAt 18 = .ok (.istore 7, 2) := by decide +kernel
theorem dX9_manyAt_20 : decode cX9_manyAt 20 = .ok (.iload 7, 2) := by decide +kernel
theorem dX9_manyAt_22 : decode cX9_manyAt 22 = .ok (.aload_n 0, 1) := by decide +kernel
theorem dX9_manyAt_23 : decode cX9_manyAt 23 = .ok (.invokevirtual 51, 3) := by decide +kernel
theorem dX9_manyAt_26 : decode cX9_manyAt 26 = .ok (.if_icmp .ge 69, 3) := by decide +kernel
theorem dX9_manyAt_29 : decode cX9_manyAt 29 = .ok (.iload 6, 2) := by decide +kernel
theorem dX9_manyAt_31 : decode cX9_manyAt 31 = .ok (.aload_n 0, 1) := by decide +kernel
theorem dX9_manyAt_32 : decode cX9_manyAt 32 = .ok (.getfield 41, 3) := by decide +kernel
theorem dX9_manyAt_35 : decode cX9_manyAt 35 = .ok (.iload 7, 2) := by decide +kernel
theorem dX9_manyAt_37 : decode cX9_manyAt 37 = .ok (.baload, 1) := by decide +kernel
theorem dX9_manyAt_38 : decode cX9_manyAt 38 = .ok (.iload 4, 2) := by decide +kernel
theorem dX9_manyAt_40 : decode cX9_manyAt 40 = .ok (.if_icmp .ne 45, 3) := by decide +kernel
theorem dX9_manyAt_43 : decode cX9_manyAt 43 = .ok (.aload_n 0, 1) := by decide +kernel
theorem dX9_manyAt_44 : decode cX9_manyAt 44 = .ok (.getfield 44, 3) := by decide +kernel
theorem dX9_manyAt_47 : decode cX9_manyAt 47 = .ok (.iload 7, 2) := by decide +kernel
theorem dX9_manyAt_49 : decode cX9_manyAt 49 = .ok (.iaload, 1) := by decide +kernel
theorem dX9_manyAt_50 : decode cX9_manyAt 50 = .ok (.aload_n 0, 1) := by decide +kernel
theorem dX9_manyAt_51 : decode cX9_manyAt 51 = .ok (.getfield 44, 3) := by decide +kernel
theorem dX9_manyAt_54 : decode cX9_manyAt 54 = .ok (.iload_n 3, 1) := by decide +kernel
theorem dX9_manyAt_55 : decode cX9_manyAt 55 = .ok (.iaload, 1) := by decide +kernel
theorem dX9_manyAt_56 : decode cX9_manyAt 56 = .ok (.if_icmp .ne 29, 3) := by decide +kernel
theorem dX9_manyAt_59 : decode cX9_manyAt 59 = .ok (.aload_n 0, 1) := by decide +kernel
theorem dX9_manyAt_60 : decode cX9_manyAt 60 = .ok (.getfield 35, 3) := by decide +kernel
theorem dX9_manyAt_63 : decode cX9_manyAt 63 = .ok (.iload 5, 2) := by decide +kernel
theorem dX9_manyAt_65 : decode cX9_manyAt 65 = .ok (.iload 7, 2) := by decide +kernel
theorem dX9_manyAt_67 : decode cX9_manyAt 67 = .ok (.iadd, 1) := by decide +kernel
theorem dX9_manyAt_68 : decode cX9_manyAt 68 = .ok (.iaload, 1) := by decide +kernel
theorem dX9_manyAt_69 : decode cX9_manyAt 69 = .ok (.aload_n 0, 1) := by decide +kernel
theorem dX9_manyAt_70 : decode cX9_manyAt 70 = .ok (.getfield 35, 3) := by decide +kernel
theorem dX9_manyAt_73 : decode cX9_manyAt 73 = .ok (.iload 5, 2) := by decide +kernel
theorem dX9_manyAt_75 : decode cX9_manyAt 75 = .ok (.iload_n 3, 1) := by decide +kernel
theorem dX9_manyAt_76 : decode cX9_manyAt 76 = .ok (.iadd, 1) := by decide +kernel
theorem dX9_manyAt_77 : decode cX9_manyAt 77 = .ok (.iaload, 1) := by decide +kernel
theorem dX9_manyAt_78 : decode cX9_manyAt 78 = .ok (.if_icmp .ne 7, 3) := by decide +kernel
theorem dX9_manyAt_81 : decode cX9_manyAt 81 = .ok (.iconst 1, 1) := by decide +kernel
theorem dX9_manyAt_82 : decode cX9_manyAt 82 = .ok (.goto 4, 3) := by decide +kernel
theorem dX9_manyAt_85 : decode cX9_manyAt 85 = .ok (.iconst 0, 1) := by decide +kernel
theorem dX9_manyAt_86 : decode cX9_manyAt 86 = .ok (.iadd, 1) := by decide +kernel
theorem dX9_manyAt_87 : decode cX9_manyAt 87 = .ok (.istore 6, 2) := by decide +kernel
theorem dX9_manyAt_89 : decode cX9_manyAt 89 = .ok (.iinc 7 1, 3) := by decide +kernel
theorem dX9_manyAt_92 : decode cX9_manyAt 92 = .ok (.goto (-72), 3) := by decide +kernel
theorem dX9_manyAt_95 : decode cX9_manyAt 95 = .ok (.iload 6, 2) := by decide +kernel
theorem dX9_manyAt_97 : decode cX9_manyAt 97 = .ok (.ireturn, 1) := by decide +kernel
theorem dX9_folds_0 : decode cX9_folds 0 = .ok (.iload_n 2, 1) := by decide +kernel
theorem dX9_folds_1 : decode cX9_folds 1 = .ok (.iconst 1, 1) := by decide +kernel
theorem dX9_folds_2 : decode cX9_folds 2 = .ok (.iand, 1) := by decide +kernel
theorem dX9_folds_3 : decode cX9_folds 3 = .ok (.istore_n 3, 1) := by decide +kernel
theorem dX9_folds_4 : decode cX9_folds 4 = .ok (.iload_n 2, 1) := by decide +kernel
theorem dX9_folds_5 : decode cX9_folds 5 = .ok (.bipush 8, 2) := by decide +kernel
theorem dX9_folds_7 : decode cX9_folds 7 = .ok (.idiv, 1) := by decide +kernel
theorem dX9_folds_8 : decode cX9_folds 8 = .ok (.iconst 1, 1) := by decide +kernel
theorem dX9_folds_9 : decode cX9_folds 9 = .ok (.iadd, 1) := by decide +kernel
theorem dX9_folds_10 : decode cX9_folds 10 = .ok (.istore 4, 2) := by decide +kernel
theorem dX9_folds_12 : decode cX9_folds 12 = .ok (.iload 4, 2) := by decide +kernel
theorem dX9_folds_14 : decode cX9_folds 14 = .ok (.aload_n 0, 1) := by decide +kernel
theorem dX9_folds_15 : decode cX9_folds 15 = .ok (.getfield 38, 3) := by decide +kernel
theorem dX9_folds_18 : decode cX9_folds 18 = .ok (.iconst 2, 1) := by decide +kernel
theorem dX9_folds_19 : decode cX9_folds 19 = .ok (.iload_n 1, 1) := by decide +kernel
theorem dX9_folds_20 : decode cX9_folds 20 = .ok (.imul, 1) := by decide +kernel
theorem dX9_folds_21 : decode cX9_folds 21 = .ok (.iload_n 3, 1) := by decide +kernel
theorem dX9_folds_22 : decode cX9_folds 22 = .ok (.iadd, 1) := by decide +kernel
theorem dX9_folds_23 : decode cX9_folds 23 = .ok (.iaload, 1) := by decide +kernel
theorem dX9_folds_24 : decode cX9_folds 24 = .ok (.if_icmp .lt 5, 3) := by decide +kernel
theorem dX9_folds_27 : decode cX9_folds 27 = .ok (.iconst 0, 1) := by decide +kernel
theorem dX9_folds_28 : decode cX9_folds 28 = .ok (.ireturn, 1) := by decide +kernel
theorem dX9_folds_29 : decode cX9_folds 29 = .ok (.bipush 64, 2) := by decide +kernel
theorem dX9_folds_31 : decode cX9_folds 31 = .ok (.iload_n 1, 1) := by decide +kernel
theorem dX9_folds_32 : decode cX9_folds 32 = .ok (.imul, 1) := by decide +kernel
theorem dX9_folds_33 : decode cX9_folds 33 = .ok (.istore 5, 2) := by decide +kernel
theorem dX9_folds_35 : decode cX9_folds 35 = .ok (.iload 5, 2) := by decide +kernel
theorem dX9_folds_37 : decode cX9_folds 37 = .ok (.bipush 64, 2) := by decide +kernel
theorem dX9_folds_39 : decode cX9_folds 39 = .ok (.iadd, 1) := by decide +kernel
theorem dX9_folds_40 : decode cX9_folds 40 = .ok (.istore 6, 2) := by decide +kernel
theorem dX9_folds_42 : decode cX9_folds 42 = .ok (.iload_n 3, 1) := by decide +kernel
theorem dX9_folds_43 : decode cX9_folds 43 = .ok (.ifCond .ne 7, 3) := by decide +kernel
theorem dX9_folds_46 : decode cX9_folds 46 = .ok (.iconst 0, 1) := by decide +kernel
theorem dX9_folds_47 : decode cX9_folds 47 = .ok (.goto 5, 3) := by decide +kernel
theorem dX9_folds_50 : decode cX9_folds 50 = .ok (.bipush 16, 2) := by decide +kernel
theorem dX9_folds_52 : decode cX9_folds 52 = .ok (.istore 7, 2) := by decide +kernel
theorem dX9_folds_54 : decode cX9_folds 54 = .ok (.bipush 100, 2) := by decide +kernel
theorem dX9_folds_56 : decode cX9_folds 56 = .ok (.istore 8, 2) := by decide +kernel
theorem dX9_folds_58 : decode cX9_folds 58 = .ok (.bipush (-100), 2) := by decide +kernel
theorem dX9_folds_60 : decode cX9_folds 60 = .ok (.istore 9, 2) := by decide +kernel
theorem dX9_folds_62 : decode cX9_folds 62 = .ok (.iconst 0, 1) := by decide +kernel
theorem dX9_folds_63 : decode cX9_folds 63 = .ok (.istore 10, 2) := by decide +kernel
theorem dX9_folds_65 : decode cX9_folds 65 = .ok (.iload 10, 2) := by decide +kernel
theorem dX9_folds_67 : decode cX9_folds 67 = .ok (.aload_n 0, 1) := by decide +kernel
theorem dX9_folds_68 : decode cX9_folds 68 = .ok (.invokevirtual 51, 3) := by decide +kernel
theorem dX9_folds_71 : decode cX9_folds 71 = .ok (.if_icmp .ge 149, 3) := by decide +kernel
theorem dX9_folds_74 : decode cX9_folds 74 = .ok (.aload_n 0, 1) := by decide +kernel
theorem dX9_folds_75 : decode cX9_folds 75 = .ok (.getfield 35, 3) := by decide +kernel
theorem dX9_folds_78 : decode cX9_folds 78 = .ok (.iload 5, 2) := by decide +kernel
theorem dX9_folds_80 : decode cX9_folds 80 = .ok (.iload 7, 2) := by decide +kernel
theorem dX9_folds_82 : decode cX9_folds 82 = .ok (.iadd, 1) := by decide +kernel
theorem dX9_folds_83 : decode cX9_folds 83 = .ok (.iload 10, 2) := by decide +kernel
theorem dX9_folds_85 : decode cX9_folds 85 = .ok (.iadd, 1) := by decide +kernel
theorem dX9_folds_86 : decode cX9_folds 86 = .ok (.iaload, 1) := by decide +kernel
theorem dX9_folds_87 : decode cX9_folds 87 = .ok (.istore 11, 2) := by decide +kernel
theorem dX9_folds_89 : decode cX9_folds 89 = .ok (.aload_n 0, 1) := by decide +kernel
theorem dX9_folds_90 : decode cX9_folds 90 = .ok (.getfield 41, 3) := by decide +kernel
theorem dX9_folds_93 : decode cX9_folds 93 = .ok (.iload 10, 2) := by decide +kernel
theorem dX9_folds_95 : decode cX9_folds 95 = .ok (.iload_n 2, 1) := by decide +kernel
theorem dX9_folds_96 : decode cX9_folds 96 = .ok (.iconst 1, 1) := by decide +kernel
theorem dX9_folds_97 : decode cX9_folds 97 = .ok (.ishr, 1) := by decide +kernel
theorem dX9_folds_98 : decode cX9_folds 98 = .ok (.iconst 1, 1) := by decide +kernel
theorem dX9_folds_99 : decode cX9_folds 99 = .ok (.iand, 1) := by decide +kernel
theorem dX9_folds_100 : decode cX9_folds 100 = .ok (.ifCond .ne 18, 3) := by decide +kernel
theorem dX9_folds_103 : decode cX9_folds 103 = .ok (.iload 11, 2) := by decide +kernel
theorem dX9_folds_105 : decode cX9_folds 105 = .ok (.iload 4, 2) := by decide +kernel
theorem dX9_folds_107 : decode cX9_folds 107 = .ok (.if_icmp .ge 7, 3) := by decide +kernel
theorem dX9_folds_110 : decode cX9_folds 110 = .ok (.iconst 1, 1) := by decide +kernel
theorem dX9_folds_111 : decode cX9_folds 111 = .ok (.goto 19, 3) := by decide +kernel
theorem dX9_folds_114 : decode cX9_folds 114 = .ok (.iconst 0, 1) := by decide +kernel
theorem dX9_folds_115 : decode cX9_folds 115 = .ok (.goto 15, 3) := by decide +kernel
theorem dX9_folds_118 : decode cX9_folds 118 = .ok (.iload 11, 2) := by decide +kernel
theorem dX9_folds_120 : decode cX9_folds 120 = .ok (.iload 4, 2) := by decide +kernel
theorem dX9_folds_122 : decode cX9_folds 122 = .ok (.if_icmp .lt 7, 3) := by decide +kernel
theorem dX9_folds_125 : decode cX9_folds 125 = .ok (.iconst 1, 1) := by decide +kernel
theorem dX9_folds_126 : decode cX9_folds 126 = .ok (.goto 4, 3) := by decide +kernel
theorem dX9_folds_129 : decode cX9_folds 129 = .ok (.iconst 0, 1) := by decide +kernel
theorem dX9_folds_130 : decode cX9_folds 130 = .ok (.bastore, 1) := by decide +kernel
theorem dX9_folds_131 : decode cX9_folds 131 = .ok (.aload_n 0, 1) := by decide +kernel
theorem dX9_folds_132 : decode cX9_folds 132 = .ok (.getfield 44, 3) := by decide +kernel
theorem dX9_folds_135 : decode cX9_folds 135 = .ok (.iload 10, 2) := by decide +kernel
theorem dX9_folds_137 : decode cX9_folds 137 = .ok (.aload_n 0, 1) := by decide +kernel
theorem dX9_folds_138 : decode cX9_folds 138 = .ok (.getfield 41, 3) := by decide +kernel
theorem dX9_folds_141 : decode cX9_folds 141 = .ok (.iload 10, 2) := by decide +kernel
theorem dX9_folds_143 : decode cX9_folds 143 = .ok (.baload, 1) := by decide +kernel
theorem dX9_folds_144 : decode cX9_folds 144 = .ok (.ifCond .eq 15, 3) := by decide +kernel
theorem dX9_folds_147 : decode cX9_folds 147 = .ok (.iconst 2, 1) := by decide +kernel
theorem dX9_folds_148 : decode cX9_folds 148 = .ok (.iload 4, 2) := by decide +kernel
theorem dX9_folds_150 : decode cX9_folds 150 = .ok (.imul, 1) := by decide +kernel
theorem dX9_folds_151 : decode cX9_folds 151 = .ok (.iconst 1, 1) := by decide +kernel
theorem dX9_folds_152 : decode cX9_folds 152 = .ok (.isub, 1) := by decide +kernel
theorem dX9_folds_153 : decode cX9_folds 153 = .ok (.iload 11, 2) := by decide +kernel
theorem dX9_folds_155 : decode cX9_folds 155 = .ok (.isub, 1) := by decide +kernel
theorem dX9_folds_156 : decode cX9_folds 156 = .ok (.goto 5, 3) := by decide +kernel
theorem dX9_folds_159 : decode cX9_folds 159 = .ok (.iload 11, 2) := by decide +kernel
theorem dX9_folds_161 : decode cX9_folds 161 = .ok (.iastore, 1) := by decide +kernel
theorem dX9_folds_162 : decode cX9_folds 162 = .ok (.aload_n 0, 1) := by decide +kernel
theorem dX9_folds_163 : decode cX9_folds 163 = .ok (.getfield 44, 3) := by decide +kernel
theorem dX9_folds_166 : decode cX9_folds 166 = .ok (.iload 10, 2) := by decide +kernel
theorem dX9_folds_168 : decode cX9_folds 168 = .ok (.iaload, 1) := by decide +kernel
theorem dX9_folds_169 : decode cX9_folds 169 = .ok (.iload 8, 2) := by decide +kernel
theorem dX9_folds_171 : decode cX9_folds 171 = .ok (.if_icmp .ge 13, 3) := by decide +kernel
theorem dX9_folds_174 : decode cX9_folds 174 = .ok (.aload_n 0, 1) := by decide +kernel
theorem dX9_folds_175 : decode cX9_folds 175 = .ok (.getfield 44, 3) := by decide +kernel
theorem dX9_folds_178 : decode cX9_folds 178 = .ok (.iload 10, 2) := by decide +kernel
theorem dX9_folds_180 : decode cX9_folds 180 = .ok (.iaload, 1) := by decide +kernel
theorem dX9_folds_181 : decode cX9_folds 181 = .ok (.goto 5, 3) := by decide +kernel
theorem dX9_folds_184 : decode cX9_folds 184 = .ok (.iload 8, 2) := by decide +kernel
theorem dX9_folds_186 : decode cX9_folds 186 = .ok (.istore 8, 2) := by decide +kernel
theorem dX9_folds_188 : decode cX9_folds 188 = .ok (.aload_n 0, 1) := by decide +kernel
theorem dX9_folds_189 : decode cX9_folds 189 = .ok (.getfield 44, 3) := by decide +kernel
theorem dX9_folds_192 : decode cX9_folds 192 = .ok (.iload 10, 2) := by decide +kernel
theorem dX9_folds_194 : decode cX9_folds 194 = .ok (.iaload, 1) := by decide +kernel
theorem dX9_folds_195 : decode cX9_folds 195 = .ok (.iload 9, 2) := by decide +kernel
theorem dX9_folds_197 : decode cX9_folds 197 = .ok (.if_icmp .le 13, 3) := by decide +kernel
theorem dX9_folds_200 : decode cX9_folds 200 = .ok (.aload_n 0, 1) := by decide +kernel
theorem dX9_folds_201 : decode cX9_folds 201 = .ok (.getfield 44, 3) := by decide +kernel
theorem dX9_folds_204 : decode cX9_folds 204 = .ok (.iload 10, 2) := by decide +kernel
theorem dX9_folds_206 : decode cX9_folds 206 = .ok (.iaload, 1) := by decide +kernel
theorem dX9_folds_207 : decode cX9_folds 207 = .ok (.goto 5, 3) := by decide +kernel
theorem dX9_folds_210 : decode cX9_folds 210 = .ok (.iload 9, 2) := by decide +kernel
theorem dX9_folds_212 : decode cX9_folds 212 = .ok (.istore 9, 2) := by decide +kernel
theorem dX9_folds_214 : decode cX9_folds 214 = .ok (.iinc 10 1, 3) := by decide +kernel
theorem dX9_folds_217 : decode cX9_folds 217 = .ok (.goto (-152), 3) := by decide +kernel
theorem dX9_folds_220 : decode cX9_folds 220 = .ok (.iload_n 2, 1) := by decide +kernel
theorem dX9_folds_221 : decode cX9_folds 221 = .ok (.iconst 2, 1) := by decide +kernel
theorem dX9_folds_222 : decode cX9_folds 222 = .ok (.ishr, 1) := by decide +kernel
theorem dX9_folds_223 : decode cX9_folds 223 = .ok (.iconst 1, 1) := by decide +kernel
theorem dX9_folds_224 : decode cX9_folds 224 = .ok (.iand, 1) := by decide +kernel
theorem dX9_folds_225 : decode cX9_folds 225 = .ok (.iconst 1, 1) := by decide +kernel
theorem dX9_folds_226 : decode cX9_folds 226 = .ok (.if_icmp .ne 7, 3) := by decide +kernel
theorem dX9_folds_229 : decode cX9_folds 229 = .ok (.iconst 1, 1) := by decide +kernel
theorem dX9_folds_230 : decode cX9_folds 230 = .ok (.goto 4, 3) := by decide +kernel
theorem dX9_folds_233 : decode cX9_folds 233 = .ok (.iconst 0, 1) := by decide +kernel
theorem dX9_folds_234 : decode cX9_folds 234 = .ok (.istore 10, 2) := by decide +kernel
theorem dX9_folds_236 : decode cX9_folds 236 = .ok (.iconst 0, 1) := by decide +kernel
theorem dX9_folds_237 : decode cX9_folds 237 = .ok (.istore 11, 2) := by decide +kernel
theorem dX9_folds_239 : decode cX9_folds 239 = .ok (.iload 11, 2) := by decide +kernel
theorem dX9_folds_241 : decode cX9_folds 241 = .ok (.aload_n 0, 1) := by decide +kernel
theorem dX9_folds_242 : decode cX9_folds 242 = .ok (.invokevirtual 51, 3) := by decide +kernel
theorem dX9_folds_245 : decode cX9_folds 245 = .ok (.if_icmp .ge 226, 3) := by decide +kernel
theorem dX9_folds_248 : decode cX9_folds 248 = .ok (.aload_n 0, 1) := by decide +kernel
theorem dX9_folds_249 : decode cX9_folds 249 = .ok (.getfield 35, 3) := by decide +kernel
theorem dX9_folds_252 : decode cX9_folds 252 = .ok (.iload 5, 2) := by decide +kernel
theorem dX9_folds_254 : decode cX9_folds 254 = .ok (.bipush 32, 2) := by decide +kernel
theorem dX9_folds_256 : decode cX9_folds 256 = .ok (.iadd, 1) := by decide +kernel
theorem dX9_folds_257 : decode cX9_folds 257 = .ok (.iload 11, 2) := by decide +kernel
theorem dX9_folds_259 : decode cX9_folds 259 = .ok (.iadd, 1) := by decide +kernel
theorem dX9_folds_260 : decode cX9_folds 260 = .ok (.iaload, 1) := by decide +kernel
theorem dX9_folds_261 : decode cX9_folds 261 = .ok (.istore 12, 2) := by decide +kernel
theorem dX9_folds_263 : decode cX9_folds 263 = .ok (.aload_n 0, 1) := by decide +kernel
theorem dX9_folds_264 : decode cX9_folds 264 = .ok (.iload 5, 2) := by decide +kernel
theorem dX9_folds_266 : decode cX9_folds 266 = .ok (.iload_n 3, 1) := by decide +kernel
theorem dX9_folds_267 : decode cX9_folds 267 = .ok (.iload 11, 2) := by decide +kernel
theorem dX9_folds_269 : decode cX9_folds 269 = .ok (.iconst 1, 1) := by decide +kernel
theorem dX9_folds_270 : decode cX9_folds 270 = .ok (.invokevirtual 129, 3) := by decide +kernel
theorem dX9_folds_273 : decode cX9_folds 273 = .ok (.istore 13, 2) := by decide +kernel
theorem dX9_folds_275 : decode cX9_folds 275 = .ok (.aload_n 0, 1) := by decide +kernel
theorem dX9_folds_276 : decode cX9_folds 276 = .ok (.iload 5, 2) := by decide +kernel
theorem dX9_folds_278 : decode cX9_folds 278 = .ok (.iload_n 3, 1) := by decide +kernel
theorem dX9_folds_279 : decode cX9_folds 279 = .ok (.iload 11, 2) := by decide +kernel
theorem dX9_folds_281 : decode cX9_folds 281 = .ok (.iconst 0, 1) := by decide +kernel
theorem dX9_folds_282 : decode cX9_folds 282 = .ok (.invokevirtual 129, 3) := by decide +kernel
theorem dX9_folds_285 : decode cX9_folds 285 = .ok (.istore 14, 2) := by decide +kernel
theorem dX9_folds_287 : decode cX9_folds 287 = .ok (.aload_n 0, 1) := by decide +kernel
theorem dX9_folds_288 : decode cX9_folds 288 = .ok (.getfield 35, 3) := by decide +kernel
theorem dX9_folds_291 : decode cX9_folds 291 = .ok (.iload 6, 2) := by decide +kernel
theorem dX9_folds_293 : decode cX9_folds 293 = .ok (.bipush 32, 2) := by decide +kernel
theorem dX9_folds_295 : decode cX9_folds 295 = .ok (.iadd, 1) := by decide +kernel
theorem dX9_folds_296 : decode cX9_folds 296 = .ok (.iload 11, 2) := by decide +kernel
theorem dX9_folds_298 : decode cX9_folds 298 = .ok (.iadd, 1) := by decide +kernel
theorem dX9_folds_299 : decode cX9_folds 299 = .ok (.aload_n 0, 1) := by decide +kernel
theorem dX9_folds_300 : decode cX9_folds 300 = .ok (.getfield 41, 3) := by decide +kernel
theorem dX9_folds_303 : decode cX9_folds 303 = .ok (.iload 11, 2) := by decide +kernel
theorem dX9_folds_305 : decode cX9_folds 305 = .ok (.baload, 1) := by decide +kernel
theorem dX9_folds_306 : decode cX9_folds 306 = .ok (.ifCond .eq 25, 3) := by decide +kernel
theorem dX9_folds_309 : decode cX9_folds 309 = .ok (.iload 10, 2) := by decide +kernel
theorem dX9_folds_311 : decode cX9_folds 311 = .ok (.ifCond .eq 8, 3) := by decide +kernel
theorem dX9_folds_314 : decode cX9_folds 314 = .ok (.iload 14, 2) := by decide +kernel
theorem dX9_folds_316 : decode cX9_folds 316 = .ok (.goto 4, 3) := by decide +kernel
theorem dX9_folds_319 : decode cX9_folds 319 = .ok (.iconst 0, 1) := by decide +kernel
theorem dX9_folds_320 : decode cX9_folds 320 = .ok (.iload 13, 2) := by decide +kernel
theorem dX9_folds_322 : decode cX9_folds 322 = .ok (.iadd, 1) := by decide +kernel
theorem dX9_folds_323 : decode cX9_folds 323 = .ok (.iconst 1, 1) := by decide +kernel
theorem dX9_folds_324 : decode cX9_folds 324 = .ok (.isub, 1) := by decide +kernel
theorem dX9_folds_325 : decode cX9_folds 325 = .ok (.iload 12, 2) := by decide +kernel
theorem dX9_folds_327 : decode cX9_folds 327 = .ok (.isub, 1) := by decide +kernel
theorem dX9_folds_328 : decode cX9_folds 328 = .ok (.goto 17, 3) := by decide +kernel
theorem dX9_folds_331 : decode cX9_folds 331 = .ok (.iload 12, 2) := by decide +kernel
theorem dX9_folds_333 : decode cX9_folds 333 = .ok (.iload 10, 2) := by decide +kernel
theorem dX9_folds_335 : decode cX9_folds 335 = .ok (.ifCond .eq 7, 3) := by decide +kernel
theorem dX9_folds_338 : decode cX9_folds 338 = .ok (.iconst 0, 1) := by decide +kernel
theorem dX9_folds_339 : decode cX9_folds 339 = .ok (.goto 5, 3) := by decide +kernel
theorem dX9_folds_342 : decode cX9_folds 342 = .ok (.iload 13, 2) := by decide +kernel
theorem dX9_folds_344 : decode cX9_folds 344 = .ok (.iadd, 1) := by decide +kernel
theorem dX9_folds_345 : decode cX9_folds 345 = .ok (.iastore, 1) := by decide +kernel
theorem dX9_folds_346 : decode cX9_folds 346 = .ok (.aload_n 0, 1) := by decide +kernel
theorem dX9_folds_347 : decode cX9_folds 347 = .ok (.getfield 35, 3) := by decide +kernel
theorem dX9_folds_350 : decode cX9_folds 350 = .ok (.iload 6, 2) := by decide +kernel
theorem dX9_folds_352 : decode cX9_folds 352 = .ok (.bipush 48, 2) := by decide +kernel
theorem dX9_folds_354 : decode cX9_folds 354 = .ok (.iadd, 1) := by decide +kernel
theorem dX9_folds_355 : decode cX9_folds 355 = .ok (.iload 11, 2) := by decide +kernel
theorem dX9_folds_357 : decode cX9_folds 357 = .ok (.iadd, 1) := by decide +kernel
theorem dX9_folds_358 : decode cX9_folds 358 = .ok (.aload_n 0, 1) := by decide +kernel
theorem dX9_folds_359 : decode cX9_folds 359 = .ok (.getfield 41, 3) := by decide +kernel
theorem dX9_folds_362 : decode cX9_folds 362 = .ok (.iload 11, 2) := by decide +kernel
theorem dX9_folds_364 : decode cX9_folds 364 = .ok (.baload, 1) := by decide +kernel
theorem dX9_folds_365 : decode cX9_folds 365 = .ok (.ifCond .eq 21, 3) := by decide +kernel
theorem dX9_folds_368 : decode cX9_folds 368 = .ok (.iconst 1, 1) := by decide +kernel
theorem dX9_folds_369 : decode cX9_folds 369 = .ok (.aload_n 0, 1) := by decide +kernel
theorem dX9_folds_370 : decode cX9_folds 370 = .ok (.getfield 35, 3) := by decide +kernel
theorem dX9_folds_373 : decode cX9_folds 373 = .ok (.iload 5, 2) := by decide +kernel
theorem dX9_folds_375 : decode cX9_folds 375 = .ok (.bipush 48, 2) := by decide +kernel
theorem dX9_folds_377 : decode cX9_folds 377 = .ok (.iadd, 1) := by decide +kernel
theorem dX9_folds_378 : decode cX9_folds 378 = .ok (.iload 11, 2) := by decide +kernel
theorem dX9_folds_380 : decode cX9_folds 380 = .ok (.iadd, 1) := by decide +kernel
theorem dX9_folds_381 : decode cX9_folds 381 = .ok (.iaload, 1) := by decide +kernel
theorem dX9_folds_382 : decode cX9_folds 382 = .ok (.isub, 1) := by decide +kernel
theorem dX9_folds_383 : decode cX9_folds 383 = .ok (.goto 16, 3) := by decide +kernel
theorem dX9_folds_386 : decode cX9_folds 386 = .ok (.aload_n 0, 1) := by decide +kernel
theorem dX9_folds_387 : decode cX9_folds 387 = .ok (.getfield 35, 3) := by decide +kernel
theorem dX9_folds_390 : decode cX9_folds 390 = .ok (.iload 5, 2) := by decide +kernel
theorem dX9_folds_392 : decode cX9_folds 392 = .ok (.bipush 48, 2) := by decide +kernel
theorem dX9_folds_394 : decode cX9_folds 394 = .ok (.iadd, 1) := by decide +kernel
theorem dX9_folds_395 : decode cX9_folds 395 = .ok (.iload 11, 2) := by decide +kernel
theorem dX9_folds_397 : decode cX9_folds 397 = .ok (.iadd, 1) := by decide +kernel
theorem dX9_folds_398 : decode cX9_folds 398 = .ok (.iaload, 1) := by decide +kernel
theorem dX9_folds_399 : decode cX9_folds 399 = .ok (.iastore, 1) := by decide +kernel
theorem dX9_folds_400 : decode cX9_folds 400 = .ok (.aload_n 0, 1) := by decide +kernel
theorem dX9_folds_401 : decode cX9_folds 401 = .ok (.getfield 35, 3) := by decide +kernel
theorem dX9_folds_404 : decode cX9_folds 404 = .ok (.iload 6, 2) := by decide +kernel
theorem dX9_folds_406 : decode cX9_folds 406 = .ok (.iload_n 3, 1) := by decide +kernel
theorem dX9_folds_407 : decode cX9_folds 407 = .ok (.ifCond .ne 8, 3) := by decide +kernel
theorem dX9_folds_410 : decode cX9_folds 410 = .ok (.bipush 16, 2) := by decide +kernel
theorem dX9_folds_412 : decode cX9_folds 412 = .ok (.goto 4, 3) := by decide +kernel
theorem dX9_folds_415 : decode cX9_folds 415 = .ok (.iconst 0, 1) := by decide +kernel
theorem dX9_folds_416 : decode cX9_folds 416 = .ok (.iadd, 1) := by decide +kernel
theorem dX9_folds_417 : decode cX9_folds 417 = .ok (.iload 11, 2) := by decide +kernel
theorem dX9_folds_419 : decode cX9_folds 419 = .ok (.iadd, 1) := by decide +kernel
theorem dX9_folds_420 : decode cX9_folds 420 = .ok (.aload_n 0, 1) := by decide +kernel
theorem dX9_folds_421 : decode cX9_folds 421 = .ok (.getfield 35, 3) := by decide +kernel
theorem dX9_folds_424 : decode cX9_folds 424 = .ok (.iload 5, 2) := by decide +kernel
theorem dX9_folds_426 : decode cX9_folds 426 = .ok (.iload_n 3, 1) := by decide +kernel
theorem dX9_folds_427 : decode cX9_folds 427 = .ok (.ifCond .ne 8, 3) := by decide +kernel
theorem dX9_folds_430 : decode cX9_folds 430 = .ok (.bipush 16, 2) := by decide +kernel
theorem dX9_folds_432 : decode cX9_folds 432 = .ok (.goto 4, 3) := by decide +kernel
theorem dX9_folds_435 : decode cX9_folds 435 = .ok (.iconst 0, 1) := by decide +kernel
theorem dX9_folds_436 : decode cX9_folds 436 = .ok (.iadd, 1) := by decide +kernel
theorem dX9_folds_437 : decode cX9_folds 437 = .ok (.iload 11, 2) := by decide +kernel
theorem dX9_folds_439 : decode cX9_folds 439 = .ok (.iadd, 1) := by decide +kernel
theorem dX9_folds_440 : decode cX9_folds 440 = .ok (.iaload, 1) := by decide +kernel
theorem dX9_folds_441 : decode cX9_folds 441 = .ok (.iastore, 1) := by decide +kernel
theorem dX9_folds_442 : decode cX9_folds 442 = .ok (.aload_n 0, 1) := by decide +kernel
theorem dX9_folds_443 : decode cX9_folds 443 = .ok (.getfield 35, 3) := by decide +kernel
theorem dX9_folds_446 : decode cX9_folds 446 = .ok (.iload 6, 2) := by decide +kernel
theorem dX9_folds_448 : decode cX9_folds 448 = .ok (.iload 7, 2) := by decide +kernel
theorem dX9_folds_450 : decode cX9_folds 450 = .ok (.iadd, 1) := by decide +kernel
theorem dX9_folds_451 : decode cX9_folds 451 = .ok (.iload 11, 2) := by decide +kernel
theorem dX9_folds_453 : decode cX9_folds 453 = .ok (.iadd, 1) := by decide +kernel
theorem dX9_folds_454 : decode cX9_folds 454 = .ok (.aload_n 0, 1) := by decide +kernel
theorem dX9_folds_455 : decode cX9_folds 455 = .ok (.getfield 44, 3) := by decide +kernel
theorem dX9_folds_458 : decode cX9_folds 458 = .ok (.iload 11, 2) := by decide +kernel
theorem dX9_folds_460 : decode cX9_folds 460 = .ok (.iaload, 1) := by decide +kernel
theorem dX9_folds_461 : decode cX9_folds 461 = .ok (.iload 8, 2) := by decide +kernel
theorem dX9_folds_463 : decode cX9_folds 463 = .ok (.isub, 1) := by decide +kernel
theorem dX9_folds_464 : decode cX9_folds 464 = .ok (.iastore, 1) := by decide +kernel
theorem dX9_folds_465 : decode cX9_folds 465 = .ok (.iinc 11 1, 3) := by decide +kernel
theorem dX9_folds_468 : decode cX9_folds 468 = .ok (.goto (-229), 3) := by decide +kernel
theorem dX9_folds_471 : decode cX9_folds 471 = .ok (.aload_n 0, 1) := by decide +kernel
theorem dX9_folds_472 : decode cX9_folds 472 = .ok (.getfield 38, 3) := by decide +kernel
theorem dX9_folds_475 : decode cX9_folds 475 = .ok (.iconst 2, 1) := by decide +kernel
theorem dX9_folds_476 : decode cX9_folds 476 = .ok (.iload_n 1, 1) := by decide +kernel
theorem dX9_folds_477 : decode cX9_folds 477 = .ok (.imul, 1) := by decide +kernel
theorem dX9_folds_478 : decode cX9_folds 478 = .ok (.iconst 2, 1) := by decide +kernel
theorem dX9_folds_479 : decode cX9_folds 479 = .ok (.iadd, 1) := by decide +kernel
theorem dX9_folds_480 : decode cX9_folds 480 = .ok (.iload_n 3, 1) := by decide +kernel
theorem dX9_folds_481 : decode cX9_folds 481 = .ok (.iadd, 1) := by decide +kernel
theorem dX9_folds_482 : decode cX9_folds 482 = .ok (.iload 9, 2) := by decide +kernel
theorem dX9_folds_484 : decode cX9_folds 484 = .ok (.iload 8, 2) := by decide +kernel
theorem dX9_folds_486 : decode cX9_folds 486 = .ok (.isub, 1) := by decide +kernel
theorem dX9_folds_487 : decode cX9_folds 487 = .ok (.iconst 1, 1) := by decide +kernel
theorem dX9_folds_488 : decode cX9_folds 488 = .ok (.iadd, 1) := by decide +kernel
theorem dX9_folds_489 : decode cX9_folds 489 = .ok (.iastore, 1) := by decide +kernel
theorem dX9_folds_490 : decode cX9_folds 490 = .ok (.aload_n 0, 1) := by decide +kernel
theorem dX9_folds_491 : decode cX9_folds 491 = .ok (.getfield 38, 3) := by decide +kernel
theorem dX9_folds_494 : decode cX9_folds 494 = .ok (.iconst 2, 1) := by decide +kernel
theorem dX9_folds_495 : decode cX9_folds 495 = .ok (.iload_n 1, 1) := by decide +kernel
theorem dX9_folds_496 : decode cX9_folds 496 = .ok (.imul, 1) := by decide +kernel
theorem dX9_folds_497 : decode cX9_folds 497 = .ok (.iconst 3, 1) := by decide +kernel
theorem dX9_folds_498 : decode cX9_folds 498 = .ok (.iadd, 1) := by decide +kernel
theorem dX9_folds_499 : decode cX9_folds 499 = .ok (.iload_n 3, 1) := by decide +kernel
theorem dX9_folds_500 : decode cX9_folds 500 = .ok (.isub, 1) := by decide +kernel
theorem dX9_folds_501 : decode cX9_folds 501 = .ok (.aload_n 0, 1) := by decide +kernel
theorem dX9_folds_502 : decode cX9_folds 502 = .ok (.getfield 38, 3) := by decide +kernel
theorem dX9_folds_505 : decode cX9_folds 505 = .ok (.iconst 2, 1) := by decide +kernel
theorem dX9_folds_506 : decode cX9_folds 506 = .ok (.iload_n 1, 1) := by decide +kernel
theorem dX9_folds_507 : decode cX9_folds 507 = .ok (.imul, 1) := by decide +kernel
theorem dX9_folds_508 : decode cX9_folds 508 = .ok (.iconst 1, 1) := by decide +kernel
theorem dX9_folds_509 : decode cX9_folds 509 = .ok (.iadd, 1) := by decide +kernel
theorem dX9_folds_510 : decode cX9_folds 510 = .ok (.iload_n 3, 1) := by decide +kernel
theorem dX9_folds_511 : decode cX9_folds 511 = .ok (.isub, 1) := by decide +kernel
theorem dX9_folds_512 : decode cX9_folds 512 = .ok (.iaload, 1) := by decide +kernel
theorem dX9_folds_513 : decode cX9_folds 513 = .ok (.iastore, 1) := by decide +kernel
theorem dX9_folds_514 : decode cX9_folds 514 = .ok (.iconst 1, 1) := by decide +kernel
theorem dX9_folds_515 : decode cX9_folds 515 = .ok (.ireturn, 1) := by decide +kernel
theorem dX9_falls_0 : decode cX9_falls 0 = .ok (.iconst 0, 1) := by decide +kernel
theorem dX9_falls_1 : decode cX9_falls 1 = .ok (.istore_n 2, 1) := by decide +kernel
theorem dX9_falls_2 : decode cX9_falls 2 = .ok (.iload_n 2, 1) := by decide +kernel
theorem dX9_falls_3 : decode cX9_falls 3 = .ok (.bipush 64, 2) := by decide +kernel
theorem dX9_falls_5 : decode cX9_falls 5 = .ok (.if_icmp .ge 26, 3) := by decide +kernel
theorem dX9_falls_8 : decode cX9_falls 8 = .ok (.aload_n 0, 1) := by decide +kernel
theorem dX9_falls_9 : decode cX9_falls 9 = .ok (.getfield 35, 3) := by decide +kernel
theorem dX9_falls_12 : decode cX9_falls 12 = .ok (.iload_n 2, 1) := by decide +kernel
theorem dX9_falls_13 : decode cX9_falls 13 = .ok (.aload_n 0, 1) := by decide +kernel
theorem dX9_falls_14 : decode cX9_falls 14 = .ok (.getfield 35, 3) := by decide +kernel
theorem dX9_falls_17 : decode cX9_falls 17 = .ok (.bipush 64, 2) := by decide +kernel
theorem dX9_falls_19 : decode cX9_falls 19 = .ok (.iload_n 1, 1) := by decide +kernel
theorem dX9_falls_20 : decode cX9_falls 20 = .ok (.imul, 1) := by decide +kernel
theorem dX9_falls_21 : decode cX9_falls 21 = .ok (.iload_n 2, 1) := by decide +kernel
theorem dX9_falls_22 : decode cX9_falls 22 = .ok (.iadd, 1) := by decide +kernel
theorem dX9_falls_23 : decode cX9_falls 23 = .ok (.iaload, 1) := by decide +kernel
theorem dX9_falls_24 : decode cX9_falls 24 = .ok (.iastore, 1) := by decide +kernel
theorem dX9_falls_25 : decode cX9_falls 25 = .ok (.iinc 2 1, 3) := by decide +kernel
theorem dX9_falls_28 : decode cX9_falls 28 = .ok (.goto (-26), 3) := by decide +kernel
theorem dX9_falls_31 : decode cX9_falls 31 = .ok (.aload_n 0, 1) := by decide +kernel
theorem dX9_falls_32 : decode cX9_falls 32 = .ok (.getfield 38, 3) := by decide +kernel
theorem dX9_falls_35 : decode cX9_falls 35 = .ok (.iconst 0, 1) := by decide +kernel
theorem dX9_falls_36 : decode cX9_falls 36 = .ok (.aload_n 0, 1) := by decide +kernel
theorem dX9_falls_37 : decode cX9_falls 37 = .ok (.getfield 38, 3) := by decide +kernel
theorem dX9_falls_40 : decode cX9_falls 40 = .ok (.iconst 2, 1) := by decide +kernel
theorem dX9_falls_41 : decode cX9_falls 41 = .ok (.iload_n 1, 1) := by decide +kernel
theorem dX9_falls_42 : decode cX9_falls 42 = .ok (.imul, 1) := by decide +kernel
theorem dX9_falls_43 : decode cX9_falls 43 = .ok (.iaload, 1) := by decide +kernel
theorem dX9_falls_44 : decode cX9_falls 44 = .ok (.iastore, 1) := by decide +kernel
theorem dX9_falls_45 : decode cX9_falls 45 = .ok (.aload_n 0, 1) := by decide +kernel
theorem dX9_falls_46 : decode cX9_falls 46 = .ok (.getfield 38, 3) := by decide +kernel
theorem dX9_falls_49 : decode cX9_falls 49 = .ok (.iconst 1, 1) := by decide +kernel
theorem dX9_falls_50 : decode cX9_falls 50 = .ok (.aload_n 0, 1) := by decide +kernel
theorem dX9_falls_51 : decode cX9_falls 51 = .ok (.getfield 38, 3) := by decide +kernel
theorem dX9_falls_54 : decode cX9_falls 54 = .ok (.iconst 2, 1) := by decide +kernel
theorem dX9_falls_55 : decode cX9_falls 55 = .ok (.iload_n 1, 1) := by decide +kernel
theorem dX9_falls_56 : decode cX9_falls 56 = .ok (.imul, 1) := by decide +kernel
theorem dX9_falls_57 : decode cX9_falls 57 = .ok (.iconst 1, 1) := by decide +kernel
theorem dX9_falls_58 : decode cX9_falls 58 = .ok (.iadd, 1) := by decide +kernel
theorem dX9_falls_59 : decode cX9_falls 59 = .ok (.iaload, 1) := by decide +kernel
theorem dX9_falls_60 : decode cX9_falls 60 = .ok (.iastore, 1) := by decide +kernel
theorem dX9_falls_61 : decode cX9_falls 61 = .ok (.return_, 1) := by decide +kernel
theorem dX9_now_0 : decode cX9_now 0 = .ok (.aload_n 0, 1) := by decide +kernel
theorem dX9_now_1 : decode cX9_now 1 = .ok (.invokevirtual 133, 3) := by decide +kernel
theorem dX9_now_4 : decode cX9_now 4 = .ok (.iconst 0, 1) := by decide +kernel
theorem dX9_now_5 : decode cX9_now 5 = .ok (.istore_n 2, 1) := by decide +kernel
theorem dX9_now_6 : decode cX9_now 6 = .ok (.iload_n 2, 1) := by decide +kernel
theorem dX9_now_7 : decode cX9_now 7 = .ok (.iload_n 1, 1) := by decide +kernel
theorem dX9_now_8 : decode cX9_now 8 = .ok (.if_icmp .ge 30, 3) := by decide +kernel
theorem dX9_now_11 : decode cX9_now 11 = .ok (.aload_n 0, 1) := by decide +kernel
theorem dX9_now_12 : decode cX9_now 12 = .ok (.iconst 0, 1) := by decide +kernel
theorem dX9_now_13 : decode cX9_now 13 = .ok (.aload_n 0, 1) := by decide +kernel
theorem dX9_now_14 : decode cX9_now 14 = .ok (.getfield 19, 3) := by decide +kernel
theorem dX9_now_17 : decode cX9_now 17 = .ok (.iconst 2, 1) := by decide +kernel
theorem dX9_now_18 : decode cX9_now 18 = .ok (.iload_n 2, 1) := by decide +kernel
theorem dX9_now_19 : decode cX9_now 19 = .ok (.iadd, 1) := by decide +kernel
theorem dX9_now_20 : decode cX9_now 20 = .ok (.iaload, 1) := by decide +kernel
theorem dX9_now_21 : decode cX9_now 21 = .ok (.invokevirtual 136, 3) := by decide +kernel
theorem dX9_now_24 : decode cX9_now 24 = .ok (.ifCond .eq 8, 3) := by decide +kernel
theorem dX9_now_27 : decode cX9_now 27 = .ok (.aload_n 0, 1) := by decide +kernel
theorem dX9_now_28 : decode cX9_now 28 = .ok (.iconst 1, 1) := by decide +kernel
theorem dX9_now_29 : decode cX9_now 29 = .ok (.invokevirtual 140, 3) := by decide +kernel
theorem dX9_now_32 : decode cX9_now 32 = .ok (.iinc 2 1, 3) := by decide +kernel
theorem dX9_now_35 : decode cX9_now 35 = .ok (.goto (-29), 3) := by decide +kernel
theorem dX9_now_38 : decode cX9_now 38 = .ok (.return_, 1) := by decide +kernel
theorem dX9_thick_0 : decode cX9_thick 0 = .ok (.iconst 0, 1) := by decide +kernel
theorem dX9_thick_1 : decode cX9_thick 1 = .ok (.istore_n 1, 1) := by decide +kernel
theorem dX9_thick_2 : decode cX9_thick 2 = .ok (.iconst 0, 1) := by decide +kernel
theorem dX9_thick_3 : decode cX9_thick 3 = .ok (.istore_n 2, 1) := by decide +kernel
theorem dX9_thick_4 : decode cX9_thick 4 = .ok (.iload_n 2, 1) := by decide +kernel
theorem dX9_thick_5 : decode cX9_thick 5 = .ok (.aload_n 0, 1) := by decide +kernel
theorem dX9_thick_6 : decode cX9_thick 6 = .ok (.invokevirtual 51, 3) := by decide +kernel
theorem dX9_thick_9 : decode cX9_thick 9 = .ok (.if_icmp .ge 36, 3) := by decide +kernel
theorem dX9_thick_12 : decode cX9_thick 12 = .ok (.aload_n 0, 1) := by decide +kernel
theorem dX9_thick_13 : decode cX9_thick 13 = .ok (.getfield 35, 3) := by decide +kernel
theorem dX9_thick_16 : decode cX9_thick 16 = .ok (.bipush 32, 2) := by decide +kernel
theorem dX9_thick_18 : decode cX9_thick 18 = .ok (.iload_n 2, 1) := by decide +kernel
theorem dX9_thick_19 : decode cX9_thick 19 = .ok (.iadd, 1) := by decide +kernel
theorem dX9_thick_20 : decode cX9_thick 20 = .ok (.iaload, 1) := by decide +kernel
theorem dX9_thick_21 : decode cX9_thick 21 = .ok (.iload_n 1, 1) := by decide +kernel
theorem dX9_thick_22 : decode cX9_thick 22 = .ok (.if_icmp .le 15, 3) := by decide +kernel
theorem dX9_thick_25 : decode cX9_thick 25 = .ok (.aload_n 0, 1) := by decide +kernel
theorem dX9_thick_26 : decode cX9_thick 26 = .ok (.getfield 35, 3) := by decide +kernel
theorem dX9_thick_29 : decode cX9_thick 29 = .ok (.bipush 32, 2) := by decide +kernel
theorem dX9_thick_31 : decode cX9_thick 31 = .ok (.iload_n 2, 1) := by decide +kernel
theorem dX9_thick_32 : decode cX9_thick 32 = .ok (.iadd, 1) := by decide +kernel
theorem dX9_thick_33 : decode cX9_thick 33 = .ok (.iaload, 1) := by decide +kernel
theorem dX9_thick_34 : decode cX9_thick 34 = .ok (.goto 4, 3) := by decide +kernel
theorem dX9_thick_37 : decode cX9_thick 37 = .ok (.iload_n 1, 1) := by decide +kernel
theorem dX9_thick_38 : decode cX9_thick 38 = .ok (.istore_n 1, 1) := by decide +kernel
theorem dX9_thick_39 : decode cX9_thick 39 = .ok (.iinc 2 1, 3) := by decide +kernel
theorem dX9_thick_42 : decode cX9_thick 42 = .ok (.goto (-38), 3) := by decide +kernel
theorem dX9_thick_45 : decode cX9_thick 45 = .ok (.iload_n 1, 1) := by decide +kernel
theorem dX9_thick_46 : decode cX9_thick 46 = .ok (.iconst 1, 1) := by decide +kernel
theorem dX9_thick_47 : decode cX9_thick 47 = .ok (.iadd, 1) := by decide +kernel
theorem dX9_thick_48 : decode cX9_thick 48 = .ok (.ireturn, 1) := by decide +kernel
theorem dX9_touches_0 : decode cX9_touches 0 = .ok (.bipush 64, 2) := by decide +kernel
theorem dX9_touches_2 : decode cX9_touches 2 = .ok (.iload_n 1, 1) := by decide +kernel
theorem dX9_touches_3 : decode cX9_touches 3 = .ok (.imul, 1) := by decide +kernel
theorem dX9_touches_4 : decode cX9_touches 4 = .ok (.istore 4, 2) := by decide +kernel
theorem dX9_touches_6 : decode cX9_touches 6 = .ok (.aload_n 0, 1) := by decide +kernel
theorem dX9_touches_7 : decode cX9_touches 7 = .ok (.getfield 35, 3) := by decide +kernel
theorem dX9_touches_10 : decode cX9_touches 10 = .ok (.iload 4, 2) := by decide +kernel
theorem dX9_touches_12 : decode cX9_touches 12 = .ok (.bipush 32, 2) := by decide +kernel
theorem dX9_touches_14 : decode cX9_touches 14 = .ok (.iadd, 1) := by decide +kernel
theorem dX9_touches_15 : decode cX9_touches 15 = .ok (.iload_n 3, 1) := by decide +kernel
theorem dX9_touches_16 : decode cX9_touches 16 = .ok (.iadd, 1) := by decide +kernel
theorem dX9_touches_17 : decode cX9_touches 17 = .ok (.iaload, 1) := by decide +kernel
theorem dX9_touches_18 : decode cX9_touches 18 = .ok (.aload_n 0, 1) := by decide +kernel
theorem dX9_touches_19 : decode cX9_touches 19 = .ok (.getfield 35, 3) := by decide +kernel
theorem dX9_touches_22 : decode cX9_touches 22 = .ok (.iload 4, 2) := by decide +kernel
theorem dX9_touches_24 : decode cX9_touches 24 = .ok (.bipush 32, 2) := by decide +kernel
theorem dX9_touches_26 : decode cX9_touches 26 = .ok (.iadd, 1) := by decide +kernel
theorem dX9_touches_27 : decode cX9_touches 27 = .ok (.iload_n 2, 1) := by decide +kernel
theorem dX9_touches_28 : decode cX9_touches 28 = .ok (.iadd, 1) := by decide +kernel
theorem dX9_touches_29 : decode cX9_touches 29 = .ok (.iaload, 1) := by decide +kernel
theorem dX9_touches_30 : decode cX9_touches 30 = .ok (.isub, 1) := by decide +kernel
theorem dX9_touches_31 : decode cX9_touches 31 = .ok (.istore 5, 2) := by decide +kernel
theorem dX9_touches_33 : decode cX9_touches 33 = .ok (.aload_n 0, 1) := by decide +kernel
theorem dX9_touches_34 : decode cX9_touches 34 = .ok (.getfield 35, 3) := by decide +kernel
theorem dX9_touches_37 : decode cX9_touches 37 = .ok (.iload 4, 2) := by decide +kernel
theorem dX9_touches_39 : decode cX9_touches 39 = .ok (.iload_n 2, 1) := by decide +kernel
theorem dX9_touches_40 : decode cX9_touches 40 = .ok (.iadd, 1) := by decide +kernel
theorem dX9_touches_41 : decode cX9_touches 41 = .ok (.iaload, 1) := by decide +kernel
theorem dX9_touches_42 : decode cX9_touches 42 = .ok (.aload_n 0, 1) := by decide +kernel
theorem dX9_touches_43 : decode cX9_touches 43 = .ok (.getfield 35, 3) := by decide +kernel
theorem dX9_touches_46 : decode cX9_touches 46 = .ok (.iload 4, 2) := by decide +kernel
theorem dX9_touches_48 : decode cX9_touches 48 = .ok (.iload_n 3, 1) := by decide +kernel
theorem dX9_touches_49 : decode cX9_touches 49 = .ok (.iadd, 1) := by decide +kernel
theorem dX9_touches_50 : decode cX9_touches 50 = .ok (.iaload, 1) := by decide +kernel
theorem dX9_touches_51 : decode cX9_touches 51 = .ok (.if_icmp .ne 42, 3) := by decide +kernel
theorem dX9_touches_54 : decode cX9_touches 54 = .ok (.aload_n 0, 1) := by decide +kernel
theorem dX9_touches_55 : decode cX9_touches 55 = .ok (.getfield 35, 3) := by decide +kernel
theorem dX9_touches_58 : decode cX9_touches 58 = .ok (.iload 4, 2) := by decide +kernel
theorem dX9_touches_60 : decode cX9_touches 60 = .ok (.bipush 16, 2) := by decide +kernel
theorem dX9_touches_62 : decode cX9_touches 62 = .ok (.iadd, 1) := by decide +kernel
theorem dX9_touches_63 : decode cX9_touches 63 = .ok (.iload_n 2, 1) := by decide +kernel
theorem dX9_touches_64 : decode cX9_touches 64 = .ok (.iadd, 1) := by decide +kernel
theorem dX9_touches_65 : decode cX9_touches 65 = .ok (.iaload, 1) := by decide +kernel
theorem dX9_touches_66 : decode cX9_touches 66 = .ok (.aload_n 0, 1) := by decide +kernel
theorem dX9_touches_67 : decode cX9_touches 67 = .ok (.getfield 35, 3) := by decide +kernel
theorem dX9_touches_70 : decode cX9_touches 70 = .ok (.iload 4, 2) := by decide +kernel
theorem dX9_touches_72 : decode cX9_touches 72 = .ok (.bipush 16, 2) := by decide +kernel
theorem dX9_touches_74 : decode cX9_touches 74 = .ok (.iadd, 1) := by decide +kernel
theorem dX9_touches_75 : decode cX9_touches 75 = .ok (.iload_n 3, 1) := by decide +kernel
theorem dX9_touches_76 : decode cX9_touches 76 = .ok (.iadd, 1) := by decide +kernel
theorem dX9_touches_77 : decode cX9_touches 77 = .ok (.iaload, 1) := by decide +kernel
theorem dX9_touches_78 : decode cX9_touches 78 = .ok (.if_icmp .ne 15, 3) := by decide +kernel
theorem dX9_touches_81 : decode cX9_touches 81 = .ok (.iload 5, 2) := by decide +kernel
theorem dX9_touches_83 : decode cX9_touches 83 = .ok (.iconst 1, 1) := by decide +kernel
theorem dX9_touches_84 : decode cX9_touches 84 = .ok (.if_icmp .eq 11, 3) := by decide +kernel
theorem dX9_touches_87 : decode cX9_touches 87 = .ok (.iload 5, 2) := by decide +kernel
theorem dX9_touches_89 : decode cX9_touches 89 = .ok (.iconst (-1), 1) := by decide +kernel
theorem dX9_touches_90 : decode cX9_touches 90 = .ok (.if_icmp .eq 5, 3) := by decide +kernel
theorem dX9_touches_93 : decode cX9_touches 93 = .ok (.iconst 0, 1) := by decide +kernel
theorem dX9_touches_94 : decode cX9_touches 94 = .ok (.ireturn, 1) := by decide +kernel
theorem dX9_touches_95 : decode cX9_touches 95 = .ok (.iload 5, 2) := by decide +kernel
theorem dX9_touches_97 : decode cX9_touches 97 = .ok (.iconst 1, 1) := by decide +kernel
theorem dX9_touches_98 : decode cX9_touches 98 = .ok (.if_icmp .ne 7, 3) := by decide +kernel
theorem dX9_touches_101 : decode cX9_touches 101 = .ok (.iload_n 2, 1) := by decide +kernel
theorem dX9_touches_102 : decode cX9_touches 102 = .ok (.goto 4, 3) := by decide +kernel
theorem dX9_touches_105 : decode cX9_touches 105 = .ok (.iload_n 3, 1) := by decide +kernel
theorem dX9_touches_106 : decode cX9_touches 106 = .ok (.istore 6, 2) := by decide +kernel
theorem dX9_touches_108 : decode cX9_touches 108 = .ok (.iload 5, 2) := by decide +kernel
theorem dX9_touches_110 : decode cX9_touches 110 = .ok (.iconst 1, 1) := by decide +kernel
theorem dX9_touches_111 : decode cX9_touches 111 = .ok (.if_icmp .ne 7, 3) := by decide +kernel
theorem dX9_touches_114 : decode cX9_touches 114 = .ok (.iload_n 3, 1) := by decide +kernel
theorem dX9_touches_115 : decode cX9_touches 115 = .ok (.goto 4, 3) := by decide +kernel
theorem dX9_touches_118 : decode cX9_touches 118 = .ok (.iload_n 2, 1) := by decide +kernel
theorem dX9_touches_119 : decode cX9_touches 119 = .ok (.istore 7, 2) := by decide +kernel
theorem dX9_touches_121 : decode cX9_touches 121 = .ok (.aload_n 0, 1) := by decide +kernel
theorem dX9_touches_122 : decode cX9_touches 122 = .ok (.getfield 35, 3) := by decide +kernel
theorem dX9_touches_125 : decode cX9_touches 125 = .ok (.iload 4, 2) := by decide +kernel
theorem dX9_touches_127 : decode cX9_touches 127 = .ok (.bipush 48, 2) := by decide +kernel
theorem dX9_touches_129 : decode cX9_touches 129 = .ok (.iadd, 1) := by decide +kernel
theorem dX9_touches_130 : decode cX9_touches 130 = .ok (.iload 6, 2) := by decide +kernel
theorem dX9_touches_132 : decode cX9_touches 132 = .ok (.iadd, 1) := by decide +kernel
theorem dX9_touches_133 : decode cX9_touches 133 = .ok (.iaload, 1) := by decide +kernel
theorem dX9_touches_134 : decode cX9_touches 134 = .ok (.iconst 1, 1) := by decide +kernel
theorem dX9_touches_135 : decode cX9_touches 135 = .ok (.if_icmp .ne 7, 3) := by decide +kernel
theorem dX9_touches_138 : decode cX9_touches 138 = .ok (.iconst 1, 1) := by decide +kernel
theorem dX9_touches_139 : decode cX9_touches 139 = .ok (.goto 4, 3) := by decide +kernel
theorem dX9_touches_142 : decode cX9_touches 142 = .ok (.iconst 0, 1) := by decide +kernel
theorem dX9_touches_143 : decode cX9_touches 143 = .ok (.istore 8, 2) := by decide +kernel
theorem dX9_touches_145 : decode cX9_touches 145 = .ok (.aload_n 0, 1) := by decide +kernel
theorem dX9_touches_146 : decode cX9_touches 146 = .ok (.getfield 35, 3) := by decide +kernel
theorem dX9_touches_149 : decode cX9_touches 149 = .ok (.iload 4, 2) := by decide +kernel
theorem dX9_touches_151 : decode cX9_touches 151 = .ok (.bipush 48, 2) := by decide +kernel
theorem dX9_touches_153 : decode cX9_touches 153 = .ok (.iadd, 1) := by decide +kernel
theorem dX9_touches_154 : decode cX9_touches 154 = .ok (.iload 7, 2) := by decide +kernel
theorem dX9_touches_156 : decode cX9_touches 156 = .ok (.iadd, 1) := by decide +kernel
theorem dX9_touches_157 : decode cX9_touches 157 = .ok (.iaload, 1) := by decide +kernel
theorem dX9_touches_158 : decode cX9_touches 158 = .ok (.ifCond .ne 7, 3) := by decide +kernel
theorem dX9_touches_161 : decode cX9_touches 161 = .ok (.iconst 1, 1) := by decide +kernel
theorem dX9_touches_162 : decode cX9_touches 162 = .ok (.goto 4, 3) := by decide +kernel
theorem dX9_touches_165 : decode cX9_touches 165 = .ok (.iconst 0, 1) := by decide +kernel
theorem dX9_touches_166 : decode cX9_touches 166 = .ok (.istore 9, 2) := by decide +kernel
theorem dX9_touches_168 : decode cX9_touches 168 = .ok (.iload 8, 2) := by decide +kernel
theorem dX9_touches_170 : decode cX9_touches 170 = .ok (.ifCond .eq 12, 3) := by decide +kernel
theorem dX9_touches_173 : decode cX9_touches 173 = .ok (.iload 9, 2) := by decide +kernel
theorem dX9_touches_175 : decode cX9_touches 175 = .ok (.ifCond .eq 7, 3) := by decide +kernel
theorem dX9_touches_178 : decode cX9_touches 178 = .ok (.iconst 1, 1) := by decide +kernel
theorem dX9_touches_179 : decode cX9_touches 179 = .ok (.goto 18, 3) := by decide +kernel
theorem dX9_touches_182 : decode cX9_touches 182 = .ok (.iload 8, 2) := by decide +kernel
theorem dX9_touches_184 : decode cX9_touches 184 = .ok (.ifCond .ne 12, 3) := by decide +kernel
theorem dX9_touches_187 : decode cX9_touches 187 = .ok (.iload 9, 2) := by decide +kernel
theorem dX9_touches_189 : decode cX9_touches 189 = .ok (.ifCond .ne 7, 3) := by decide +kernel
theorem dX9_touches_192 : decode cX9_touches 192 = .ok (.iconst 2, 1) := by decide +kernel
theorem dX9_touches_193 : decode cX9_touches 193 = .ok (.goto 4, 3) := by decide +kernel
theorem dX9_touches_196 : decode cX9_touches 196 = .ok (.iconst 3, 1) := by decide +kernel
theorem dX9_touches_197 : decode cX9_touches 197 = .ok (.ireturn, 1) := by decide +kernel
theorem dX9_gain_0 : decode cX9_gain 0 = .ok (.iconst 0, 1) := by decide +kernel
theorem dX9_gain_1 : decode cX9_gain 1 = .ok (.istore_n 3, 1) := by decide +kernel
theorem dX9_gain_2 : decode cX9_gain 2 = .ok (.iconst 0, 1) := by decide +kernel
theorem dX9_gain_3 : decode cX9_gain 3 = .ok (.istore 4, 2) := by decide +kernel
theorem dX9_gain_5 : decode cX9_gain 5 = .ok (.iload 4, 2) := by decide +kernel
theorem dX9_gain_7 : decode cX9_gain 7 = .ok (.aload_n 0, 1) := by decide +kernel
theorem dX9_gain_8 : decode cX9_gain 8 = .ok (.invokevirtual 51, 3) := by decide +kernel
theorem dX9_gain_11 : decode cX9_gain 11 = .ok (.if_icmp .ge 44, 3) := by decide +kernel
theorem dX9_gain_14 : decode cX9_gain 14 = .ok (.iload_n 3, 1) := by decide +kernel
theorem dX9_gain_15 : decode cX9_gain 15 = .ok (.iload 4, 2) := by decide +kernel
theorem dX9_gain_17 : decode cX9_gain 17 = .ok (.iload_n 2, 1) := by decide +kernel
theorem dX9_gain_18 : decode cX9_gain 18 = .ok (.if_icmp .eq 28, 3) := by decide +kernel
theorem dX9_gain_21 : decode cX9_gain 21 = .ok (.aload_n 0, 1) := by decide +kernel
theorem dX9_gain_22 : decode cX9_gain 22 = .ok (.iload_n 1, 1) := by decide +kernel
theorem dX9_gain_23 : decode cX9_gain 23 = .ok (.iload_n 2, 1) := by decide +kernel
theorem dX9_gain_24 : decode cX9_gain 24 = .ok (.iload 4, 2) := by decide +kernel
theorem dX9_gain_26 : decode cX9_gain 26 = .ok (.invokevirtual 144, 3) := by decide +kernel
theorem dX9_gain_29 : decode cX9_gain 29 = .ok (.iconst 1, 1) := by decide +kernel
theorem dX9_gain_30 : decode cX9_gain 30 = .ok (.if_icmp .ne 16, 3) := by decide +kernel
theorem dX9_gain_33 : decode cX9_gain 33 = .ok (.aload_n 0, 1) := by decide +kernel
theorem dX9_gain_34 : decode cX9_gain 34 = .ok (.getfield 13, 3) := by decide +kernel
theorem dX9_gain_37 : decode cX9_gain 37 = .ok (.bipush 6, 2) := by decide +kernel
theorem dX9_gain_39 : decode cX9_gain 39 = .ok (.iload 4, 2) := by decide +kernel
theorem dX9_gain_41 : decode cX9_gain 41 = .ok (.iadd, 1) := by decide +kernel
theorem dX9_gain_42 : decode cX9_gain 42 = .ok (.iaload, 1) := by decide +kernel
theorem dX9_gain_43 : decode cX9_gain 43 = .ok (.goto 4, 3) := by decide +kernel
theorem dX9_gain_46 : decode cX9_gain 46 = .ok (.iconst 0, 1) := by decide +kernel
theorem dX9_gain_47 : decode cX9_gain 47 = .ok (.iadd, 1) := by decide +kernel
theorem dX9_gain_48 : decode cX9_gain 48 = .ok (.istore_n 3, 1) := by decide +kernel
theorem dX9_gain_49 : decode cX9_gain 49 = .ok (.iinc 4 1, 3) := by decide +kernel
theorem dX9_gain_52 : decode cX9_gain 52 = .ok (.goto (-47), 3) := by decide +kernel
theorem dX9_gain_55 : decode cX9_gain 55 = .ok (.iload_n 3, 1) := by decide +kernel
theorem dX9_gain_56 : decode cX9_gain 56 = .ok (.ireturn, 1) := by decide +kernel
theorem dX9_cell_0 : decode cX9_cell 0 = .ok (.aload_n 0, 1) := by decide +kernel
theorem dX9_cell_1 : decode cX9_cell 1 = .ok (.iload_n 1, 1) := by decide +kernel
theorem dX9_cell_2 : decode cX9_cell 2 = .ok (.invokevirtual 59, 3) := by decide +kernel
theorem dX9_cell_5 : decode cX9_cell 5 = .ok (.ifCond .eq 12, 3) := by decide +kernel
theorem dX9_cell_8 : decode cX9_cell 8 = .ok (.iload_n 2, 1) := by decide +kernel
theorem dX9_cell_9 : decode cX9_cell 9 = .ok (.iconst 0, 1) := by decide +kernel
theorem dX9_cell_10 : decode cX9_cell 10 = .ok (.iconst 5, 1) := by decide +kernel
theorem dX9_cell_11 : decode cX9_cell 11 = .ok (.invokestatic 55, 3) := by decide +kernel
theorem dX9_cell_14 : decode cX9_cell 14 = .ok (.ifCond .ne 5, 3) := by decide +kernel
theorem dX9_cell_17 : decode cX9_cell 17 = .ok (.iconst (-1), 1) := by decide +kernel
theorem dX9_cell_18 : decode cX9_cell 18 = .ok (.ireturn, 1) := by decide +kernel
theorem dX9_cell_19 : decode cX9_cell 19 = .ok (.aload_n 0, 1) := by decide +kernel
theorem dX9_cell_20 : decode cX9_cell 20 = .ok (.aload_n 0, 1) := by decide +kernel
theorem dX9_cell_21 : decode cX9_cell 21 = .ok (.getfield 19, 3) := by decide +kernel
theorem dX9_cell_24 : decode cX9_cell 24 = .ok (.iconst 1, 1) := by decide +kernel
theorem dX9_cell_25 : decode cX9_cell 25 = .ok (.iaload, 1) := by decide +kernel
theorem dX9_cell_26 : decode cX9_cell 26 = .ok (.invokevirtual 148, 3) := by decide +kernel
theorem dX9_cell_29 : decode cX9_cell 29 = .ok (.iload_n 2, 1) := by decide +kernel
theorem dX9_cell_30 : decode cX9_cell 30 = .ok (.iconst 4, 1) := by decide +kernel
theorem dX9_cell_31 : decode cX9_cell 31 = .ok (.if_icmp .ge 17, 3) := by decide +kernel
theorem dX9_cell_34 : decode cX9_cell 34 = .ok (.aload_n 0, 1) := by decide +kernel
theorem dX9_cell_35 : decode cX9_cell 35 = .ok (.getfield 35, 3) := by decide +kernel
theorem dX9_cell_38 : decode cX9_cell 38 = .ok (.bipush 16, 2) := by decide +kernel
theorem dX9_cell_40 : decode cX9_cell 40 = .ok (.iload_n 2, 1) := by decide +kernel
theorem dX9_cell_41 : decode cX9_cell 41 = .ok (.imul, 1) := by decide +kernel
theorem dX9_cell_42 : decode cX9_cell 42 = .ok (.iload_n 1, 1) := by decide +kernel
theorem dX9_cell_43 : decode cX9_cell 43 = .ok (.iadd, 1) := by decide +kernel
theorem dX9_cell_44 : decode cX9_cell 44 = .ok (.iaload, 1) := by decide +kernel
theorem dX9_cell_45 : decode cX9_cell 45 = .ok (.goto 26, 3) := by decide +kernel
theorem dX9_cell_48 : decode cX9_cell 48 = .ok (.iload_n 2, 1) := by decide +kernel
theorem dX9_cell_49 : decode cX9_cell 49 = .ok (.iconst 4, 1) := by decide +kernel
theorem dX9_cell_50 : decode cX9_cell 50 = .ok (.if_icmp .ne 15, 3) := by decide +kernel
theorem dX9_cell_53 : decode cX9_cell 53 = .ok (.aload_n 0, 1) := by decide +kernel
theorem dX9_cell_54 : decode cX9_cell 54 = .ok (.getfield 13, 3) := by decide +kernel
theorem dX9_cell_57 : decode cX9_cell 57 = .ok (.bipush 6, 2) := by decide +kernel
theorem dX9_cell_59 : decode cX9_cell 59 = .ok (.iload_n 1, 1) := by decide +kernel
theorem dX9_cell_60 : decode cX9_cell 60 = .ok (.iadd, 1) := by decide +kernel
theorem dX9_cell_61 : decode cX9_cell 61 = .ok (.iaload, 1) := by decide +kernel
theorem dX9_cell_62 : decode cX9_cell 62 = .ok (.goto 9, 3) := by decide +kernel
theorem dX9_cell_65 : decode cX9_cell 65 = .ok (.aload_n 0, 1) := by decide +kernel
theorem dX9_cell_66 : decode cX9_cell 66 = .ok (.iconst 0, 1) := by decide +kernel
theorem dX9_cell_67 : decode cX9_cell 67 = .ok (.iload_n 1, 1) := by decide +kernel
theorem dX9_cell_68 : decode cX9_cell 68 = .ok (.invokevirtual 151, 3) := by decide +kernel
theorem dX9_cell_71 : decode cX9_cell 71 = .ok (.ireturn, 1) := by decide +kernel
theorem dX9_at_0 : decode cX9_at 0 = .ok (.iload_n 1, 1) := by decide +kernel
theorem dX9_at_1 : decode cX9_at 1 = .ok (.ifCond .lt 11, 3) := by decide +kernel
theorem dX9_at_4 : decode cX9_at 4 = .ok (.iload_n 2, 1) := by decide +kernel
theorem dX9_at_5 : decode cX9_at 5 = .ok (.ifCond .lt 7, 3) := by decide +kernel
theorem dX9_at_8 : decode cX9_at 8 = .ok (.iload_n 3, 1) := by decide +kernel
theorem dX9_at_9 : decode cX9_at 9 = .ok (.ifCond .ge 5, 3) := by decide +kernel
theorem dX9_at_12 : decode cX9_at 12 = .ok (.iconst (-1), 1) := by decide +kernel
theorem dX9_at_13 : decode cX9_at 13 = .ok (.ireturn, 1) := by decide +kernel
theorem dX9_at_14 : decode cX9_at 14 = .ok (.aload_n 0, 1) := by decide +kernel
theorem dX9_at_15 : decode cX9_at 15 = .ok (.aload_n 0, 1) := by decide +kernel
theorem dX9_at_16 : decode cX9_at 16 = .ok (.getfield 19, 3) := by decide +kernel
theorem dX9_at_19 : decode cX9_at 19 = .ok (.iconst 1, 1) := by decide +kernel
theorem dX9_at_20 : decode cX9_at 20 = .ok (.iaload, 1) := by decide +kernel
theorem dX9_at_21 : decode cX9_at 21 = .ok (.invokevirtual 148, 3) := by decide +kernel
theorem dX9_at_24 : decode cX9_at 24 = .ok (.bipush (-9), 2) := by decide +kernel
theorem dX9_at_26 : decode cX9_at 26 = .ok (.istore 4, 2) := by decide +kernel
theorem dX9_at_28 : decode cX9_at 28 = .ok (.iconst 0, 1) := by decide +kernel
theorem dX9_at_29 : decode cX9_at 29 = .ok (.istore 5, 2) := by decide +kernel
theorem dX9_at_31 : decode cX9_at 31 = .ok (.iload 5, 2) := by decide +kernel
theorem dX9_at_33 : decode cX9_at 33 = .ok (.aload_n 0, 1) := by decide +kernel
theorem dX9_at_34 : decode cX9_at 34 = .ok (.invokevirtual 51, 3) := by decide +kernel
theorem dX9_at_37 : decode cX9_at 37 = .ok (.if_icmp .ge 57, 3) := by decide +kernel
theorem dX9_at_40 : decode cX9_at 40 = .ok (.aload_n 0, 1) := by decide +kernel
theorem dX9_at_41 : decode cX9_at 41 = .ok (.getfield 35, 3) := by decide +kernel
theorem dX9_at_44 : decode cX9_at 44 = .ok (.iload 5, 2) := by decide +kernel
theorem dX9_at_46 : decode cX9_at 46 = .ok (.iaload, 1) := by decide +kernel
theorem dX9_at_47 : decode cX9_at 47 = .ok (.iload_n 1, 1) := by decide +kernel
theorem dX9_at_48 : decode cX9_at 48 = .ok (.if_icmp .ne 36, 3) := by decide +kernel
theorem dX9_at_51 : decode cX9_at 51 = .ok (.aload_n 0, 1) := by decide +kernel
theorem dX9_at_52 : decode cX9_at 52 = .ok (.getfield 35, 3) := by decide +kernel
theorem dX9_at_55 : decode cX9_at 55 = .ok (.bipush 16, 2) := by decide +kernel
theorem dX9_at_57 : decode cX9_at 57 = .ok (.iload 5, 2) := by decide +kernel
theorem dX9_at_59 : decode cX9_at 59 = .ok (.iadd, 1) := by decide +kernel
theorem dX9_at_60 : decode cX9_at 60 = .ok (.iaload, 1) := by decide +kernel
theorem dX9_at_61 : decode cX9_at 61 = .ok (.iload_n 2, 1) := by decide +kernel
theorem dX9_at_62 : decode cX9_at 62 = .ok (.if_icmp .ne 22, 3) := by decide +kernel
theorem dX9_at_65 : decode cX9_at 65 = .ok (.aload_n 0, 1) := by decide +kernel
theorem dX9_at_66 : decode cX9_at 66 = .ok (.getfield 35, 3) := by decide +kernel
theorem dX9_at_69 : decode cX9_at 69 = .ok (.bipush 32, 2) := by decide +kernel
theorem dX9_at_71 : decode cX9_at 71 = .ok (.iload 5, 2) := by decide +kernel
theorem dX9_at_73 : decode cX9_at 73 = .ok (.iadd, 1) := by decide +kernel
theorem dX9_at_74 : decode cX9_at 74 = .ok (.iaload, 1) := by decide +kernel
theorem dX9_at_75 : decode cX9_at 75 = .ok (.iload_n 3, 1) := by decide +kernel
theorem dX9_at_76 : decode cX9_at 76 = .ok (.if_icmp .ne 8, 3) := by decide +kernel
theorem dX9_at_79 : decode cX9_at 79 = .ok (.iload 5, 2) := by decide +kernel
theorem dX9_at_81 : decode cX9_at 81 = .ok (.goto 5, 3) := by decide +kernel
theorem dX9_at_84 : decode cX9_at 84 = .ok (.iload 4, 2) := by decide +kernel
theorem dX9_at_86 : decode cX9_at 86 = .ok (.istore 4, 2) := by decide +kernel
theorem dX9_at_88 : decode cX9_at 88 = .ok (.iinc 5 1, 3) := by decide +kernel
theorem dX9_at_91 : decode cX9_at 91 = .ok (.goto (-60), 3) := by decide +kernel
theorem dX9_at_94 : decode cX9_at 94 = .ok (.iload 4, 2) := by decide +kernel
theorem dX9_at_96 : decode cX9_at 96 = .ok (.ireturn, 1) := by decide +kernel
theorem dX9_bends_0 : decode cX9_bends 0 = .ok (.iload_n 1, 1) := by decide +kernel
theorem dX9_bends_1 : decode cX9_bends 1 = .ok (.ifCond .ne 7, 3) := by decide +kernel
theorem dX9_bends_4 : decode cX9_bends 4 = .ok (.iconst 0, 1) := by decide +kernel
theorem dX9_bends_5 : decode cX9_bends 5 = .ok (.goto 5, 3) := by decide +kernel
theorem dX9_bends_8 : decode cX9_bends 8 = .ok (.bipush 16, 2) := by decide +kernel
theorem dX9_bends_10 : decode cX9_bends 10 = .ok (.istore 5, 2) := by decide +kernel
theorem dX9_bends_12 : decode cX9_bends 12 = .ok (.iload_n 1, 1) := by decide +kernel
theorem dX9_bends_13 : decode cX9_bends 13 = .ok (.ifCond .ne 8, 3) := by decide +kernel
theorem dX9_bends_16 : decode cX9_bends 16 = .ok (.bipush 16, 2) := by decide +kernel
theorem dX9_bends_18 : decode cX9_bends 18 = .ok (.goto 4, 3) := by decide +kernel
theorem dX9_bends_21 : decode cX9_bends 21 = .ok (.iconst 0, 1) := by decide +kernel
theorem dX9_bends_22 : decode cX9_bends 22 = .ok (.istore 6, 2) := by decide +kernel
theorem dX9_bends_24 : decode cX9_bends 24 = .ok (.aload_n 0, 1) := by decide +kernel
theorem dX9_bends_25 : decode cX9_bends 25 = .ok (.getfield 35, 3) := by decide +kernel
theorem dX9_bends_28 : decode cX9_bends 28 = .ok (.iload 5, 2) := by decide +kernel
theorem dX9_bends_30 : decode cX9_bends 30 = .ok (.iload_n 3, 1) := by decide +kernel
theorem dX9_bends_31 : decode cX9_bends 31 = .ok (.iadd, 1) := by decide +kernel
theorem dX9_bends_32 : decode cX9_bends 32 = .ok (.iaload, 1) := by decide +kernel
theorem dX9_bends_33 : decode cX9_bends 33 = .ok (.istore 7, 2) := by decide +kernel
theorem dX9_bends_35 : decode cX9_bends 35 = .ok (.aload_n 0, 1) := by decide +kernel
theorem dX9_bends_36 : decode cX9_bends 36 = .ok (.getfield 35, 3) := by decide +kernel
theorem dX9_bends_39 : decode cX9_bends 39 = .ok (.iload 5, 2) := by decide +kernel
theorem dX9_bends_41 : decode cX9_bends 41 = .ok (.iload 4, 2) := by decide +kernel
theorem dX9_bends_43 : decode cX9_bends 43 = .ok (.iadd, 1) := by decide +kernel
theorem dX9_bends_44 : decode cX9_bends 44 = .ok (.iaload, 1) := by decide +kernel
theorem dX9_bends_45 : decode cX9_bends 45 = .ok (.istore 8, 2) := by decide +kernel
theorem dX9_bends_47 : decode cX9_bends 47 = .ok (.aload_n 0, 1) := by decide +kernel
theorem dX9_bends_48 : decode cX9_bends 48 = .ok (.getfield 35, 3) := by decide +kernel
theorem dX9_bends_51 : decode cX9_bends 51 = .ok (.iload 6, 2) := by decide +kernel
theorem dX9_bends_53 : decode cX9_bends 53 = .ok (.iload_n 3, 1) := by decide +kernel
theorem dX9_bends_54 : decode cX9_bends 54 = .ok (.iadd, 1) := by decide +kernel
theorem dX9_bends_55 : decode cX9_bends 55 = .ok (.iaload, 1) := by decide +kernel
theorem dX9_bends_56 : decode cX9_bends 56 = .ok (.aload_n 0, 1) := by decide +kernel
theorem dX9_bends_57 : decode cX9_bends 57 = .ok (.getfield 35, 3) := by decide +kernel
theorem dX9_bends_60 : decode cX9_bends 60 = .ok (.iload 6, 2) := by decide +kernel
theorem dX9_bends_62 : decode cX9_bends 62 = .ok (.iload 4, 2) := by decide +kernel
theorem dX9_bends_64 : decode cX9_bends 64 = .ok (.iadd, 1) := by decide +kernel
theorem dX9_bends_65 : decode cX9_bends 65 = .ok (.iaload, 1) := by decide +kernel
theorem dX9_bends_66 : decode cX9_bends 66 = .ok (.if_icmp .ne 35, 3) := by decide +kernel
theorem dX9_bends_69 : decode cX9_bends 69 = .ok (.iload 7, 2) := by decide +kernel
theorem dX9_bends_71 : decode cX9_bends 71 = .ok (.iload_n 2, 1) := by decide +kernel
theorem dX9_bends_72 : decode cX9_bends 72 = .ok (.iconst 1, 1) := by decide +kernel
theorem dX9_bends_73 : decode cX9_bends 73 = .ok (.isub, 1) := by decide +kernel
theorem dX9_bends_74 : decode cX9_bends 74 = .ok (.if_icmp .ne 9, 3) := by decide +kernel
theorem dX9_bends_77 : decode cX9_bends 77 = .ok (.iload 8, 2) := by decide +kernel
theorem dX9_bends_79 : decode cX9_bends 79 = .ok (.iload_n 2, 1) := by decide +kernel
theorem dX9_bends_80 : decode cX9_bends 80 = .ok (.if_icmp .eq 17, 3) := by decide +kernel
theorem dX9_bends_83 : decode cX9_bends 83 = .ok (.iload 7, 2) := by decide +kernel
theorem dX9_bends_85 : decode cX9_bends 85 = .ok (.iload_n 2, 1) := by decide +kernel
theorem dX9_bends_86 : decode cX9_bends 86 = .ok (.if_icmp .ne 15, 3) := by decide +kernel
theorem dX9_bends_89 : decode cX9_bends 89 = .ok (.iload 8, 2) := by decide +kernel
theorem dX9_bends_91 : decode cX9_bends 91 = .ok (.iload_n 2, 1) := by decide +kernel
theorem dX9_bends_92 : decode cX9_bends 92 = .ok (.iconst 1, 1) := by decide +kernel
theorem dX9_bends_93 : decode cX9_bends 93 = .ok (.isub, 1) := by decide +kernel
theorem dX9_bends_94 : decode cX9_bends 94 = .ok (.if_icmp .ne 7, 3) := by decide +kernel
theorem dX9_bends_97 : decode cX9_bends 97 = .ok (.iconst 1, 1) := by decide +kernel
theorem dX9_bends_98 : decode cX9_bends 98 = .ok (.goto 4, 3) := by decide +kernel
theorem dX9_bends_101 : decode cX9_bends 101 = .ok (.iconst 0, 1) := by decide +kernel
theorem dX9_bends_102 : decode cX9_bends 102 = .ok (.ireturn, 1) := by decide +kernel
theorem dX9_neighbour_0 : decode cX9_neighbour 0 = .ok (.aload_n 0, 1) := by decide +kernel
theorem dX9_neighbour_1 : decode cX9_neighbour 1 = .ok (.getfield 13, 3) := by decide +kernel
theorem dX9_neighbour_4 : decode cX9_neighbour 4 = .ok (.iconst 0, 1) := by decide +kernel
theorem dX9_neighbour_5 : decode cX9_neighbour 5 = .ok (.iaload, 1) := by decide +kernel
theorem dX9_neighbour_6 : decode cX9_neighbour 6 = .ok (.istore_n 3, 1) := by decide +kernel
theorem dX9_neighbour_7 : decode cX9_neighbour 7 = .ok (.iload_n 2, 1) := by decide +kernel
theorem dX9_neighbour_8 : decode cX9_neighbour 8 = .ok (.ifCond .ne 21, 3) := by decide +kernel
theorem dX9_neighbour_11 : decode cX9_neighbour 11 = .ok (.iload_n 1, 1) := by decide +kernel
theorem dX9_neighbour_12 : decode cX9_neighbour 12 = .ok (.iload_n 3, 1) := by decide +kernel
theorem dX9_neighbour_13 : decode cX9_neighbour 13 = .ok (.irem, 1) := by decide +kernel
theorem dX9_neighbour_14 : decode cX9_neighbour 14 = .ok (.iload_n 3, 1) := by decide +kernel
theorem dX9_neighbour_15 : decode cX9_neighbour 15 = .ok (.iconst 1, 1) := by decide +kernel
theorem dX9_neighbour_16 : decode cX9_neighbour 16 = .ok (.isub, 1) := by decide +kernel
theorem dX9_neighbour_17 : decode cX9_neighbour 17 = .ok (.if_icmp .ge 9, 3) := by decide +kernel
theorem dX9_neighbour_20 : decode cX9_neighbour 20 = .ok (.iload_n 1, 1) := by decide +kernel
theorem dX9_neighbour_21 : decode cX9_neighbour 21 = .ok (.iconst 1, 1) := by decide +kernel
theorem dX9_neighbour_22 : decode cX9_neighbour 22 = .ok (.iadd, 1) := by decide +kernel
theorem dX9_neighbour_23 : decode cX9_neighbour 23 = .ok (.goto 5, 3) := by decide +kernel
theorem dX9_neighbour_26 : decode cX9_neighbour 26 = .ok (.bipush (-9), 2) := by decide +kernel
theorem dX9_neighbour_28 : decode cX9_neighbour 28 = .ok (.ireturn, 1) := by decide +kernel
theorem dX9_neighbour_29 : decode cX9_neighbour 29 = .ok (.iload_n 1, 1) := by decide +kernel
theorem dX9_neighbour_30 : decode cX9_neighbour 30 = .ok (.iload_n 3, 1) := by decide +kernel
theorem dX9_neighbour_31 : decode cX9_neighbour 31 = .ok (.iadd, 1) := by decide +kernel
theorem dX9_neighbour_32 : decode cX9_neighbour 32 = .ok (.aload_n 0, 1) := by decide +kernel
theorem dX9_neighbour_33 : decode cX9_neighbour 33 = .ok (.invokevirtual 51, 3) := by decide +kernel
theorem dX9_neighbour_36 : decode cX9_neighbour 36 = .ok (.if_icmp .ge 9, 3) := by decide +kernel
theorem dX9_neighbour_39 : decode cX9_neighbour 39 = .ok (.iload_n 1, 1) := by decide +kernel
theorem dX9_neighbour_40 : decode cX9_neighbour 40 = .ok (.iload_n 3, 1) := by decide +kernel
theorem dX9_neighbour_41 : decode cX9_neighbour 41 = .ok (.iadd, 1) := by decide +kernel
theorem dX9_neighbour_42 : decode cX9_neighbour 42 = .ok (.goto 5, 3) := by decide +kernel
theorem dX9_neighbour_45 : decode cX9_neighbour 45 = .ok (.bipush (-9), 2) := by decide +kernel
theorem dX9_neighbour_47 : decode cX9_neighbour 47 = .ok (.ireturn, 1) := by decide +kernel
theorem dX9_bendsAll_0 : decode cX9_bendsAll 0 = .ok (.iconst 0, 1) := by decide +kernel
theorem dX9_bendsAll_1 : decode cX9_bendsAll 1 = .ok (.istore_n 3, 1) := by decide +kernel
theorem dX9_bendsAll_2 : decode cX9_bendsAll 2 = .ok (.iconst 0, 1) := by decide +kernel
theorem dX9_bendsAll_3 : decode cX9_bendsAll 3 = .ok (.istore 4, 2) := by decide +kernel
theorem dX9_bendsAll_5 : decode cX9_bendsAll 5 = .ok (.iload 4, 2) := by decide +kernel
theorem dX9_bendsAll_7 : decode cX9_bendsAll 7 = .ok (.aload_n 0, 1) := by decide +kernel
theorem dX9_bendsAll_8 : decode cX9_bendsAll 8 = .ok (.invokevirtual 51, 3) := by decide +kernel
theorem dX9_bendsAll_11 : decode cX9_bendsAll 11 = .ok (.if_icmp .ge 112, 3) := by decide +kernel
theorem dX9_bendsAll_14 : decode cX9_bendsAll 14 = .ok (.iconst 0, 1) := by decide +kernel
theorem dX9_bendsAll_15 : decode cX9_bendsAll 15 = .ok (.istore 5, 2) := by decide +kernel
theorem dX9_bendsAll_17 : decode cX9_bendsAll 17 = .ok (.iload 5, 2) := by decide +kernel
theorem dX9_bendsAll_19 : decode cX9_bendsAll 19 = .ok (.iconst 2, 1) := by decide +kernel
theorem dX9_bendsAll_20 : decode cX9_bendsAll 20 = .ok (.if_icmp .ge 97, 3) := by decide +kernel
theorem dX9_bendsAll_23 : decode cX9_bendsAll 23 = .ok (.aload_n 0, 1) := by decide +kernel
theorem dX9_bendsAll_24 : decode cX9_bendsAll 24 = .ok (.iload 4, 2) := by decide +kernel
theorem dX9_bendsAll_26 : decode cX9_bendsAll 26 = .ok (.iload 5, 2) := by decide +kernel
theorem dX9_bendsAll_28 : decode cX9_bendsAll 28 = .ok (.invokevirtual 154, 3) := by decide +kernel
theorem dX9_bendsAll_31 : decode cX9_bendsAll 31 = .ok (.istore 6, 2) := by decide +kernel
theorem dX9_bendsAll_33 : decode cX9_bendsAll 33 = .ok (.iload 5, 2) := by decide +kernel
theorem dX9_bendsAll_35 : decode cX9_bendsAll 35 = .ok (.ifCond .ne 8, 3) := by decide +kernel
theorem dX9_bendsAll_38 : decode cX9_bendsAll 38 = .ok (.bipush 8, 2) := by decide +kernel
theorem dX9_bendsAll_40 : decode cX9_bendsAll 40 = .ok (.goto 5, 3) := by decide +kernel
theorem dX9_bendsAll_43 : decode cX9_bendsAll 43 = .ok (.bipush 24, 2) := by decide +kernel
theorem dX9_bendsAll_45 : decode cX9_bendsAll 45 = .ok (.iload 4, 2) := by decide +kernel
theorem dX9_bendsAll_47 : decode cX9_bendsAll 47 = .ok (.iadd, 1) := by decide +kernel
theorem dX9_bendsAll_48 : decode cX9_bendsAll 48 = .ok (.istore 7, 2) := by decide +kernel
theorem dX9_bendsAll_50 : decode cX9_bendsAll 50 = .ok (.iload 6, 2) := by decide +kernel
theorem dX9_bendsAll_52 : decode cX9_bendsAll 52 = .ok (.bipush (-9), 2) := by decide +kernel
theorem dX9_bendsAll_54 : decode cX9_bendsAll 54 = .ok (.if_icmp .eq 57, 3) := by decide +kernel
theorem dX9_bendsAll_57 : decode cX9_bendsAll 57 = .ok (.aload_n 0, 1) := by decide +kernel
theorem dX9_bendsAll_58 : decode cX9_bendsAll 58 = .ok (.iload_n 1, 1) := by decide +kernel
theorem dX9_bendsAll_59 : decode cX9_bendsAll 59 = .ok (.iconst 1, 1) := by decide +kernel
theorem dX9_bendsAll_60 : decode cX9_bendsAll 60 = .ok (.iand, 1) := by decide +kernel
theorem dX9_bendsAll_61 : decode cX9_bendsAll 61 = .ok (.iload_n 1, 1) := by decide +kernel
theorem dX9_bendsAll_62 : decode cX9_bendsAll 62 = .ok (.bipush 8, 2) := by decide +kernel
theorem dX9_bendsAll_64 : decode cX9_bendsAll 64 = .ok (.idiv, 1) := by decide +kernel
theorem dX9_bendsAll_65 : decode cX9_bendsAll 65 = .ok (.iconst 1, 1) := by decide +kernel
theorem dX9_bendsAll_66 : decode cX9_bendsAll 66 = .ok (.iadd, 1) := by decide +kernel
theorem dX9_bendsAll_67 : decode cX9_bendsAll 67 = .ok (.iload 4, 2) := by decide +kernel
theorem dX9_bendsAll_69 : decode cX9_bendsAll 69 = .ok (.iload 6, 2) := by decide +kernel
theorem dX9_bendsAll_71 : decode cX9_bendsAll 71 = .ok (.invokevirtual 157, 3) := by decide +kernel
theorem dX9_bendsAll_74 : decode cX9_bendsAll 74 = .ok (.ifCond .eq 37, 3) := by decide +kernel
theorem dX9_bendsAll_77 : decode cX9_bendsAll 77 = .ok (.aload_n 0, 1) := by decide +kernel
theorem dX9_bendsAll_78 : decode cX9_bendsAll 78 = .ok (.getfield 19, 3) := by decide +kernel
theorem dX9_bendsAll_81 : decode cX9_bendsAll 81 = .ok (.iload 7, 2) := by decide +kernel
theorem dX9_bendsAll_83 : decode cX9_bendsAll 83 = .ok (.dup2, 1) := by decide +kernel
theorem dX9_bendsAll_84 : decode cX9_bendsAll 84 = .ok (.iaload, 1) := by decide +kernel
theorem dX9_bendsAll_85 : decode cX9_bendsAll 85 = .ok (.iload_n 2, 1) := by decide +kernel
theorem dX9_bendsAll_86 : decode cX9_bendsAll 86 = .ok (.iadd, 1) := by decide +kernel
theorem dX9_bendsAll_87 : decode cX9_bendsAll 87 = .ok (.iastore, 1) := by decide +kernel
theorem dX9_bendsAll_88 : decode cX9_bendsAll 88 = .ok (.aload_n 0, 1) := by decide +kernel
theorem dX9_bendsAll_89 : decode cX9_bendsAll 89 = .ok (.getfield 19, 3) := by decide +kernel
theorem dX9_bendsAll_92 : decode cX9_bendsAll 92 = .ok (.iload 7, 2) := by decide +kernel
theorem dX9_bendsAll_94 : decode cX9_bendsAll 94 = .ok (.iaload, 1) := by decide +kernel
theorem dX9_bendsAll_95 : decode cX9_bendsAll 95 = .ok (.iload_n 3, 1) := by decide +kernel
theorem dX9_bendsAll_96 : decode cX9_bendsAll 96 = .ok (.if_icmp .le 13, 3) := by decide +kernel
theorem dX9_bendsAll_99 : decode cX9_bendsAll 99 = .ok (.aload_n 0, 1) := by decide +kernel
theorem dX9_bendsAll_100 : decode cX9_bendsAll 100 = .ok (.getfield 19, 3) := by decide +kernel
theorem dX9_bendsAll_103 : decode cX9_bendsAll 103 = .ok (.iload 7, 2) := by decide +kernel
theorem dX9_bendsAll_105 : decode cX9_bendsAll 105 = .ok (.iaload, 1) := by decide +kernel
theorem dX9_bendsAll_106 : decode cX9_bendsAll 106 = .ok (.goto 4, 3) := by decide +kernel
theorem dX9_bendsAll_109 : decode cX9_bendsAll 109 = .ok (.iload_n 3, 1) := by decide +kernel
theorem dX9_bendsAll_110 : decode cX9_bendsAll 110 = .ok (.istore_n 3, 1) := by decide +kernel
theorem dX9_bendsAll_111 : decode cX9_bendsAll 111 = .ok (.iinc 5 1, 3) := by decide +kernel
theorem dX9_bendsAll_114 : decode cX9_bendsAll 114 = .ok (.goto (-97), 3) := by decide +kernel
theorem dX9_bendsAll_117 : decode cX9_bendsAll 117 = .ok (.iinc 4 1, 3) := by decide +kernel
theorem dX9_bendsAll_120 : decode cX9_bendsAll 120 = .ok (.goto (-115), 3) := by decide +kernel
theorem dX9_bendsAll_123 : decode cX9_bendsAll 123 = .ok (.iload_n 3, 1) := by decide +kernel
theorem dX9_bendsAll_124 : decode cX9_bendsAll 124 = .ok (.ireturn, 1) := by decide +kernel
theorem dX9_fold_0 : decode cX9_fold 0 = .ok (.iload_n 1, 1) := by decide +kernel
theorem dX9_fold_1 : decode cX9_fold 1 = .ok (.iconst 0, 1) := by decide +kernel
theorem dX9_fold_2 : decode cX9_fold 2 = .ok (.iconst 1, 1) := by decide +kernel
theorem dX9_fold_3 : decode cX9_fold 3 = .ok (.invokestatic 55, 3) := by decide +kernel
theorem dX9_fold_6 : decode cX9_fold 6 = .ok (.ifCond .eq 31, 3) := by decide +kernel
theorem dX9_fold_9 : decode cX9_fold 9 = .ok (.iload_n 2, 1) := by decide +kernel
theorem dX9_fold_10 : decode cX9_fold 10 = .ok (.iconst 1, 1) := by decide +kernel
theorem dX9_fold_11 : decode cX9_fold 11 = .ok (.iconst 3, 1) := by decide +kernel
theorem dX9_fold_12 : decode cX9_fold 12 = .ok (.invokestatic 55, 3) := by decide +kernel
theorem dX9_fold_15 : decode cX9_fold 15 = .ok (.ifCond .eq 22, 3) := by decide +kernel
theorem dX9_fold_18 : decode cX9_fold 18 = .ok (.iload_n 3, 1) := by decide +kernel
theorem dX9_fold_19 : decode cX9_fold 19 = .ok (.iconst 0, 1) := by decide +kernel
theorem dX9_fold_20 : decode cX9_fold 20 = .ok (.iconst 1, 1) := by decide +kernel
theorem dX9_fold_21 : decode cX9_fold 21 = .ok (.invokestatic 55, 3) := by decide +kernel
theorem dX9_fold_24 : decode cX9_fold 24 = .ok (.ifCond .eq 13, 3) := by decide +kernel
theorem dX9_fold_27 : decode cX9_fold 27 = .ok (.iload 4, 2) := by decide +kernel
theorem dX9_fold_29 : decode cX9_fold 29 = .ok (.iconst 0, 1) := by decide +kernel
theorem dX9_fold_30 : decode cX9_fold 30 = .ok (.iconst 1, 1) := by decide +kernel
theorem dX9_fold_31 : decode cX9_fold 31 = .ok (.invokestatic 55, 3) := by decide +kernel
theorem dX9_fold_34 : decode cX9_fold 34 = .ok (.ifCond .ne 5, 3) := by decide +kernel
theorem dX9_fold_37 : decode cX9_fold 37 = .ok (.iconst (-1), 1) := by decide +kernel
theorem dX9_fold_38 : decode cX9_fold 38 = .ok (.ireturn, 1) := by decide +kernel
theorem dX9_fold_39 : decode cX9_fold 39 = .ok (.iload_n 1, 1) := by decide +kernel
theorem dX9_fold_40 : decode cX9_fold 40 = .ok (.iconst 2, 1) := by decide +kernel
theorem dX9_fold_41 : decode cX9_fold 41 = .ok (.iload_n 3, 1) := by decide +kernel
theorem dX9_fold_42 : decode cX9_fold 42 = .ok (.imul, 1) := by decide +kernel
theorem dX9_fold_43 : decode cX9_fold 43 = .ok (.iadd, 1) := by decide +kernel
theorem dX9_fold_44 : decode cX9_fold 44 = .ok (.iconst 4, 1) := by decide +kernel
theorem dX9_fold_45 : decode cX9_fold 45 = .ok (.iload 4, 2) := by decide +kernel
theorem dX9_fold_47 : decode cX9_fold 47 = .ok (.imul, 1) := by decide +kernel
theorem dX9_fold_48 : decode cX9_fold 48 = .ok (.iadd, 1) := by decide +kernel
theorem dX9_fold_49 : decode cX9_fold 49 = .ok (.bipush 8, 2) := by decide +kernel
theorem dX9_fold_51 : decode cX9_fold 51 = .ok (.iload_n 2, 1) := by decide +kernel
theorem dX9_fold_52 : decode cX9_fold 52 = .ok (.iconst 1, 1) := by decide +kernel
theorem dX9_fold_53 : decode cX9_fold 53 = .ok (.isub, 1) := by decide +kernel
theorem dX9_fold_54 : decode cX9_fold 54 = .ok (.imul, 1) := by decide +kernel
theorem dX9_fold_55 : decode cX9_fold 55 = .ok (.iadd, 1) := by decide +kernel
theorem dX9_fold_56 : decode cX9_fold 56 = .ok (.istore 5, 2) := by decide +kernel
theorem dX9_fold_58 : decode cX9_fold 58 = .ok (.aload_n 0, 1) := by decide +kernel
theorem dX9_fold_59 : decode cX9_fold 59 = .ok (.aload_n 0, 1) := by decide +kernel
theorem dX9_fold_60 : decode cX9_fold 60 = .ok (.getfield 19, 3) := by decide +kernel
theorem dX9_fold_63 : decode cX9_fold 63 = .ok (.iconst 1, 1) := by decide +kernel
theorem dX9_fold_64 : decode cX9_fold 64 = .ok (.iaload, 1) := by decide +kernel
theorem dX9_fold_65 : decode cX9_fold 65 = .ok (.invokevirtual 148, 3) := by decide +kernel
theorem dX9_fold_68 : decode cX9_fold 68 = .ok (.iload_n 2, 1) := by decide +kernel
theorem dX9_fold_69 : decode cX9_fold 69 = .ok (.aload_n 0, 1) := by decide +kernel
theorem dX9_fold_70 : decode cX9_fold 70 = .ok (.getfield 38, 3) := by decide +kernel
theorem dX9_fold_73 : decode cX9_fold 73 = .ok (.iload_n 1, 1) := by decide +kernel
theorem dX9_fold_74 : decode cX9_fold 74 = .ok (.iaload, 1) := by decide +kernel
theorem dX9_fold_75 : decode cX9_fold 75 = .ok (.if_icmp .lt 6, 3) := by decide +kernel
theorem dX9_fold_78 : decode cX9_fold 78 = .ok (.bipush (-2), 2) := by decide +kernel
theorem dX9_fold_80 : decode cX9_fold 80 = .ok (.ireturn, 1) := by decide +kernel
theorem dX9_fold_81 : decode cX9_fold 81 = .ok (.aload_n 0, 1) := by decide +kernel
theorem dX9_fold_82 : decode cX9_fold 82 = .ok (.iload 5, 2) := by decide +kernel
theorem dX9_fold_84 : decode cX9_fold 84 = .ok (.iconst 1, 1) := by decide +kernel
theorem dX9_fold_85 : decode cX9_fold 85 = .ok (.invokevirtual 161, 3) := by decide +kernel
theorem dX9_fold_88 : decode cX9_fold 88 = .ok (.aload_n 0, 1) := by decide +kernel
theorem dX9_fold_89 : decode cX9_fold 89 = .ok (.getfield 13, 3) := by decide +kernel
theorem dX9_fold_92 : decode cX9_fold 92 = .ok (.iconst 2, 1) := by decide +kernel
theorem dX9_fold_93 : decode cX9_fold 93 = .ok (.iaload, 1) := by decide +kernel
theorem dX9_fold_94 : decode cX9_fold 94 = .ok (.if_icmp .le 14, 3) := by decide +kernel
theorem dX9_fold_97 : decode cX9_fold 97 = .ok (.aload_n 0, 1) := by decide +kernel
theorem dX9_fold_98 : decode cX9_fold 98 = .ok (.iload 5, 2) := by decide +kernel
theorem dX9_fold_100 : decode cX9_fold 100 = .ok (.iconst (-1), 1) := by decide +kernel
theorem dX9_fold_101 : decode cX9_fold 101 = .ok (.invokevirtual 161, 3) := by decide +kernel
theorem dX9_fold_104 : decode cX9_fold 104 = .ok (.pop, 1) := by decide +kernel
theorem dX9_fold_105 : decode cX9_fold 105 = .ok (.bipush (-2), 2) := by decide +kernel
theorem dX9_fold_107 : decode cX9_fold 107 = .ok (.ireturn, 1) := by decide +kernel
theorem dX9_fold_108 : decode cX9_fold 108 = .ok (.aload_n 0, 1) := by decide +kernel
theorem dX9_fold_109 : decode cX9_fold 109 = .ok (.getfield 19, 3) := by decide +kernel
theorem dX9_fold_112 : decode cX9_fold 112 = .ok (.iconst 2, 1) := by decide +kernel
theorem dX9_fold_113 : decode cX9_fold 113 = .ok (.aload_n 0, 1) := by decide +kernel
theorem dX9_fold_114 : decode cX9_fold 114 = .ok (.getfield 19, 3) := by decide +kernel
theorem dX9_fold_117 : decode cX9_fold 117 = .ok (.iconst 1, 1) := by decide +kernel
theorem dX9_fold_118 : decode cX9_fold 118 = .ok (.iaload, 1) := by decide +kernel
theorem dX9_fold_119 : decode cX9_fold 119 = .ok (.iadd, 1) := by decide +kernel
theorem dX9_fold_120 : decode cX9_fold 120 = .ok (.iload 5, 2) := by decide +kernel
theorem dX9_fold_122 : decode cX9_fold 122 = .ok (.iastore, 1) := by decide +kernel
theorem dX9_fold_123 : decode cX9_fold 123 = .ok (.aload_n 0, 1) := by decide +kernel
theorem dX9_fold_124 : decode cX9_fold 124 = .ok (.getfield 19, 3) := by decide +kernel
theorem dX9_fold_127 : decode cX9_fold 127 = .ok (.iconst 1, 1) := by decide +kernel
theorem dX9_fold_128 : decode cX9_fold 128 = .ok (.dup2, 1) := by decide +kernel
theorem dX9_fold_129 : decode cX9_fold 129 = .ok (.iaload, 1) := by decide +kernel
theorem dX9_fold_130 : decode cX9_fold 130 = .ok (.iconst 1, 1) := by decide +kernel
theorem dX9_fold_131 : decode cX9_fold 131 = .ok (.iadd, 1) := by decide +kernel
theorem dX9_fold_132 : decode cX9_fold 132 = .ok (.iastore, 1) := by decide +kernel
theorem dX9_fold_133 : decode cX9_fold 133 = .ok (.aload_n 0, 1) := by decide +kernel
theorem dX9_fold_134 : decode cX9_fold 134 = .ok (.aload_n 0, 1) := by decide +kernel
theorem dX9_fold_135 : decode cX9_fold 135 = .ok (.getfield 19, 3) := by decide +kernel
theorem dX9_fold_138 : decode cX9_fold 138 = .ok (.iconst 1, 1) := by decide +kernel
theorem dX9_fold_139 : decode cX9_fold 139 = .ok (.iaload, 1) := by decide +kernel
theorem dX9_fold_140 : decode cX9_fold 140 = .ok (.invokevirtual 148, 3) := by decide +kernel
theorem dX9_fold_143 : decode cX9_fold 143 = .ok (.aload_n 0, 1) := by decide +kernel
theorem dX9_fold_144 : decode cX9_fold 144 = .ok (.invokevirtual 164, 3) := by decide +kernel
theorem dX9_fold_147 : decode cX9_fold 147 = .ok (.ireturn, 1) := by decide +kernel
theorem dX9_undo_0 : decode cX9_undo 0 = .ok (.aload_n 0, 1) := by decide +kernel
theorem dX9_undo_1 : decode cX9_undo 1 = .ok (.getfield 19, 3) := by decide +kernel
theorem dX9_undo_4 : decode cX9_undo 4 = .ok (.iconst 1, 1) := by decide +kernel
theorem dX9_undo_5 : decode cX9_undo 5 = .ok (.iaload, 1) := by decide +kernel
theorem dX9_undo_6 : decode cX9_undo 6 = .ok (.ifCond .ne 6, 3) := by decide +kernel
theorem dX9_undo_9 : decode cX9_undo 9 = .ok (.bipush (-2), 2) := by decide +kernel
theorem dX9_undo_11 : decode cX9_undo 11 = .ok (.ireturn, 1) := by decide +kernel
theorem dX9_undo_12 : decode cX9_undo 12 = .ok (.aload_n 0, 1) := by decide +kernel
theorem dX9_undo_13 : decode cX9_undo 13 = .ok (.getfield 19, 3) := by decide +kernel
theorem dX9_undo_16 : decode cX9_undo 16 = .ok (.iconst 1, 1) := by decide +kernel
theorem dX9_undo_17 : decode cX9_undo 17 = .ok (.dup2, 1) := by decide +kernel
theorem dX9_undo_18 : decode cX9_undo 18 = .ok (.iaload, 1) := by decide +kernel
theorem dX9_undo_19 : decode cX9_undo 19 = .ok (.iconst 1, 1) := by decide +kernel
theorem dX9_undo_20 : decode cX9_undo 20 = .ok (.isub, 1) := by decide +kernel
theorem dX9_undo_21 : decode cX9_undo 21 = .ok (.iastore, 1) := by decide +kernel
theorem dX9_undo_22 : decode cX9_undo 22 = .ok (.aload_n 0, 1) := by decide +kernel
theorem dX9_undo_23 : decode cX9_undo 23 = .ok (.aload_n 0, 1) := by decide +kernel
theorem dX9_undo_24 : decode cX9_undo 24 = .ok (.getfield 19, 3) := by decide +kernel
theorem dX9_undo_27 : decode cX9_undo 27 = .ok (.iconst 1, 1) := by decide +kernel
theorem dX9_undo_28 : decode cX9_undo 28 = .ok (.iaload, 1) := by decide +kernel
theorem dX9_undo_29 : decode cX9_undo 29 = .ok (.invokevirtual 148, 3) := by decide +kernel
theorem dX9_undo_32 : decode cX9_undo 32 = .ok (.aload_n 0, 1) := by decide +kernel
theorem dX9_undo_33 : decode cX9_undo 33 = .ok (.aload_n 0, 1) := by decide +kernel
theorem dX9_undo_34 : decode cX9_undo 34 = .ok (.getfield 19, 3) := by decide +kernel
theorem dX9_undo_37 : decode cX9_undo 37 = .ok (.iconst 2, 1) := by decide +kernel
theorem dX9_undo_38 : decode cX9_undo 38 = .ok (.aload_n 0, 1) := by decide +kernel
theorem dX9_undo_39 : decode cX9_undo 39 = .ok (.getfield 19, 3) := by decide +kernel
theorem dX9_undo_42 : decode cX9_undo 42 = .ok (.iconst 1, 1) := by decide +kernel
theorem dX9_undo_43 : decode cX9_undo 43 = .ok (.iaload, 1) := by decide +kernel
theorem dX9_undo_44 : decode cX9_undo 44 = .ok (.iadd, 1) := by decide +kernel
theorem dX9_undo_45 : decode cX9_undo 45 = .ok (.iaload, 1) := by decide +kernel
theorem dX9_undo_46 : decode cX9_undo 46 = .ok (.iconst (-1), 1) := by decide +kernel
theorem dX9_undo_47 : decode cX9_undo 47 = .ok (.invokevirtual 161, 3) := by decide +kernel
theorem dX9_undo_50 : decode cX9_undo 50 = .ok (.pop, 1) := by decide +kernel
theorem dX9_undo_51 : decode cX9_undo 51 = .ok (.aload_n 0, 1) := by decide +kernel
theorem dX9_undo_52 : decode cX9_undo 52 = .ok (.getfield 19, 3) := by decide +kernel
theorem dX9_undo_55 : decode cX9_undo 55 = .ok (.iconst 1, 1) := by decide +kernel
theorem dX9_undo_56 : decode cX9_undo 56 = .ok (.iaload, 1) := by decide +kernel
theorem dX9_undo_57 : decode cX9_undo 57 = .ok (.ireturn, 1) := by decide +kernel
theorem dX9_day_0 : decode cX9_day 0 = .ok (.aload_n 0, 1) := by decide +kernel
theorem dX9_day_1 : decode cX9_day 1 = .ok (.getfield 19, 3) := by decide +kernel
theorem dX9_day_4 : decode cX9_day 4 = .ok (.iconst 1, 1) := by decide +kernel
theorem dX9_day_5 : decode cX9_day 5 = .ok (.iconst 0, 1) := by decide +kernel
theorem dX9_day_6 : decode cX9_day 6 = .ok (.iastore, 1) := by decide +kernel
theorem dX9_day_7 : decode cX9_day 7 = .ok (.aload_n 0, 1) := by decide +kernel
theorem dX9_day_8 : decode cX9_day 8 = .ok (.getfield 19, 3) := by decide +kernel
theorem dX9_day_11 : decode cX9_day 11 = .ok (.iconst 0, 1) := by decide +kernel
theorem dX9_day_12 : decode cX9_day 12 = .ok (.dup2, 1) := by decide +kernel
theorem dX9_day_13 : decode cX9_day 13 = .ok (.iaload, 1) := by decide +kernel
theorem dX9_day_14 : decode cX9_day 14 = .ok (.iconst 1, 1) := by decide +kernel
theorem dX9_day_15 : decode cX9_day 15 = .ok (.iadd, 1) := by decide +kernel
theorem dX9_day_16 : decode cX9_day 16 = .ok (.iastore, 1) := by decide +kernel
theorem dX9_day_17 : decode cX9_day 17 = .ok (.aload_n 0, 1) := by decide +kernel
theorem dX9_day_18 : decode cX9_day 18 = .ok (.getfield 19, 3) := by decide +kernel
theorem dX9_day_21 : decode cX9_day 21 = .ok (.iconst 0, 1) := by decide +kernel
theorem dX9_day_22 : decode cX9_day 22 = .ok (.iaload, 1) := by decide +kernel
theorem dX9_day_23 : decode cX9_day 23 = .ok (.ireturn, 1) := by decide +kernel
end
section
theorem dX9_bent_0 : decode cX9_bent 0 = .ok (.aload_n 0, 1) := by decide +kernel
theorem dX9_bent_1 : decode cX9_bent 1 = .ok (.iload_n 1, 1) := by decide +kernel
theorem dX9_bent_2 : decode cX9_bent 2 = .ok (.iload_n 2, 1) := by decide +kernel
theorem dX9_bent_3 : decode cX9_bent 3 = .ok (.invokevirtual 167, 3) := by decide +kernel
theorem dX9_bent_6 : decode cX9_bent 6 = .ok (.ifCond .ne 5, 3) := by decide +kernel
theorem dX9_bent_9 : decode cX9_bent 9 = .ok (.iconst (-1), 1) := by decide +kernel
theorem dX9_bent_10 : decode cX9_bent 10 = .ok (.ireturn, 1) := by decide +kernel
theorem dX9_bent_11 : decode cX9_bent 11 = .ok (.iload_n 1, 1) := by decide +kernel
theorem dX9_bent_12 : decode cX9_bent 12 = .ok (.iload_n 2, 1) := by decide +kernel
theorem dX9_bent_13 : decode cX9_bent 13 = .ok (.if_icmp .ge 7, 3) := by decide +kernel
theorem dX9_bent_16 : decode cX9_bent 16 = .ok (.iload_n 1, 1) := by decide +kernel
theorem dX9_bent_17 : decode cX9_bent 17 = .ok (.goto 4, 3) := by decide +kernel
theorem dX9_bent_20 : decode cX9_bent 20 = .ok (.iload_n 2, 1) := by decide +kernel
theorem dX9_bent_21 : decode cX9_bent 21 = .ok (.istore_n 3, 1) := by decide +kernel
theorem dX9_bent_22 : decode cX9_bent 22 = .ok (.iload_n 1, 1) := by decide +kernel
theorem dX9_bent_23 : decode cX9_bent 23 = .ok (.iload_n 2, 1) := by decide +kernel
theorem dX9_bent_24 : decode cX9_bent 24 = .ok (.if_icmp .ge 7, 3) := by decide +kernel
theorem dX9_bent_27 : decode cX9_bent 27 = .ok (.iload_n 2, 1) := by decide +kernel
theorem dX9_bent_28 : decode cX9_bent 28 = .ok (.goto 4, 3) := by decide +kernel
theorem dX9_bent_31 : decode cX9_bent 31 = .ok (.iload_n 1, 1) := by decide +kernel
theorem dX9_bent_32 : decode cX9_bent 32 = .ok (.istore 4, 2) := by decide +kernel
theorem dX9_bent_34 : decode cX9_bent 34 = .ok (.aload_n 0, 1) := by decide +kernel
theorem dX9_bent_35 : decode cX9_bent 35 = .ok (.iload_n 3, 1) := by decide +kernel
theorem dX9_bent_36 : decode cX9_bent 36 = .ok (.iconst 0, 1) := by decide +kernel
theorem dX9_bent_37 : decode cX9_bent 37 = .ok (.invokevirtual 154, 3) := by decide +kernel
theorem dX9_bent_40 : decode cX9_bent 40 = .ok (.iload 4, 2) := by decide +kernel
theorem dX9_bent_42 : decode cX9_bent 42 = .ok (.if_icmp .ne 15, 3) := by decide +kernel
theorem dX9_bent_45 : decode cX9_bent 45 = .ok (.aload_n 0, 1) := by decide +kernel
theorem dX9_bent_46 : decode cX9_bent 46 = .ok (.getfield 19, 3) := by decide +kernel
theorem dX9_bent_49 : decode cX9_bent 49 = .ok (.bipush 8, 2) := by decide +kernel
theorem dX9_bent_51 : decode cX9_bent 51 = .ok (.iload_n 3, 1) := by decide +kernel
theorem dX9_bent_52 : decode cX9_bent 52 = .ok (.iadd, 1) := by decide +kernel
theorem dX9_bent_53 : decode cX9_bent 53 = .ok (.iaload, 1) := by decide +kernel
theorem dX9_bent_54 : decode cX9_bent 54 = .ok (.goto 27, 3) := by decide +kernel
theorem dX9_bent_57 : decode cX9_bent 57 = .ok (.aload_n 0, 1) := by decide +kernel
theorem dX9_bent_58 : decode cX9_bent 58 = .ok (.iload_n 3, 1) := by decide +kernel
theorem dX9_bent_59 : decode cX9_bent 59 = .ok (.iconst 1, 1) := by decide +kernel
theorem dX9_bent_60 : decode cX9_bent 60 = .ok (.invokevirtual 154, 3) := by decide +kernel
theorem dX9_bent_63 : decode cX9_bent 63 = .ok (.iload 4, 2) := by decide +kernel
theorem dX9_bent_65 : decode cX9_bent 65 = .ok (.if_icmp .ne 15, 3) := by decide +kernel
theorem dX9_bent_68 : decode cX9_bent 68 = .ok (.aload_n 0, 1) := by decide +kernel
theorem dX9_bent_69 : decode cX9_bent 69 = .ok (.getfield 19, 3) := by decide +kernel
theorem dX9_bent_72 : decode cX9_bent 72 = .ok (.bipush 24, 2) := by decide +kernel
theorem dX9_bent_74 : decode cX9_bent 74 = .ok (.iload_n 3, 1) := by decide +kernel
theorem dX9_bent_75 : decode cX9_bent 75 = .ok (.iadd, 1) := by decide +kernel
theorem dX9_bent_76 : decode cX9_bent 76 = .ok (.iaload, 1) := by decide +kernel
theorem dX9_bent_77 : decode cX9_bent 77 = .ok (.goto 4, 3) := by decide +kernel
theorem dX9_bent_80 : decode cX9_bent 80 = .ok (.iconst (-1), 1) := by decide +kernel
theorem dX9_bent_81 : decode cX9_bent 81 = .ok (.ireturn, 1) := by decide +kernel
theorem dX9_touch_0 : decode cX9_touch 0 = .ok (.aload_n 0, 1) := by decide +kernel
theorem dX9_touch_1 : decode cX9_touch 1 = .ok (.iload_n 1, 1) := by decide +kernel
theorem dX9_touch_2 : decode cX9_touch 2 = .ok (.iload_n 2, 1) := by decide +kernel
theorem dX9_touch_3 : decode cX9_touch 3 = .ok (.invokevirtual 167, 3) := by decide +kernel
theorem dX9_touch_6 : decode cX9_touch 6 = .ok (.ifCond .ne 5, 3) := by decide +kernel
theorem dX9_touch_9 : decode cX9_touch 9 = .ok (.iconst (-1), 1) := by decide +kernel
theorem dX9_touch_10 : decode cX9_touch 10 = .ok (.ireturn, 1) := by decide +kernel
theorem dX9_touch_11 : decode cX9_touch 11 = .ok (.aload_n 0, 1) := by decide +kernel
theorem dX9_touch_12 : decode cX9_touch 12 = .ok (.aload_n 0, 1) := by decide +kernel
theorem dX9_touch_13 : decode cX9_touch 13 = .ok (.getfield 19, 3) := by decide +kernel
theorem dX9_touch_16 : decode cX9_touch 16 = .ok (.iconst 1, 1) := by decide +kernel
theorem dX9_touch_17 : decode cX9_touch 17 = .ok (.iaload, 1) := by decide +kernel
theorem dX9_touch_18 : decode cX9_touch 18 = .ok (.invokevirtual 148, 3) := by decide +kernel
theorem dX9_touch_21 : decode cX9_touch 21 = .ok (.aload_n 0, 1) := by decide +kernel
theorem dX9_touch_22 : decode cX9_touch 22 = .ok (.iconst 0, 1) := by decide +kernel
theorem dX9_touch_23 : decode cX9_touch 23 = .ok (.iload_n 1, 1) := by decide +kernel
theorem dX9_touch_24 : decode cX9_touch 24 = .ok (.iload_n 2, 1) := by decide +kernel
theorem dX9_touch_25 : decode cX9_touch 25 = .ok (.invokevirtual 144, 3) := by decide +kernel
theorem dX9_touch_28 : decode cX9_touch 28 = .ok (.ireturn, 1) := by decide +kernel
theorem dX9_packet_0 : decode cX9_packet 0 = .ok (.iload_n 1, 1) := by decide +kernel
theorem dX9_packet_1 : decode cX9_packet 1 = .ok (.iconst 0, 1) := by decide +kernel
theorem dX9_packet_2 : decode cX9_packet 2 = .ok (.iconst 4, 1) := by decide +kernel
theorem dX9_packet_3 : decode cX9_packet 3 = .ok (.invokestatic 55, 3) := by decide +kernel
theorem dX9_packet_6 : decode cX9_packet 6 = .ok (.ifCond .ne 5, 3) := by decide +kernel
theorem dX9_packet_9 : decode cX9_packet 9 = .ok (.iconst (-1), 1) := by decide +kernel
theorem dX9_packet_10 : decode cX9_packet 10 = .ok (.ireturn, 1) := by decide +kernel
theorem dX9_packet_11 : decode cX9_packet 11 = .ok (.aload_n 0, 1) := by decide +kernel
theorem dX9_packet_12 : decode cX9_packet 12 = .ok (.aload_n 0, 1) := by decide +kernel
theorem dX9_packet_13 : decode cX9_packet 13 = .ok (.getfield 19, 3) := by decide +kernel
theorem dX9_packet_16 : decode cX9_packet 16 = .ok (.iconst 1, 1) := by decide +kernel
theorem dX9_packet_17 : decode cX9_packet 17 = .ok (.iaload, 1) := by decide +kernel
theorem dX9_packet_18 : decode cX9_packet 18 = .ok (.invokevirtual 148, 3) := by decide +kernel
theorem dX9_packet_21 : decode cX9_packet 21 = .ok (.iconst 0, 1) := by decide +kernel
theorem dX9_packet_22 : decode cX9_packet 22 = .ok (.istore_n 2, 1) := by decide +kernel
theorem dX9_packet_23 : decode cX9_packet 23 = .ok (.iconst 0, 1) := by decide +kernel
theorem dX9_packet_24 : decode cX9_packet 24 = .ok (.istore_n 3, 1) := by decide +kernel
theorem dX9_packet_25 : decode cX9_packet 25 = .ok (.iload_n 3, 1) := by decide +kernel
theorem dX9_packet_26 : decode cX9_packet 26 = .ok (.aload_n 0, 1) := by decide +kernel
theorem dX9_packet_27 : decode cX9_packet 27 = .ok (.getfield 13, 3) := by decide +kernel
theorem dX9_packet_30 : decode cX9_packet 30 = .ok (.iconst 3, 1) := by decide +kernel
theorem dX9_packet_31 : decode cX9_packet 31 = .ok (.iaload, 1) := by decide +kernel
theorem dX9_packet_32 : decode cX9_packet 32 = .ok (.if_icmp .ge 44, 3) := by decide +kernel
theorem dX9_packet_35 : decode cX9_packet 35 = .ok (.iload_n 2, 1) := by decide +kernel
theorem dX9_packet_36 : decode cX9_packet 36 = .ok (.aload_n 0, 1) := by decide +kernel
theorem dX9_packet_37 : decode cX9_packet 37 = .ok (.iconst 0, 1) := by decide +kernel
theorem dX9_packet_38 : decode cX9_packet 38 = .ok (.aload_n 0, 1) := by decide +kernel
theorem dX9_packet_39 : decode cX9_packet 39 = .ok (.getfield 13, 3) := by decide +kernel
theorem dX9_packet_42 : decode cX9_packet 42 = .ok (.bipush 22, 2) := by decide +kernel
theorem dX9_packet_44 : decode cX9_packet 44 = .ok (.iload_n 3, 1) := by decide +kernel
theorem dX9_packet_45 : decode cX9_packet 45 = .ok (.iadd, 1) := by decide +kernel
theorem dX9_packet_46 : decode cX9_packet 46 = .ok (.iaload, 1) := by decide +kernel
theorem dX9_packet_47 : decode cX9_packet 47 = .ok (.aload_n 0, 1) := by decide +kernel
theorem dX9_packet_48 : decode cX9_packet 48 = .ok (.getfield 13, 3) := by decide +kernel
theorem dX9_packet_51 : decode cX9_packet 51 = .ok (.bipush 28, 2) := by decide +kernel
theorem dX9_packet_53 : decode cX9_packet 53 = .ok (.iload_n 3, 1) := by decide +kernel
theorem dX9_packet_54 : decode cX9_packet 54 = .ok (.iadd, 1) := by decide +kernel
theorem dX9_packet_55 : decode cX9_packet 55 = .ok (.iaload, 1) := by decide +kernel
theorem dX9_packet_56 : decode cX9_packet 56 = .ok (.invokevirtual 144, 3) := by decide +kernel
theorem dX9_packet_59 : decode cX9_packet 59 = .ok (.iconst 1, 1) := by decide +kernel
theorem dX9_packet_60 : decode cX9_packet 60 = .ok (.if_icmp .ne 7, 3) := by decide +kernel
theorem dX9_packet_63 : decode cX9_packet 63 = .ok (.iconst 1, 1) := by decide +kernel
theorem dX9_packet_64 : decode cX9_packet 64 = .ok (.goto 4, 3) := by decide +kernel
theorem dX9_packet_67 : decode cX9_packet 67 = .ok (.iconst 0, 1) := by decide +kernel
theorem dX9_packet_68 : decode cX9_packet 68 = .ok (.iadd, 1) := by decide +kernel
theorem dX9_packet_69 : decode cX9_packet 69 = .ok (.istore_n 2, 1) := by decide +kernel
theorem dX9_packet_70 : decode cX9_packet 70 = .ok (.iinc 3 1, 3) := by decide +kernel
theorem dX9_packet_73 : decode cX9_packet 73 = .ok (.goto (-48), 3) := by decide +kernel
theorem dX9_packet_76 : decode cX9_packet 76 = .ok (.iconst 0, 1) := by decide +kernel
theorem dX9_packet_77 : decode cX9_packet 77 = .ok (.istore_n 3, 1) := by decide +kernel
theorem dX9_packet_78 : decode cX9_packet 78 = .ok (.iconst 0, 1) := by decide +kernel
theorem dX9_packet_79 : decode cX9_packet 79 = .ok (.istore 4, 2) := by decide +kernel
theorem dX9_packet_81 : decode cX9_packet 81 = .ok (.iload 4, 2) := by decide +kernel
theorem dX9_packet_83 : decode cX9_packet 83 = .ok (.aload_n 0, 1) := by decide +kernel
theorem dX9_packet_84 : decode cX9_packet 84 = .ok (.invokevirtual 51, 3) := by decide +kernel
theorem dX9_packet_87 : decode cX9_packet 87 = .ok (.if_icmp .ge 46, 3) := by decide +kernel
theorem dX9_packet_90 : decode cX9_packet 90 = .ok (.iconst 0, 1) := by decide +kernel
theorem dX9_packet_91 : decode cX9_packet 91 = .ok (.istore 5, 2) := by decide +kernel
theorem dX9_packet_93 : decode cX9_packet 93 = .ok (.iload 5, 2) := by decide +kernel
theorem dX9_packet_95 : decode cX9_packet 95 = .ok (.iload 4, 2) := by decide +kernel
theorem dX9_packet_97 : decode cX9_packet 97 = .ok (.if_icmp .ge 30, 3) := by decide +kernel
theorem dX9_packet_100 : decode cX9_packet 100 = .ok (.iload_n 3, 1) := by decide +kernel
theorem dX9_packet_101 : decode cX9_packet 101 = .ok (.aload_n 0, 1) := by decide +kernel
theorem dX9_packet_102 : decode cX9_packet 102 = .ok (.iconst 0, 1) := by decide +kernel
theorem dX9_packet_103 : decode cX9_packet 103 = .ok (.iload 4, 2) := by decide +kernel
theorem dX9_packet_105 : decode cX9_packet 105 = .ok (.iload 5, 2) := by decide +kernel
theorem dX9_packet_107 : decode cX9_packet 107 = .ok (.invokevirtual 144, 3) := by decide +kernel
theorem dX9_packet_110 : decode cX9_packet 110 = .ok (.iconst 1, 1) := by decide +kernel
theorem dX9_packet_111 : decode cX9_packet 111 = .ok (.if_icmp .ne 7, 3) := by decide +kernel
theorem dX9_packet_114 : decode cX9_packet 114 = .ok (.iconst 1, 1) := by decide +kernel
theorem dX9_packet_115 : decode cX9_packet 115 = .ok (.goto 4, 3) := by decide +kernel
theorem dX9_packet_118 : decode cX9_packet 118 = .ok (.iconst 0, 1) := by decide +kernel
theorem dX9_packet_119 : decode cX9_packet 119 = .ok (.iadd, 1) := by decide +kernel
theorem dX9_packet_120 : decode cX9_packet 120 = .ok (.istore_n 3, 1) := by decide +kernel
theorem dX9_packet_121 : decode cX9_packet 121 = .ok (.iinc 5 1, 3) := by decide +kernel
theorem dX9_packet_124 : decode cX9_packet 124 = .ok (.goto (-31), 3) := by decide +kernel
theorem dX9_packet_127 : decode cX9_packet 127 = .ok (.iinc 4 1, 3) := by decide +kernel
theorem dX9_packet_130 : decode cX9_packet 130 = .ok (.goto (-49), 3) := by decide +kernel
theorem dX9_packet_133 : decode cX9_packet 133 = .ok (.iload_n 1, 1) := by decide +kernel
theorem dX9_packet_134 : decode cX9_packet 134 = .ok (.iconst 2, 1) := by decide +kernel
theorem dX9_packet_135 : decode cX9_packet 135 = .ok (.if_icmp .ge 12, 3) := by decide +kernel
theorem dX9_packet_138 : decode cX9_packet 138 = .ok (.aload_n 0, 1) := by decide +kernel
theorem dX9_packet_139 : decode cX9_packet 139 = .ok (.getfield 38, 3) := by decide +kernel
theorem dX9_packet_142 : decode cX9_packet 142 = .ok (.iload_n 1, 1) := by decide +kernel
theorem dX9_packet_143 : decode cX9_packet 143 = .ok (.iaload, 1) := by decide +kernel
theorem dX9_packet_144 : decode cX9_packet 144 = .ok (.goto 25, 3) := by decide +kernel
theorem dX9_packet_147 : decode cX9_packet 147 = .ok (.iload_n 1, 1) := by decide +kernel
theorem dX9_packet_148 : decode cX9_packet 148 = .ok (.iconst 2, 1) := by decide +kernel
theorem dX9_packet_149 : decode cX9_packet 149 = .ok (.if_icmp .ne 10, 3) := by decide +kernel
theorem dX9_packet_152 : decode cX9_packet 152 = .ok (.aload_n 0, 1) := by decide +kernel
theorem dX9_packet_153 : decode cX9_packet 153 = .ok (.invokevirtual 164, 3) := by decide +kernel
theorem dX9_packet_156 : decode cX9_packet 156 = .ok (.goto 13, 3) := by decide +kernel
theorem dX9_packet_159 : decode cX9_packet 159 = .ok (.iload_n 1, 1) := by decide +kernel
theorem dX9_packet_160 : decode cX9_packet 160 = .ok (.iconst 3, 1) := by decide +kernel
theorem dX9_packet_161 : decode cX9_packet 161 = .ok (.if_icmp .ne 7, 3) := by decide +kernel
theorem dX9_packet_164 : decode cX9_packet 164 = .ok (.iload_n 2, 1) := by decide +kernel
theorem dX9_packet_165 : decode cX9_packet 165 = .ok (.goto 4, 3) := by decide +kernel
theorem dX9_packet_168 : decode cX9_packet 168 = .ok (.iload_n 3, 1) := by decide +kernel
theorem dX9_packet_169 : decode cX9_packet 169 = .ok (.ireturn, 1) := by decide +kernel
theorem dX9_reaches_0 : decode cX9_reaches 0 = .ok (.iload_n 3, 1) := by decide +kernel
theorem dX9_reaches_1 : decode cX9_reaches 1 = .ok (.ifCond .ne 21, 3) := by decide +kernel
theorem dX9_reaches_4 : decode cX9_reaches 4 = .ok (.aload_n 0, 1) := by decide +kernel
theorem dX9_reaches_5 : decode cX9_reaches 5 = .ok (.iconst 0, 1) := by decide +kernel
theorem dX9_reaches_6 : decode cX9_reaches 6 = .ok (.iload_n 1, 1) := by decide +kernel
theorem dX9_reaches_7 : decode cX9_reaches 7 = .ok (.iload_n 2, 1) := by decide +kernel
theorem dX9_reaches_8 : decode cX9_reaches 8 = .ok (.invokevirtual 144, 3) := by decide +kernel
theorem dX9_reaches_11 : decode cX9_reaches 11 = .ok (.iconst 1, 1) := by decide +kernel
theorem dX9_reaches_12 : decode cX9_reaches 12 = .ok (.if_icmp .ne 7, 3) := by decide +kernel
theorem dX9_reaches_15 : decode cX9_reaches 15 = .ok (.iconst 0, 1) := by decide +kernel
theorem dX9_reaches_16 : decode cX9_reaches 16 = .ok (.goto 5, 3) := by decide +kernel
theorem dX9_reaches_19 : decode cX9_reaches 19 = .ok (.bipush (-9), 2) := by decide +kernel
theorem dX9_reaches_21 : decode cX9_reaches 21 = .ok (.ireturn, 1) := by decide +kernel
theorem dX9_reaches_22 : decode cX9_reaches 22 = .ok (.iconst 0, 1) := by decide +kernel
theorem dX9_reaches_23 : decode cX9_reaches 23 = .ok (.istore 4, 2) := by decide +kernel
theorem dX9_reaches_25 : decode cX9_reaches 25 = .ok (.iload 4, 2) := by decide +kernel
theorem dX9_reaches_27 : decode cX9_reaches 27 = .ok (.bipush 24, 2) := by decide +kernel
theorem dX9_reaches_29 : decode cX9_reaches 29 = .ok (.if_icmp .ge 45, 3) := by decide +kernel
theorem dX9_reaches_32 : decode cX9_reaches 32 = .ok (.aload_n 0, 1) := by decide +kernel
theorem dX9_reaches_33 : decode cX9_reaches 33 = .ok (.iconst 0, 1) := by decide +kernel
theorem dX9_reaches_34 : decode cX9_reaches 34 = .ok (.iload 4, 2) := by decide +kernel
theorem dX9_reaches_36 : decode cX9_reaches 36 = .ok (.invokevirtual 136, 3) := by decide +kernel
theorem dX9_reaches_39 : decode cX9_reaches 39 = .ok (.ifCond .eq 15, 3) := by decide +kernel
theorem dX9_reaches_42 : decode cX9_reaches 42 = .ok (.aload_n 0, 1) := by decide +kernel
theorem dX9_reaches_43 : decode cX9_reaches 43 = .ok (.iload_n 1, 1) := by decide +kernel
theorem dX9_reaches_44 : decode cX9_reaches 44 = .ok (.iload_n 2, 1) := by decide +kernel
theorem dX9_reaches_45 : decode cX9_reaches 45 = .ok (.iload_n 3, 1) := by decide +kernel
theorem dX9_reaches_46 : decode cX9_reaches 46 = .ok (.iload 4, 2) := by decide +kernel
theorem dX9_reaches_48 : decode cX9_reaches 48 = .ok (.invokevirtual 170, 3) := by decide +kernel
theorem dX9_reaches_51 : decode cX9_reaches 51 = .ok (.goto 5, 3) := by decide +kernel
theorem dX9_reaches_54 : decode cX9_reaches 54 = .ok (.bipush (-9), 2) := by decide +kernel
theorem dX9_reaches_56 : decode cX9_reaches 56 = .ok (.istore 5, 2) := by decide +kernel
theorem dX9_reaches_58 : decode cX9_reaches 58 = .ok (.iload 5, 2) := by decide +kernel
theorem dX9_reaches_60 : decode cX9_reaches 60 = .ok (.bipush (-9), 2) := by decide +kernel
theorem dX9_reaches_62 : decode cX9_reaches 62 = .ok (.if_icmp .eq 6, 3) := by decide +kernel
theorem dX9_reaches_65 : decode cX9_reaches 65 = .ok (.iload 5, 2) := by decide +kernel
theorem dX9_reaches_67 : decode cX9_reaches 67 = .ok (.ireturn, 1) := by decide +kernel
theorem dX9_reaches_68 : decode cX9_reaches 68 = .ok (.iinc 4 1, 3) := by decide +kernel
theorem dX9_reaches_71 : decode cX9_reaches 71 = .ok (.goto (-46), 3) := by decide +kernel
theorem dX9_reaches_74 : decode cX9_reaches 74 = .ok (.bipush (-9), 2) := by decide +kernel
theorem dX9_reaches_76 : decode cX9_reaches 76 = .ok (.ireturn, 1) := by decide +kernel
theorem dX9_reachesOn_0 : decode cX9_reachesOn 0 = .ok (.iload_n 3, 1) := by decide +kernel
theorem dX9_reachesOn_1 : decode cX9_reachesOn 1 = .ok (.iconst 1, 1) := by decide +kernel
theorem dX9_reachesOn_2 : decode cX9_reachesOn 2 = .ok (.if_icmp .ne 22, 3) := by decide +kernel
theorem dX9_reachesOn_5 : decode cX9_reachesOn 5 = .ok (.aload_n 0, 1) := by decide +kernel
theorem dX9_reachesOn_6 : decode cX9_reachesOn 6 = .ok (.iconst 1, 1) := by decide +kernel
theorem dX9_reachesOn_7 : decode cX9_reachesOn 7 = .ok (.iload_n 1, 1) := by decide +kernel
theorem dX9_reachesOn_8 : decode cX9_reachesOn 8 = .ok (.iload_n 2, 1) := by decide +kernel
theorem dX9_reachesOn_9 : decode cX9_reachesOn 9 = .ok (.invokevirtual 144, 3) := by decide +kernel
theorem dX9_reachesOn_12 : decode cX9_reachesOn 12 = .ok (.iconst 1, 1) := by decide +kernel
theorem dX9_reachesOn_13 : decode cX9_reachesOn 13 = .ok (.if_icmp .ne 8, 3) := by decide +kernel
theorem dX9_reachesOn_16 : decode cX9_reachesOn 16 = .ok (.iload 4, 2) := by decide +kernel
theorem dX9_reachesOn_18 : decode cX9_reachesOn 18 = .ok (.goto 5, 3) := by decide +kernel
theorem dX9_reachesOn_21 : decode cX9_reachesOn 21 = .ok (.bipush (-9), 2) := by decide +kernel
theorem dX9_reachesOn_23 : decode cX9_reachesOn 23 = .ok (.ireturn, 1) := by decide +kernel
theorem dX9_reachesOn_24 : decode cX9_reachesOn 24 = .ok (.iconst 0, 1) := by decide +kernel
theorem dX9_reachesOn_25 : decode cX9_reachesOn 25 = .ok (.istore 5, 2) := by decide +kernel
theorem dX9_reachesOn_27 : decode cX9_reachesOn 27 = .ok (.iload 5, 2) := by decide +kernel
theorem dX9_reachesOn_29 : decode cX9_reachesOn 29 = .ok (.bipush 24, 2) := by decide +kernel
theorem dX9_reachesOn_31 : decode cX9_reachesOn 31 = .ok (.if_icmp .ge 110, 3) := by decide +kernel
theorem dX9_reachesOn_34 : decode cX9_reachesOn 34 = .ok (.aload_n 0, 1) := by decide +kernel
theorem dX9_reachesOn_35 : decode cX9_reachesOn 35 = .ok (.iconst 1, 1) := by decide +kernel
theorem dX9_reachesOn_36 : decode cX9_reachesOn 36 = .ok (.iload 5, 2) := by decide +kernel
theorem dX9_reachesOn_38 : decode cX9_reachesOn 38 = .ok (.invokevirtual 136, 3) := by decide +kernel
theorem dX9_reachesOn_41 : decode cX9_reachesOn 41 = .ok (.istore 6, 2) := by decide +kernel
theorem dX9_reachesOn_43 : decode cX9_reachesOn 43 = .ok (.iload 6, 2) := by decide +kernel
theorem dX9_reachesOn_45 : decode cX9_reachesOn 45 = .ok (.ifCond .eq 28, 3) := by decide +kernel
theorem dX9_reachesOn_48 : decode cX9_reachesOn 48 = .ok (.iload_n 3, 1) := by decide +kernel
theorem dX9_reachesOn_49 : decode cX9_reachesOn 49 = .ok (.iconst 2, 1) := by decide +kernel
theorem dX9_reachesOn_50 : decode cX9_reachesOn 50 = .ok (.if_icmp .ne 23, 3) := by decide +kernel
theorem dX9_reachesOn_53 : decode cX9_reachesOn 53 = .ok (.aload_n 0, 1) := by decide +kernel
theorem dX9_reachesOn_54 : decode cX9_reachesOn 54 = .ok (.iconst 2, 1) := by decide +kernel
theorem dX9_reachesOn_55 : decode cX9_reachesOn 55 = .ok (.iload_n 1, 1) := by decide +kernel
theorem dX9_reachesOn_56 : decode cX9_reachesOn 56 = .ok (.iload_n 2, 1) := by decide +kernel
theorem dX9_reachesOn_57 : decode cX9_reachesOn 57 = .ok (.invokevirtual 144, 3) := by decide +kernel
theorem dX9_reachesOn_60 : decode cX9_reachesOn 60 = .ok (.iconst 1, 1) := by decide +kernel
theorem dX9_reachesOn_61 : decode cX9_reachesOn 61 = .ok (.if_icmp .ne 12, 3) := by decide +kernel
theorem dX9_reachesOn_64 : decode cX9_reachesOn 64 = .ok (.bipush 32, 2) := by decide +kernel
theorem dX9_reachesOn_66 : decode cX9_reachesOn 66 = .ok (.iload 4, 2) := by decide +kernel
theorem dX9_reachesOn_68 : decode cX9_reachesOn 68 = .ok (.imul, 1) := by decide +kernel
theorem dX9_reachesOn_69 : decode cX9_reachesOn 69 = .ok (.iload 5, 2) := by decide +kernel
theorem dX9_reachesOn_71 : decode cX9_reachesOn 71 = .ok (.iadd, 1) := by decide +kernel
theorem dX9_reachesOn_72 : decode cX9_reachesOn 72 = .ok (.ireturn, 1) := by decide +kernel
theorem dX9_reachesOn_73 : decode cX9_reachesOn 73 = .ok (.iconst 0, 1) := by decide +kernel
theorem dX9_reachesOn_74 : decode cX9_reachesOn 74 = .ok (.istore 7, 2) := by decide +kernel
theorem dX9_reachesOn_76 : decode cX9_reachesOn 76 = .ok (.iload 7, 2) := by decide +kernel
theorem dX9_reachesOn_78 : decode cX9_reachesOn 78 = .ok (.bipush 24, 2) := by decide +kernel
theorem dX9_reachesOn_80 : decode cX9_reachesOn 80 = .ok (.if_icmp .ge 55, 3) := by decide +kernel
theorem dX9_reachesOn_83 : decode cX9_reachesOn 83 = .ok (.iload 6, 2) := by decide +kernel
theorem dX9_reachesOn_85 : decode cX9_reachesOn 85 = .ok (.ifCond .eq 50, 3) := by decide +kernel
theorem dX9_reachesOn_88 : decode cX9_reachesOn 88 = .ok (.iload_n 3, 1) := by decide +kernel
theorem dX9_reachesOn_89 : decode cX9_reachesOn 89 = .ok (.iconst 3, 1) := by decide +kernel
theorem dX9_reachesOn_90 : decode cX9_reachesOn 90 = .ok (.if_icmp .ne 45, 3) := by decide +kernel
theorem dX9_reachesOn_93 : decode cX9_reachesOn 93 = .ok (.aload_n 0, 1) := by decide +kernel
theorem dX9_reachesOn_94 : decode cX9_reachesOn 94 = .ok (.iconst 2, 1) := by decide +kernel
theorem dX9_reachesOn_95 : decode cX9_reachesOn 95 = .ok (.iload 7, 2) := by decide +kernel
theorem dX9_reachesOn_97 : decode cX9_reachesOn 97 = .ok (.invokevirtual 136, 3) := by decide +kernel
theorem dX9_reachesOn_100 : decode cX9_reachesOn 100 = .ok (.ifCond .eq 29, 3) := by decide +kernel
theorem dX9_reachesOn_103 : decode cX9_reachesOn 103 = .ok (.aload_n 0, 1) := by decide +kernel
theorem dX9_reachesOn_104 : decode cX9_reachesOn 104 = .ok (.iconst 3, 1) := by decide +kernel
theorem dX9_reachesOn_105 : decode cX9_reachesOn 105 = .ok (.iload_n 1, 1) := by decide +kernel
theorem dX9_reachesOn_106 : decode cX9_reachesOn 106 = .ok (.iload_n 2, 1) := by decide +kernel
theorem dX9_reachesOn_107 : decode cX9_reachesOn 107 = .ok (.invokevirtual 144, 3) := by decide +kernel
theorem dX9_reachesOn_110 : decode cX9_reachesOn 110 = .ok (.iconst 1, 1) := by decide +kernel
theorem dX9_reachesOn_111 : decode cX9_reachesOn 111 = .ok (.if_icmp .ne 18, 3) := by decide +kernel
theorem dX9_reachesOn_114 : decode cX9_reachesOn 114 = .ok (.bipush 32, 2) := by decide +kernel
theorem dX9_reachesOn_116 : decode cX9_reachesOn 116 = .ok (.bipush 32, 2) := by decide +kernel
theorem dX9_reachesOn_118 : decode cX9_reachesOn 118 = .ok (.iload 4, 2) := by decide +kernel
theorem dX9_reachesOn_120 : decode cX9_reachesOn 120 = .ok (.imul, 1) := by decide +kernel
theorem dX9_reachesOn_121 : decode cX9_reachesOn 121 = .ok (.iload 5, 2) := by decide +kernel
theorem dX9_reachesOn_123 : decode cX9_reachesOn 123 = .ok (.iadd, 1) := by decide +kernel
theorem dX9_reachesOn_124 : decode cX9_reachesOn 124 = .ok (.imul, 1) := by decide +kernel
theorem dX9_reachesOn_125 : decode cX9_reachesOn 125 = .ok (.iload 7, 2) := by decide +kernel
theorem dX9_reachesOn_127 : decode cX9_reachesOn 127 = .ok (.iadd, 1) := by decide +kernel
theorem dX9_reachesOn_128 : decode cX9_reachesOn 128 = .ok (.ireturn, 1) := by decide +kernel
theorem dX9_reachesOn_129 : decode cX9_reachesOn 129 = .ok (.iinc 7 1, 3) := by decide +kernel
theorem dX9_reachesOn_132 : decode cX9_reachesOn 132 = .ok (.goto (-56), 3) := by decide +kernel
theorem dX9_reachesOn_135 : decode cX9_reachesOn 135 = .ok (.iinc 5 1, 3) := by decide +kernel
theorem dX9_reachesOn_138 : decode cX9_reachesOn 138 = .ok (.goto (-111), 3) := by decide +kernel
theorem dX9_reachesOn_141 : decode cX9_reachesOn 141 = .ok (.bipush (-9), 2) := by decide +kernel
theorem dX9_reachesOn_143 : decode cX9_reachesOn 143 = .ok (.ireturn, 1) := by decide +kernel
theorem dX9_member_0 : decode cX9_member 0 = .ok (.iload_n 0, 1) := by decide +kernel
theorem dX9_member_1 : decode cX9_member 1 = .ok (.istore_n 3, 1) := by decide +kernel
theorem dX9_member_2 : decode cX9_member 2 = .ok (.iload_n 1, 1) := by decide +kernel
theorem dX9_member_3 : decode cX9_member 3 = .ok (.iconst 1, 1) := by decide +kernel
theorem dX9_member_4 : decode cX9_member 4 = .ok (.isub, 1) := by decide +kernel
theorem dX9_member_5 : decode cX9_member 5 = .ok (.istore 4, 2) := by decide +kernel
theorem dX9_member_7 : decode cX9_member 7 = .ok (.iload 4, 2) := by decide +kernel
theorem dX9_member_9 : decode cX9_member 9 = .ok (.iload_n 2, 1) := by decide +kernel
theorem dX9_member_10 : decode cX9_member 10 = .ok (.if_icmp .le 14, 3) := by decide +kernel
theorem dX9_member_13 : decode cX9_member 13 = .ok (.iload_n 3, 1) := by decide +kernel
theorem dX9_member_14 : decode cX9_member 14 = .ok (.bipush 32, 2) := by decide +kernel
theorem dX9_member_16 : decode cX9_member 16 = .ok (.idiv, 1) := by decide +kernel
theorem dX9_member_17 : decode cX9_member 17 = .ok (.istore_n 3, 1) := by decide +kernel
theorem dX9_member_18 : decode cX9_member 18 = .ok (.iinc 4 (-1), 3) := by decide +kernel
theorem dX9_member_21 : decode cX9_member 21 = .ok (.goto (-14), 3) := by decide +kernel
theorem dX9_member_24 : decode cX9_member 24 = .ok (.iload_n 2, 1) := by decide +kernel
theorem dX9_member_25 : decode cX9_member 25 = .ok (.iload_n 1, 1) := by decide +kernel
theorem dX9_member_26 : decode cX9_member 26 = .ok (.if_icmp .ge 10, 3) := by decide +kernel
theorem dX9_member_29 : decode cX9_member 29 = .ok (.iload_n 3, 1) := by decide +kernel
theorem dX9_member_30 : decode cX9_member 30 = .ok (.bipush 32, 2) := by decide +kernel
theorem dX9_member_32 : decode cX9_member 32 = .ok (.irem, 1) := by decide +kernel
theorem dX9_member_33 : decode cX9_member 33 = .ok (.goto 5, 3) := by decide +kernel
theorem dX9_member_36 : decode cX9_member 36 = .ok (.bipush (-5), 2) := by decide +kernel
theorem dX9_member_38 : decode cX9_member 38 = .ok (.ireturn, 1) := by decide +kernel
theorem dX9_reach_0 : decode cX9_reach 0 = .ok (.aload_n 0, 1) := by decide +kernel
theorem dX9_reach_1 : decode cX9_reach 1 = .ok (.iload_n 1, 1) := by decide +kernel
theorem dX9_reach_2 : decode cX9_reach 2 = .ok (.iload_n 2, 1) := by decide +kernel
theorem dX9_reach_3 : decode cX9_reach 3 = .ok (.invokevirtual 167, 3) := by decide +kernel
theorem dX9_reach_6 : decode cX9_reach 6 = .ok (.ifCond .eq 8, 3) := by decide +kernel
theorem dX9_reach_9 : decode cX9_reach 9 = .ok (.iload_n 3, 1) := by decide +kernel
theorem dX9_reach_10 : decode cX9_reach 10 = .ok (.iconst (-1), 1) := by decide +kernel
theorem dX9_reach_11 : decode cX9_reach 11 = .ok (.if_icmp .ge 5, 3) := by decide +kernel
theorem dX9_reach_14 : decode cX9_reach 14 = .ok (.iconst (-1), 1) := by decide +kernel
theorem dX9_reach_15 : decode cX9_reach 15 = .ok (.ireturn, 1) := by decide +kernel
theorem dX9_reach_16 : decode cX9_reach 16 = .ok (.aload_n 0, 1) := by decide +kernel
theorem dX9_reach_17 : decode cX9_reach 17 = .ok (.aload_n 0, 1) := by decide +kernel
theorem dX9_reach_18 : decode cX9_reach 18 = .ok (.getfield 19, 3) := by decide +kernel
theorem dX9_reach_21 : decode cX9_reach 21 = .ok (.iconst 1, 1) := by decide +kernel
theorem dX9_reach_22 : decode cX9_reach 22 = .ok (.iaload, 1) := by decide +kernel
theorem dX9_reach_23 : decode cX9_reach 23 = .ok (.invokevirtual 148, 3) := by decide +kernel
theorem dX9_reach_26 : decode cX9_reach 26 = .ok (.iconst 0, 1) := by decide +kernel
theorem dX9_reach_27 : decode cX9_reach 27 = .ok (.istore 4, 2) := by decide +kernel
theorem dX9_reach_29 : decode cX9_reach 29 = .ok (.iload 4, 2) := by decide +kernel
theorem dX9_reach_31 : decode cX9_reach 31 = .ok (.iconst 4, 1) := by decide +kernel
theorem dX9_reach_32 : decode cX9_reach 32 = .ok (.if_icmp .ge 45, 3) := by decide +kernel
theorem dX9_reach_35 : decode cX9_reach 35 = .ok (.aload_n 0, 1) := by decide +kernel
theorem dX9_reach_36 : decode cX9_reach 36 = .ok (.iload_n 1, 1) := by decide +kernel
theorem dX9_reach_37 : decode cX9_reach 37 = .ok (.iload_n 2, 1) := by decide +kernel
theorem dX9_reach_38 : decode cX9_reach 38 = .ok (.iload 4, 2) := by decide +kernel
theorem dX9_reach_40 : decode cX9_reach 40 = .ok (.invokevirtual 174, 3) := by decide +kernel
theorem dX9_reach_43 : decode cX9_reach 43 = .ok (.istore 5, 2) := by decide +kernel
theorem dX9_reach_45 : decode cX9_reach 45 = .ok (.iload 5, 2) := by decide +kernel
theorem dX9_reach_47 : decode cX9_reach 47 = .ok (.bipush (-9), 2) := by decide +kernel
theorem dX9_reach_49 : decode cX9_reach 49 = .ok (.if_icmp .eq 22, 3) := by decide +kernel
theorem dX9_reach_52 : decode cX9_reach 52 = .ok (.iload_n 3, 1) := by decide +kernel
theorem dX9_reach_53 : decode cX9_reach 53 = .ok (.iconst (-1), 1) := by decide +kernel
theorem dX9_reach_54 : decode cX9_reach 54 = .ok (.if_icmp .ne 8, 3) := by decide +kernel
theorem dX9_reach_57 : decode cX9_reach 57 = .ok (.iload 4, 2) := by decide +kernel
theorem dX9_reach_59 : decode cX9_reach 59 = .ok (.goto 11, 3) := by decide +kernel
theorem dX9_reach_62 : decode cX9_reach 62 = .ok (.iload 5, 2) := by decide +kernel
theorem dX9_reach_64 : decode cX9_reach 64 = .ok (.iload 4, 2) := by decide +kernel
theorem dX9_reach_66 : decode cX9_reach 66 = .ok (.iload_n 3, 1) := by decide +kernel
theorem dX9_reach_67 : decode cX9_reach 67 = .ok (.invokestatic 177, 3) := by decide +kernel
theorem dX9_reach_70 : decode cX9_reach 70 = .ok (.ireturn, 1) := by decide +kernel
theorem dX9_reach_71 : decode cX9_reach 71 = .ok (.iinc 4 1, 3) := by decide +kernel
theorem dX9_reach_74 : decode cX9_reach 74 = .ok (.goto (-45), 3) := by decide +kernel
theorem dX9_reach_77 : decode cX9_reach 77 = .ok (.bipush (-9), 2) := by decide +kernel
theorem dX9_reach_79 : decode cX9_reach 79 = .ok (.ireturn, 1) := by decide +kernel
theorem dX9_tries_0 : decode cX9_tries 0 = .ok (.aload_n 0, 1) := by decide +kernel
theorem dX9_tries_1 : decode cX9_tries 1 = .ok (.iload_n 1, 1) := by decide +kernel
theorem dX9_tries_2 : decode cX9_tries 2 = .ok (.iload_n 2, 1) := by decide +kernel
theorem dX9_tries_3 : decode cX9_tries 3 = .ok (.invokevirtual 151, 3) := by decide +kernel
theorem dX9_tries_6 : decode cX9_tries 6 = .ok (.istore 4, 2) := by decide +kernel
theorem dX9_tries_8 : decode cX9_tries 8 = .ok (.iload 4, 2) := by decide +kernel
theorem dX9_tries_10 : decode cX9_tries 10 = .ok (.aload_n 0, 1) := by decide +kernel
theorem dX9_tries_11 : decode cX9_tries 11 = .ok (.getfield 180, 3) := by decide +kernel
theorem dX9_tries_14 : decode cX9_tries 14 = .ok (.if_icmp .gt 20, 3) := by decide +kernel
theorem dX9_tries_17 : decode cX9_tries 17 = .ok (.iload 4, 2) := by decide +kernel
theorem dX9_tries_19 : decode cX9_tries 19 = .ok (.aload_n 0, 1) := by decide +kernel
theorem dX9_tries_20 : decode cX9_tries 20 = .ok (.getfield 180, 3) := by decide +kernel
theorem dX9_tries_23 : decode cX9_tries 23 = .ok (.if_icmp .ne 27, 3) := by decide +kernel
theorem dX9_tries_26 : decode cX9_tries 26 = .ok (.iload_n 1, 1) := by decide +kernel
theorem dX9_tries_27 : decode cX9_tries 27 = .ok (.aload_n 0, 1) := by decide +kernel
theorem dX9_tries_28 : decode cX9_tries 28 = .ok (.getfield 183, 3) := by decide +kernel
theorem dX9_tries_31 : decode cX9_tries 31 = .ok (.if_icmp .ge 19, 3) := by decide +kernel
theorem dX9_tries_34 : decode cX9_tries 34 = .ok (.aload_n 0, 1) := by decide +kernel
theorem dX9_tries_35 : decode cX9_tries 35 = .ok (.iload 4, 2) := by decide +kernel
theorem dX9_tries_37 : decode cX9_tries 37 = .ok (.putfield 180, 3) := by decide +kernel
theorem dX9_tries_40 : decode cX9_tries 40 = .ok (.aload_n 0, 1) := by decide +kernel
theorem dX9_tries_41 : decode cX9_tries 41 = .ok (.iload_n 1, 1) := by decide +kernel
theorem dX9_tries_42 : decode cX9_tries 42 = .ok (.putfield 183, 3) := by decide +kernel
theorem dX9_tries_45 : decode cX9_tries 45 = .ok (.aload_n 0, 1) := by decide +kernel
theorem dX9_tries_46 : decode cX9_tries 46 = .ok (.iload_n 3, 1) := by decide +kernel
theorem dX9_tries_47 : decode cX9_tries 47 = .ok (.putfield 186, 3) := by decide +kernel
theorem dX9_tries_50 : decode cX9_tries 50 = .ok (.return_, 1) := by decide +kernel
theorem dX9_serves_0 : decode cX9_serves 0 = .ok (.aload_n 0, 1) := by decide +kernel
theorem dX9_serves_1 : decode cX9_serves 1 = .ok (.iload_n 1, 1) := by decide +kernel
theorem dX9_serves_2 : decode cX9_serves 2 = .ok (.invokevirtual 59, 3) := by decide +kernel
theorem dX9_serves_5 : decode cX9_serves 5 = .ok (.ifCond .eq 8, 3) := by decide +kernel
theorem dX9_serves_8 : decode cX9_serves 8 = .ok (.iload_n 2, 1) := by decide +kernel
theorem dX9_serves_9 : decode cX9_serves 9 = .ok (.iconst (-1), 1) := by decide +kernel
theorem dX9_serves_10 : decode cX9_serves 10 = .ok (.if_icmp .ge 5, 3) := by decide +kernel
theorem dX9_serves_13 : decode cX9_serves 13 = .ok (.iconst (-1), 1) := by decide +kernel
theorem dX9_serves_14 : decode cX9_serves 14 = .ok (.ireturn, 1) := by decide +kernel
theorem dX9_serves_15 : decode cX9_serves 15 = .ok (.aload_n 0, 1) := by decide +kernel
theorem dX9_serves_16 : decode cX9_serves 16 = .ok (.aload_n 0, 1) := by decide +kernel
theorem dX9_serves_17 : decode cX9_serves 17 = .ok (.getfield 19, 3) := by decide +kernel
theorem dX9_serves_20 : decode cX9_serves 20 = .ok (.iconst 1, 1) := by decide +kernel
theorem dX9_serves_21 : decode cX9_serves 21 = .ok (.iaload, 1) := by decide +kernel
theorem dX9_serves_22 : decode cX9_serves 22 = .ok (.invokevirtual 148, 3) := by decide +kernel
theorem dX9_serves_25 : decode cX9_serves 25 = .ok (.aload_n 0, 1) := by decide +kernel
theorem dX9_serves_26 : decode cX9_serves 26 = .ok (.iconst (-1), 1) := by decide +kernel
theorem dX9_serves_27 : decode cX9_serves 27 = .ok (.putfield 180, 3) := by decide +kernel
theorem dX9_serves_30 : decode cX9_serves 30 = .ok (.aload_n 0, 1) := by decide +kernel
theorem dX9_serves_31 : decode cX9_serves 31 = .ok (.iconst 0, 1) := by decide +kernel
theorem dX9_serves_32 : decode cX9_serves 32 = .ok (.iload_n 1, 1) := by decide +kernel
theorem dX9_serves_33 : decode cX9_serves 33 = .ok (.iconst 0, 1) := by decide +kernel
theorem dX9_serves_34 : decode cX9_serves 34 = .ok (.invokevirtual 189, 3) := by decide +kernel
theorem dX9_serves_37 : decode cX9_serves 37 = .ok (.iconst 0, 1) := by decide +kernel
theorem dX9_serves_38 : decode cX9_serves 38 = .ok (.istore_n 3, 1) := by decide +kernel
theorem dX9_serves_39 : decode cX9_serves 39 = .ok (.iload_n 3, 1) := by decide +kernel
theorem dX9_serves_40 : decode cX9_serves 40 = .ok (.bipush 24, 2) := by decide +kernel
theorem dX9_serves_42 : decode cX9_serves 42 = .ok (.if_icmp .ge 64, 3) := by decide +kernel
theorem dX9_serves_45 : decode cX9_serves 45 = .ok (.aload_n 0, 1) := by decide +kernel
theorem dX9_serves_46 : decode cX9_serves 46 = .ok (.iconst 0, 1) := by decide +kernel
theorem dX9_serves_47 : decode cX9_serves 47 = .ok (.iload_n 3, 1) := by decide +kernel
theorem dX9_serves_48 : decode cX9_serves 48 = .ok (.invokevirtual 136, 3) := by decide +kernel
theorem dX9_serves_51 : decode cX9_serves 51 = .ok (.ifCond .eq 49, 3) := by decide +kernel
theorem dX9_serves_54 : decode cX9_serves 54 = .ok (.aload_n 0, 1) := by decide +kernel
theorem dX9_serves_55 : decode cX9_serves 55 = .ok (.iconst 1, 1) := by decide +kernel
theorem dX9_serves_56 : decode cX9_serves 56 = .ok (.iload_n 1, 1) := by decide +kernel
theorem dX9_serves_57 : decode cX9_serves 57 = .ok (.iload_n 3, 1) := by decide +kernel
theorem dX9_serves_58 : decode cX9_serves 58 = .ok (.invokevirtual 189, 3) := by decide +kernel
theorem dX9_serves_61 : decode cX9_serves 61 = .ok (.iconst 0, 1) := by decide +kernel
theorem dX9_serves_62 : decode cX9_serves 62 = .ok (.istore 4, 2) := by decide +kernel
theorem dX9_serves_64 : decode cX9_serves 64 = .ok (.iload 4, 2) := by decide +kernel
theorem dX9_serves_66 : decode cX9_serves 66 = .ok (.bipush 24, 2) := by decide +kernel
theorem dX9_serves_68 : decode cX9_serves 68 = .ok (.if_icmp .ge 32, 3) := by decide +kernel
theorem dX9_serves_71 : decode cX9_serves 71 = .ok (.aload_n 0, 1) := by decide +kernel
theorem dX9_serves_72 : decode cX9_serves 72 = .ok (.iconst 1, 1) := by decide +kernel
theorem dX9_serves_73 : decode cX9_serves 73 = .ok (.iload 4, 2) := by decide +kernel
theorem dX9_serves_75 : decode cX9_serves 75 = .ok (.invokevirtual 136, 3) := by decide +kernel
theorem dX9_serves_78 : decode cX9_serves 78 = .ok (.ifCond .eq 16, 3) := by decide +kernel
theorem dX9_serves_81 : decode cX9_serves 81 = .ok (.aload_n 0, 1) := by decide +kernel
theorem dX9_serves_82 : decode cX9_serves 82 = .ok (.iconst 2, 1) := by decide +kernel
theorem dX9_serves_83 : decode cX9_serves 83 = .ok (.iload_n 1, 1) := by decide +kernel
theorem dX9_serves_84 : decode cX9_serves 84 = .ok (.bipush 32, 2) := by decide +kernel
theorem dX9_serves_86 : decode cX9_serves 86 = .ok (.iload_n 3, 1) := by decide +kernel
theorem dX9_serves_87 : decode cX9_serves 87 = .ok (.imul, 1) := by decide +kernel
theorem dX9_serves_88 : decode cX9_serves 88 = .ok (.iload 4, 2) := by decide +kernel
theorem dX9_serves_90 : decode cX9_serves 90 = .ok (.iadd, 1) := by decide +kernel
theorem dX9_serves_91 : decode cX9_serves 91 = .ok (.invokevirtual 189, 3) := by decide +kernel
theorem dX9_serves_94 : decode cX9_serves 94 = .ok (.iinc 4 1, 3) := by decide +kernel
theorem dX9_serves_97 : decode cX9_serves 97 = .ok (.goto (-33), 3) := by decide +kernel
theorem dX9_serves_100 : decode cX9_serves 100 = .ok (.iinc 3 1, 3) := by decide +kernel
theorem dX9_serves_103 : decode cX9_serves 103 = .ok (.goto (-64), 3) := by decide +kernel
theorem dX9_serves_106 : decode cX9_serves 106 = .ok (.iload_n 2, 1) := by decide +kernel
theorem dX9_serves_107 : decode cX9_serves 107 = .ok (.iconst (-1), 1) := by decide +kernel
theorem dX9_serves_108 : decode cX9_serves 108 = .ok (.if_icmp .ne 10, 3) := by decide +kernel
theorem dX9_serves_111 : decode cX9_serves 111 = .ok (.aload_n 0, 1) := by decide +kernel
theorem dX9_serves_112 : decode cX9_serves 112 = .ok (.getfield 180, 3) := by decide +kernel
theorem dX9_serves_115 : decode cX9_serves 115 = .ok (.goto 15, 3) := by decide +kernel
theorem dX9_serves_118 : decode cX9_serves 118 = .ok (.aload_n 0, 1) := by decide +kernel
theorem dX9_serves_119 : decode cX9_serves 119 = .ok (.getfield 186, 3) := by decide +kernel
theorem dX9_serves_122 : decode cX9_serves 122 = .ok (.aload_n 0, 1) := by decide +kernel
theorem dX9_serves_123 : decode cX9_serves 123 = .ok (.getfield 183, 3) := by decide +kernel
theorem dX9_serves_126 : decode cX9_serves 126 = .ok (.iload_n 2, 1) := by decide +kernel
theorem dX9_serves_127 : decode cX9_serves 127 = .ok (.invokestatic 177, 3) := by decide +kernel
theorem dX9_serves_130 : decode cX9_serves 130 = .ok (.ireturn, 1) := by decide +kernel
theorem dX9_saw_0 : decode cX9_saw 0 = .ok (.aload_n 0, 1) := by decide +kernel
theorem dX9_saw_1 : decode cX9_saw 1 = .ok (.iload_n 1, 1) := by decide +kernel
theorem dX9_saw_2 : decode cX9_saw 2 = .ok (.iload_n 2, 1) := by decide +kernel
theorem dX9_saw_3 : decode cX9_saw 3 = .ok (.invokevirtual 167, 3) := by decide +kernel
theorem dX9_saw_6 : decode cX9_saw 6 = .ok (.ifCond .ne 5, 3) := by decide +kernel
theorem dX9_saw_9 : decode cX9_saw 9 = .ok (.iconst (-1), 1) := by decide +kernel
theorem dX9_saw_10 : decode cX9_saw 10 = .ok (.ireturn, 1) := by decide +kernel
theorem dX9_saw_11 : decode cX9_saw 11 = .ok (.aload_n 0, 1) := by decide +kernel
theorem dX9_saw_12 : decode cX9_saw 12 = .ok (.getfield 126, 3) := by decide +kernel
theorem dX9_saw_15 : decode cX9_saw 15 = .ok (.bipush 6, 2) := by decide +kernel
theorem dX9_saw_17 : decode cX9_saw 17 = .ok (.if_icmp .ne 6, 3) := by decide +kernel
theorem dX9_saw_20 : decode cX9_saw 20 = .ok (.bipush (-3), 2) := by decide +kernel
theorem dX9_saw_22 : decode cX9_saw 22 = .ok (.ireturn, 1) := by decide +kernel
theorem dX9_saw_23 : decode cX9_saw 23 = .ok (.aload_n 0, 1) := by decide +kernel
theorem dX9_saw_24 : decode cX9_saw 24 = .ok (.getfield 29, 3) := by decide +kernel
theorem dX9_saw_27 : decode cX9_saw 27 = .ok (.aload_n 0, 1) := by decide +kernel
theorem dX9_saw_28 : decode cX9_saw 28 = .ok (.getfield 126, 3) := by decide +kernel
theorem dX9_saw_31 : decode cX9_saw 31 = .ok (.iload_n 1, 1) := by decide +kernel
theorem dX9_saw_32 : decode cX9_saw 32 = .ok (.iastore, 1) := by decide +kernel
theorem dX9_saw_33 : decode cX9_saw 33 = .ok (.aload_n 0, 1) := by decide +kernel
theorem dX9_saw_34 : decode cX9_saw 34 = .ok (.getfield 32, 3) := by decide +kernel
theorem dX9_saw_37 : decode cX9_saw 37 = .ok (.aload_n 0, 1) := by decide +kernel
theorem dX9_saw_38 : decode cX9_saw 38 = .ok (.getfield 126, 3) := by decide +kernel
theorem dX9_saw_41 : decode cX9_saw 41 = .ok (.iload_n 2, 1) := by decide +kernel
theorem dX9_saw_42 : decode cX9_saw 42 = .ok (.iastore, 1) := by decide +kernel
theorem dX9_saw_43 : decode cX9_saw 43 = .ok (.aload_n 0, 1) := by decide +kernel
theorem dX9_saw_44 : decode cX9_saw 44 = .ok (.dup, 1) := by decide +kernel
theorem dX9_saw_45 : decode cX9_saw 45 = .ok (.getfield 126, 3) := by decide +kernel
theorem dX9_saw_48 : decode cX9_saw 48 = .ok (.iconst 1, 1) := by decide +kernel
theorem dX9_saw_49 : decode cX9_saw 49 = .ok (.iadd, 1) := by decide +kernel
theorem dX9_saw_50 : decode cX9_saw 50 = .ok (.putfield 126, 3) := by decide +kernel
theorem dX9_saw_53 : decode cX9_saw 53 = .ok (.aload_n 0, 1) := by decide +kernel
theorem dX9_saw_54 : decode cX9_saw 54 = .ok (.getfield 126, 3) := by decide +kernel
theorem dX9_saw_57 : decode cX9_saw 57 = .ok (.ireturn, 1) := by decide +kernel
theorem dX9_forget_0 : decode cX9_forget 0 = .ok (.aload_n 0, 1) := by decide +kernel
theorem dX9_forget_1 : decode cX9_forget 1 = .ok (.getfield 126, 3) := by decide +kernel
theorem dX9_forget_4 : decode cX9_forget 4 = .ok (.istore_n 1, 1) := by decide +kernel
theorem dX9_forget_5 : decode cX9_forget 5 = .ok (.aload_n 0, 1) := by decide +kernel
theorem dX9_forget_6 : decode cX9_forget 6 = .ok (.iconst 0, 1) := by decide +kernel
theorem dX9_forget_7 : decode cX9_forget 7 = .ok (.putfield 126, 3) := by decide +kernel
theorem dX9_forget_10 : decode cX9_forget 10 = .ok (.iload_n 1, 1) := by decide +kernel
theorem dX9_forget_11 : decode cX9_forget 11 = .ok (.ireturn, 1) := by decide +kernel
theorem dX9_fitsAt_0 : decode cX9_fitsAt 0 = .ok (.iconst 1, 1) := by decide +kernel
theorem dX9_fitsAt_1 : decode cX9_fitsAt 1 = .ok (.istore_n 2, 1) := by decide +kernel
theorem dX9_fitsAt_2 : decode cX9_fitsAt 2 = .ok (.iconst 0, 1) := by decide +kernel
theorem dX9_fitsAt_3 : decode cX9_fitsAt 3 = .ok (.istore_n 3, 1) := by decide +kernel
theorem dX9_fitsAt_4 : decode cX9_fitsAt 4 = .ok (.iload_n 3, 1) := by decide +kernel
theorem dX9_fitsAt_5 : decode cX9_fitsAt 5 = .ok (.aload_n 0, 1) := by decide +kernel
theorem dX9_fitsAt_6 : decode cX9_fitsAt 6 = .ok (.getfield 126, 3) := by decide +kernel
theorem dX9_fitsAt_9 : decode cX9_fitsAt 9 = .ok (.if_icmp .ge 39, 3) := by decide +kernel
theorem dX9_fitsAt_12 : decode cX9_fitsAt 12 = .ok (.iload_n 2, 1) := by decide +kernel
theorem dX9_fitsAt_13 : decode cX9_fitsAt 13 = .ok (.ifCond .eq 27, 3) := by decide +kernel
theorem dX9_fitsAt_16 : decode cX9_fitsAt 16 = .ok (.aload_n 0, 1) := by decide +kernel
theorem dX9_fitsAt_17 : decode cX9_fitsAt 17 = .ok (.iload_n 1, 1) := by decide +kernel
theorem dX9_fitsAt_18 : decode cX9_fitsAt 18 = .ok (.aload_n 0, 1) := by decide +kernel
theorem dX9_fitsAt_19 : decode cX9_fitsAt 19 = .ok (.getfield 29, 3) := by decide +kernel
theorem dX9_fitsAt_22 : decode cX9_fitsAt 22 = .ok (.iload_n 3, 1) := by decide +kernel
theorem dX9_fitsAt_23 : decode cX9_fitsAt 23 = .ok (.iaload, 1) := by decide +kernel
theorem dX9_fitsAt_24 : decode cX9_fitsAt 24 = .ok (.aload_n 0, 1) := by decide +kernel
theorem dX9_fitsAt_25 : decode cX9_fitsAt 25 = .ok (.getfield 32, 3) := by decide +kernel
theorem dX9_fitsAt_28 : decode cX9_fitsAt 28 = .ok (.iload_n 3, 1) := by decide +kernel
theorem dX9_fitsAt_29 : decode cX9_fitsAt 29 = .ok (.iaload, 1) := by decide +kernel
theorem dX9_fitsAt_30 : decode cX9_fitsAt 30 = .ok (.invokevirtual 144, 3) := by decide +kernel
theorem dX9_fitsAt_33 : decode cX9_fitsAt 33 = .ok (.ifCond .le 7, 3) := by decide +kernel
theorem dX9_fitsAt_36 : decode cX9_fitsAt 36 = .ok (.iconst 1, 1) := by decide +kernel
theorem dX9_fitsAt_37 : decode cX9_fitsAt 37 = .ok (.goto 4, 3) := by decide +kernel
theorem dX9_fitsAt_40 : decode cX9_fitsAt 40 = .ok (.iconst 0, 1) := by decide +kernel
theorem dX9_fitsAt_41 : decode cX9_fitsAt 41 = .ok (.istore_n 2, 1) := by decide +kernel
theorem dX9_fitsAt_42 : decode cX9_fitsAt 42 = .ok (.iinc 3 1, 3) := by decide +kernel
theorem dX9_fitsAt_45 : decode cX9_fitsAt 45 = .ok (.goto (-41), 3) := by decide +kernel
theorem dX9_fitsAt_48 : decode cX9_fitsAt 48 = .ok (.iload_n 2, 1) := by decide +kernel
theorem dX9_fitsAt_49 : decode cX9_fitsAt 49 = .ok (.ifCond .eq 7, 3) := by decide +kernel
theorem dX9_fitsAt_52 : decode cX9_fitsAt 52 = .ok (.iconst 1, 1) := by decide +kernel
theorem dX9_fitsAt_53 : decode cX9_fitsAt 53 = .ok (.goto 4, 3) := by decide +kernel
theorem dX9_fitsAt_56 : decode cX9_fitsAt 56 = .ok (.iconst 0, 1) := by decide +kernel
theorem dX9_fitsAt_57 : decode cX9_fitsAt 57 = .ok (.ireturn, 1) := by decide +kernel
theorem dX9_fits_0 : decode cX9_fits 0 = .ok (.iload_n 1, 1) := by decide +kernel
theorem dX9_fits_1 : decode cX9_fits 1 = .ok (.iconst 0, 1) := by decide +kernel
theorem dX9_fits_2 : decode cX9_fits 2 = .ok (.iconst 2, 1) := by decide +kernel
theorem dX9_fits_3 : decode cX9_fits 3 = .ok (.invokestatic 55, 3) := by decide +kernel
theorem dX9_fits_6 : decode cX9_fits 6 = .ok (.ifCond .ne 5, 3) := by decide +kernel
theorem dX9_fits_9 : decode cX9_fits 9 = .ok (.iconst (-1), 1) := by decide +kernel
theorem dX9_fits_10 : decode cX9_fits 10 = .ok (.ireturn, 1) := by decide +kernel
theorem dX9_fits_11 : decode cX9_fits 11 = .ok (.aload_n 0, 1) := by decide +kernel
theorem dX9_fits_12 : decode cX9_fits 12 = .ok (.invokevirtual 133, 3) := by decide +kernel
theorem dX9_fits_15 : decode cX9_fits 15 = .ok (.iload_n 1, 1) := by decide +kernel
theorem dX9_fits_16 : decode cX9_fits 16 = .ok (.ifCond .ne 11, 3) := by decide +kernel
theorem dX9_fits_19 : decode cX9_fits 19 = .ok (.aload_n 0, 1) := by decide +kernel
theorem dX9_fits_20 : decode cX9_fits 20 = .ok (.iconst 0, 1) := by decide +kernel
theorem dX9_fits_21 : decode cX9_fits 21 = .ok (.invokevirtual 193, 3) := by decide +kernel
theorem dX9_fits_24 : decode cX9_fits 24 = .ok (.goto 4, 3) := by decide +kernel
theorem dX9_fits_27 : decode cX9_fits 27 = .ok (.iconst 0, 1) := by decide +kernel
theorem dX9_fits_28 : decode cX9_fits 28 = .ok (.istore_n 2, 1) := by decide +kernel
theorem dX9_fits_29 : decode cX9_fits 29 = .ok (.iconst 0, 1) := by decide +kernel
theorem dX9_fits_30 : decode cX9_fits 30 = .ok (.istore_n 3, 1) := by decide +kernel
theorem dX9_fits_31 : decode cX9_fits 31 = .ok (.iload_n 3, 1) := by decide +kernel
theorem dX9_fits_32 : decode cX9_fits 32 = .ok (.bipush 24, 2) := by decide +kernel
theorem dX9_fits_34 : decode cX9_fits 34 = .ok (.if_icmp .ge 91, 3) := by decide +kernel
theorem dX9_fits_37 : decode cX9_fits 37 = .ok (.iload_n 1, 1) := by decide +kernel
theorem dX9_fits_38 : decode cX9_fits 38 = .ok (.ifCond .le 87, 3) := by decide +kernel
theorem dX9_fits_41 : decode cX9_fits 41 = .ok (.aload_n 0, 1) := by decide +kernel
theorem dX9_fits_42 : decode cX9_fits 42 = .ok (.iconst 0, 1) := by decide +kernel
theorem dX9_fits_43 : decode cX9_fits 43 = .ok (.iload_n 3, 1) := by decide +kernel
theorem dX9_fits_44 : decode cX9_fits 44 = .ok (.invokevirtual 136, 3) := by decide +kernel
theorem dX9_fits_47 : decode cX9_fits 47 = .ok (.istore 4, 2) := by decide +kernel
theorem dX9_fits_49 : decode cX9_fits 49 = .ok (.iload_n 2, 1) := by decide +kernel
theorem dX9_fits_50 : decode cX9_fits 50 = .ok (.iload 4, 2) := by decide +kernel
theorem dX9_fits_52 : decode cX9_fits 52 = .ok (.ifCond .eq 16, 3) := by decide +kernel
theorem dX9_fits_55 : decode cX9_fits 55 = .ok (.iload_n 1, 1) := by decide +kernel
theorem dX9_fits_56 : decode cX9_fits 56 = .ok (.iconst 1, 1) := by decide +kernel
theorem dX9_fits_57 : decode cX9_fits 57 = .ok (.if_icmp .ne 11, 3) := by decide +kernel
theorem dX9_fits_60 : decode cX9_fits 60 = .ok (.aload_n 0, 1) := by decide +kernel
theorem dX9_fits_61 : decode cX9_fits 61 = .ok (.iconst 1, 1) := by decide +kernel
theorem dX9_fits_62 : decode cX9_fits 62 = .ok (.invokevirtual 193, 3) := by decide +kernel
theorem dX9_fits_65 : decode cX9_fits 65 = .ok (.goto 4, 3) := by decide +kernel
theorem dX9_fits_68 : decode cX9_fits 68 = .ok (.iconst 0, 1) := by decide +kernel
theorem dX9_fits_69 : decode cX9_fits 69 = .ok (.iadd, 1) := by decide +kernel
theorem dX9_fits_70 : decode cX9_fits 70 = .ok (.istore_n 2, 1) := by decide +kernel
theorem dX9_fits_71 : decode cX9_fits 71 = .ok (.iconst 0, 1) := by decide +kernel
theorem dX9_fits_72 : decode cX9_fits 72 = .ok (.istore 5, 2) := by decide +kernel
theorem dX9_fits_74 : decode cX9_fits 74 = .ok (.iload 5, 2) := by decide +kernel
theorem dX9_fits_76 : decode cX9_fits 76 = .ok (.bipush 24, 2) := by decide +kernel
theorem dX9_fits_78 : decode cX9_fits 78 = .ok (.if_icmp .ge 41, 3) := by decide +kernel
theorem dX9_fits_81 : decode cX9_fits 81 = .ok (.iload 4, 2) := by decide +kernel
theorem dX9_fits_83 : decode cX9_fits 83 = .ok (.ifCond .eq 36, 3) := by decide +kernel
theorem dX9_fits_86 : decode cX9_fits 86 = .ok (.iload_n 1, 1) := by decide +kernel
theorem dX9_fits_87 : decode cX9_fits 87 = .ok (.iconst 2, 1) := by decide +kernel
theorem dX9_fits_88 : decode cX9_fits 88 = .ok (.if_icmp .ne 31, 3) := by decide +kernel
theorem dX9_fits_91 : decode cX9_fits 91 = .ok (.iload_n 2, 1) := by decide +kernel
theorem dX9_fits_92 : decode cX9_fits 92 = .ok (.aload_n 0, 1) := by decide +kernel
theorem dX9_fits_93 : decode cX9_fits 93 = .ok (.iconst 1, 1) := by decide +kernel
theorem dX9_fits_94 : decode cX9_fits 94 = .ok (.iload 5, 2) := by decide +kernel
theorem dX9_fits_96 : decode cX9_fits 96 = .ok (.invokevirtual 136, 3) := by decide +kernel
theorem dX9_fits_99 : decode cX9_fits 99 = .ok (.ifCond .eq 11, 3) := by decide +kernel
theorem dX9_fits_102 : decode cX9_fits 102 = .ok (.aload_n 0, 1) := by decide +kernel
theorem dX9_fits_103 : decode cX9_fits 103 = .ok (.iconst 2, 1) := by decide +kernel
theorem dX9_fits_104 : decode cX9_fits 104 = .ok (.invokevirtual 193, 3) := by decide +kernel
theorem dX9_fits_107 : decode cX9_fits 107 = .ok (.goto 4, 3) := by decide +kernel
theorem dX9_fits_110 : decode cX9_fits 110 = .ok (.iconst 0, 1) := by decide +kernel
theorem dX9_fits_111 : decode cX9_fits 111 = .ok (.iadd, 1) := by decide +kernel
theorem dX9_fits_112 : decode cX9_fits 112 = .ok (.istore_n 2, 1) := by decide +kernel
theorem dX9_fits_113 : decode cX9_fits 113 = .ok (.iinc 5 1, 3) := by decide +kernel
theorem dX9_fits_116 : decode cX9_fits 116 = .ok (.goto (-42), 3) := by decide +kernel
theorem dX9_fits_119 : decode cX9_fits 119 = .ok (.iinc 3 1, 3) := by decide +kernel
theorem dX9_fits_122 : decode cX9_fits 122 = .ok (.goto (-91), 3) := by decide +kernel
theorem dX9_fits_125 : decode cX9_fits 125 = .ok (.iload_n 2, 1) := by decide +kernel
theorem dX9_fits_126 : decode cX9_fits 126 = .ok (.ireturn, 1) := by decide +kernel
theorem dX9_rate_0 : decode cX9_rate 0 = .ok (.iload_n 1, 1) := by decide +kernel
theorem dX9_rate_1 : decode cX9_rate 1 = .ok (.iconst 0, 1) := by decide +kernel
theorem dX9_rate_2 : decode cX9_rate 2 = .ok (.iconst 5, 1) := by decide +kernel
theorem dX9_rate_3 : decode cX9_rate 3 = .ok (.invokestatic 55, 3) := by decide +kernel
theorem dX9_rate_6 : decode cX9_rate 6 = .ok (.ifCond .eq 11, 3) := by decide +kernel
theorem dX9_rate_9 : decode cX9_rate 9 = .ok (.aload_n 0, 1) := by decide +kernel
theorem dX9_rate_10 : decode cX9_rate 10 = .ok (.iload_n 2, 1) := by decide +kernel
theorem dX9_rate_11 : decode cX9_rate 11 = .ok (.invokevirtual 59, 3) := by decide +kernel
theorem dX9_rate_14 : decode cX9_rate 14 = .ok (.ifCond .ne 6, 3) := by decide +kernel
theorem dX9_rate_17 : decode cX9_rate 17 = .ok (.ldc 196, 2) := by decide +kernel
theorem dX9_rate_19 : decode cX9_rate 19 = .ok (.ireturn, 1) := by decide +kernel
theorem dX9_rate_20 : decode cX9_rate 20 = .ok (.aload_n 0, 1) := by decide +kernel
theorem dX9_rate_21 : decode cX9_rate 21 = .ok (.dup, 1) := by decide +kernel
theorem dX9_rate_22 : decode cX9_rate 22 = .ok (.getfield 197, 3) := by decide +kernel
theorem dX9_rate_25 : decode cX9_rate 25 = .ok (.iload_n 1, 1) := by decide +kernel
theorem dX9_rate_26 : decode cX9_rate 26 = .ok (.ifCond .ne 7, 3) := by decide +kernel
theorem dX9_rate_29 : decode cX9_rate 29 = .ok (.lconst 1, 1) := by decide +kernel
theorem dX9_rate_30 : decode cX9_rate 30 = .ok (.goto 50, 3) := by decide +kernel
theorem dX9_rate_33 : decode cX9_rate 33 = .ok (.iload_n 1, 1) := by decide +kernel
theorem dX9_rate_34 : decode cX9_rate 34 = .ok (.iconst 1, 1) := by decide +kernel
theorem dX9_rate_35 : decode cX9_rate 35 = .ok (.if_icmp .ne 9, 3) := by decide +kernel
theorem dX9_rate_38 : decode cX9_rate 38 = .ok (.ldc2_w 201, 3) := by decide +kernel
theorem dX9_rate_41 : decode cX9_rate 41 = .ok (.goto 39, 3) := by decide +kernel
theorem dX9_rate_44 : decode cX9_rate 44 = .ok (.iload_n 1, 1) := by decide +kernel
theorem dX9_rate_45 : decode cX9_rate 45 = .ok (.iconst 2, 1) := by decide +kernel
theorem dX9_rate_46 : decode cX9_rate 46 = .ok (.if_icmp .ne 9, 3) := by decide +kernel
theorem dX9_rate_49 : decode cX9_rate 49 = .ok (.ldc2_w 203, 3) := by decide +kernel
theorem dX9_rate_52 : decode cX9_rate 52 = .ok (.goto 28, 3) := by decide +kernel
theorem dX9_rate_55 : decode cX9_rate 55 = .ok (.iload_n 1, 1) := by decide +kernel
theorem dX9_rate_56 : decode cX9_rate 56 = .ok (.iconst 3, 1) := by decide +kernel
theorem dX9_rate_57 : decode cX9_rate 57 = .ok (.if_icmp .ne 9, 3) := by decide +kernel
theorem dX9_rate_60 : decode cX9_rate 60 = .ok (.ldc2_w 205, 3) := by decide +kernel
theorem dX9_rate_63 : decode cX9_rate 63 = .ok (.goto 17, 3) := by decide +kernel
theorem dX9_rate_66 : decode cX9_rate 66 = .ok (.iload_n 1, 1) := by decide +kernel
theorem dX9_rate_67 : decode cX9_rate 67 = .ok (.iconst 4, 1) := by decide +kernel
theorem dX9_rate_68 : decode cX9_rate 68 = .ok (.if_icmp .ne 9, 3) := by decide +kernel
theorem dX9_rate_71 : decode cX9_rate 71 = .ok (.ldc2_w 207, 3) := by decide +kernel
theorem dX9_rate_74 : decode cX9_rate 74 = .ok (.goto 6, 3) := by decide +kernel
theorem dX9_rate_77 : decode cX9_rate 77 = .ok (.ldc2_w 209, 3) := by decide +kernel
theorem dX9_rate_80 : decode cX9_rate 80 = .ok (.ladd, 1) := by decide +kernel
theorem dX9_rate_81 : decode cX9_rate 81 = .ok (.putfield 197, 3) := by decide +kernel
theorem dX9_rate_84 : decode cX9_rate 84 = .ok (.aload_n 0, 1) := by decide +kernel
theorem dX9_rate_85 : decode cX9_rate 85 = .ok (.aload_n 0, 1) := by decide +kernel
theorem dX9_rate_86 : decode cX9_rate 86 = .ok (.getfield 19, 3) := by decide +kernel
theorem dX9_rate_89 : decode cX9_rate 89 = .ok (.iconst 1, 1) := by decide +kernel
theorem dX9_rate_90 : decode cX9_rate 90 = .ok (.iaload, 1) := by decide +kernel
theorem dX9_rate_91 : decode cX9_rate 91 = .ok (.invokevirtual 148, 3) := by decide +kernel
theorem dX9_rate_94 : decode cX9_rate 94 = .ok (.aload_n 0, 1) := by decide +kernel
theorem dX9_rate_95 : decode cX9_rate 95 = .ok (.getfield 13, 3) := by decide +kernel
theorem dX9_rate_98 : decode cX9_rate 98 = .ok (.bipush 6, 2) := by decide +kernel
theorem dX9_rate_100 : decode cX9_rate 100 = .ok (.iload_n 2, 1) := by decide +kernel
theorem dX9_rate_101 : decode cX9_rate 101 = .ok (.iadd, 1) := by decide +kernel
theorem dX9_rate_102 : decode cX9_rate 102 = .ok (.iaload, 1) := by decide +kernel
theorem dX9_rate_103 : decode cX9_rate 103 = .ok (.istore_n 3, 1) := by decide +kernel
theorem dX9_rate_104 : decode cX9_rate 104 = .ok (.iload_n 3, 1) := by decide +kernel
theorem dX9_rate_105 : decode cX9_rate 105 = .ok (.aload_n 0, 1) := by decide +kernel
theorem dX9_rate_106 : decode cX9_rate 106 = .ok (.iconst 0, 1) := by decide +kernel
theorem dX9_rate_107 : decode cX9_rate 107 = .ok (.iload_n 2, 1) := by decide +kernel
theorem dX9_rate_108 : decode cX9_rate 108 = .ok (.invokevirtual 151, 3) := by decide +kernel
theorem dX9_rate_111 : decode cX9_rate 111 = .ok (.iadd, 1) := by decide +kernel
theorem dX9_rate_112 : decode cX9_rate 112 = .ok (.istore 4, 2) := by decide +kernel
theorem dX9_rate_114 : decode cX9_rate 114 = .ok (.iload_n 3, 1) := by decide +kernel
theorem dX9_rate_115 : decode cX9_rate 115 = .ok (.aload_n 0, 1) := by decide +kernel
theorem dX9_rate_116 : decode cX9_rate 116 = .ok (.getfield 35, 3) := by decide +kernel
theorem dX9_rate_119 : decode cX9_rate 119 = .ok (.bipush 32, 2) := by decide +kernel
theorem dX9_rate_121 : decode cX9_rate 121 = .ok (.iload_n 2, 1) := by decide +kernel
theorem dX9_rate_122 : decode cX9_rate 122 = .ok (.iadd, 1) := by decide +kernel
theorem dX9_rate_123 : decode cX9_rate 123 = .ok (.iaload, 1) := by decide +kernel
theorem dX9_rate_124 : decode cX9_rate 124 = .ok (.isub, 1) := by decide +kernel
theorem dX9_rate_125 : decode cX9_rate 125 = .ok (.istore 5, 2) := by decide +kernel
theorem dX9_rate_127 : decode cX9_rate 127 = .ok (.iload_n 1, 1) := by decide +kernel
theorem dX9_rate_128 : decode cX9_rate 128 = .ok (.ifCond .ne 7, 3) := by decide +kernel
theorem dX9_rate_131 : decode cX9_rate 131 = .ok (.iload_n 3, 1) := by decide +kernel
theorem dX9_rate_132 : decode cX9_rate 132 = .ok (.goto 60, 3) := by decide +kernel
theorem dX9_rate_135 : decode cX9_rate 135 = .ok (.iload_n 1, 1) := by decide +kernel
theorem dX9_rate_136 : decode cX9_rate 136 = .ok (.iconst 1, 1) := by decide +kernel
theorem dX9_rate_137 : decode cX9_rate 137 = .ok (.if_icmp .ne 8, 3) := by decide +kernel
theorem dX9_rate_140 : decode cX9_rate 140 = .ok (.iload 4, 2) := by decide +kernel
theorem dX9_rate_142 : decode cX9_rate 142 = .ok (.goto 50, 3) := by decide +kernel
theorem dX9_rate_145 : decode cX9_rate 145 = .ok (.iload_n 1, 1) := by decide +kernel
theorem dX9_rate_146 : decode cX9_rate 146 = .ok (.iconst 2, 1) := by decide +kernel
theorem dX9_rate_147 : decode cX9_rate 147 = .ok (.if_icmp .ne 8, 3) := by decide +kernel
theorem dX9_rate_150 : decode cX9_rate 150 = .ok (.iload 5, 2) := by decide +kernel
theorem dX9_rate_152 : decode cX9_rate 152 = .ok (.goto 40, 3) := by decide +kernel
theorem dX9_rate_155 : decode cX9_rate 155 = .ok (.iload_n 1, 1) := by decide +kernel
theorem dX9_rate_156 : decode cX9_rate 156 = .ok (.iconst 3, 1) := by decide +kernel
theorem dX9_rate_157 : decode cX9_rate 157 = .ok (.if_icmp .ne 10, 3) := by decide +kernel
theorem dX9_rate_160 : decode cX9_rate 160 = .ok (.iconst 2, 1) := by decide +kernel
theorem dX9_rate_161 : decode cX9_rate 161 = .ok (.iload 4, 2) := by decide +kernel
theorem dX9_rate_163 : decode cX9_rate 163 = .ok (.imul, 1) := by decide +kernel
theorem dX9_rate_164 : decode cX9_rate 164 = .ok (.goto 28, 3) := by decide +kernel
theorem dX9_rate_167 : decode cX9_rate 167 = .ok (.iload_n 1, 1) := by decide +kernel
theorem dX9_rate_168 : decode cX9_rate 168 = .ok (.iconst 4, 1) := by decide +kernel
theorem dX9_rate_169 : decode cX9_rate 169 = .ok (.if_icmp .ne 15, 3) := by decide +kernel
theorem dX9_rate_172 : decode cX9_rate 172 = .ok (.iload 5, 2) := by decide +kernel
theorem dX9_rate_174 : decode cX9_rate 174 = .ok (.aload_n 0, 1) := by decide +kernel
theorem dX9_rate_175 : decode cX9_rate 175 = .ok (.getfield 19, 3) := by decide +kernel
theorem dX9_rate_178 : decode cX9_rate 178 = .ok (.iconst 1, 1) := by decide +kernel
theorem dX9_rate_179 : decode cX9_rate 179 = .ok (.iaload, 1) := by decide +kernel
theorem dX9_rate_180 : decode cX9_rate 180 = .ok (.iadd, 1) := by decide +kernel
theorem dX9_rate_181 : decode cX9_rate 181 = .ok (.goto 11, 3) := by decide +kernel
theorem dX9_rate_184 : decode cX9_rate 184 = .ok (.iload_n 3, 1) := by decide +kernel
theorem dX9_rate_185 : decode cX9_rate 185 = .ok (.aload_n 0, 1) := by decide +kernel
theorem dX9_rate_186 : decode cX9_rate 186 = .ok (.getfield 19, 3) := by decide +kernel
theorem dX9_rate_189 : decode cX9_rate 189 = .ok (.iconst 0, 1) := by decide +kernel
theorem dX9_rate_190 : decode cX9_rate 190 = .ok (.iaload, 1) := by decide +kernel
theorem dX9_rate_191 : decode cX9_rate 191 = .ok (.iadd, 1) := by decide +kernel
theorem dX9_rate_192 : decode cX9_rate 192 = .ok (.ireturn, 1) := by decide +kernel
theorem dX9_keep_0 : decode cX9_keep 0 = .ok (.iload_n 1, 1) := by decide +kernel
theorem dX9_keep_1 : decode cX9_keep 1 = .ok (.iconst 0, 1) := by decide +kernel
theorem dX9_keep_2 : decode cX9_keep 2 = .ok (.iconst 1, 1) := by decide +kernel
theorem dX9_keep_3 : decode cX9_keep 3 = .ok (.invokestatic 55, 3) := by decide +kernel
theorem dX9_keep_6 : decode cX9_keep 6 = .ok (.ifCond .ne 5, 3) := by decide +kernel
theorem dX9_keep_9 : decode cX9_keep 9 = .ok (.iconst (-1), 1) := by decide +kernel
theorem dX9_keep_10 : decode cX9_keep 10 = .ok (.ireturn, 1) := by decide +kernel
theorem dX9_keep_11 : decode cX9_keep 11 = .ok (.iconst 0, 1) := by decide +kernel
theorem dX9_keep_12 : decode cX9_keep 12 = .ok (.istore_n 2, 1) := by decide +kernel
theorem dX9_keep_13 : decode cX9_keep 13 = .ok (.iload_n 2, 1) := by decide +kernel
theorem dX9_keep_14 : decode cX9_keep 14 = .ok (.bipush 40, 2) := by decide +kernel
theorem dX9_keep_16 : decode cX9_keep 16 = .ok (.if_icmp .ge 26, 3) := by decide +kernel
theorem dX9_keep_19 : decode cX9_keep 19 = .ok (.aload_n 0, 1) := by decide +kernel
theorem dX9_keep_20 : decode cX9_keep 20 = .ok (.getfield 22, 3) := by decide +kernel
theorem dX9_keep_23 : decode cX9_keep 23 = .ok (.bipush 40, 2) := by decide +kernel
theorem dX9_keep_25 : decode cX9_keep 25 = .ok (.iload_n 1, 1) := by decide +kernel
theorem dX9_keep_26 : decode cX9_keep 26 = .ok (.imul, 1) := by decide +kernel
theorem dX9_keep_27 : decode cX9_keep 27 = .ok (.iload_n 2, 1) := by decide +kernel
theorem dX9_keep_28 : decode cX9_keep 28 = .ok (.iadd, 1) := by decide +kernel
theorem dX9_keep_29 : decode cX9_keep 29 = .ok (.aload_n 0, 1) := by decide +kernel
theorem dX9_keep_30 : decode cX9_keep 30 = .ok (.getfield 19, 3) := by decide +kernel
theorem dX9_keep_33 : decode cX9_keep 33 = .ok (.iload_n 2, 1) := by decide +kernel
theorem dX9_keep_34 : decode cX9_keep 34 = .ok (.iaload, 1) := by decide +kernel
theorem dX9_keep_35 : decode cX9_keep 35 = .ok (.iastore, 1) := by decide +kernel
theorem dX9_keep_36 : decode cX9_keep 36 = .ok (.iinc 2 1, 3) := by decide +kernel
theorem dX9_keep_39 : decode cX9_keep 39 = .ok (.goto (-26), 3) := by decide +kernel
theorem dX9_keep_42 : decode cX9_keep 42 = .ok (.aload_n 0, 1) := by decide +kernel
theorem dX9_keep_43 : decode cX9_keep 43 = .ok (.getfield 25, 3) := by decide +kernel
theorem dX9_keep_46 : decode cX9_keep 46 = .ok (.iload_n 1, 1) := by decide +kernel
theorem dX9_keep_47 : decode cX9_keep 47 = .ok (.iconst 1, 1) := by decide +kernel
theorem dX9_keep_48 : decode cX9_keep 48 = .ok (.bastore, 1) := by decide +kernel
theorem dX9_keep_49 : decode cX9_keep 49 = .ok (.aload_n 0, 1) := by decide +kernel
theorem dX9_keep_50 : decode cX9_keep 50 = .ok (.getfield 19, 3) := by decide +kernel
theorem dX9_keep_53 : decode cX9_keep 53 = .ok (.iconst 0, 1) := by decide +kernel
theorem dX9_keep_54 : decode cX9_keep 54 = .ok (.iaload, 1) := by decide +kernel
theorem dX9_keep_55 : decode cX9_keep 55 = .ok (.ireturn, 1) := by decide +kernel
theorem dX9_back_0 : decode cX9_back 0 = .ok (.iload_n 1, 1) := by decide +kernel
theorem dX9_back_1 : decode cX9_back 1 = .ok (.iconst 0, 1) := by decide +kernel
theorem dX9_back_2 : decode cX9_back 2 = .ok (.iconst 1, 1) := by decide +kernel
theorem dX9_back_3 : decode cX9_back 3 = .ok (.invokestatic 55, 3) := by decide +kernel
theorem dX9_back_6 : decode cX9_back 6 = .ok (.ifCond .ne 5, 3) := by decide +kernel
theorem dX9_back_9 : decode cX9_back 9 = .ok (.iconst (-1), 1) := by decide +kernel
theorem dX9_back_10 : decode cX9_back 10 = .ok (.ireturn, 1) := by decide +kernel
theorem dX9_back_11 : decode cX9_back 11 = .ok (.aload_n 0, 1) := by decide +kernel
theorem dX9_back_12 : decode cX9_back 12 = .ok (.getfield 25, 3) := by decide +kernel
theorem dX9_back_15 : decode cX9_back 15 = .ok (.iload_n 1, 1) := by decide +kernel
theorem dX9_back_16 : decode cX9_back 16 = .ok (.baload, 1) := by decide +kernel
theorem dX9_back_17 : decode cX9_back 17 = .ok (.ifCond .ne 6, 3) := by decide +kernel
theorem dX9_back_20 : decode cX9_back 20 = .ok (.bipush (-2), 2) := by decide +kernel
theorem dX9_back_22 : decode cX9_back 22 = .ok (.ireturn, 1) := by decide +kernel
theorem dX9_back_23 : decode cX9_back 23 = .ok (.iconst 0, 1) := by decide +kernel
theorem dX9_back_24 : decode cX9_back 24 = .ok (.istore_n 2, 1) := by decide +kernel
theorem dX9_back_25 : decode cX9_back 25 = .ok (.iload_n 2, 1) := by decide +kernel
theorem dX9_back_26 : decode cX9_back 26 = .ok (.bipush 40, 2) := by decide +kernel
theorem dX9_back_28 : decode cX9_back 28 = .ok (.if_icmp .ge 26, 3) := by decide +kernel
theorem dX9_back_31 : decode cX9_back 31 = .ok (.aload_n 0, 1) := by decide +kernel
theorem dX9_back_32 : decode cX9_back 32 = .ok (.getfield 19, 3) := by decide +kernel
theorem dX9_back_35 : decode cX9_back 35 = .ok (.iload_n 2, 1) := by decide +kernel
theorem dX9_back_36 : decode cX9_back 36 = .ok (.aload_n 0, 1) := by decide +kernel
theorem dX9_back_37 : decode cX9_back 37 = .ok (.getfield 22, 3) := by decide +kernel
theorem dX9_back_40 : decode cX9_back 40 = .ok (.bipush 40, 2) := by decide +kernel
theorem dX9_back_42 : decode cX9_back 42 = .ok (.iload_n 1, 1) := by decide +kernel
theorem dX9_back_43 : decode cX9_back 43 = .ok (.imul, 1) := by decide +kernel
theorem dX9_back_44 : decode cX9_back 44 = .ok (.iload_n 2, 1) := by decide +kernel
theorem dX9_back_45 : decode cX9_back 45 = .ok (.iadd, 1) := by decide +kernel
theorem dX9_back_46 : decode cX9_back 46 = .ok (.iaload, 1) := by decide +kernel
theorem dX9_back_47 : decode cX9_back 47 = .ok (.iastore, 1) := by decide +kernel
theorem dX9_back_48 : decode cX9_back 48 = .ok (.iinc 2 1, 3) := by decide +kernel
theorem dX9_back_51 : decode cX9_back 51 = .ok (.goto (-26), 3) := by decide +kernel
theorem dX9_back_54 : decode cX9_back 54 = .ok (.aload_n 0, 1) := by decide +kernel
theorem dX9_back_55 : decode cX9_back 55 = .ok (.getfield 19, 3) := by decide +kernel
theorem dX9_back_58 : decode cX9_back 58 = .ok (.iconst 0, 1) := by decide +kernel
theorem dX9_back_59 : decode cX9_back 59 = .ok (.iaload, 1) := by decide +kernel
theorem dX9_back_60 : decode cX9_back 60 = .ok (.ireturn, 1) := by decide +kernel
theorem dX9_count_0 : decode cX9_count 0 = .ok (.iload_n 1, 1) := by decide +kernel
theorem dX9_count_1 : decode cX9_count 1 = .ok (.iconst 0, 1) := by decide +kernel
theorem dX9_count_2 : decode cX9_count 2 = .ok (.bipush 7, 2) := by decide +kernel
theorem dX9_count_4 : decode cX9_count 4 = .ok (.invokestatic 55, 3) := by decide +kernel
theorem dX9_count_7 : decode cX9_count 7 = .ok (.ifCond .ne 5, 3) := by decide +kernel
theorem dX9_count_10 : decode cX9_count 10 = .ok (.iconst (-1), 1) := by decide +kernel
theorem dX9_count_11 : decode cX9_count 11 = .ok (.ireturn, 1) := by decide +kernel
theorem dX9_count_12 : decode cX9_count 12 = .ok (.iload_n 1, 1) := by decide +kernel
theorem dX9_count_13 : decode cX9_count 13 = .ok (.ifCond .ne 12, 3) := by decide +kernel
theorem dX9_count_16 : decode cX9_count 16 = .ok (.aload_n 0, 1) := by decide +kernel
theorem dX9_count_17 : decode cX9_count 17 = .ok (.getfield 13, 3) := by decide +kernel
theorem dX9_count_20 : decode cX9_count 20 = .ok (.iconst 0, 1) := by decide +kernel
theorem dX9_count_21 : decode cX9_count 21 = .ok (.iaload, 1) := by decide +kernel
theorem dX9_count_22 : decode cX9_count 22 = .ok (.goto 37, 3) := by decide +kernel
theorem dX9_count_25 : decode cX9_count 25 = .ok (.iload_n 1, 1) := by decide +kernel
theorem dX9_count_26 : decode cX9_count 26 = .ok (.iconst 1, 1) := by decide +kernel
theorem dX9_count_27 : decode cX9_count 27 = .ok (.if_icmp .ne 12, 3) := by decide +kernel
theorem dX9_count_30 : decode cX9_count 30 = .ok (.aload_n 0, 1) := by decide +kernel
theorem dX9_count_31 : decode cX9_count 31 = .ok (.getfield 13, 3) := by decide +kernel
theorem dX9_count_34 : decode cX9_count 34 = .ok (.iconst 1, 1) := by decide +kernel
theorem dX9_count_35 : decode cX9_count 35 = .ok (.iaload, 1) := by decide +kernel
theorem dX9_count_36 : decode cX9_count 36 = .ok (.goto 23, 3) := by decide +kernel
theorem dX9_count_39 : decode cX9_count 39 = .ok (.iload_n 1, 1) := by decide +kernel
theorem dX9_count_40 : decode cX9_count 40 = .ok (.iconst 2, 1) := by decide +kernel
theorem dX9_count_41 : decode cX9_count 41 = .ok (.if_icmp .ne 12, 3) := by decide +kernel
theorem dX9_count_44 : decode cX9_count 44 = .ok (.aload_n 0, 1) := by decide +kernel
theorem dX9_count_45 : decode cX9_count 45 = .ok (.getfield 13, 3) := by decide +kernel
theorem dX9_count_48 : decode cX9_count 48 = .ok (.iconst 3, 1) := by decide +kernel
theorem dX9_count_49 : decode cX9_count 49 = .ok (.iaload, 1) := by decide +kernel
theorem dX9_count_50 : decode cX9_count 50 = .ok (.goto 9, 3) := by decide +kernel
theorem dX9_count_53 : decode cX9_count 53 = .ok (.aload_n 0, 1) := by decide +kernel
theorem dX9_count_54 : decode cX9_count 54 = .ok (.getfield 13, 3) := by decide +kernel
theorem dX9_count_57 : decode cX9_count 57 = .ok (.iconst 2, 1) := by decide +kernel
theorem dX9_count_58 : decode cX9_count 58 = .ok (.iaload, 1) := by decide +kernel
theorem dX9_count_59 : decode cX9_count 59 = .ok (.istore_n 2, 1) := by decide +kernel
theorem dX9_count_60 : decode cX9_count 60 = .ok (.iload_n 1, 1) := by decide +kernel
theorem dX9_count_61 : decode cX9_count 61 = .ok (.iconst 4, 1) := by decide +kernel
theorem dX9_count_62 : decode cX9_count 62 = .ok (.if_icmp .ge 7, 3) := by decide +kernel
theorem dX9_count_65 : decode cX9_count 65 = .ok (.iload_n 2, 1) := by decide +kernel
theorem dX9_count_66 : decode cX9_count 66 = .ok (.goto 48, 3) := by decide +kernel
theorem dX9_count_69 : decode cX9_count 69 = .ok (.iload_n 1, 1) := by decide +kernel
theorem dX9_count_70 : decode cX9_count 70 = .ok (.iconst 4, 1) := by decide +kernel
theorem dX9_count_71 : decode cX9_count 71 = .ok (.if_icmp .ne 10, 3) := by decide +kernel
theorem dX9_count_74 : decode cX9_count 74 = .ok (.aload_n 0, 1) := by decide +kernel
theorem dX9_count_75 : decode cX9_count 75 = .ok (.getfield 126, 3) := by decide +kernel
theorem dX9_count_78 : decode cX9_count 78 = .ok (.goto 36, 3) := by decide +kernel
theorem dX9_count_81 : decode cX9_count 81 = .ok (.iload_n 1, 1) := by decide +kernel
theorem dX9_count_82 : decode cX9_count 82 = .ok (.iconst 5, 1) := by decide +kernel
theorem dX9_count_83 : decode cX9_count 83 = .ok (.if_icmp .ne 12, 3) := by decide +kernel
theorem dX9_count_86 : decode cX9_count 86 = .ok (.aload_n 0, 1) := by decide +kernel
theorem dX9_count_87 : decode cX9_count 87 = .ok (.getfield 19, 3) := by decide +kernel
theorem dX9_count_90 : decode cX9_count 90 = .ok (.iconst 0, 1) := by decide +kernel
theorem dX9_count_91 : decode cX9_count 91 = .ok (.iaload, 1) := by decide +kernel
theorem dX9_count_92 : decode cX9_count 92 = .ok (.goto 22, 3) := by decide +kernel
theorem dX9_count_95 : decode cX9_count 95 = .ok (.iload_n 1, 1) := by decide +kernel
theorem dX9_count_96 : decode cX9_count 96 = .ok (.bipush 6, 2) := by decide +kernel
theorem dX9_count_98 : decode cX9_count 98 = .ok (.if_icmp .ne 12, 3) := by decide +kernel
theorem dX9_count_101 : decode cX9_count 101 = .ok (.aload_n 0, 1) := by decide +kernel
theorem dX9_count_102 : decode cX9_count 102 = .ok (.getfield 19, 3) := by decide +kernel
theorem dX9_count_105 : decode cX9_count 105 = .ok (.iconst 1, 1) := by decide +kernel
theorem dX9_count_106 : decode cX9_count 106 = .ok (.iaload, 1) := by decide +kernel
theorem dX9_count_107 : decode cX9_count 107 = .ok (.goto 7, 3) := by decide +kernel
theorem dX9_count_110 : decode cX9_count 110 = .ok (.aload_n 0, 1) := by decide +kernel
theorem dX9_count_111 : decode cX9_count 111 = .ok (.getfield 63, 3) := by decide +kernel
theorem dX9_count_114 : decode cX9_count 114 = .ok (.ireturn, 1) := by decide +kernel
theorem dX9_trace_0 : decode cX9_trace 0 = .ok (.aload_n 0, 1) := by decide +kernel
theorem dX9_trace_1 : decode cX9_trace 1 = .ok (.getfield 197, 3) := by decide +kernel
theorem dX9_trace_4 : decode cX9_trace 4 = .ok (.lreturn, 1) := by decide +kernel
theorem dJ9_abs_0f7a4_0 : decode cJ9_abs_0f7a4 0 = .ok (.iload_n 0, 1) := by decide +kernel
theorem dJ9_abs_0f7a4_1 : decode cJ9_abs_0f7a4 1 = .ok (.ifCond .ge 8, 3) := by decide +kernel
theorem dJ9_abs_0f7a4_4 : decode cJ9_abs_0f7a4 4 = .ok (.iload_n 0, 1) := by decide +kernel
theorem dJ9_abs_0f7a4_5 : decode cJ9_abs_0f7a4 5 = .ok (.ineg, 1) := by decide +kernel
theorem dJ9_abs_0f7a4_6 : decode cJ9_abs_0f7a4 6 = .ok (.goto 4, 3) := by decide +kernel
theorem dJ9_abs_0f7a4_9 : decode cJ9_abs_0f7a4 9 = .ok (.iload_n 0, 1) := by decide +kernel
theorem dJ9_abs_0f7a4_10 : decode cJ9_abs_0f7a4 10 = .ok (.ireturn, 1) := by decide +kernel
theorem dJ9_max_7cf53_0 : decode cJ9_max_7cf53 0 = .ok (.iload_n 0, 1) := by decide +kernel
theorem dJ9_max_7cf53_1 : decode cJ9_max_7cf53 1 = .ok (.iload_n 1, 1) := by decide +kernel
theorem dJ9_max_7cf53_2 : decode cJ9_max_7cf53 2 = .ok (.if_icmp .lt 7, 3) := by decide +kernel
theorem dJ9_max_7cf53_5 : decode cJ9_max_7cf53 5 = .ok (.iload_n 0, 1) := by decide +kernel
theorem dJ9_max_7cf53_6 : decode cJ9_max_7cf53 6 = .ok (.goto 4, 3) := by decide +kernel
theorem dJ9_max_7cf53_9 : decode cJ9_max_7cf53 9 = .ok (.iload_n 1, 1) := by decide +kernel
theorem dJ9_max_7cf53_10 : decode cJ9_max_7cf53 10 = .ok (.ireturn, 1) := by decide +kernel
theorem dJ9_min_7cf53_0 : decode cJ9_min_7cf53 0 = .ok (.iload_n 0, 1) := by decide +kernel
theorem dJ9_min_7cf53_1 : decode cJ9_min_7cf53 1 = .ok (.iload_n 1, 1) := by decide +kernel
theorem dJ9_min_7cf53_2 : decode cJ9_min_7cf53 2 = .ok (.if_icmp .gt 7, 3) := by decide +kernel
theorem dJ9_min_7cf53_5 : decode cJ9_min_7cf53 5 = .ok (.iload_n 0, 1) := by decide +kernel
theorem dJ9_min_7cf53_6 : decode cJ9_min_7cf53 6 = .ok (.goto 4, 3) := by decide +kernel
theorem dJ9_min_7cf53_9 : decode cJ9_min_7cf53 9 = .ok (.iload_n 1, 1) := by decide +kernel
theorem dJ9_min_7cf53_10 : decode cJ9_min_7cf53 10 = .ok (.ireturn, 1) := by decide +kernel
theorem dJ0_length_8abf5_0 : decode cJ0_length_8abf5 0 = .ok (.aload_n 0, 1) := by decide +kernel
theorem dJ0_length_8abf5_1 : decode cJ0_length_8abf5 1 = .ok (.getfield 9, 3) := by decide +kernel
theorem dJ0_length_8abf5_4 : decode cJ0_length_8abf5 4 = .ok (.arraylength, 1) := by decide +kernel
theorem dJ0_length_8abf5_5 : decode cJ0_length_8abf5 5 = .ok (.aload_n 0, 1) := by decide +kernel
theorem dJ0_length_8abf5_6 : decode cJ0_length_8abf5 6 = .ok (.invokevirtual 335, 3) := by decide +kernel
theorem dJ0_length_8abf5_9 : decode cJ0_length_8abf5 9 = .ok (.ishr, 1) := by decide +kernel
theorem dJ0_length_8abf5_10 : decode cJ0_length_8abf5 10 = .ok (.ireturn, 1) := by decide +kernel
theorem dJ0_charAt_5068e_0 : decode cJ0_charAt_5068e 0 = .ok (.aload_n 0, 1) := by decide +kernel
theorem dJ0_charAt_5068e_1 : decode cJ0_charAt_5068e 1 = .ok (.invokevirtual 492, 3) := by decide +kernel
theorem dJ0_charAt_5068e_4 : decode cJ0_charAt_5068e 4 = .ok (.ifCond .eq 12, 3) := by decide +kernel
theorem dJ0_charAt_5068e_7 : decode cJ0_charAt_5068e 7 = .ok (.aload_n 0, 1) := by decide +kernel
theorem dJ0_charAt_5068e_8 : decode cJ0_charAt_5068e 8 = .ok (.getfield 9, 3) := by decide +kernel
theorem dJ0_charAt_5068e_11 : decode cJ0_charAt_5068e 11 = .ok (.iload_n 1, 1) := by decide +kernel
theorem dJ0_charAt_5068e_12 : decode cJ0_charAt_5068e 12 = .ok (.invokestatic 495, 3) := by decide +kernel
theorem dJ0_charAt_5068e_15 : decode cJ0_charAt_5068e 15 = .ok (.ireturn, 1) := by decide +kernel
theorem dJ0_charAt_5068e_16 : decode cJ0_charAt_5068e 16 = .ok (.aload_n 0, 1) := by decide +kernel
theorem dJ0_charAt_5068e_17 : decode cJ0_charAt_5068e 17 = .ok (.getfield 9, 3) := by decide +kernel
theorem dJ0_charAt_5068e_20 : decode cJ0_charAt_5068e 20 = .ok (.iload_n 1, 1) := by decide +kernel
theorem dJ0_charAt_5068e_21 : decode cJ0_charAt_5068e 21 = .ok (.invokestatic 498, 3) := by decide +kernel
theorem dJ0_charAt_5068e_24 : decode cJ0_charAt_5068e 24 = .ok (.ireturn, 1) := by decide +kernel
theorem dJ0_coder_7d493_0 : decode cJ0_coder_7d493 0 = .ok (.getstatic 38, 3) := by decide +kernel
theorem dJ0_coder_7d493_3 : decode cJ0_coder_7d493 3 = .ok (.ifCond .eq 10, 3) := by decide +kernel
theorem dJ0_coder_7d493_6 : decode cJ0_coder_7d493 6 = .ok (.aload_n 0, 1) := by decide +kernel
theorem dJ0_coder_7d493_7 : decode cJ0_coder_7d493 7 = .ok (.getfield 15, 3) := by decide +kernel
theorem dJ0_coder_7d493_10 : decode cJ0_coder_7d493 10 = .ok (.goto 4, 3) := by decide +kernel
theorem dJ0_coder_7d493_13 : decode cJ0_coder_7d493 13 = .ok (.iconst 1, 1) := by decide +kernel
theorem dJ0_coder_7d493_14 : decode cJ0_coder_7d493 14 = .ok (.ireturn, 1) := by decide +kernel
theorem dJ0_isLatin1_aae02_0 : decode cJ0_isLatin1_aae02 0 = .ok (.getstatic 38, 3) := by decide +kernel
theorem dJ0_isLatin1_aae02_3 : decode cJ0_isLatin1_aae02 3 = .ok (.ifCond .eq 14, 3) := by decide +kernel
theorem dJ0_isLatin1_aae02_6 : decode cJ0_isLatin1_aae02 6 = .ok (.aload_n 0, 1) := by decide +kernel
theorem dJ0_isLatin1_aae02_7 : decode cJ0_isLatin1_aae02 7 = .ok (.getfield 15, 3) := by decide +kernel
theorem dJ0_isLatin1_aae02_10 : decode cJ0_isLatin1_aae02 10 = .ok (.ifCond .ne 7, 3) := by decide +kernel
theorem dJ0_isLatin1_aae02_13 : decode cJ0_isLatin1_aae02 13 = .ok (.iconst 1, 1) := by decide +kernel
theorem dJ0_isLatin1_aae02_14 : decode cJ0_isLatin1_aae02 14 = .ok (.goto 4, 3) := by decide +kernel
theorem dJ0_isLatin1_aae02_17 : decode cJ0_isLatin1_aae02 17 = .ok (.iconst 0, 1) := by decide +kernel
theorem dJ0_isLatin1_aae02_18 : decode cJ0_isLatin1_aae02 18 = .ok (.ireturn, 1) := by decide +kernel
theorem dJ0_checkIndex_df160_0 : decode cJ0_checkIndex_df160 0 = .ok (.iload_n 0, 1) := by decide +kernel
theorem dJ0_checkIndex_df160_1 : decode cJ0_checkIndex_df160 1 = .ok (.iload_n 1, 1) := by decide +kernel
theorem dJ0_checkIndex_df160_2 : decode cJ0_checkIndex_df160 2 = .ok (.getstatic 1053, 3) := by decide +kernel
theorem dJ0_checkIndex_df160_5 : decode cJ0_checkIndex_df160 5 = .ok (.invokestatic 1059, 3) := by decide +kernel
theorem dJ0_checkIndex_df160_8 : decode cJ0_checkIndex_df160 8 = .ok (.pop, 1) := by decide +kernel
theorem dJ0_checkIndex_df160_9 : decode cJ0_checkIndex_df160 9 = .ok (.return_, 1) := by decide +kernel
theorem dJ1_charAt_3b067_0 : decode cJ1_charAt_3b067 0 = .ok (.iload_n 1, 1) := by decide +kernel
theorem dJ1_charAt_3b067_1 : decode cJ1_charAt_3b067 1 = .ok (.aload_n 0, 1) := by decide +kernel
theorem dJ1_charAt_3b067_2 : decode cJ1_charAt_3b067 2 = .ok (.arraylength, 1) := by decide +kernel
theorem dJ1_charAt_3b067_3 : decode cJ1_charAt_3b067 3 = .ok (.invokestatic 9, 3) := by decide +kernel
theorem dJ1_charAt_3b067_6 : decode cJ1_charAt_3b067 6 = .ok (.aload_n 0, 1) := by decide +kernel
theorem dJ1_charAt_3b067_7 : decode cJ1_charAt_3b067 7 = .ok (.iload_n 1, 1) := by decide +kernel
theorem dJ1_charAt_3b067_8 : decode cJ1_charAt_3b067 8 = .ok (.baload, 1) := by decide +kernel
theorem dJ1_charAt_3b067_9 : decode cJ1_charAt_3b067 9 = .ok (.sipush 255, 3) := by decide +kernel
theorem dJ1_charAt_3b067_12 : decode cJ1_charAt_3b067 12 = .ok (.iand, 1) := by decide +kernel
theorem dJ1_charAt_3b067_13 : decode cJ1_charAt_3b067 13 = .ok (.i2c, 1) := by decide +kernel
theorem dJ1_charAt_3b067_14 : decode cJ1_charAt_3b067 14 = .ok (.ireturn, 1) := by decide +kernel
theorem dJ2_getChar_3b067_0 : decode cJ2_getChar_3b067 0 = .ok (.getstatic 44, 3) := by decide +kernel
theorem dJ2_getChar_3b067_3 : decode cJ2_getChar_3b067 3 = .ok (.ifCond .ne 25, 3) := by decide +kernel
theorem dJ2_getChar_3b067_6 : decode cJ2_getChar_3b067 6 = .ok (.iload_n 1, 1) := by decide +kernel
theorem dJ2_getChar_3b067_7 : decode cJ2_getChar_3b067 7 = .ok (.ifCond .lt 11, 3) := by decide +kernel
theorem dJ2_getChar_3b067_10 : decode cJ2_getChar_3b067 10 = .ok (.iload_n 1, 1) := by decide +kernel
theorem dJ2_getChar_3b067_11 : decode cJ2_getChar_3b067 11 = .ok (.aload_n 0, 1) := by decide +kernel
theorem dJ2_getChar_3b067_12 : decode cJ2_getChar_3b067 12 = .ok (.invokestatic 48, 3) := by decide +kernel
theorem dJ2_getChar_3b067_15 : decode cJ2_getChar_3b067 15 = .ok (.if_icmp .lt 13, 3) := by decide +kernel
theorem dJ2_getChar_3b067_18 : decode cJ2_getChar_3b067 18 = .ok (.new 52, 3) := by decide +kernel
theorem dJ2_getChar_3b067_21 : decode cJ2_getChar_3b067 21 = .ok (.dup, 1) := by decide +kernel
theorem dJ2_getChar_3b067_22 : decode cJ2_getChar_3b067 22 = .ok (.ldc 54, 2) := by decide +kernel
theorem dJ2_getChar_3b067_24 : decode cJ2_getChar_3b067 24 = .ok (.invokespecial 56, 3) := by decide +kernel
theorem dJ2_getChar_3b067_27 : decode cJ2_getChar_3b067 27 = .ok (.athrow, 1) := by decide +kernel
theorem dJ2_getChar_3b067_28 : decode cJ2_getChar_3b067 28 = .ok (.iload_n 1, 1) := by decide +kernel
theorem dJ2_getChar_3b067_29 : decode cJ2_getChar_3b067 29 = .ok (.iconst 1, 1) := by decide +kernel
theorem dJ2_getChar_3b067_30 : decode cJ2_getChar_3b067 30 = .ok (.ishl, 1) := by decide +kernel
theorem dJ2_getChar_3b067_31 : decode cJ2_getChar_3b067 31 = .ok (.istore_n 1, 1) := by decide +kernel
theorem dJ2_getChar_3b067_32 : decode cJ2_getChar_3b067 32 = .ok (.aload_n 0, 1) := by decide +kernel
theorem dJ2_getChar_3b067_33 : decode cJ2_getChar_3b067 33 = .ok (.iload_n 1, 1) := by decide +kernel
theorem dJ2_getChar_3b067_34 : decode cJ2_getChar_3b067 34 = .ok (.iinc 1 1, 3) := by decide +kernel
theorem dJ2_getChar_3b067_37 : decode cJ2_getChar_3b067 37 = .ok (.baload, 1) := by decide +kernel
theorem dJ2_getChar_3b067_38 : decode cJ2_getChar_3b067 38 = .ok (.sipush 255, 3) := by decide +kernel
theorem dJ2_getChar_3b067_41 : decode cJ2_getChar_3b067 41 = .ok (.iand, 1) := by decide +kernel
theorem dJ2_getChar_3b067_42 : decode cJ2_getChar_3b067 42 = .ok (.getstatic 59, 3) := by decide +kernel
theorem dJ2_getChar_3b067_45 : decode cJ2_getChar_3b067 45 = .ok (.ishl, 1) := by decide +kernel
theorem dJ2_getChar_3b067_46 : decode cJ2_getChar_3b067 46 = .ok (.aload_n 0, 1) := by decide +kernel
theorem dJ2_getChar_3b067_47 : decode cJ2_getChar_3b067 47 = .ok (.iload_n 1, 1) := by decide +kernel
theorem dJ2_getChar_3b067_48 : decode cJ2_getChar_3b067 48 = .ok (.baload, 1) := by decide +kernel
theorem dJ2_getChar_3b067_49 : decode cJ2_getChar_3b067 49 = .ok (.sipush 255, 3) := by decide +kernel
theorem dJ2_getChar_3b067_52 : decode cJ2_getChar_3b067 52 = .ok (.iand, 1) := by decide +kernel
theorem dJ2_getChar_3b067_53 : decode cJ2_getChar_3b067 53 = .ok (.getstatic 63, 3) := by decide +kernel
theorem dJ2_getChar_3b067_56 : decode cJ2_getChar_3b067 56 = .ok (.ishl, 1) := by decide +kernel
theorem dJ2_getChar_3b067_57 : decode cJ2_getChar_3b067 57 = .ok (.ior, 1) := by decide +kernel
theorem dJ2_getChar_3b067_58 : decode cJ2_getChar_3b067 58 = .ok (.i2c, 1) := by decide +kernel
theorem dJ2_getChar_3b067_59 : decode cJ2_getChar_3b067 59 = .ok (.ireturn, 1) := by decide +kernel
theorem dJ2_length_9d52b_0 : decode cJ2_length_9d52b 0 = .ok (.aload_n 0, 1) := by decide +kernel
theorem dJ2_length_9d52b_1 : decode cJ2_length_9d52b 1 = .ok (.arraylength, 1) := by decide +kernel
theorem dJ2_length_9d52b_2 : decode cJ2_length_9d52b 2 = .ok (.iconst 1, 1) := by decide +kernel
theorem dJ2_length_9d52b_3 : decode cJ2_length_9d52b 3 = .ok (.ishr, 1) := by decide +kernel
theorem dJ2_length_9d52b_4 : decode cJ2_length_9d52b 4 = .ok (.ireturn, 1) := by decide +kernel
theorem dJ2_charAt_3b067_0 : decode cJ2_charAt_3b067 0 = .ok (.iload_n 1, 1) := by decide +kernel
theorem dJ2_charAt_3b067_1 : decode cJ2_charAt_3b067 1 = .ok (.aload_n 0, 1) := by decide +kernel
theorem dJ2_charAt_3b067_2 : decode cJ2_charAt_3b067 2 = .ok (.invokestatic 67, 3) := by decide +kernel
theorem dJ2_charAt_3b067_5 : decode cJ2_charAt_3b067 5 = .ok (.aload_n 0, 1) := by decide +kernel
theorem dJ2_charAt_3b067_6 : decode cJ2_charAt_3b067 6 = .ok (.iload_n 1, 1) := by decide +kernel
theorem dJ2_charAt_3b067_7 : decode cJ2_charAt_3b067 7 = .ok (.invokestatic 71, 3) := by decide +kernel
theorem dJ2_charAt_3b067_10 : decode cJ2_charAt_3b067 10 = .ok (.ireturn, 1) := by decide +kernel
theorem dJ2_checkIndex_2214a_0 : decode cJ2_checkIndex_2214a 0 = .ok (.iload_n 0, 1) := by decide +kernel
theorem dJ2_checkIndex_2214a_1 : decode cJ2_checkIndex_2214a 1 = .ok (.aload_n 1, 1) := by decide +kernel
theorem dJ2_checkIndex_2214a_2 : decode cJ2_checkIndex_2214a 2 = .ok (.invokestatic 48, 3) := by decide +kernel
theorem dJ2_checkIndex_2214a_5 : decode cJ2_checkIndex_2214a 5 = .ok (.invokestatic 414, 3) := by decide +kernel
theorem dJ2_checkIndex_2214a_8 : decode cJ2_checkIndex_2214a 8 = .ok (.return_, 1) := by decide +kernel
theorem dJ3_checkIndex_8e157_0 : decode cJ3_checkIndex_8e157 0 = .ok (.iload_n 0, 1) := by decide +kernel
theorem dJ3_checkIndex_8e157_1 : decode cJ3_checkIndex_8e157 1 = .ok (.ifCond .lt 8, 3) := by decide +kernel
theorem dJ3_checkIndex_8e157_4 : decode cJ3_checkIndex_8e157 4 = .ok (.iload_n 0, 1) := by decide +kernel
theorem dJ3_checkIndex_8e157_5 : decode cJ3_checkIndex_8e157 5 = .ok (.iload_n 1, 1) := by decide +kernel
theorem dJ3_checkIndex_8e157_6 : decode cJ3_checkIndex_8e157 6 = .ok (.if_icmp .lt 10, 3) := by decide +kernel
theorem dJ3_checkIndex_8e157_9 : decode cJ3_checkIndex_8e157 9 = .ok (.aload_n 2, 1) := by decide +kernel
theorem dJ3_checkIndex_8e157_10 : decode cJ3_checkIndex_8e157 10 = .ok (.iload_n 0, 1) := by decide +kernel
theorem dJ3_checkIndex_8e157_11 : decode cJ3_checkIndex_8e157 11 = .ok (.iload_n 1, 1) := by decide +kernel
theorem dJ3_checkIndex_8e157_12 : decode cJ3_checkIndex_8e157 12 = .ok (.invokestatic 95, 3) := by decide +kernel
theorem dJ3_checkIndex_8e157_15 : decode cJ3_checkIndex_8e157 15 = .ok (.athrow, 1) := by decide +kernel
theorem dJ3_checkIndex_8e157_16 : decode cJ3_checkIndex_8e157 16 = .ok (.iload_n 0, 1) := by decide +kernel
theorem dJ3_checkIndex_8e157_17 : decode cJ3_checkIndex_8e157 17 = .ok (.ireturn, 1) := by decide +kernel
theorem dL_law_0 : decode cL_law 0 = .ok (.new 7, 3) := by decide +kernel
theorem dL_law_3 : decode cL_law 3 = .ok (.dup, 1) := by decide +kernel
theorem dL_law_4 : decode cL_law 4 = .ok (.invokespecial 9, 3) := by decide +kernel
theorem dL_law_7 : decode cL_law 7 = .ok (.astore_n 1, 1) := by decide +kernel
theorem dL_law_8 : decode cL_law 8 = .ok (.new 10, 3) := by decide +kernel
theorem dL_law_11 : decode cL_law 11 = .ok (.dup, 1) := by decide +kernel
theorem dL_law_12 : decode cL_law 12 = .ok (.invokespecial 12, 3) := by decide +kernel
theorem dL_law_15 : decode cL_law 15 = .ok (.astore_n 2, 1) := by decide +kernel
theorem dL_law_16 : decode cL_law 16 = .ok (.iconst 0, 1) := by decide +kernel
theorem dL_law_17 : decode cL_law 17 = .ok (.istore_n 3, 1) := by decide +kernel
theorem dL_law_18 : decode cL_law 18 = .ok (.iload_n 3, 1) := by decide +kernel
theorem dL_law_19 : decode cL_law 19 = .ok (.aload_n 0, 1) := by decide +kernel
theorem dL_law_20 : decode cL_law 20 = .ok (.arraylength, 1) := by decide +kernel
theorem dL_law_21 : decode cL_law 21 = .ok (.iconst 5, 1) := by decide +kernel
theorem dL_law_22 : decode cL_law 22 = .ok (.isub, 1) := by decide +kernel
theorem dL_law_23 : decode cL_law 23 = .ok (.if_icmp .gt 709, 3) := by decide +kernel
theorem dL_law_26 : decode cL_law 26 = .ok (.aload_n 0, 1) := by decide +kernel
theorem dL_law_27 : decode cL_law 27 = .ok (.iload_n 3, 1) := by decide +kernel
theorem dL_law_28 : decode cL_law 28 = .ok (.iaload, 1) := by decide +kernel
theorem dL_law_29 : decode cL_law 29 = .ok (.bipush 31, 2) := by decide +kernel
theorem dL_law_31 : decode cL_law 31 = .ok (.iand, 1) := by decide +kernel
theorem dL_law_32 : decode cL_law 32 = .ok (.tableswitch 694 0 20 #[100, 163, 176, 189, 222, 265, 318, 331, 344, 377, 410, 433, 476, 509, 542, 555, 578, 611, 634, 657, 680], 100) := by decide +kernel
theorem dL_law_132 : decode cL_law 132 = .ok (.aload_n 1, 1) := by decide +kernel
theorem dL_law_133 : decode cL_law 133 = .ok (.aload_n 0, 1) := by decide +kernel
theorem dL_law_134 : decode cL_law 134 = .ok (.iload_n 3, 1) := by decide +kernel
theorem dL_law_135 : decode cL_law 135 = .ok (.iconst 1, 1) := by decide +kernel
theorem dL_law_136 : decode cL_law 136 = .ok (.iadd, 1) := by decide +kernel
theorem dL_law_137 : decode cL_law 137 = .ok (.iaload, 1) := by decide +kernel
theorem dL_law_138 : decode cL_law 138 = .ok (.i2l, 1) := by decide +kernel
theorem dL_law_139 : decode cL_law 139 = .ok (.bipush 32, 2) := by decide +kernel
theorem dL_law_141 : decode cL_law 141 = .ok (.lshl, 1) := by decide +kernel
theorem dL_law_142 : decode cL_law 142 = .ok (.aload_n 0, 1) := by decide +kernel
theorem dL_law_143 : decode cL_law 143 = .ok (.iload_n 3, 1) := by decide +kernel
theorem dL_law_144 : decode cL_law 144 = .ok (.iconst 2, 1) := by decide +kernel
theorem dL_law_145 : decode cL_law 145 = .ok (.iadd, 1) := by decide +kernel
theorem dL_law_146 : decode cL_law 146 = .ok (.iaload, 1) := by decide +kernel
theorem dL_law_147 : decode cL_law 147 = .ok (.i2l, 1) := by decide +kernel
theorem dL_law_148 : decode cL_law 148 = .ok (.ldc2_w 13, 3) := by decide +kernel
theorem dL_law_151 : decode cL_law 151 = .ok (.land, 1) := by decide +kernel
theorem dL_law_152 : decode cL_law 152 = .ok (.lor, 1) := by decide +kernel
theorem dL_law_153 : decode cL_law 153 = .ok (.aload_n 0, 1) := by decide +kernel
theorem dL_law_154 : decode cL_law 154 = .ok (.iload_n 3, 1) := by decide +kernel
theorem dL_law_155 : decode cL_law 155 = .ok (.iconst 3, 1) := by decide +kernel
theorem dL_law_156 : decode cL_law 156 = .ok (.iadd, 1) := by decide +kernel
theorem dL_law_157 : decode cL_law 157 = .ok (.iaload, 1) := by decide +kernel
theorem dL_law_158 : decode cL_law 158 = .ok (.invokevirtual 15, 3) := by decide +kernel
theorem dL_law_161 : decode cL_law 161 = .ok (.aload_n 2, 1) := by decide +kernel
theorem dL_law_162 : decode cL_law 162 = .ok (.aload_n 0, 1) := by decide +kernel
theorem dL_law_163 : decode cL_law 163 = .ok (.iload_n 3, 1) := by decide +kernel
theorem dL_law_164 : decode cL_law 164 = .ok (.iconst 1, 1) := by decide +kernel
theorem dL_law_165 : decode cL_law 165 = .ok (.iadd, 1) := by decide +kernel
theorem dL_law_166 : decode cL_law 166 = .ok (.iaload, 1) := by decide +kernel
theorem dL_law_167 : decode cL_law 167 = .ok (.i2l, 1) := by decide +kernel
theorem dL_law_168 : decode cL_law 168 = .ok (.bipush 32, 2) := by decide +kernel
theorem dL_law_170 : decode cL_law 170 = .ok (.lshl, 1) := by decide +kernel
theorem dL_law_171 : decode cL_law 171 = .ok (.aload_n 0, 1) := by decide +kernel
theorem dL_law_172 : decode cL_law 172 = .ok (.iload_n 3, 1) := by decide +kernel
theorem dL_law_173 : decode cL_law 173 = .ok (.iconst 2, 1) := by decide +kernel
theorem dL_law_174 : decode cL_law 174 = .ok (.iadd, 1) := by decide +kernel
theorem dL_law_175 : decode cL_law 175 = .ok (.iaload, 1) := by decide +kernel
theorem dL_law_176 : decode cL_law 176 = .ok (.i2l, 1) := by decide +kernel
theorem dL_law_177 : decode cL_law 177 = .ok (.ldc2_w 13, 3) := by decide +kernel
theorem dL_law_180 : decode cL_law 180 = .ok (.land, 1) := by decide +kernel
theorem dL_law_181 : decode cL_law 181 = .ok (.lor, 1) := by decide +kernel
theorem dL_law_182 : decode cL_law 182 = .ok (.aload_n 0, 1) := by decide +kernel
theorem dL_law_183 : decode cL_law 183 = .ok (.iload_n 3, 1) := by decide +kernel
theorem dL_law_184 : decode cL_law 184 = .ok (.iconst 3, 1) := by decide +kernel
theorem dL_law_185 : decode cL_law 185 = .ok (.iadd, 1) := by decide +kernel
theorem dL_law_186 : decode cL_law 186 = .ok (.iaload, 1) := by decide +kernel
theorem dL_law_187 : decode cL_law 187 = .ok (.invokevirtual 19, 3) := by decide +kernel
theorem dL_law_190 : decode cL_law 190 = .ok (.if_icmp .eq 536, 3) := by decide +kernel
theorem dL_law_193 : decode cL_law 193 = .ok (.iconst 0, 1) := by decide +kernel
theorem dL_law_194 : decode cL_law 194 = .ok (.ireturn, 1) := by decide +kernel
theorem dL_law_195 : decode cL_law 195 = .ok (.aload_n 1, 1) := by decide +kernel
theorem dL_law_196 : decode cL_law 196 = .ok (.invokevirtual 20, 3) := by decide +kernel
theorem dL_law_199 : decode cL_law 199 = .ok (.aload_n 2, 1) := by decide +kernel
theorem dL_law_200 : decode cL_law 200 = .ok (.invokevirtual 24, 3) := by decide +kernel
theorem dL_law_203 : decode cL_law 203 = .ok (.if_icmp .eq 523, 3) := by decide +kernel
theorem dL_law_206 : decode cL_law 206 = .ok (.iconst 0, 1) := by decide +kernel
theorem dL_law_207 : decode cL_law 207 = .ok (.ireturn, 1) := by decide +kernel
theorem dL_law_208 : decode cL_law 208 = .ok (.aload_n 1, 1) := by decide +kernel
theorem dL_law_209 : decode cL_law 209 = .ok (.invokevirtual 25, 3) := by decide +kernel
theorem dL_law_212 : decode cL_law 212 = .ok (.aload_n 2, 1) := by decide +kernel
theorem dL_law_213 : decode cL_law 213 = .ok (.invokevirtual 28, 3) := by decide +kernel
theorem dL_law_216 : decode cL_law 216 = .ok (.if_icmp .eq 510, 3) := by decide +kernel
theorem dL_law_219 : decode cL_law 219 = .ok (.iconst 0, 1) := by decide +kernel
theorem dL_law_220 : decode cL_law 220 = .ok (.ireturn, 1) := by decide +kernel
theorem dL_law_221 : decode cL_law 221 = .ok (.aload_n 1, 1) := by decide +kernel
theorem dL_law_222 : decode cL_law 222 = .ok (.aload_n 0, 1) := by decide +kernel
theorem dL_law_223 : decode cL_law 223 = .ok (.iload_n 3, 1) := by decide +kernel
theorem dL_law_224 : decode cL_law 224 = .ok (.iconst 1, 1) := by decide +kernel
theorem dL_law_225 : decode cL_law 225 = .ok (.iadd, 1) := by decide +kernel
theorem dL_law_226 : decode cL_law 226 = .ok (.iaload, 1) := by decide +kernel
theorem dL_law_227 : decode cL_law 227 = .ok (.aload_n 0, 1) := by decide +kernel
theorem dL_law_228 : decode cL_law 228 = .ok (.iload_n 3, 1) := by decide +kernel
theorem dL_law_229 : decode cL_law 229 = .ok (.iconst 2, 1) := by decide +kernel
theorem dL_law_230 : decode cL_law 230 = .ok (.iadd, 1) := by decide +kernel
theorem dL_law_231 : decode cL_law 231 = .ok (.iaload, 1) := by decide +kernel
theorem dL_law_232 : decode cL_law 232 = .ok (.invokevirtual 29, 3) := by decide +kernel
theorem dL_law_235 : decode cL_law 235 = .ok (.aload_n 2, 1) := by decide +kernel
theorem dL_law_236 : decode cL_law 236 = .ok (.aload_n 0, 1) := by decide +kernel
theorem dL_law_237 : decode cL_law 237 = .ok (.iload_n 3, 1) := by decide +kernel
theorem dL_law_238 : decode cL_law 238 = .ok (.iconst 1, 1) := by decide +kernel
theorem dL_law_239 : decode cL_law 239 = .ok (.iadd, 1) := by decide +kernel
theorem dL_law_240 : decode cL_law 240 = .ok (.iaload, 1) := by decide +kernel
theorem dL_law_241 : decode cL_law 241 = .ok (.aload_n 0, 1) := by decide +kernel
theorem dL_law_242 : decode cL_law 242 = .ok (.iload_n 3, 1) := by decide +kernel
theorem dL_law_243 : decode cL_law 243 = .ok (.iconst 2, 1) := by decide +kernel
theorem dL_law_244 : decode cL_law 244 = .ok (.iadd, 1) := by decide +kernel
theorem dL_law_245 : decode cL_law 245 = .ok (.iaload, 1) := by decide +kernel
theorem dL_law_246 : decode cL_law 246 = .ok (.invokevirtual 33, 3) := by decide +kernel
theorem dL_law_249 : decode cL_law 249 = .ok (.if_icmp .eq 477, 3) := by decide +kernel
theorem dL_law_252 : decode cL_law 252 = .ok (.iconst 0, 1) := by decide +kernel
theorem dL_law_253 : decode cL_law 253 = .ok (.ireturn, 1) := by decide +kernel
theorem dL_law_254 : decode cL_law 254 = .ok (.aload_n 1, 1) := by decide +kernel
theorem dL_law_255 : decode cL_law 255 = .ok (.aload_n 0, 1) := by decide +kernel
theorem dL_law_256 : decode cL_law 256 = .ok (.iload_n 3, 1) := by decide +kernel
theorem dL_law_257 : decode cL_law 257 = .ok (.iconst 1, 1) := by decide +kernel
theorem dL_law_258 : decode cL_law 258 = .ok (.iadd, 1) := by decide +kernel
theorem dL_law_259 : decode cL_law 259 = .ok (.iaload, 1) := by decide +kernel
theorem dL_law_260 : decode cL_law 260 = .ok (.aload_n 0, 1) := by decide +kernel
theorem dL_law_261 : decode cL_law 261 = .ok (.iload_n 3, 1) := by decide +kernel
theorem dL_law_262 : decode cL_law 262 = .ok (.iconst 2, 1) := by decide +kernel
theorem dL_law_263 : decode cL_law 263 = .ok (.iadd, 1) := by decide +kernel
theorem dL_law_264 : decode cL_law 264 = .ok (.iaload, 1) := by decide +kernel
theorem dL_law_265 : decode cL_law 265 = .ok (.aload_n 0, 1) := by decide +kernel
theorem dL_law_266 : decode cL_law 266 = .ok (.iload_n 3, 1) := by decide +kernel
theorem dL_law_267 : decode cL_law 267 = .ok (.iconst 3, 1) := by decide +kernel
theorem dL_law_268 : decode cL_law 268 = .ok (.iadd, 1) := by decide +kernel
theorem dL_law_269 : decode cL_law 269 = .ok (.iaload, 1) := by decide +kernel
theorem dL_law_270 : decode cL_law 270 = .ok (.invokevirtual 34, 3) := by decide +kernel
theorem dL_law_273 : decode cL_law 273 = .ok (.aload_n 2, 1) := by decide +kernel
theorem dL_law_274 : decode cL_law 274 = .ok (.aload_n 0, 1) := by decide +kernel
theorem dL_law_275 : decode cL_law 275 = .ok (.iload_n 3, 1) := by decide +kernel
theorem dL_law_276 : decode cL_law 276 = .ok (.iconst 1, 1) := by decide +kernel
theorem dL_law_277 : decode cL_law 277 = .ok (.iadd, 1) := by decide +kernel
theorem dL_law_278 : decode cL_law 278 = .ok (.iaload, 1) := by decide +kernel
theorem dL_law_279 : decode cL_law 279 = .ok (.aload_n 0, 1) := by decide +kernel
theorem dL_law_280 : decode cL_law 280 = .ok (.iload_n 3, 1) := by decide +kernel
theorem dL_law_281 : decode cL_law 281 = .ok (.iconst 2, 1) := by decide +kernel
theorem dL_law_282 : decode cL_law 282 = .ok (.iadd, 1) := by decide +kernel
theorem dL_law_283 : decode cL_law 283 = .ok (.iaload, 1) := by decide +kernel
theorem dL_law_284 : decode cL_law 284 = .ok (.aload_n 0, 1) := by decide +kernel
theorem dL_law_285 : decode cL_law 285 = .ok (.iload_n 3, 1) := by decide +kernel
theorem dL_law_286 : decode cL_law 286 = .ok (.iconst 3, 1) := by decide +kernel
theorem dL_law_287 : decode cL_law 287 = .ok (.iadd, 1) := by decide +kernel
theorem dL_law_288 : decode cL_law 288 = .ok (.iaload, 1) := by decide +kernel
theorem dL_law_289 : decode cL_law 289 = .ok (.invokevirtual 38, 3) := by decide +kernel
theorem dL_law_292 : decode cL_law 292 = .ok (.if_icmp .eq 434, 3) := by decide +kernel
theorem dL_law_295 : decode cL_law 295 = .ok (.iconst 0, 1) := by decide +kernel
theorem dL_law_296 : decode cL_law 296 = .ok (.ireturn, 1) := by decide +kernel
theorem dL_law_297 : decode cL_law 297 = .ok (.aload_n 1, 1) := by decide +kernel
theorem dL_law_298 : decode cL_law 298 = .ok (.aload_n 0, 1) := by decide +kernel
theorem dL_law_299 : decode cL_law 299 = .ok (.iload_n 3, 1) := by decide +kernel
theorem dL_law_300 : decode cL_law 300 = .ok (.iconst 1, 1) := by decide +kernel
theorem dL_law_301 : decode cL_law 301 = .ok (.iadd, 1) := by decide +kernel
theorem dL_law_302 : decode cL_law 302 = .ok (.iaload, 1) := by decide +kernel
theorem dL_law_303 : decode cL_law 303 = .ok (.aload_n 0, 1) := by decide +kernel
theorem dL_law_304 : decode cL_law 304 = .ok (.iload_n 3, 1) := by decide +kernel
theorem dL_law_305 : decode cL_law 305 = .ok (.iconst 2, 1) := by decide +kernel
theorem dL_law_306 : decode cL_law 306 = .ok (.iadd, 1) := by decide +kernel
theorem dL_law_307 : decode cL_law 307 = .ok (.iaload, 1) := by decide +kernel
theorem dL_law_308 : decode cL_law 308 = .ok (.aload_n 0, 1) := by decide +kernel
theorem dL_law_309 : decode cL_law 309 = .ok (.iload_n 3, 1) := by decide +kernel
theorem dL_law_310 : decode cL_law 310 = .ok (.iconst 3, 1) := by decide +kernel
theorem dL_law_311 : decode cL_law 311 = .ok (.iadd, 1) := by decide +kernel
theorem dL_law_312 : decode cL_law 312 = .ok (.iaload, 1) := by decide +kernel
theorem dL_law_313 : decode cL_law 313 = .ok (.aload_n 0, 1) := by decide +kernel
theorem dL_law_314 : decode cL_law 314 = .ok (.iload_n 3, 1) := by decide +kernel
theorem dL_law_315 : decode cL_law 315 = .ok (.iconst 4, 1) := by decide +kernel
theorem dL_law_316 : decode cL_law 316 = .ok (.iadd, 1) := by decide +kernel
theorem dL_law_317 : decode cL_law 317 = .ok (.iaload, 1) := by decide +kernel
theorem dL_law_318 : decode cL_law 318 = .ok (.invokevirtual 39, 3) := by decide +kernel
theorem dL_law_321 : decode cL_law 321 = .ok (.aload_n 2, 1) := by decide +kernel
theorem dL_law_322 : decode cL_law 322 = .ok (.aload_n 0, 1) := by decide +kernel
theorem dL_law_323 : decode cL_law 323 = .ok (.iload_n 3, 1) := by decide +kernel
theorem dL_law_324 : decode cL_law 324 = .ok (.iconst 1, 1) := by decide +kernel
theorem dL_law_325 : decode cL_law 325 = .ok (.iadd, 1) := by decide +kernel
theorem dL_law_326 : decode cL_law 326 = .ok (.iaload, 1) := by decide +kernel
theorem dL_law_327 : decode cL_law 327 = .ok (.aload_n 0, 1) := by decide +kernel
theorem dL_law_328 : decode cL_law 328 = .ok (.iload_n 3, 1) := by decide +kernel
theorem dL_law_329 : decode cL_law 329 = .ok (.iconst 2, 1) := by decide +kernel
theorem dL_law_330 : decode cL_law 330 = .ok (.iadd, 1) := by decide +kernel
theorem dL_law_331 : decode cL_law 331 = .ok (.iaload, 1) := by decide +kernel
theorem dL_law_332 : decode cL_law 332 = .ok (.aload_n 0, 1) := by decide +kernel
theorem dL_law_333 : decode cL_law 333 = .ok (.iload_n 3, 1) := by decide +kernel
theorem dL_law_334 : decode cL_law 334 = .ok (.iconst 3, 1) := by decide +kernel
theorem dL_law_335 : decode cL_law 335 = .ok (.iadd, 1) := by decide +kernel
theorem dL_law_336 : decode cL_law 336 = .ok (.iaload, 1) := by decide +kernel
theorem dL_law_337 : decode cL_law 337 = .ok (.aload_n 0, 1) := by decide +kernel
theorem dL_law_338 : decode cL_law 338 = .ok (.iload_n 3, 1) := by decide +kernel
theorem dL_law_339 : decode cL_law 339 = .ok (.iconst 4, 1) := by decide +kernel
theorem dL_law_340 : decode cL_law 340 = .ok (.iadd, 1) := by decide +kernel
theorem dL_law_341 : decode cL_law 341 = .ok (.iaload, 1) := by decide +kernel
theorem dL_law_342 : decode cL_law 342 = .ok (.invokevirtual 43, 3) := by decide +kernel
theorem dL_law_345 : decode cL_law 345 = .ok (.if_icmp .eq 381, 3) := by decide +kernel
theorem dL_law_348 : decode cL_law 348 = .ok (.iconst 0, 1) := by decide +kernel
theorem dL_law_349 : decode cL_law 349 = .ok (.ireturn, 1) := by decide +kernel
theorem dL_law_350 : decode cL_law 350 = .ok (.aload_n 1, 1) := by decide +kernel
theorem dL_law_351 : decode cL_law 351 = .ok (.invokevirtual 44, 3) := by decide +kernel
theorem dL_law_354 : decode cL_law 354 = .ok (.aload_n 2, 1) := by decide +kernel
theorem dL_law_355 : decode cL_law 355 = .ok (.invokevirtual 47, 3) := by decide +kernel
theorem dL_law_358 : decode cL_law 358 = .ok (.if_icmp .eq 368, 3) := by decide +kernel
theorem dL_law_361 : decode cL_law 361 = .ok (.iconst 0, 1) := by decide +kernel
theorem dL_law_362 : decode cL_law 362 = .ok (.ireturn, 1) := by decide +kernel
theorem dL_law_363 : decode cL_law 363 = .ok (.aload_n 1, 1) := by decide +kernel
theorem dL_law_364 : decode cL_law 364 = .ok (.invokevirtual 48, 3) := by decide +kernel
theorem dL_law_367 : decode cL_law 367 = .ok (.aload_n 2, 1) := by decide +kernel
theorem dL_law_368 : decode cL_law 368 = .ok (.invokevirtual 51, 3) := by decide +kernel
theorem dL_law_371 : decode cL_law 371 = .ok (.if_icmp .eq 355, 3) := by decide +kernel
theorem dL_law_374 : decode cL_law 374 = .ok (.iconst 0, 1) := by decide +kernel
theorem dL_law_375 : decode cL_law 375 = .ok (.ireturn, 1) := by decide +kernel
theorem dL_law_376 : decode cL_law 376 = .ok (.aload_n 1, 1) := by decide +kernel
theorem dL_law_377 : decode cL_law 377 = .ok (.aload_n 0, 1) := by decide +kernel
theorem dL_law_378 : decode cL_law 378 = .ok (.iload_n 3, 1) := by decide +kernel
theorem dL_law_379 : decode cL_law 379 = .ok (.iconst 1, 1) := by decide +kernel
theorem dL_law_380 : decode cL_law 380 = .ok (.iadd, 1) := by decide +kernel
theorem dL_law_381 : decode cL_law 381 = .ok (.iaload, 1) := by decide +kernel
theorem dL_law_382 : decode cL_law 382 = .ok (.aload_n 0, 1) := by decide +kernel
theorem dL_law_383 : decode cL_law 383 = .ok (.iload_n 3, 1) := by decide +kernel
theorem dL_law_384 : decode cL_law 384 = .ok (.iconst 2, 1) := by decide +kernel
theorem dL_law_385 : decode cL_law 385 = .ok (.iadd, 1) := by decide +kernel
theorem dL_law_386 : decode cL_law 386 = .ok (.iaload, 1) := by decide +kernel
theorem dL_law_387 : decode cL_law 387 = .ok (.invokevirtual 52, 3) := by decide +kernel
theorem dL_law_390 : decode cL_law 390 = .ok (.aload_n 2, 1) := by decide +kernel
theorem dL_law_391 : decode cL_law 391 = .ok (.aload_n 0, 1) := by decide +kernel
theorem dL_law_392 : decode cL_law 392 = .ok (.iload_n 3, 1) := by decide +kernel
theorem dL_law_393 : decode cL_law 393 = .ok (.iconst 1, 1) := by decide +kernel
theorem dL_law_394 : decode cL_law 394 = .ok (.iadd, 1) := by decide +kernel
theorem dL_law_395 : decode cL_law 395 = .ok (.iaload, 1) := by decide +kernel
theorem dL_law_396 : decode cL_law 396 = .ok (.aload_n 0, 1) := by decide +kernel
theorem dL_law_397 : decode cL_law 397 = .ok (.iload_n 3, 1) := by decide +kernel
theorem dL_law_398 : decode cL_law 398 = .ok (.iconst 2, 1) := by decide +kernel
theorem dL_law_399 : decode cL_law 399 = .ok (.iadd, 1) := by decide +kernel
theorem dL_law_400 : decode cL_law 400 = .ok (.iaload, 1) := by decide +kernel
theorem dL_law_401 : decode cL_law 401 = .ok (.invokevirtual 55, 3) := by decide +kernel
theorem dL_law_404 : decode cL_law 404 = .ok (.if_icmp .eq 322, 3) := by decide +kernel
theorem dL_law_407 : decode cL_law 407 = .ok (.iconst 0, 1) := by decide +kernel
theorem dL_law_408 : decode cL_law 408 = .ok (.ireturn, 1) := by decide +kernel
theorem dL_law_409 : decode cL_law 409 = .ok (.aload_n 1, 1) := by decide +kernel
theorem dL_law_410 : decode cL_law 410 = .ok (.aload_n 0, 1) := by decide +kernel
theorem dL_law_411 : decode cL_law 411 = .ok (.iload_n 3, 1) := by decide +kernel
theorem dL_law_412 : decode cL_law 412 = .ok (.iconst 1, 1) := by decide +kernel
theorem dL_law_413 : decode cL_law 413 = .ok (.iadd, 1) := by decide +kernel
theorem dL_law_414 : decode cL_law 414 = .ok (.iaload, 1) := by decide +kernel
theorem dL_law_415 : decode cL_law 415 = .ok (.aload_n 0, 1) := by decide +kernel
theorem dL_law_416 : decode cL_law 416 = .ok (.iload_n 3, 1) := by decide +kernel
theorem dL_law_417 : decode cL_law 417 = .ok (.iconst 2, 1) := by decide +kernel
theorem dL_law_418 : decode cL_law 418 = .ok (.iadd, 1) := by decide +kernel
theorem dL_law_419 : decode cL_law 419 = .ok (.iaload, 1) := by decide +kernel
theorem dL_law_420 : decode cL_law 420 = .ok (.invokevirtual 56, 3) := by decide +kernel
theorem dL_law_423 : decode cL_law 423 = .ok (.aload_n 2, 1) := by decide +kernel
theorem dL_law_424 : decode cL_law 424 = .ok (.aload_n 0, 1) := by decide +kernel
theorem dL_law_425 : decode cL_law 425 = .ok (.iload_n 3, 1) := by decide +kernel
theorem dL_law_426 : decode cL_law 426 = .ok (.iconst 1, 1) := by decide +kernel
theorem dL_law_427 : decode cL_law 427 = .ok (.iadd, 1) := by decide +kernel
theorem dL_law_428 : decode cL_law 428 = .ok (.iaload, 1) := by decide +kernel
theorem dL_law_429 : decode cL_law 429 = .ok (.aload_n 0, 1) := by decide +kernel
theorem dL_law_430 : decode cL_law 430 = .ok (.iload_n 3, 1) := by decide +kernel
theorem dL_law_431 : decode cL_law 431 = .ok (.iconst 2, 1) := by decide +kernel
theorem dL_law_432 : decode cL_law 432 = .ok (.iadd, 1) := by decide +kernel
theorem dL_law_433 : decode cL_law 433 = .ok (.iaload, 1) := by decide +kernel
theorem dL_law_434 : decode cL_law 434 = .ok (.invokevirtual 59, 3) := by decide +kernel
theorem dL_law_437 : decode cL_law 437 = .ok (.if_icmp .eq 289, 3) := by decide +kernel
theorem dL_law_440 : decode cL_law 440 = .ok (.iconst 0, 1) := by decide +kernel
theorem dL_law_441 : decode cL_law 441 = .ok (.ireturn, 1) := by decide +kernel
theorem dL_law_442 : decode cL_law 442 = .ok (.aload_n 1, 1) := by decide +kernel
theorem dL_law_443 : decode cL_law 443 = .ok (.aload_n 0, 1) := by decide +kernel
theorem dL_law_444 : decode cL_law 444 = .ok (.iload_n 3, 1) := by decide +kernel
theorem dL_law_445 : decode cL_law 445 = .ok (.iconst 1, 1) := by decide +kernel
theorem dL_law_446 : decode cL_law 446 = .ok (.iadd, 1) := by decide +kernel
theorem dL_law_447 : decode cL_law 447 = .ok (.iaload, 1) := by decide +kernel
theorem dL_law_448 : decode cL_law 448 = .ok (.invokevirtual 60, 3) := by decide +kernel
theorem dL_law_451 : decode cL_law 451 = .ok (.aload_n 2, 1) := by decide +kernel
theorem dL_law_452 : decode cL_law 452 = .ok (.aload_n 0, 1) := by decide +kernel
theorem dL_law_453 : decode cL_law 453 = .ok (.iload_n 3, 1) := by decide +kernel
theorem dL_law_454 : decode cL_law 454 = .ok (.iconst 1, 1) := by decide +kernel
theorem dL_law_455 : decode cL_law 455 = .ok (.iadd, 1) := by decide +kernel
theorem dL_law_456 : decode cL_law 456 = .ok (.iaload, 1) := by decide +kernel
theorem dL_law_457 : decode cL_law 457 = .ok (.invokevirtual 64, 3) := by decide +kernel
theorem dL_law_460 : decode cL_law 460 = .ok (.if_icmp .eq 266, 3) := by decide +kernel
theorem dL_law_463 : decode cL_law 463 = .ok (.iconst 0, 1) := by decide +kernel
theorem dL_law_464 : decode cL_law 464 = .ok (.ireturn, 1) := by decide +kernel
theorem dL_law_465 : decode cL_law 465 = .ok (.aload_n 1, 1) := by decide +kernel
theorem dL_law_466 : decode cL_law 466 = .ok (.aload_n 0, 1) := by decide +kernel
theorem dL_law_467 : decode cL_law 467 = .ok (.iload_n 3, 1) := by decide +kernel
theorem dL_law_468 : decode cL_law 468 = .ok (.iconst 1, 1) := by decide +kernel
theorem dL_law_469 : decode cL_law 469 = .ok (.iadd, 1) := by decide +kernel
theorem dL_law_470 : decode cL_law 470 = .ok (.iaload, 1) := by decide +kernel
theorem dL_law_471 : decode cL_law 471 = .ok (.aload_n 0, 1) := by decide +kernel
theorem dL_law_472 : decode cL_law 472 = .ok (.iload_n 3, 1) := by decide +kernel
theorem dL_law_473 : decode cL_law 473 = .ok (.iconst 2, 1) := by decide +kernel
theorem dL_law_474 : decode cL_law 474 = .ok (.iadd, 1) := by decide +kernel
theorem dL_law_475 : decode cL_law 475 = .ok (.iaload, 1) := by decide +kernel
theorem dL_law_476 : decode cL_law 476 = .ok (.aload_n 0, 1) := by decide +kernel
theorem dL_law_477 : decode cL_law 477 = .ok (.iload_n 3, 1) := by decide +kernel
theorem dL_law_478 : decode cL_law 478 = .ok (.iconst 3, 1) := by decide +kernel
theorem dL_law_479 : decode cL_law 479 = .ok (.iadd, 1) := by decide +kernel
theorem dL_law_480 : decode cL_law 480 = .ok (.iaload, 1) := by decide +kernel
theorem dL_law_481 : decode cL_law 481 = .ok (.invokevirtual 65, 3) := by decide +kernel
theorem dL_law_484 : decode cL_law 484 = .ok (.aload_n 2, 1) := by decide +kernel
theorem dL_law_485 : decode cL_law 485 = .ok (.aload_n 0, 1) := by decide +kernel
theorem dL_law_486 : decode cL_law 486 = .ok (.iload_n 3, 1) := by decide +kernel
theorem dL_law_487 : decode cL_law 487 = .ok (.iconst 1, 1) := by decide +kernel
theorem dL_law_488 : decode cL_law 488 = .ok (.iadd, 1) := by decide +kernel
theorem dL_law_489 : decode cL_law 489 = .ok (.iaload, 1) := by decide +kernel
theorem dL_law_490 : decode cL_law 490 = .ok (.aload_n 0, 1) := by decide +kernel
theorem dL_law_491 : decode cL_law 491 = .ok (.iload_n 3, 1) := by decide +kernel
theorem dL_law_492 : decode cL_law 492 = .ok (.iconst 2, 1) := by decide +kernel
theorem dL_law_493 : decode cL_law 493 = .ok (.iadd, 1) := by decide +kernel
theorem dL_law_494 : decode cL_law 494 = .ok (.iaload, 1) := by decide +kernel
theorem dL_law_495 : decode cL_law 495 = .ok (.aload_n 0, 1) := by decide +kernel
theorem dL_law_496 : decode cL_law 496 = .ok (.iload_n 3, 1) := by decide +kernel
theorem dL_law_497 : decode cL_law 497 = .ok (.iconst 3, 1) := by decide +kernel
theorem dL_law_498 : decode cL_law 498 = .ok (.iadd, 1) := by decide +kernel
theorem dL_law_499 : decode cL_law 499 = .ok (.iaload, 1) := by decide +kernel
theorem dL_law_500 : decode cL_law 500 = .ok (.invokevirtual 68, 3) := by decide +kernel
theorem dL_law_503 : decode cL_law 503 = .ok (.if_icmp .eq 223, 3) := by decide +kernel
theorem dL_law_506 : decode cL_law 506 = .ok (.iconst 0, 1) := by decide +kernel
theorem dL_law_507 : decode cL_law 507 = .ok (.ireturn, 1) := by decide +kernel
theorem dL_law_508 : decode cL_law 508 = .ok (.aload_n 1, 1) := by decide +kernel
theorem dL_law_509 : decode cL_law 509 = .ok (.aload_n 0, 1) := by decide +kernel
theorem dL_law_510 : decode cL_law 510 = .ok (.iload_n 3, 1) := by decide +kernel
theorem dL_law_511 : decode cL_law 511 = .ok (.iconst 1, 1) := by decide +kernel
theorem dL_law_512 : decode cL_law 512 = .ok (.iadd, 1) := by decide +kernel
theorem dL_law_513 : decode cL_law 513 = .ok (.iaload, 1) := by decide +kernel
theorem dL_law_514 : decode cL_law 514 = .ok (.aload_n 0, 1) := by decide +kernel
theorem dL_law_515 : decode cL_law 515 = .ok (.iload_n 3, 1) := by decide +kernel
theorem dL_law_516 : decode cL_law 516 = .ok (.iconst 2, 1) := by decide +kernel
theorem dL_law_517 : decode cL_law 517 = .ok (.iadd, 1) := by decide +kernel
theorem dL_law_518 : decode cL_law 518 = .ok (.iaload, 1) := by decide +kernel
theorem dL_law_519 : decode cL_law 519 = .ok (.invokevirtual 69, 3) := by decide +kernel
theorem dL_law_522 : decode cL_law 522 = .ok (.aload_n 2, 1) := by decide +kernel
theorem dL_law_523 : decode cL_law 523 = .ok (.aload_n 0, 1) := by decide +kernel
theorem dL_law_524 : decode cL_law 524 = .ok (.iload_n 3, 1) := by decide +kernel
theorem dL_law_525 : decode cL_law 525 = .ok (.iconst 1, 1) := by decide +kernel
theorem dL_law_526 : decode cL_law 526 = .ok (.iadd, 1) := by decide +kernel
theorem dL_law_527 : decode cL_law 527 = .ok (.iaload, 1) := by decide +kernel
theorem dL_law_528 : decode cL_law 528 = .ok (.aload_n 0, 1) := by decide +kernel
theorem dL_law_529 : decode cL_law 529 = .ok (.iload_n 3, 1) := by decide +kernel
theorem dL_law_530 : decode cL_law 530 = .ok (.iconst 2, 1) := by decide +kernel
theorem dL_law_531 : decode cL_law 531 = .ok (.iadd, 1) := by decide +kernel
theorem dL_law_532 : decode cL_law 532 = .ok (.iaload, 1) := by decide +kernel
theorem dL_law_533 : decode cL_law 533 = .ok (.invokevirtual 72, 3) := by decide +kernel
theorem dL_law_536 : decode cL_law 536 = .ok (.if_icmp .eq 190, 3) := by decide +kernel
theorem dL_law_539 : decode cL_law 539 = .ok (.iconst 0, 1) := by decide +kernel
theorem dL_law_540 : decode cL_law 540 = .ok (.ireturn, 1) := by decide +kernel
theorem dL_law_541 : decode cL_law 541 = .ok (.aload_n 1, 1) := by decide +kernel
theorem dL_law_542 : decode cL_law 542 = .ok (.aload_n 0, 1) := by decide +kernel
theorem dL_law_543 : decode cL_law 543 = .ok (.iload_n 3, 1) := by decide +kernel
theorem dL_law_544 : decode cL_law 544 = .ok (.iconst 1, 1) := by decide +kernel
theorem dL_law_545 : decode cL_law 545 = .ok (.iadd, 1) := by decide +kernel
theorem dL_law_546 : decode cL_law 546 = .ok (.iaload, 1) := by decide +kernel
theorem dL_law_547 : decode cL_law 547 = .ok (.aload_n 0, 1) := by decide +kernel
theorem dL_law_548 : decode cL_law 548 = .ok (.iload_n 3, 1) := by decide +kernel
theorem dL_law_549 : decode cL_law 549 = .ok (.iconst 2, 1) := by decide +kernel
theorem dL_law_550 : decode cL_law 550 = .ok (.iadd, 1) := by decide +kernel
theorem dL_law_551 : decode cL_law 551 = .ok (.iaload, 1) := by decide +kernel
theorem dL_law_552 : decode cL_law 552 = .ok (.invokevirtual 73, 3) := by decide +kernel
theorem dL_law_555 : decode cL_law 555 = .ok (.aload_n 2, 1) := by decide +kernel
theorem dL_law_556 : decode cL_law 556 = .ok (.aload_n 0, 1) := by decide +kernel
theorem dL_law_557 : decode cL_law 557 = .ok (.iload_n 3, 1) := by decide +kernel
theorem dL_law_558 : decode cL_law 558 = .ok (.iconst 1, 1) := by decide +kernel
theorem dL_law_559 : decode cL_law 559 = .ok (.iadd, 1) := by decide +kernel
theorem dL_law_560 : decode cL_law 560 = .ok (.iaload, 1) := by decide +kernel
theorem dL_law_561 : decode cL_law 561 = .ok (.aload_n 0, 1) := by decide +kernel
theorem dL_law_562 : decode cL_law 562 = .ok (.iload_n 3, 1) := by decide +kernel
theorem dL_law_563 : decode cL_law 563 = .ok (.iconst 2, 1) := by decide +kernel
theorem dL_law_564 : decode cL_law 564 = .ok (.iadd, 1) := by decide +kernel
theorem dL_law_565 : decode cL_law 565 = .ok (.iaload, 1) := by decide +kernel
theorem dL_law_566 : decode cL_law 566 = .ok (.invokevirtual 76, 3) := by decide +kernel
theorem dL_law_569 : decode cL_law 569 = .ok (.if_icmp .eq 157, 3) := by decide +kernel
theorem dL_law_572 : decode cL_law 572 = .ok (.iconst 0, 1) := by decide +kernel
theorem dL_law_573 : decode cL_law 573 = .ok (.ireturn, 1) := by decide +kernel
theorem dL_law_574 : decode cL_law 574 = .ok (.aload_n 1, 1) := by decide +kernel
theorem dL_law_575 : decode cL_law 575 = .ok (.invokevirtual 77, 3) := by decide +kernel
theorem dL_law_578 : decode cL_law 578 = .ok (.aload_n 2, 1) := by decide +kernel
theorem dL_law_579 : decode cL_law 579 = .ok (.invokevirtual 80, 3) := by decide +kernel
theorem dL_law_582 : decode cL_law 582 = .ok (.if_icmp .eq 144, 3) := by decide +kernel
theorem dL_law_585 : decode cL_law 585 = .ok (.iconst 0, 1) := by decide +kernel
theorem dL_law_586 : decode cL_law 586 = .ok (.ireturn, 1) := by decide +kernel
theorem dL_law_587 : decode cL_law 587 = .ok (.aload_n 1, 1) := by decide +kernel
theorem dL_law_588 : decode cL_law 588 = .ok (.aload_n 0, 1) := by decide +kernel
theorem dL_law_589 : decode cL_law 589 = .ok (.iload_n 3, 1) := by decide +kernel
theorem dL_law_590 : decode cL_law 590 = .ok (.iconst 1, 1) := by decide +kernel
theorem dL_law_591 : decode cL_law 591 = .ok (.iadd, 1) := by decide +kernel
theorem dL_law_592 : decode cL_law 592 = .ok (.iaload, 1) := by decide +kernel
theorem dL_law_593 : decode cL_law 593 = .ok (.invokevirtual 81, 3) := by decide +kernel
theorem dL_law_596 : decode cL_law 596 = .ok (.aload_n 2, 1) := by decide +kernel
theorem dL_law_597 : decode cL_law 597 = .ok (.aload_n 0, 1) := by decide +kernel
theorem dL_law_598 : decode cL_law 598 = .ok (.iload_n 3, 1) := by decide +kernel
theorem dL_law_599 : decode cL_law 599 = .ok (.iconst 1, 1) := by decide +kernel
theorem dL_law_600 : decode cL_law 600 = .ok (.iadd, 1) := by decide +kernel
theorem dL_law_601 : decode cL_law 601 = .ok (.iaload, 1) := by decide +kernel
theorem dL_law_602 : decode cL_law 602 = .ok (.invokevirtual 84, 3) := by decide +kernel
theorem dL_law_605 : decode cL_law 605 = .ok (.if_icmp .eq 121, 3) := by decide +kernel
theorem dL_law_608 : decode cL_law 608 = .ok (.iconst 0, 1) := by decide +kernel
theorem dL_law_609 : decode cL_law 609 = .ok (.ireturn, 1) := by decide +kernel
theorem dL_law_610 : decode cL_law 610 = .ok (.aload_n 1, 1) := by decide +kernel
theorem dL_law_611 : decode cL_law 611 = .ok (.aload_n 0, 1) := by decide +kernel
theorem dL_law_612 : decode cL_law 612 = .ok (.iload_n 3, 1) := by decide +kernel
theorem dL_law_613 : decode cL_law 613 = .ok (.iconst 1, 1) := by decide +kernel
theorem dL_law_614 : decode cL_law 614 = .ok (.iadd, 1) := by decide +kernel
theorem dL_law_615 : decode cL_law 615 = .ok (.iaload, 1) := by decide +kernel
theorem dL_law_616 : decode cL_law 616 = .ok (.aload_n 0, 1) := by decide +kernel
theorem dL_law_617 : decode cL_law 617 = .ok (.iload_n 3, 1) := by decide +kernel
theorem dL_law_618 : decode cL_law 618 = .ok (.iconst 2, 1) := by decide +kernel
theorem dL_law_619 : decode cL_law 619 = .ok (.iadd, 1) := by decide +kernel
theorem dL_law_620 : decode cL_law 620 = .ok (.iaload, 1) := by decide +kernel
theorem dL_law_621 : decode cL_law 621 = .ok (.invokevirtual 85, 3) := by decide +kernel
theorem dL_law_624 : decode cL_law 624 = .ok (.aload_n 2, 1) := by decide +kernel
theorem dL_law_625 : decode cL_law 625 = .ok (.aload_n 0, 1) := by decide +kernel
theorem dL_law_626 : decode cL_law 626 = .ok (.iload_n 3, 1) := by decide +kernel
theorem dL_law_627 : decode cL_law 627 = .ok (.iconst 1, 1) := by decide +kernel
theorem dL_law_628 : decode cL_law 628 = .ok (.iadd, 1) := by decide +kernel
theorem dL_law_629 : decode cL_law 629 = .ok (.iaload, 1) := by decide +kernel
theorem dL_law_630 : decode cL_law 630 = .ok (.aload_n 0, 1) := by decide +kernel
theorem dL_law_631 : decode cL_law 631 = .ok (.iload_n 3, 1) := by decide +kernel
theorem dL_law_632 : decode cL_law 632 = .ok (.iconst 2, 1) := by decide +kernel
theorem dL_law_633 : decode cL_law 633 = .ok (.iadd, 1) := by decide +kernel
theorem dL_law_634 : decode cL_law 634 = .ok (.iaload, 1) := by decide +kernel
theorem dL_law_635 : decode cL_law 635 = .ok (.invokevirtual 88, 3) := by decide +kernel
theorem dL_law_638 : decode cL_law 638 = .ok (.if_icmp .eq 88, 3) := by decide +kernel
theorem dL_law_641 : decode cL_law 641 = .ok (.iconst 0, 1) := by decide +kernel
theorem dL_law_642 : decode cL_law 642 = .ok (.ireturn, 1) := by decide +kernel
theorem dL_law_643 : decode cL_law 643 = .ok (.aload_n 1, 1) := by decide +kernel
theorem dL_law_644 : decode cL_law 644 = .ok (.aload_n 0, 1) := by decide +kernel
theorem dL_law_645 : decode cL_law 645 = .ok (.iload_n 3, 1) := by decide +kernel
theorem dL_law_646 : decode cL_law 646 = .ok (.iconst 1, 1) := by decide +kernel
theorem dL_law_647 : decode cL_law 647 = .ok (.iadd, 1) := by decide +kernel
theorem dL_law_648 : decode cL_law 648 = .ok (.iaload, 1) := by decide +kernel
theorem dL_law_649 : decode cL_law 649 = .ok (.invokevirtual 89, 3) := by decide +kernel
theorem dL_law_652 : decode cL_law 652 = .ok (.aload_n 2, 1) := by decide +kernel
theorem dL_law_653 : decode cL_law 653 = .ok (.aload_n 0, 1) := by decide +kernel
theorem dL_law_654 : decode cL_law 654 = .ok (.iload_n 3, 1) := by decide +kernel
theorem dL_law_655 : decode cL_law 655 = .ok (.iconst 1, 1) := by decide +kernel
theorem dL_law_656 : decode cL_law 656 = .ok (.iadd, 1) := by decide +kernel
theorem dL_law_657 : decode cL_law 657 = .ok (.iaload, 1) := by decide +kernel
theorem dL_law_658 : decode cL_law 658 = .ok (.invokevirtual 92, 3) := by decide +kernel
theorem dL_law_661 : decode cL_law 661 = .ok (.if_icmp .eq 65, 3) := by decide +kernel
theorem dL_law_664 : decode cL_law 664 = .ok (.iconst 0, 1) := by decide +kernel
theorem dL_law_665 : decode cL_law 665 = .ok (.ireturn, 1) := by decide +kernel
theorem dL_law_666 : decode cL_law 666 = .ok (.aload_n 1, 1) := by decide +kernel
theorem dL_law_667 : decode cL_law 667 = .ok (.aload_n 0, 1) := by decide +kernel
theorem dL_law_668 : decode cL_law 668 = .ok (.iload_n 3, 1) := by decide +kernel
theorem dL_law_669 : decode cL_law 669 = .ok (.iconst 1, 1) := by decide +kernel
theorem dL_law_670 : decode cL_law 670 = .ok (.iadd, 1) := by decide +kernel
theorem dL_law_671 : decode cL_law 671 = .ok (.iaload, 1) := by decide +kernel
theorem dL_law_672 : decode cL_law 672 = .ok (.invokevirtual 93, 3) := by decide +kernel
theorem dL_law_675 : decode cL_law 675 = .ok (.aload_n 2, 1) := by decide +kernel
theorem dL_law_676 : decode cL_law 676 = .ok (.aload_n 0, 1) := by decide +kernel
theorem dL_law_677 : decode cL_law 677 = .ok (.iload_n 3, 1) := by decide +kernel
theorem dL_law_678 : decode cL_law 678 = .ok (.iconst 1, 1) := by decide +kernel
theorem dL_law_679 : decode cL_law 679 = .ok (.iadd, 1) := by decide +kernel
theorem dL_law_680 : decode cL_law 680 = .ok (.iaload, 1) := by decide +kernel
theorem dL_law_681 : decode cL_law 681 = .ok (.invokevirtual 96, 3) := by decide +kernel
theorem dL_law_684 : decode cL_law 684 = .ok (.if_icmp .eq 42, 3) := by decide +kernel
theorem dL_law_687 : decode cL_law 687 = .ok (.iconst 0, 1) := by decide +kernel
theorem dL_law_688 : decode cL_law 688 = .ok (.ireturn, 1) := by decide +kernel
theorem dL_law_689 : decode cL_law 689 = .ok (.aload_n 1, 1) := by decide +kernel
theorem dL_law_690 : decode cL_law 690 = .ok (.aload_n 0, 1) := by decide +kernel
theorem dL_law_691 : decode cL_law 691 = .ok (.iload_n 3, 1) := by decide +kernel
theorem dL_law_692 : decode cL_law 692 = .ok (.iconst 1, 1) := by decide +kernel
theorem dL_law_693 : decode cL_law 693 = .ok (.iadd, 1) := by decide +kernel
theorem dL_law_694 : decode cL_law 694 = .ok (.iaload, 1) := by decide +kernel
theorem dL_law_695 : decode cL_law 695 = .ok (.invokevirtual 97, 3) := by decide +kernel
theorem dL_law_698 : decode cL_law 698 = .ok (.aload_n 2, 1) := by decide +kernel
theorem dL_law_699 : decode cL_law 699 = .ok (.aload_n 0, 1) := by decide +kernel
theorem dL_law_700 : decode cL_law 700 = .ok (.iload_n 3, 1) := by decide +kernel
theorem dL_law_701 : decode cL_law 701 = .ok (.iconst 1, 1) := by decide +kernel
theorem dL_law_702 : decode cL_law 702 = .ok (.iadd, 1) := by decide +kernel
theorem dL_law_703 : decode cL_law 703 = .ok (.iaload, 1) := by decide +kernel
theorem dL_law_704 : decode cL_law 704 = .ok (.invokevirtual 100, 3) := by decide +kernel
theorem dL_law_707 : decode cL_law 707 = .ok (.if_icmp .eq 19, 3) := by decide +kernel
theorem dL_law_710 : decode cL_law 710 = .ok (.iconst 0, 1) := by decide +kernel
theorem dL_law_711 : decode cL_law 711 = .ok (.ireturn, 1) := by decide +kernel
theorem dL_law_712 : decode cL_law 712 = .ok (.aload_n 1, 1) := by decide +kernel
theorem dL_law_713 : decode cL_law 713 = .ok (.invokevirtual 101, 3) := by decide +kernel
theorem dL_law_716 : decode cL_law 716 = .ok (.aload_n 2, 1) := by decide +kernel
theorem dL_law_717 : decode cL_law 717 = .ok (.invokevirtual 105, 3) := by decide +kernel
theorem dL_law_720 : decode cL_law 720 = .ok (.lcmp, 1) := by decide +kernel
theorem dL_law_721 : decode cL_law 721 = .ok (.ifCond .eq 5, 3) := by decide +kernel
theorem dL_law_724 : decode cL_law 724 = .ok (.iconst 0, 1) := by decide +kernel
theorem dL_law_725 : decode cL_law 725 = .ok (.ireturn, 1) := by decide +kernel
theorem dL_law_726 : decode cL_law 726 = .ok (.iinc 3 5, 3) := by decide +kernel
theorem dL_law_729 : decode cL_law 729 = .ok (.goto (-711), 3) := by decide +kernel
theorem dL_law_732 : decode cL_law 732 = .ok (.iconst 1, 1) := by decide +kernel
theorem dL_law_733 : decode cL_law 733 = .ok (.ireturn, 1) := by decide +kernel
end
section
/-! ===== the words of the tables that a walk may use, each by its place ===== -/
def lw_g : List Cond := lw_tbl.filter goodWord
theorem lw_g_in {w : Cond} (h : w ∈ lw_g) : w ∈ lw_tbl := (List.mem_filter.mp h).1
theorem lw_g_good : ∀ w ∈ lw_g, (w.onTables && w.keeps) = true ∨ ∃ ty, w = .arrayClass ty := fun w h => good_of_word (List.mem_filter.mp h).2
theorem gm_1 {w : Cond} (h : w ∈ tables_1_1) (hg : goodWord w = true) : w ∈ lw_g := List.mem_filter.mpr ⟨List.mem_append_right _ (List.mem_append_left _ h), hg⟩
theorem gm_2 {w : Cond} (h : w ∈ tables_1_2) (hg : goodWord w = true) : w ∈ lw_g := List.mem_filter.mpr ⟨List.mem_append_right _ (List.mem_append_right _ (List.mem_append_left _ h)), hg⟩
theorem gm_3 {w : Cond} (h : w ∈ tables_1_3) (hg : goodWord w = true) : w ∈ lw_g := List.mem_filter.mpr ⟨List.mem_append_right _ (List.mem_append_right _ (List.mem_append_right _ (List.mem_append_left _ h))), hg⟩
theorem gm_4 {w : Cond} (h : w ∈ tables_1_4) (hg : goodWord w = true) : w ∈ lw_g := List.mem_filter.mpr ⟨List.mem_append_right _ (List.mem_append_right _ (List.mem_append_right _ (List.mem_append_right _ (List.mem_append_left _ h)))), hg⟩
theorem gm_5 {w : Cond} (h : w ∈ tables_1_5) (hg : goodWord w = true) : w ∈ lw_g := List.mem_filter.mpr ⟨List.mem_append_right _ (List.mem_append_right _ (List.mem_append_right _ (List.mem_append_right _ (List.mem_append_right _ h)))), hg⟩
theorem gp_1 {q : MethodName × Nat} (h : q ∈ lw_privs_1) (hg : goodWord (Cond.selects q.1.cls q.1 q.1) = true) : Cond.selects q.1.cls q.1 q.1 ∈ lw_g := List.mem_filter.mpr ⟨List.mem_append_left _ (List.mem_map.mpr ⟨q, (List.mem_append_left _ h), rfl⟩), hg⟩
theorem gp_2 {q : MethodName × Nat} (h : q ∈ lw_privs_2) (hg : goodWord (Cond.selects q.1.cls q.1 q.1) = true) : Cond.selects q.1.cls q.1 q.1 ∈ lw_g := List.mem_filter.mpr ⟨List.mem_append_left _ (List.mem_map.mpr ⟨q, (List.mem_append_right _ (List.mem_append_left _ h)), rfl⟩), hg⟩
theorem gp_3 {q : MethodName × Nat} (h : q ∈ lw_privs_3) (hg : goodWord (Cond.selects q.1.cls q.1 q.1) = true) : Cond.selects q.1.cls q.1 q.1 ∈ lw_g := List.mem_filter.mpr ⟨List.mem_append_left _ (List.mem_map.mpr ⟨q, (List.mem_append_right _ (List.mem_append_right _ (List.mem_append_left _ h))), rfl⟩), hg⟩
theorem gp_4 {q : MethodName × Nat} (h : q ∈ lw_privs_4) (hg : goodWord (Cond.selects q.1.cls q.1 q.1) = true) : Cond.selects q.1.cls q.1 q.1 ∈ lw_g := List.mem_filter.mpr ⟨List.mem_append_left _ (List.mem_map.mpr ⟨q, (List.mem_append_right _ (List.mem_append_right _ (List.mem_append_right _ h))), rfl⟩), hg⟩
theorem ini_L : Cond.initialized RL ∈ lw_g := gm_1 (List.mem_of_getElem? (i := 0) rfl) rfl
theorem ini_X8 : Cond.initialized RX8 ∈ lw_g := gm_1 (List.mem_of_getElem? (i := 1) rfl) rfl
theorem ini_X6 : Cond.initialized RX6 ∈ lw_g := gm_1 (List.mem_of_getElem? (i := 2) rfl) rfl
theorem ini_X7 : Cond.initialized RX7 ∈ lw_g := gm_1 (List.mem_of_getElem? (i := 3) rfl) rfl
theorem ini_X1 : Cond.initialized RX1 ∈ lw_g := gm_1 (List.mem_of_getElem? (i := 4) rfl) rfl
theorem ini_X4 : Cond.initialized RX4 ∈ lw_g := gm_1 (List.mem_of_getElem? (i := 5) rfl) rfl
theorem ini_X3 : Cond.initialized RX3 ∈ lw_g := gm_1 (List.mem_of_getElem? (i := 6) rfl) rfl
theorem ini_X0 : Cond.initialized RX0 ∈ lw_g := gm_1 (List.mem_of_getElem? (i := 7) rfl) rfl
theorem ini_X2 : Cond.initialized RX2 ∈ lw_g := gm_1 (List.mem_of_getElem? (i := 8) rfl) rfl
theorem ini_X5 : Cond.initialized RX5 ∈ lw_g := gm_1 (List.mem_of_getElem? (i := 9) rfl) rfl
theorem ini_J9 : Cond.initialized RJ9 ∈ lw_g := gm_1 (List.mem_of_getElem? (i := 10) rfl) rfl
theorem ini_J10 : Cond.initialized RJ10 ∈ lw_g := gm_1 (List.mem_of_getElem? (i := 11) rfl) rfl
theorem ini_X9 : Cond.initialized RX9 ∈ lw_g := gm_1 (List.mem_of_getElem? (i := 12) rfl) rfl
theorem ini_J0 : Cond.initialized RJ0 ∈ lw_g := gm_1 (List.mem_of_getElem? (i := 13) rfl) rfl
theorem ini_J1 : Cond.initialized RJ1 ∈ lw_g := gm_1 (List.mem_of_getElem? (i := 14) rfl) rfl
theorem ini_J3 : Cond.initialized RJ3 ∈ lw_g := gm_1 (List.mem_of_getElem? (i := 15) rfl) rfl
theorem ini_J2 : Cond.initialized RJ2 ∈ lw_g := gm_1 (List.mem_of_getElem? (i := 16) rfl) rfl
theorem ck_L_7 : Cond.classLink RL 7 RX8 ∈ lw_g := gm_1 (List.mem_of_getElem? (i := 17) rfl) rfl
theorem ins_X8 : Cond.instantiable RX8 11 ∈ lw_g := gm_1 (List.mem_of_getElem? (i := 18) rfl) rfl
theorem ml_L_9 : Cond.methodLink RL 9 yX8_init ∈ lw_g := gm_1 (List.mem_of_getElem? (i := 19) rfl) rfl
theorem im_X8_init : Cond.instanceMethod yX8_init ∈ lw_g := gm_1 (List.mem_of_getElem? (i := 20) rfl) rfl
theorem cd_X8_init : Cond.code yX8_init cX8_init 2 none ∈ lw_g := gm_1 (List.mem_of_getElem? (i := 21) rfl) rfl
theorem ml_X8_1 : Cond.methodLink RX8 1 objectInit ∈ lw_g := gm_1 (List.mem_of_getElem? (i := 22) rfl) rfl
theorem im_objectInit : Cond.instanceMethod objectInit ∈ lw_g := gm_1 (List.mem_of_getElem? (i := 23) rfl) rfl
theorem cd_objectInit : Cond.code objectInit ⟨#[0xb1]⟩ 1 none ∈ lw_g := gm_1 (List.mem_of_getElem? (i := 24) rfl) rfl
theorem ck_X8_7 : Cond.classLink RX8 7 RX6 ∈ lw_g := gm_1 (List.mem_of_getElem? (i := 25) rfl) rfl
theorem ins_X6 : Cond.instantiable RX6 8 ∈ lw_g := gm_1 (List.mem_of_getElem? (i := 26) rfl) rfl
theorem ml_X8_9 : Cond.methodLink RX8 9 yX6_init ∈ lw_g := gm_1 (List.mem_of_getElem? (i := 27) rfl) rfl
theorem im_X6_init : Cond.instanceMethod yX6_init ∈ lw_g := gm_1 (List.mem_of_getElem? (i := 28) rfl) rfl
theorem cd_X6_init : Cond.code yX6_init cX6_init 1 none ∈ lw_g := gm_1 (List.mem_of_getElem? (i := 29) rfl) rfl
theorem ml_X6_3 : Cond.methodLink RX6 3 objectInit ∈ lw_g := gm_1 (List.mem_of_getElem? (i := 30) rfl) rfl
theorem ck_X6_9 : Cond.classLink RX6 9 RX7 ∈ lw_g := gm_1 (List.mem_of_getElem? (i := 31) rfl) rfl
theorem ins_X7 : Cond.instantiable RX7 6 ∈ lw_g := gm_1 (List.mem_of_getElem? (i := 32) rfl) rfl
theorem ml_X6_11 : Cond.methodLink RX6 11 yX7_init ∈ lw_g := gm_1 (List.mem_of_getElem? (i := 33) rfl) rfl
theorem im_X7_init : Cond.instanceMethod yX7_init ∈ lw_g := gm_1 (List.mem_of_getElem? (i := 34) rfl) rfl
theorem cd_X7_init : Cond.code yX7_init cX7_init 1 none ∈ lw_g := gm_1 (List.mem_of_getElem? (i := 35) rfl) rfl
theorem ml_X7_3 : Cond.methodLink RX7 3 objectInit ∈ lw_g := gm_1 (List.mem_of_getElem? (i := 36) rfl) rfl
theorem fl_X7_9 : Cond.fieldLink RX7 9 (TX7 0).1 (TX7 0).2.1 (TX7 0).2.2.1 ∈ lw_g := gm_1 (List.mem_of_getElem? (i := 37) rfl) rfl
theorem fl_X8_77 : Cond.fieldLink RX8 77 (TX7 0).1 (TX7 0).2.1 (TX7 0).2.2.1 ∈ lw_g := gm_1 (List.mem_of_getElem? (i := 38) rfl) rfl
theorem fl_X7_15 : Cond.fieldLink RX7 15 (TX7 1).1 (TX7 1).2.1 (TX7 1).2.2.1 ∈ lw_g := gm_1 (List.mem_of_getElem? (i := 39) rfl) rfl
theorem fl_X7_19 : Cond.fieldLink RX7 19 (TX7 2).1 (TX7 2).2.1 (TX7 2).2.2.1 ∈ lw_g := gm_1 (List.mem_of_getElem? (i := 40) rfl) rfl
theorem fl_X8_91 : Cond.fieldLink RX8 91 (TX7 2).1 (TX7 2).2.1 (TX7 2).2.2.1 ∈ lw_g := gm_1 (List.mem_of_getElem? (i := 41) rfl) rfl
theorem fl_X7_22 : Cond.fieldLink RX7 22 (TX7 3).1 (TX7 3).2.1 (TX7 3).2.2.1 ∈ lw_g := gm_1 (List.mem_of_getElem? (i := 42) rfl) rfl
theorem fl_X7_25 : Cond.fieldLink RX7 25 (TX7 4).1 (TX7 4).2.1 (TX7 4).2.2.1 ∈ lw_g := gm_1 (List.mem_of_getElem? (i := 43) rfl) rfl
theorem fl_X6_54 : Cond.fieldLink RX6 54 (TX7 4).1 (TX7 4).2.1 (TX7 4).2.2.1 ∈ lw_g := gm_1 (List.mem_of_getElem? (i := 44) rfl) rfl
theorem fl_X7_28 : Cond.fieldLink RX7 28 (TX7 5).1 (TX7 5).2.1 (TX7 5).2.2.1 ∈ lw_g := gm_1 (List.mem_of_getElem? (i := 45) rfl) rfl
theorem fl_X6_83 : Cond.fieldLink RX6 83 (TX7 5).1 (TX7 5).2.1 (TX7 5).2.2.1 ∈ lw_g := gm_1 (List.mem_of_getElem? (i := 46) rfl) rfl
theorem arr_int : Cond.arrayClass .int ∈ lw_g := gm_1 (List.mem_of_getElem? (i := 60) rfl) rfl
theorem ck_X6_18 : Cond.classLink RX6 18 RX1 ∈ lw_g := gm_1 (List.mem_of_getElem? (i := 61) rfl) rfl
theorem ins_X1 : Cond.instantiable RX1 5 ∈ lw_g := gm_1 (List.mem_of_getElem? (i := 62) rfl) rfl
theorem ml_X6_20 : Cond.methodLink RX6 20 yX1_init ∈ lw_g := gm_1 (List.mem_of_getElem? (i := 63) rfl) rfl
theorem im_X1_init : Cond.instanceMethod yX1_init ∈ lw_g := gm_1 (List.mem_of_getElem? (i := 64) rfl) rfl
theorem cd_X1_init : Cond.code yX1_init cX1_init 1 none ∈ lw_g := gm_1 (List.mem_of_getElem? (i := 65) rfl) rfl
theorem ml_X1_3 : Cond.methodLink RX1 3 objectInit ∈ lw_g := gm_1 (List.mem_of_getElem? (i := 66) rfl) rfl
theorem ck_X1_15 : Cond.classLink RX1 15 RX4 ∈ lw_g := gm_1 (List.mem_of_getElem? (i := 67) rfl) rfl
theorem ins_X4 : Cond.instantiable RX4 3 ∈ lw_g := gm_1 (List.mem_of_getElem? (i := 68) rfl) rfl
theorem ml_X1_17 : Cond.methodLink RX1 17 yX4_init ∈ lw_g := gm_1 (List.mem_of_getElem? (i := 69) rfl) rfl
theorem im_X4_init : Cond.instanceMethod yX4_init ∈ lw_g := gm_1 (List.mem_of_getElem? (i := 70) rfl) rfl
theorem cd_X4_init : Cond.code yX4_init cX4_init 1 none ∈ lw_g := gm_1 (List.mem_of_getElem? (i := 71) rfl) rfl
theorem ml_X4_3 : Cond.methodLink RX4 3 objectInit ∈ lw_g := gm_1 (List.mem_of_getElem? (i := 72) rfl) rfl
theorem fl_X4_9 : Cond.fieldLink RX4 9 (TX4 0).1 (TX4 0).2.1 (TX4 0).2.2.1 ∈ lw_g := gm_1 (List.mem_of_getElem? (i := 73) rfl) rfl
theorem fl_X1_35 : Cond.fieldLink RX1 35 (TX4 0).1 (TX4 0).2.1 (TX4 0).2.2.1 ∈ lw_g := gm_1 (List.mem_of_getElem? (i := 74) rfl) rfl
theorem fl_X8_221 : Cond.fieldLink RX8 221 (TX4 0).1 (TX4 0).2.1 (TX4 0).2.2.1 ∈ lw_g := gm_1 (List.mem_of_getElem? (i := 75) rfl) rfl
theorem fl_X3_88 : Cond.fieldLink RX3 88 (TX4 0).1 (TX4 0).2.1 (TX4 0).2.2.1 ∈ lw_g := gm_1 (List.mem_of_getElem? (i := 76) rfl) rfl
theorem fl_X4_15 : Cond.fieldLink RX4 15 (TX4 1).1 (TX4 1).2.1 (TX4 1).2.2.1 ∈ lw_g := gm_1 (List.mem_of_getElem? (i := 77) rfl) rfl
theorem fl_X3_93 : Cond.fieldLink RX3 93 (TX4 1).1 (TX4 1).2.1 (TX4 1).2.2.1 ∈ lw_g := gm_1 (List.mem_of_getElem? (i := 78) rfl) rfl
theorem fl_X4_19 : Cond.fieldLink RX4 19 (TX4 2).1 (TX4 2).2.1 (TX4 2).2.2.1 ∈ lw_g := gm_1 (List.mem_of_getElem? (i := 79) rfl) rfl
theorem fl_X3_96 : Cond.fieldLink RX3 96 (TX4 2).1 (TX4 2).2.1 (TX4 2).2.2.1 ∈ lw_g := gm_1 (List.mem_of_getElem? (i := 80) rfl) rfl
theorem ml_X1_22 : Cond.methodLink RX1 22 yX1_becomeAsAtFirst ∈ lw_g := gm_1 (List.mem_of_getElem? (i := 88) rfl) rfl
theorem im_X1_becomeAsAtFirst : Cond.instanceMethod yX1_becomeAsAtFirst ∈ lw_g := gm_1 (List.mem_of_getElem? (i := 89) rfl) rfl
theorem se_X1_becomeAsAtFirst : Cond.selects RX1 yX1_becomeAsAtFirst yX1_becomeAsAtFirst ∈ lw_g := gm_1 (List.mem_of_getElem? (i := 90) rfl) rfl
theorem cd_X1_becomeAsAtFirst : Cond.code yX1_becomeAsAtFirst cX1_becomeAsAtFirst 2 none ∈ lw_g := gm_1 (List.mem_of_getElem? (i := 91) rfl) rfl
theorem fl_X1_25 : Cond.fieldLink RX1 25 (TX1 0).1 (TX1 0).2.1 (TX1 0).2.2.1 ∈ lw_g := gm_1 (List.mem_of_getElem? (i := 92) rfl) rfl
theorem fl_X6_90 : Cond.fieldLink RX6 90 (TX1 0).1 (TX1 0).2.1 (TX1 0).2.2.1 ∈ lw_g := gm_1 (List.mem_of_getElem? (i := 93) rfl) rfl
theorem fl_X8_257 : Cond.fieldLink RX8 257 (TX1 0).1 (TX1 0).2.1 (TX1 0).2.2.1 ∈ lw_g := gm_1 (List.mem_of_getElem? (i := 94) rfl) rfl
theorem fl_X1_29 : Cond.fieldLink RX1 29 (TX1 1).1 (TX1 1).2.1 (TX1 1).2.2.1 ∈ lw_g := gm_1 (List.mem_of_getElem? (i := 95) rfl) rfl
theorem fl_X6_93 : Cond.fieldLink RX6 93 (TX1 1).1 (TX1 1).2.1 (TX1 1).2.2.1 ∈ lw_g := gm_1 (List.mem_of_getElem? (i := 96) rfl) rfl
theorem fl_X8_258 : Cond.fieldLink RX8 258 (TX1 1).1 (TX1 1).2.1 (TX1 1).2.2.1 ∈ lw_g := gm_1 (List.mem_of_getElem? (i := 97) rfl) rfl
theorem fl_X1_32 : Cond.fieldLink RX1 32 (TX1 2).1 (TX1 2).2.1 (TX1 2).2.2.1 ∈ lw_g := gm_1 (List.mem_of_getElem? (i := 98) rfl) rfl
theorem fl_X8_137 : Cond.fieldLink RX8 137 (TX1 2).1 (TX1 2).2.1 (TX1 2).2.2.1 ∈ lw_g := gm_1 (List.mem_of_getElem? (i := 99) rfl) rfl
theorem fl_X6_103 : Cond.fieldLink RX6 103 (TX1 2).1 (TX1 2).2.1 (TX1 2).2.2.1 ∈ lw_g := gm_1 (List.mem_of_getElem? (i := 100) rfl) rfl
theorem fl_X1_9 : Cond.fieldLink RX1 9 (TX1 3).1 (TX1 3).2.1 (TX1 3).2.2.1 ∈ lw_g := gm_1 (List.mem_of_getElem? (i := 101) rfl) rfl
theorem fl_X8_121 : Cond.fieldLink RX8 121 (TX1 3).1 (TX1 3).2.1 (TX1 3).2.2.1 ∈ lw_g := gm_1 (List.mem_of_getElem? (i := 102) rfl) rfl
theorem fl_X1_18 : Cond.fieldLink RX1 18 (TX1 4).1 (TX1 4).2.1 (TX1 4).2.2.1 ∈ lw_g := gm_1 (List.mem_of_getElem? (i := 103) rfl) rfl
theorem fl_X6_74 : Cond.fieldLink RX6 74 (TX1 4).1 (TX1 4).2.1 (TX1 4).2.2.1 ∈ lw_g := gm_1 (List.mem_of_getElem? (i := 104) rfl) rfl
theorem fl_X8_187 : Cond.fieldLink RX8 187 (TX1 4).1 (TX1 4).2.1 (TX1 4).2.2.1 ∈ lw_g := gm_1 (List.mem_of_getElem? (i := 105) rfl) rfl
theorem fl_X6_12 : Cond.fieldLink RX6 12 (TX6 0).1 (TX6 0).2.1 (TX6 0).2.2.1 ∈ lw_g := gm_1 (List.mem_of_getElem? (i := 117) rfl) rfl
theorem fl_X8_16 : Cond.fieldLink RX8 16 (TX6 0).1 (TX6 0).2.1 (TX6 0).2.2.1 ∈ lw_g := gm_1 (List.mem_of_getElem? (i := 118) rfl) rfl
theorem fl_X6_21 : Cond.fieldLink RX6 21 (TX6 1).1 (TX6 1).2.1 (TX6 1).2.2.1 ∈ lw_g := gm_1 (List.mem_of_getElem? (i := 119) rfl) rfl
theorem fl_X8_94 : Cond.fieldLink RX8 94 (TX6 1).1 (TX6 1).2.1 (TX6 1).2.2.1 ∈ lw_g := gm_1 (List.mem_of_getElem? (i := 120) rfl) rfl
theorem fl_X6_25 : Cond.fieldLink RX6 25 (TX6 2).1 (TX6 2).2.1 (TX6 2).2.2.1 ∈ lw_g := gm_1 (List.mem_of_getElem? (i := 121) rfl) rfl
theorem fl_X8_101 : Cond.fieldLink RX8 101 (TX6 2).1 (TX6 2).2.1 (TX6 2).2.2.1 ∈ lw_g := gm_1 (List.mem_of_getElem? (i := 122) rfl) rfl
theorem fl_X6_29 : Cond.fieldLink RX6 29 (TX6 3).1 (TX6 3).2.1 (TX6 3).2.2.1 ∈ lw_g := gm_1 (List.mem_of_getElem? (i := 123) rfl) rfl
theorem fl_X6_32 : Cond.fieldLink RX6 32 (TX6 4).1 (TX6 4).2.1 (TX6 4).2.2.1 ∈ lw_g := gm_1 (List.mem_of_getElem? (i := 124) rfl) rfl
theorem fl_X6_35 : Cond.fieldLink RX6 35 (TX6 5).1 (TX6 5).2.1 (TX6 5).2.2.1 ∈ lw_g := gm_1 (List.mem_of_getElem? (i := 125) rfl) rfl
theorem fl_X6_38 : Cond.fieldLink RX6 38 (TX6 6).1 (TX6 6).2.1 (TX6 6).2.2.1 ∈ lw_g := gm_1 (List.mem_of_getElem? (i := 126) rfl) rfl
theorem fl_X6_41 : Cond.fieldLink RX6 41 (TX6 7).1 (TX6 7).2.1 (TX6 7).2.2.1 ∈ lw_g := gm_1 (List.mem_of_getElem? (i := 127) rfl) rfl
theorem ck_X8_21 : Cond.classLink RX8 21 RX1 ∈ lw_g := gm_1 (List.mem_of_getElem? (i := 145) rfl) rfl
theorem ml_X8_23 : Cond.methodLink RX8 23 yX1_init ∈ lw_g := gm_1 (List.mem_of_getElem? (i := 146) rfl) rfl
theorem ck_X8_28 : Cond.classLink RX8 28 RX3 ∈ lw_g := gm_1 (List.mem_of_getElem? (i := 147) rfl) rfl
theorem ins_X3 : Cond.instantiable RX3 8 ∈ lw_g := gm_1 (List.mem_of_getElem? (i := 148) rfl) rfl
theorem ml_X8_30 : Cond.methodLink RX8 30 yX3_init ∈ lw_g := gm_1 (List.mem_of_getElem? (i := 149) rfl) rfl
theorem im_X3_init : Cond.instanceMethod yX3_init ∈ lw_g := gm_1 (List.mem_of_getElem? (i := 150) rfl) rfl
theorem cd_X3_init : Cond.code yX3_init cX3_init 1 none ∈ lw_g := gm_1 (List.mem_of_getElem? (i := 151) rfl) rfl
theorem ml_X3_3 : Cond.methodLink RX3 3 objectInit ∈ lw_g := gm_1 (List.mem_of_getElem? (i := 152) rfl) rfl
theorem fl_X3_9 : Cond.fieldLink RX3 9 (TX3 0).1 (TX3 0).2.1 (TX3 0).2.2.1 ∈ lw_g := gm_1 (List.mem_of_getElem? (i := 153) rfl) rfl
theorem fl_X0_25 : Cond.fieldLink RX0 25 (TX3 0).1 (TX3 0).2.1 (TX3 0).2.2.1 ∈ lw_g := gm_1 (List.mem_of_getElem? (i := 154) rfl) rfl
theorem fl_X8_128 : Cond.fieldLink RX8 128 (TX3 0).1 (TX3 0).2.1 (TX3 0).2.2.1 ∈ lw_g := gm_1 (List.mem_of_getElem? (i := 155) rfl) rfl
theorem fl_X3_15 : Cond.fieldLink RX3 15 (TX3 1).1 (TX3 1).2.1 (TX3 1).2.2.1 ∈ lw_g := gm_1 (List.mem_of_getElem? (i := 156) rfl) rfl
theorem fl_X8_181 : Cond.fieldLink RX8 181 (TX3 1).1 (TX3 1).2.1 (TX3 1).2.2.1 ∈ lw_g := gm_1 (List.mem_of_getElem? (i := 157) rfl) rfl
theorem fl_X3_18 : Cond.fieldLink RX3 18 (TX3 2).1 (TX3 2).2.1 (TX3 2).2.2.1 ∈ lw_g := gm_1 (List.mem_of_getElem? (i := 158) rfl) rfl
theorem fl_X8_184 : Cond.fieldLink RX8 184 (TX3 2).1 (TX3 2).2.1 (TX3 2).2.2.1 ∈ lw_g := gm_1 (List.mem_of_getElem? (i := 159) rfl) rfl
theorem fl_X3_21 : Cond.fieldLink RX3 21 (TX3 3).1 (TX3 3).2.1 (TX3 3).2.2.1 ∈ lw_g := gm_1 (List.mem_of_getElem? (i := 160) rfl) rfl
theorem fl_X0_30 : Cond.fieldLink RX0 30 (TX3 3).1 (TX3 3).2.1 (TX3 3).2.2.1 ∈ lw_g := gm_1 (List.mem_of_getElem? (i := 161) rfl) rfl
theorem fl_X8_108 : Cond.fieldLink RX8 108 (TX3 3).1 (TX3 3).2.1 (TX3 3).2.2.1 ∈ lw_g := gm_1 (List.mem_of_getElem? (i := 162) rfl) rfl
theorem fl_X3_25 : Cond.fieldLink RX3 25 (TX3 4).1 (TX3 4).2.1 (TX3 4).2.2.1 ∈ lw_g := gm_1 (List.mem_of_getElem? (i := 163) rfl) rfl
theorem fl_X0_39 : Cond.fieldLink RX0 39 (TX3 4).1 (TX3 4).2.1 (TX3 4).2.2.1 ∈ lw_g := gm_1 (List.mem_of_getElem? (i := 164) rfl) rfl
theorem fl_X8_112 : Cond.fieldLink RX8 112 (TX3 4).1 (TX3 4).2.1 (TX3 4).2.2.1 ∈ lw_g := gm_1 (List.mem_of_getElem? (i := 165) rfl) rfl
theorem fl_X3_28 : Cond.fieldLink RX3 28 (TX3 5).1 (TX3 5).2.1 (TX3 5).2.2.1 ∈ lw_g := gm_1 (List.mem_of_getElem? (i := 166) rfl) rfl
theorem fl_X8_115 : Cond.fieldLink RX8 115 (TX3 5).1 (TX3 5).2.1 (TX3 5).2.2.1 ∈ lw_g := gm_1 (List.mem_of_getElem? (i := 167) rfl) rfl
theorem fl_X3_31 : Cond.fieldLink RX3 31 (TX3 6).1 (TX3 6).2.1 (TX3 6).2.2.1 ∈ lw_g := gm_1 (List.mem_of_getElem? (i := 168) rfl) rfl
theorem fl_X8_118 : Cond.fieldLink RX8 118 (TX3 6).1 (TX3 6).2.1 (TX3 6).2.2.1 ∈ lw_g := gm_1 (List.mem_of_getElem? (i := 169) rfl) rfl
theorem fl_X3_34 : Cond.fieldLink RX3 34 (TX3 7).1 (TX3 7).2.1 (TX3 7).2.2.1 ∈ lw_g := gm_1 (List.mem_of_getElem? (i := 170) rfl) rfl
theorem ck_X8_38 : Cond.classLink RX8 38 RX0 ∈ lw_g := gm_1 (List.mem_of_getElem? (i := 188) rfl) rfl
theorem ins_X0 : Cond.instantiable RX0 4 ∈ lw_g := gm_1 (List.mem_of_getElem? (i := 189) rfl) rfl
theorem ml_X8_40 : Cond.methodLink RX8 40 yX0_init ∈ lw_g := gm_1 (List.mem_of_getElem? (i := 190) rfl) rfl
theorem im_X0_init : Cond.instanceMethod yX0_init ∈ lw_g := gm_1 (List.mem_of_getElem? (i := 191) rfl) rfl
theorem cd_X0_init : Cond.code yX0_init cX0_init 1 none ∈ lw_g := gm_1 (List.mem_of_getElem? (i := 192) rfl) rfl
theorem ml_X0_3 : Cond.methodLink RX0 3 objectInit ∈ lw_g := gm_1 (List.mem_of_getElem? (i := 193) rfl) rfl
theorem fl_X0_9 : Cond.fieldLink RX0 9 (TX0 0).1 (TX0 0).2.1 (TX0 0).2.2.1 ∈ lw_g := gm_1 (List.mem_of_getElem? (i := 194) rfl) rfl
theorem fl_X0_15 : Cond.fieldLink RX0 15 (TX0 1).1 (TX0 1).2.1 (TX0 1).2.2.1 ∈ lw_g := gm_1 (List.mem_of_getElem? (i := 195) rfl) rfl
theorem fl_X0_19 : Cond.fieldLink RX0 19 (TX0 2).1 (TX0 2).2.1 (TX0 2).2.2.1 ∈ lw_g := gm_1 (List.mem_of_getElem? (i := 196) rfl) rfl
theorem fl_X0_22 : Cond.fieldLink RX0 22 (TX0 3).1 (TX0 3).2.1 (TX0 3).2.2.1 ∈ lw_g := gm_1 (List.mem_of_getElem? (i := 197) rfl) rfl
theorem fl_X2_29 : Cond.fieldLink RX2 29 (TX0 3).1 (TX0 3).2.1 (TX0 3).2.2.1 ∈ lw_g := gm_1 (List.mem_of_getElem? (i := 198) rfl) rfl
theorem fl_X8_171 : Cond.fieldLink RX8 171 (TX0 3).1 (TX0 3).2.1 (TX0 3).2.2.1 ∈ lw_g := gm_1 (List.mem_of_getElem? (i := 199) rfl) rfl
theorem ck_X8_45 : Cond.classLink RX8 45 RX2 ∈ lw_g := gm_1 (List.mem_of_getElem? (i := 209) rfl) rfl
theorem ins_X2 : Cond.instantiable RX2 5 ∈ lw_g := gm_1 (List.mem_of_getElem? (i := 210) rfl) rfl
theorem ml_X8_47 : Cond.methodLink RX8 47 yX2_init ∈ lw_g := gm_1 (List.mem_of_getElem? (i := 211) rfl) rfl
theorem im_X2_init : Cond.instanceMethod yX2_init ∈ lw_g := gm_1 (List.mem_of_getElem? (i := 212) rfl) rfl
theorem cd_X2_init : Cond.code yX2_init cX2_init 1 none ∈ lw_g := gm_1 (List.mem_of_getElem? (i := 213) rfl) rfl
theorem ml_X2_3 : Cond.methodLink RX2 3 objectInit ∈ lw_g := gm_1 (List.mem_of_getElem? (i := 214) rfl) rfl
theorem fl_X2_9 : Cond.fieldLink RX2 9 (TX2 0).1 (TX2 0).2.1 (TX2 0).2.2.1 ∈ lw_g := gm_1 (List.mem_of_getElem? (i := 215) rfl) rfl
theorem fl_X8_253 : Cond.fieldLink RX8 253 (TX2 0).1 (TX2 0).2.1 (TX2 0).2.2.1 ∈ lw_g := gm_1 (List.mem_of_getElem? (i := 216) rfl) rfl
theorem fl_X2_15 : Cond.fieldLink RX2 15 (TX2 1).1 (TX2 1).2.1 (TX2 1).2.2.1 ∈ lw_g := gm_1 (List.mem_of_getElem? (i := 217) rfl) rfl
theorem fl_X8_164 : Cond.fieldLink RX8 164 (TX2 1).1 (TX2 1).2.1 (TX2 1).2.2.1 ∈ lw_g := gm_1 (List.mem_of_getElem? (i := 218) rfl) rfl
theorem fl_X2_19 : Cond.fieldLink RX2 19 (TX2 2).1 (TX2 2).2.1 (TX2 2).2.2.1 ∈ lw_g := gm_1 (List.mem_of_getElem? (i := 219) rfl) rfl
theorem fl_X8_154 : Cond.fieldLink RX8 154 (TX2 2).1 (TX2 2).2.1 (TX2 2).2.2.1 ∈ lw_g := gm_1 (List.mem_of_getElem? (i := 220) rfl) rfl
theorem fl_X2_22 : Cond.fieldLink RX2 22 (TX2 3).1 (TX2 3).2.1 (TX2 3).2.2.1 ∈ lw_g := gm_1 (List.mem_of_getElem? (i := 221) rfl) rfl
theorem fl_X8_279 : Cond.fieldLink RX8 279 (TX2 3).1 (TX2 3).2.1 (TX2 3).2.2.1 ∈ lw_g := gm_1 (List.mem_of_getElem? (i := 222) rfl) rfl
theorem fl_X2_26 : Cond.fieldLink RX2 26 (TX2 4).1 (TX2 4).2.1 (TX2 4).2.2.1 ∈ lw_g := gm_1 (List.mem_of_getElem? (i := 223) rfl) rfl
theorem fl_X8_270 : Cond.fieldLink RX8 270 (TX2 4).1 (TX2 4).2.1 (TX2 4).2.2.1 ∈ lw_g := gm_1 (List.mem_of_getElem? (i := 224) rfl) rfl
theorem ao_X2 : Cond.arrayOver (.object RX2) ∈ lw_tbl := List.mem_append_right _ (List.mem_append_left _ (List.mem_of_getElem? (i := 236) rfl))
theorem ck_X8_56 : Cond.classLink RX8 56 RX4 ∈ lw_g := gm_1 (List.mem_of_getElem? (i := 237) rfl) rfl
theorem ml_X8_58 : Cond.methodLink RX8 58 yX4_init ∈ lw_g := gm_1 (List.mem_of_getElem? (i := 238) rfl) rfl
theorem ck_X8_63 : Cond.classLink RX8 63 RX5 ∈ lw_g := gm_1 (List.mem_of_getElem? (i := 239) rfl) rfl
theorem ins_X5 : Cond.instantiable RX5 5 ∈ lw_g := gm_2 (List.mem_of_getElem? (i := 0) rfl) rfl
theorem ml_X8_65 : Cond.methodLink RX8 65 yX5_init ∈ lw_g := gm_2 (List.mem_of_getElem? (i := 1) rfl) rfl
theorem im_X5_init : Cond.instanceMethod yX5_init ∈ lw_g := gm_2 (List.mem_of_getElem? (i := 2) rfl) rfl
theorem cd_X5_init : Cond.code yX5_init cX5_init 2 none ∈ lw_g := gm_2 (List.mem_of_getElem? (i := 3) rfl) rfl
theorem ml_X5_3 : Cond.methodLink RX5 3 objectInit ∈ lw_g := gm_2 (List.mem_of_getElem? (i := 4) rfl) rfl
theorem ck_X5_22 : Cond.classLink RX5 22 RX3 ∈ lw_g := gm_2 (List.mem_of_getElem? (i := 5) rfl) rfl
theorem ao_X3 : Cond.arrayOver (.object RX3) ∈ lw_tbl := List.mem_append_right _ (List.mem_append_right _ (List.mem_append_left _ (List.mem_of_getElem? (i := 6) rfl)))
theorem ml_X5_32 : Cond.methodLink RX5 32 yX3_init ∈ lw_g := gm_2 (List.mem_of_getElem? (i := 7) rfl) rfl
theorem fl_X5_9 : Cond.fieldLink RX5 9 (TX5 0).1 (TX5 0).2.1 (TX5 0).2.2.1 ∈ lw_g := gm_2 (List.mem_of_getElem? (i := 8) rfl) rfl
theorem fl_X8_204 : Cond.fieldLink RX8 204 (TX5 0).1 (TX5 0).2.1 (TX5 0).2.2.1 ∈ lw_g := gm_2 (List.mem_of_getElem? (i := 9) rfl) rfl
theorem fl_X5_15 : Cond.fieldLink RX5 15 (TX5 1).1 (TX5 1).2.1 (TX5 1).2.2.1 ∈ lw_g := gm_2 (List.mem_of_getElem? (i := 10) rfl) rfl
theorem fl_X5_19 : Cond.fieldLink RX5 19 (TX5 2).1 (TX5 2).2.1 (TX5 2).2.2.1 ∈ lw_g := gm_2 (List.mem_of_getElem? (i := 11) rfl) rfl
theorem fl_X5_24 : Cond.fieldLink RX5 24 (TX5 3).1 (TX5 3).2.1 (TX5 3).2.2.1 ∈ lw_g := gm_2 (List.mem_of_getElem? (i := 12) rfl) rfl
theorem fl_X5_28 : Cond.fieldLink RX5 28 (TX5 4).1 (TX5 4).2.1 (TX5 4).2.2.1 ∈ lw_g := gm_2 (List.mem_of_getElem? (i := 13) rfl) rfl
theorem ml_X8_74 : Cond.methodLink RX8 74 yX8_beginAnew ∈ lw_g := gm_2 (List.mem_of_getElem? (i := 25) rfl) rfl
theorem im_X8_beginAnew : Cond.instanceMethod yX8_beginAnew ∈ lw_g := gm_2 (List.mem_of_getElem? (i := 27) rfl) rfl
theorem cd_X8_beginAnew : Cond.code yX8_beginAnew cX8_beginAnew 2 none ∈ lw_g := gm_2 (List.mem_of_getElem? (i := 28) rfl) rfl
theorem ml_X8_259 : Cond.methodLink RX8 259 yX3_layFlat ∈ lw_g := gm_2 (List.mem_of_getElem? (i := 29) rfl) rfl
theorem im_X3_layFlat : Cond.instanceMethod yX3_layFlat ∈ lw_g := gm_2 (List.mem_of_getElem? (i := 30) rfl) rfl
theorem se_X3_layFlat : Cond.selects RX3 yX3_layFlat yX3_layFlat ∈ lw_g := gm_2 (List.mem_of_getElem? (i := 31) rfl) rfl
theorem cd_X3_layFlat : Cond.code yX3_layFlat cX3_layFlat 5 none ∈ lw_g := gm_2 (List.mem_of_getElem? (i := 32) rfl) rfl
theorem ml_X3_37 : Cond.methodLink RX3 37 yJ9_min_7cf53 ∈ lw_g := gm_2 (List.mem_of_getElem? (i := 33) rfl) rfl
theorem sm_J9_min_7cf53 : Cond.static yJ9_min_7cf53 ∈ lw_g := gm_2 (List.mem_of_getElem? (i := 34) rfl) rfl
theorem cd_J9_min_7cf53 : Cond.code yJ9_min_7cf53 cJ9_min_7cf53 2 (some .int) ∈ lw_g := gm_2 (List.mem_of_getElem? (i := 35) rfl) rfl
theorem ml_X8_262 : Cond.methodLink RX8 262 yX0_layOut ∈ lw_g := gm_2 (List.mem_of_getElem? (i := 36) rfl) rfl
theorem im_X0_layOut : Cond.instanceMethod yX0_layOut ∈ lw_g := gm_2 (List.mem_of_getElem? (i := 37) rfl) rfl
theorem se_X0_layOut : Cond.selects RX0 yX0_layOut yX0_layOut ∈ lw_g := gm_2 (List.mem_of_getElem? (i := 38) rfl) rfl
theorem cd_X0_layOut : Cond.code yX0_layOut cX0_layOut 5 none ∈ lw_g := gm_2 (List.mem_of_getElem? (i := 39) rfl) rfl
theorem ml_X0_33 : Cond.methodLink RX0 33 yJ9_abs_0f7a4 ∈ lw_g := gm_2 (List.mem_of_getElem? (i := 40) rfl) rfl
theorem sm_J9_abs_0f7a4 : Cond.static yJ9_abs_0f7a4 ∈ lw_g := gm_2 (List.mem_of_getElem? (i := 41) rfl) rfl
theorem cd_J9_abs_0f7a4 : Cond.code yJ9_abs_0f7a4 cJ9_abs_0f7a4 1 (some .int) ∈ lw_g := gm_2 (List.mem_of_getElem? (i := 42) rfl) rfl
theorem ml_X8_265 : Cond.methodLink RX8 265 yX2_begin ∈ lw_g := gm_2 (List.mem_of_getElem? (i := 43) rfl) rfl
theorem im_X2_begin : Cond.instanceMethod yX2_begin ∈ lw_g := gm_2 (List.mem_of_getElem? (i := 44) rfl) rfl
theorem se_X2_begin : Cond.selects RX2 yX2_begin yX2_begin ∈ lw_g := gm_2 (List.mem_of_getElem? (i := 45) rfl) rfl
theorem cd_X2_begin : Cond.code yX2_begin cX2_begin 2 none ∈ lw_g := gm_2 (List.mem_of_getElem? (i := 46) rfl) rfl
theorem ml_X8_157 : Cond.methodLink RX8 157 yX8_foldAsNowTells ∈ lw_g := gm_2 (List.mem_of_getElem? (i := 47) rfl) rfl
theorem im_X8_foldAsNowTells : Cond.instanceMethod yX8_foldAsNowTells ∈ lw_g := gm_2 (List.mem_of_getElem? (i := 49) rfl) rfl
theorem cd_X8_foldAsNowTells : Cond.code yX8_foldAsNowTells cX8_foldAsNowTells 2 none ∈ lw_g := gm_2 (List.mem_of_getElem? (i := 50) rfl) rfl
theorem ml_X8_268 : Cond.methodLink RX8 268 yX3_copyFrom ∈ lw_g := gm_2 (List.mem_of_getElem? (i := 51) rfl) rfl
theorem im_X3_copyFrom : Cond.instanceMethod yX3_copyFrom ∈ lw_g := gm_2 (List.mem_of_getElem? (i := 52) rfl) rfl
theorem se_X3_copyFrom : Cond.selects RX3 yX3_copyFrom yX3_copyFrom ∈ lw_g := gm_2 (List.mem_of_getElem? (i := 53) rfl) rfl
theorem cd_X3_copyFrom : Cond.code yX3_copyFrom cX3_copyFrom 2 none ∈ lw_g := gm_2 (List.mem_of_getElem? (i := 54) rfl) rfl
theorem ml_X3_43 : Cond.methodLink RX3 43 arraycopyName ∈ lw_g := gm_2 (List.mem_of_getElem? (i := 55) rfl) rfl
theorem sm_arraycopy : Cond.static arraycopyName ∈ lw_g := gm_2 (List.mem_of_getElem? (i := 56) rfl) rfl
theorem nv_arraycopy : Cond.native arraycopyName ∈ lw_g := gm_2 (List.mem_of_getElem? (i := 57) rfl) rfl
theorem ml_X8_273 : Cond.methodLink RX8 273 arraycopyName ∈ lw_g := gm_2 (List.mem_of_getElem? (i := 58) rfl) rfl
theorem ml_X8_147 : Cond.methodLink RX8 147 yX8_bendBy ∈ lw_g := gm_2 (List.mem_of_getElem? (i := 59) rfl) rfl
theorem im_X8_bendBy : Cond.instanceMethod yX8_bendBy ∈ lw_g := gm_2 (List.mem_of_getElem? (i := 61) rfl) rfl
theorem cd_X8_bendBy : Cond.code yX8_bendBy cX8_bendBy 2 none ∈ lw_g := gm_2 (List.mem_of_getElem? (i := 62) rfl) rfl
theorem ml_X8_282 : Cond.methodLink RX8 282 yX0_bend ∈ lw_g := gm_2 (List.mem_of_getElem? (i := 63) rfl) rfl
theorem im_X0_bend : Cond.instanceMethod yX0_bend ∈ lw_g := gm_2 (List.mem_of_getElem? (i := 64) rfl) rfl
theorem se_X0_bend : Cond.selects RX0 yX0_bend yX0_bend ∈ lw_g := gm_2 (List.mem_of_getElem? (i := 65) rfl) rfl
theorem cd_X0_bend : Cond.code yX0_bend cX0_bend 4 none ∈ lw_g := gm_2 (List.mem_of_getElem? (i := 66) rfl) rfl
theorem ml_X0_49 : Cond.methodLink RX0 49 yX3_isParted ∈ lw_g := gm_2 (List.mem_of_getElem? (i := 67) rfl) rfl
theorem im_X3_isParted : Cond.instanceMethod yX3_isParted ∈ lw_g := gm_2 (List.mem_of_getElem? (i := 68) rfl) rfl
theorem se_X3_isParted : Cond.selects RX3 yX3_isParted yX3_isParted ∈ lw_g := gm_2 (List.mem_of_getElem? (i := 69) rfl) rfl
theorem cd_X3_isParted : Cond.code yX3_isParted cX3_isParted 7 (some .boolean) ∈ lw_g := gm_2 (List.mem_of_getElem? (i := 70) rfl) rfl
theorem ml_X3_49 : Cond.methodLink RX3 49 yX3_axisOf ∈ lw_g := gm_2 (List.mem_of_getElem? (i := 71) rfl) rfl
theorem sm_X3_axisOf : Cond.static yX3_axisOf ∈ lw_g := gm_2 (List.mem_of_getElem? (i := 72) rfl) rfl
theorem cd_X3_axisOf : Cond.code yX3_axisOf cX3_axisOf 1 (some .int) ∈ lw_g := gm_2 (List.mem_of_getElem? (i := 73) rfl) rfl
theorem ml_X3_53 : Cond.methodLink RX3 53 yX3_lineOf ∈ lw_g := gm_2 (List.mem_of_getElem? (i := 74) rfl) rfl
theorem sm_X3_lineOf : Cond.static yX3_lineOf ∈ lw_g := gm_2 (List.mem_of_getElem? (i := 75) rfl) rfl
theorem cd_X3_lineOf : Cond.code yX3_lineOf cX3_lineOf 1 (some .int) ∈ lw_g := gm_2 (List.mem_of_getElem? (i := 76) rfl) rfl
theorem ml_X3_75 : Cond.methodLink RX3 75 yJ9_max_7cf53 ∈ lw_g := gm_2 (List.mem_of_getElem? (i := 77) rfl) rfl
theorem sm_J9_max_7cf53 : Cond.static yJ9_max_7cf53 ∈ lw_g := gm_2 (List.mem_of_getElem? (i := 78) rfl) rfl
theorem cd_J9_max_7cf53 : Cond.code yJ9_max_7cf53 cJ9_max_7cf53 2 (some .int) ∈ lw_g := gm_2 (List.mem_of_getElem? (i := 79) rfl) rfl
theorem ml_X8_286 : Cond.methodLink RX8 286 yX3_bend ∈ lw_g := gm_2 (List.mem_of_getElem? (i := 80) rfl) rfl
theorem im_X3_bend : Cond.instanceMethod yX3_bend ∈ lw_g := gm_2 (List.mem_of_getElem? (i := 81) rfl) rfl
theorem se_X3_bend : Cond.selects RX3 yX3_bend yX3_bend ∈ lw_g := gm_2 (List.mem_of_getElem? (i := 82) rfl) rfl
theorem cd_X3_bend : Cond.code yX3_bend cX3_bend 12 none ∈ lw_g := gm_2 (List.mem_of_getElem? (i := 83) rfl) rfl
theorem ml_X3_56 : Cond.methodLink RX3 56 yX3_countHeights ∈ lw_g := gm_2 (List.mem_of_getElem? (i := 84) rfl) rfl
theorem im_X3_countHeights : Cond.instanceMethod yX3_countHeights ∈ lw_g := gm_2 (List.mem_of_getElem? (i := 86) rfl) rfl
theorem cd_X3_countHeights : Cond.code yX3_countHeights cX3_countHeights 2 none ∈ lw_g := gm_2 (List.mem_of_getElem? (i := 87) rfl) rfl
theorem ml_X3_78 : Cond.methodLink RX3 78 yX3_isPlace ∈ lw_g := gm_2 (List.mem_of_getElem? (i := 88) rfl) rfl
theorem sm_X3_isPlace : Cond.static yX3_isPlace ∈ lw_g := gm_2 (List.mem_of_getElem? (i := 89) rfl) rfl
theorem cd_X3_isPlace : Cond.code yX3_isPlace cX3_isPlace 2 (some .boolean) ∈ lw_g := gm_2 (List.mem_of_getElem? (i := 90) rfl) rfl
theorem ml_X3_59 : Cond.methodLink RX3 59 yX3_overOf ∈ lw_g := gm_2 (List.mem_of_getElem? (i := 91) rfl) rfl
theorem sm_X3_overOf : Cond.static yX3_overOf ∈ lw_g := gm_2 (List.mem_of_getElem? (i := 92) rfl) rfl
theorem cd_X3_overOf : Cond.code yX3_overOf cX3_overOf 1 (some .int) ∈ lw_g := gm_2 (List.mem_of_getElem? (i := 93) rfl) rfl
theorem ml_X3_62 : Cond.methodLink RX3 62 yX3_shiftOf ∈ lw_g := gm_2 (List.mem_of_getElem? (i := 94) rfl) rfl
theorem im_X3_shiftOf : Cond.instanceMethod yX3_shiftOf ∈ lw_g := gm_2 (List.mem_of_getElem? (i := 96) rfl) rfl
theorem cd_X3_shiftOf : Cond.code yX3_shiftOf cX3_shiftOf 4 (some .int) ∈ lw_g := gm_2 (List.mem_of_getElem? (i := 97) rfl) rfl
theorem ml_X3_68 : Cond.methodLink RX3 68 yX3_partOf ∈ lw_g := gm_2 (List.mem_of_getElem? (i := 98) rfl) rfl
theorem sm_X3_partOf : Cond.static yX3_partOf ∈ lw_g := gm_2 (List.mem_of_getElem? (i := 99) rfl) rfl
theorem cd_X3_partOf : Cond.code yX3_partOf cX3_partOf 1 (some .int) ∈ lw_g := gm_2 (List.mem_of_getElem? (i := 100) rfl) rfl
theorem ml_X3_65 : Cond.methodLink RX3 65 yX3_heightAt ∈ lw_g := gm_2 (List.mem_of_getElem? (i := 101) rfl) rfl
theorem im_X3_heightAt : Cond.instanceMethod yX3_heightAt ∈ lw_g := gm_2 (List.mem_of_getElem? (i := 103) rfl) rfl
theorem cd_X3_heightAt : Cond.code yX3_heightAt cX3_heightAt 3 (some .int) ∈ lw_g := gm_2 (List.mem_of_getElem? (i := 104) rfl) rfl
theorem ml_X3_71 : Cond.methodLink RX3 71 yX3_shrink ∈ lw_g := gm_2 (List.mem_of_getElem? (i := 105) rfl) rfl
theorem im_X3_shrink : Cond.instanceMethod yX3_shrink ∈ lw_g := gm_2 (List.mem_of_getElem? (i := 107) rfl) rfl
theorem cd_X3_shrink : Cond.code yX3_shrink cX3_shrink 3 none ∈ lw_g := gm_2 (List.mem_of_getElem? (i := 108) rfl) rfl
theorem fl_X8_10 : Cond.fieldLink RX8 10 (TX8 0).1 (TX8 0).2.1 (TX8 0).2.2.1 ∈ lw_g := gm_2 (List.mem_of_getElem? (i := 109) rfl) rfl
theorem fl_X8_20 : Cond.fieldLink RX8 20 (TX8 1).1 (TX8 1).2.1 (TX8 1).2.2.1 ∈ lw_g := gm_2 (List.mem_of_getElem? (i := 110) rfl) rfl
theorem fl_X8_24 : Cond.fieldLink RX8 24 (TX8 2).1 (TX8 2).2.1 (TX8 2).2.2.1 ∈ lw_g := gm_2 (List.mem_of_getElem? (i := 111) rfl) rfl
theorem fl_X8_31 : Cond.fieldLink RX8 31 (TX8 3).1 (TX8 3).2.1 (TX8 3).2.2.1 ∈ lw_g := gm_2 (List.mem_of_getElem? (i := 112) rfl) rfl
theorem fl_X8_35 : Cond.fieldLink RX8 35 (TX8 4).1 (TX8 4).2.1 (TX8 4).2.2.1 ∈ lw_g := gm_2 (List.mem_of_getElem? (i := 113) rfl) rfl
theorem fl_X8_41 : Cond.fieldLink RX8 41 (TX8 5).1 (TX8 5).2.1 (TX8 5).2.2.1 ∈ lw_g := gm_2 (List.mem_of_getElem? (i := 114) rfl) rfl
theorem fl_X8_48 : Cond.fieldLink RX8 48 (TX8 6).1 (TX8 6).2.1 (TX8 6).2.2.1 ∈ lw_g := gm_2 (List.mem_of_getElem? (i := 115) rfl) rfl
theorem fl_X8_52 : Cond.fieldLink RX8 52 (TX8 7).1 (TX8 7).2.1 (TX8 7).2.2.1 ∈ lw_g := gm_2 (List.mem_of_getElem? (i := 116) rfl) rfl
theorem fl_X8_59 : Cond.fieldLink RX8 59 (TX8 8).1 (TX8 8).2.1 (TX8 8).2.2.1 ∈ lw_g := gm_2 (List.mem_of_getElem? (i := 117) rfl) rfl
theorem fl_X8_66 : Cond.fieldLink RX8 66 (TX8 9).1 (TX8 9).2.1 (TX8 9).2.2.1 ∈ lw_g := gm_2 (List.mem_of_getElem? (i := 118) rfl) rfl
theorem fl_X8_70 : Cond.fieldLink RX8 70 (TX8 10).1 (TX8 10).2.1 (TX8 10).2.2.1 ∈ lw_g := gm_2 (List.mem_of_getElem? (i := 119) rfl) rfl
theorem ml_L_15 : Cond.methodLink RL 15 yX8_type ∈ lw_g := gm_2 (List.mem_of_getElem? (i := 143) rfl) rfl
theorem im_X8_type : Cond.instanceMethod yX8_type ∈ lw_g := gm_2 (List.mem_of_getElem? (i := 144) rfl) rfl
theorem se_X8_type : Cond.selects RX8 yX8_type yX8_type ∈ lw_g := gm_2 (List.mem_of_getElem? (i := 145) rfl) rfl
theorem cd_X8_type : Cond.code yX8_type cX8_type 5 (some .int) ∈ lw_g := gm_2 (List.mem_of_getElem? (i := 146) rfl) rfl
theorem ml_X8_83 : Cond.methodLink RX8 83 yX7_append ∈ lw_g := gm_2 (List.mem_of_getElem? (i := 147) rfl) rfl
theorem im_X7_append : Cond.instanceMethod yX7_append ∈ lw_g := gm_2 (List.mem_of_getElem? (i := 148) rfl) rfl
theorem se_X7_append : Cond.selects RX7 yX7_append yX7_append ∈ lw_g := gm_2 (List.mem_of_getElem? (i := 149) rfl) rfl
theorem cd_X7_append : Cond.code yX7_append cX7_append 2 none ∈ lw_g := gm_2 (List.mem_of_getElem? (i := 150) rfl) rfl
theorem ml_L_20 : Cond.methodLink RL 20 yX8_clear ∈ lw_g := gm_2 (List.mem_of_getElem? (i := 151) rfl) rfl
theorem im_X8_clear : Cond.instanceMethod yX8_clear ∈ lw_g := gm_2 (List.mem_of_getElem? (i := 152) rfl) rfl
theorem se_X8_clear : Cond.selects RX8 yX8_clear yX8_clear ∈ lw_g := gm_2 (List.mem_of_getElem? (i := 153) rfl) rfl
theorem cd_X8_clear : Cond.code yX8_clear cX8_clear 2 (some .int) ∈ lw_g := gm_2 (List.mem_of_getElem? (i := 154) rfl) rfl
theorem ml_L_25 : Cond.methodLink RL 25 yX8_map ∈ lw_g := gm_2 (List.mem_of_getElem? (i := 155) rfl) rfl
theorem im_X8_map : Cond.instanceMethod yX8_map ∈ lw_g := gm_2 (List.mem_of_getElem? (i := 156) rfl) rfl
theorem se_X8_map : Cond.selects RX8 yX8_map yX8_map ∈ lw_g := gm_2 (List.mem_of_getElem? (i := 157) rfl) rfl
theorem cd_X8_map : Cond.code yX8_map cX8_map 1 (some .int) ∈ lw_g := gm_2 (List.mem_of_getElem? (i := 158) rfl) rfl
theorem ml_X8_87 : Cond.methodLink RX8 87 yX6_readAll ∈ lw_g := gm_2 (List.mem_of_getElem? (i := 159) rfl) rfl
theorem im_X6_readAll : Cond.instanceMethod yX6_readAll ∈ lw_g := gm_2 (List.mem_of_getElem? (i := 160) rfl) rfl
theorem se_X6_readAll : Cond.selects RX6 yX6_readAll yX6_readAll ∈ lw_g := gm_2 (List.mem_of_getElem? (i := 161) rfl) rfl
theorem cd_X6_readAll : Cond.code yX6_readAll cX6_readAll 2 (some .boolean) ∈ lw_g := gm_2 (List.mem_of_getElem? (i := 162) rfl) rfl
theorem ml_X6_45 : Cond.methodLink RX6 45 yX1_becomeAsAtFirst ∈ lw_g := gm_2 (List.mem_of_getElem? (i := 163) rfl) rfl
theorem ml_X6_48 : Cond.methodLink RX6 48 yX7_rewind ∈ lw_g := gm_2 (List.mem_of_getElem? (i := 164) rfl) rfl
theorem im_X7_rewind : Cond.instanceMethod yX7_rewind ∈ lw_g := gm_2 (List.mem_of_getElem? (i := 165) rfl) rfl
theorem se_X7_rewind : Cond.selects RX7 yX7_rewind yX7_rewind ∈ lw_g := gm_2 (List.mem_of_getElem? (i := 166) rfl) rfl
theorem cd_X7_rewind : Cond.code yX7_rewind cX7_rewind 1 none ∈ lw_g := gm_2 (List.mem_of_getElem? (i := 167) rfl) rfl
theorem ml_X6_51 : Cond.methodLink RX6 51 yX7_readToken ∈ lw_g := gm_2 (List.mem_of_getElem? (i := 168) rfl) rfl
theorem im_X7_readToken : Cond.instanceMethod yX7_readToken ∈ lw_g := gm_2 (List.mem_of_getElem? (i := 169) rfl) rfl
theorem se_X7_readToken : Cond.selects RX7 yX7_readToken yX7_readToken ∈ lw_g := gm_2 (List.mem_of_getElem? (i := 170) rfl) rfl
theorem cd_X7_readToken : Cond.code yX7_readToken cX7_readToken 2 none ∈ lw_g := gm_2 (List.mem_of_getElem? (i := 171) rfl) rfl
theorem ml_X7_31 : Cond.methodLink RX7 31 yX7_byteAt ∈ lw_g := gm_2 (List.mem_of_getElem? (i := 172) rfl) rfl
theorem im_X7_byteAt : Cond.instanceMethod yX7_byteAt ∈ lw_g := gm_2 (List.mem_of_getElem? (i := 174) rfl) rfl
theorem cd_X7_byteAt : Cond.code yX7_byteAt cX7_byteAt 2 (some .int) ∈ lw_g := gm_2 (List.mem_of_getElem? (i := 175) rfl) rfl
theorem ml_X7_35 : Cond.methodLink RX7 35 yX7_isLetter ∈ lw_g := gm_2 (List.mem_of_getElem? (i := 176) rfl) rfl
theorem sm_X7_isLetter : Cond.static yX7_isLetter ∈ lw_g := gm_2 (List.mem_of_getElem? (i := 177) rfl) rfl
theorem cd_X7_isLetter : Cond.code yX7_isLetter cX7_isLetter 1 (some .boolean) ∈ lw_g := gm_2 (List.mem_of_getElem? (i := 178) rfl) rfl
theorem ml_X7_39 : Cond.methodLink RX7 39 yX7_readWord ∈ lw_g := gm_2 (List.mem_of_getElem? (i := 179) rfl) rfl
theorem im_X7_readWord : Cond.instanceMethod yX7_readWord ∈ lw_g := gm_2 (List.mem_of_getElem? (i := 181) rfl) rfl
theorem cd_X7_readWord : Cond.code yX7_readWord cX7_readWord 1 none ∈ lw_g := gm_2 (List.mem_of_getElem? (i := 182) rfl) rfl
theorem sr_X7_48 : Cond.stringRef RX7 48 "map" ∈ lw_tbl := List.mem_append_right _ (List.mem_append_right _ (List.mem_append_left _ (List.mem_of_getElem? (i := 183) rfl)))
theorem ml_X7_50 : Cond.methodLink RX7 50 yX7_isWord ∈ lw_g := gm_2 (List.mem_of_getElem? (i := 184) rfl) rfl
theorem im_X7_isWord : Cond.instanceMethod yX7_isWord ∈ lw_g := gm_2 (List.mem_of_getElem? (i := 186) rfl) rfl
theorem cd_X7_isWord : Cond.code yX7_isWord cX7_isWord 3 (some .boolean) ∈ lw_g := gm_2 (List.mem_of_getElem? (i := 187) rfl) rfl
theorem ml_X7_60 : Cond.methodLink RX7 60 yJ0_length_8abf5 ∈ lw_g := gm_2 (List.mem_of_getElem? (i := 188) rfl) rfl
theorem im_J0_length_8abf5 : Cond.instanceMethod yJ0_length_8abf5 ∈ lw_g := gm_2 (List.mem_of_getElem? (i := 189) rfl) rfl
theorem se_J0_length_8abf5 : Cond.selects RJ0 yJ0_length_8abf5 yJ0_length_8abf5 ∈ lw_g := gm_2 (List.mem_of_getElem? (i := 190) rfl) rfl
theorem cd_J0_length_8abf5 : Cond.code yJ0_length_8abf5 cJ0_length_8abf5 1 (some .int) ∈ lw_g := gm_2 (List.mem_of_getElem? (i := 191) rfl) rfl
theorem ml_J0_335 : Cond.methodLink RJ0 335 yJ0_coder_7d493 ∈ lw_g := gm_2 (List.mem_of_getElem? (i := 192) rfl) rfl
theorem im_J0_coder_7d493 : Cond.instanceMethod yJ0_coder_7d493 ∈ lw_g := gm_2 (List.mem_of_getElem? (i := 193) rfl) rfl
theorem se_J0_coder_7d493 : Cond.selects RJ0 yJ0_coder_7d493 yJ0_coder_7d493 ∈ lw_g := gm_2 (List.mem_of_getElem? (i := 194) rfl) rfl
theorem cd_J0_coder_7d493 : Cond.code yJ0_coder_7d493 cJ0_coder_7d493 1 (some .byte) ∈ lw_g := gm_2 (List.mem_of_getElem? (i := 195) rfl) rfl
theorem fl_J0_38 : Cond.fieldLink RJ0 38 "java/lang/String" "COMPACT_STRINGS" "Z" ∈ lw_g := gm_2 (List.mem_of_getElem? (i := 196) rfl) rfl
theorem ls_J0_COMPACT_STRINGS : Cond.laysStatic RJ0 "COMPACT_STRINGS" "Z" ∈ lw_tbl := List.mem_append_right _ (List.mem_append_right _ (List.mem_append_left _ (List.mem_of_getElem? (i := 197) rfl)))
theorem ml_X7_65 : Cond.methodLink RX7 65 yJ0_charAt_5068e ∈ lw_g := gm_2 (List.mem_of_getElem? (i := 198) rfl) rfl
theorem im_J0_charAt_5068e : Cond.instanceMethod yJ0_charAt_5068e ∈ lw_g := gm_2 (List.mem_of_getElem? (i := 199) rfl) rfl
theorem se_J0_charAt_5068e : Cond.selects RJ0 yJ0_charAt_5068e yJ0_charAt_5068e ∈ lw_g := gm_2 (List.mem_of_getElem? (i := 200) rfl) rfl
theorem cd_J0_charAt_5068e : Cond.code yJ0_charAt_5068e cJ0_charAt_5068e 2 (some .char) ∈ lw_g := gm_2 (List.mem_of_getElem? (i := 201) rfl) rfl
theorem ml_J0_492 : Cond.methodLink RJ0 492 yJ0_isLatin1_aae02 ∈ lw_g := gm_2 (List.mem_of_getElem? (i := 202) rfl) rfl
theorem im_J0_isLatin1_aae02 : Cond.instanceMethod yJ0_isLatin1_aae02 ∈ lw_g := gm_2 (List.mem_of_getElem? (i := 203) rfl) rfl
theorem se_J0_isLatin1_aae02 : Cond.selects RJ0 yJ0_isLatin1_aae02 yJ0_isLatin1_aae02 ∈ lw_g := gm_2 (List.mem_of_getElem? (i := 204) rfl) rfl
theorem cd_J0_isLatin1_aae02 : Cond.code yJ0_isLatin1_aae02 cJ0_isLatin1_aae02 1 (some .boolean) ∈ lw_g := gm_2 (List.mem_of_getElem? (i := 205) rfl) rfl
theorem ml_J0_495 : Cond.methodLink RJ0 495 yJ1_charAt_3b067 ∈ lw_g := gm_2 (List.mem_of_getElem? (i := 206) rfl) rfl
theorem sm_J1_charAt_3b067 : Cond.static yJ1_charAt_3b067 ∈ lw_g := gm_2 (List.mem_of_getElem? (i := 207) rfl) rfl
theorem cd_J1_charAt_3b067 : Cond.code yJ1_charAt_3b067 cJ1_charAt_3b067 2 (some .char) ∈ lw_g := gm_2 (List.mem_of_getElem? (i := 208) rfl) rfl
theorem ml_J1_9 : Cond.methodLink RJ1 9 yJ0_checkIndex_df160 ∈ lw_g := gm_2 (List.mem_of_getElem? (i := 209) rfl) rfl
theorem sm_J0_checkIndex_df160 : Cond.static yJ0_checkIndex_df160 ∈ lw_g := gm_2 (List.mem_of_getElem? (i := 210) rfl) rfl
theorem cd_J0_checkIndex_df160 : Cond.code yJ0_checkIndex_df160 cJ0_checkIndex_df160 2 none ∈ lw_g := gm_2 (List.mem_of_getElem? (i := 211) rfl) rfl
theorem fl_J0_1053 : Cond.fieldLink RJ0 1053 "jdk/internal/util/Preconditions" "SIOOBE_FORMATTER" "Ljava/util/function/BiFunction;" ∈ lw_g := gm_2 (List.mem_of_getElem? (i := 212) rfl) rfl
theorem ls_J3_SIOOBE_FORMATTER : Cond.laysStatic RJ3 "SIOOBE_FORMATTER" "Ljava/util/function/BiFunction;" ∈ lw_tbl := List.mem_append_right _ (List.mem_append_right _ (List.mem_append_left _ (List.mem_of_getElem? (i := 213) rfl)))
theorem ml_J0_1059 : Cond.methodLink RJ0 1059 yJ3_checkIndex_8e157 ∈ lw_g := gm_2 (List.mem_of_getElem? (i := 214) rfl) rfl
theorem sm_J3_checkIndex_8e157 : Cond.static yJ3_checkIndex_8e157 ∈ lw_g := gm_2 (List.mem_of_getElem? (i := 215) rfl) rfl
theorem cd_J3_checkIndex_8e157 : Cond.code yJ3_checkIndex_8e157 cJ3_checkIndex_8e157 3 (some .int) ∈ lw_g := gm_2 (List.mem_of_getElem? (i := 216) rfl) rfl
theorem ml_J0_498 : Cond.methodLink RJ0 498 yJ2_charAt_3b067 ∈ lw_g := gm_2 (List.mem_of_getElem? (i := 217) rfl) rfl
theorem sm_J2_charAt_3b067 : Cond.static yJ2_charAt_3b067 ∈ lw_g := gm_2 (List.mem_of_getElem? (i := 218) rfl) rfl
theorem cd_J2_charAt_3b067 : Cond.code yJ2_charAt_3b067 cJ2_charAt_3b067 2 (some .char) ∈ lw_g := gm_2 (List.mem_of_getElem? (i := 219) rfl) rfl
theorem ml_J2_67 : Cond.methodLink RJ2 67 yJ2_checkIndex_2214a ∈ lw_g := gm_2 (List.mem_of_getElem? (i := 220) rfl) rfl
theorem sm_J2_checkIndex_2214a : Cond.static yJ2_checkIndex_2214a ∈ lw_g := gm_2 (List.mem_of_getElem? (i := 221) rfl) rfl
theorem cd_J2_checkIndex_2214a : Cond.code yJ2_checkIndex_2214a cJ2_checkIndex_2214a 2 none ∈ lw_g := gm_2 (List.mem_of_getElem? (i := 222) rfl) rfl
theorem ml_J2_48 : Cond.methodLink RJ2 48 yJ2_length_9d52b ∈ lw_g := gm_2 (List.mem_of_getElem? (i := 223) rfl) rfl
theorem sm_J2_length_9d52b : Cond.static yJ2_length_9d52b ∈ lw_g := gm_2 (List.mem_of_getElem? (i := 224) rfl) rfl
theorem cd_J2_length_9d52b : Cond.code yJ2_length_9d52b cJ2_length_9d52b 1 (some .int) ∈ lw_g := gm_2 (List.mem_of_getElem? (i := 225) rfl) rfl
theorem ml_J2_414 : Cond.methodLink RJ2 414 yJ0_checkIndex_df160 ∈ lw_g := gm_2 (List.mem_of_getElem? (i := 226) rfl) rfl
theorem ml_J2_71 : Cond.methodLink RJ2 71 yJ2_getChar_3b067 ∈ lw_g := gm_2 (List.mem_of_getElem? (i := 227) rfl) rfl
theorem sm_J2_getChar_3b067 : Cond.static yJ2_getChar_3b067 ∈ lw_g := gm_2 (List.mem_of_getElem? (i := 228) rfl) rfl
theorem cd_J2_getChar_3b067 : Cond.code yJ2_getChar_3b067 cJ2_getChar_3b067 2 (some .char) ∈ lw_g := gm_2 (List.mem_of_getElem? (i := 229) rfl) rfl
theorem fl_J2_44 : Cond.fieldLink RJ2 44 "java/lang/StringUTF16" "$assertionsDisabled" "Z" ∈ lw_g := gm_2 (List.mem_of_getElem? (i := 230) rfl) rfl
theorem ls_J2__assertionsDisabled : Cond.laysStatic RJ2 "$assertionsDisabled" "Z" ∈ lw_tbl := List.mem_append_right _ (List.mem_append_right _ (List.mem_append_left _ (List.mem_of_getElem? (i := 231) rfl)))
theorem fl_J2_59 : Cond.fieldLink RJ2 59 "java/lang/StringUTF16" "HI_BYTE_SHIFT" "I" ∈ lw_g := gm_2 (List.mem_of_getElem? (i := 232) rfl) rfl
theorem ls_J2_HI_BYTE_SHIFT : Cond.laysStatic RJ2 "HI_BYTE_SHIFT" "I" ∈ lw_tbl := List.mem_append_right _ (List.mem_append_right _ (List.mem_append_left _ (List.mem_of_getElem? (i := 233) rfl)))
theorem fl_J2_63 : Cond.fieldLink RJ2 63 "java/lang/StringUTF16" "LO_BYTE_SHIFT" "I" ∈ lw_g := gm_2 (List.mem_of_getElem? (i := 234) rfl) rfl
theorem ls_J2_LO_BYTE_SHIFT : Cond.laysStatic RJ2 "LO_BYTE_SHIFT" "I" ∈ lw_tbl := List.mem_append_right _ (List.mem_append_right _ (List.mem_append_left _ (List.mem_of_getElem? (i := 235) rfl)))
theorem sr_X7_54 : Cond.stringRef RX7 54 "worth" ∈ lw_tbl := List.mem_append_right _ (List.mem_append_right _ (List.mem_append_left _ (List.mem_of_getElem? (i := 236) rfl)))
theorem sr_X7_56 : Cond.stringRef RX7 56 "quarrel" ∈ lw_tbl := List.mem_append_right _ (List.mem_append_right _ (List.mem_append_left _ (List.mem_of_getElem? (i := 237) rfl)))
theorem sr_X7_58 : Cond.stringRef RX7 58 "tear" ∈ lw_tbl := List.mem_append_right _ (List.mem_append_right _ (List.mem_append_left _ (List.mem_of_getElem? (i := 238) rfl)))
theorem ml_X7_42 : Cond.methodLink RX7 42 yX7_isDigit ∈ lw_g := gm_2 (List.mem_of_getElem? (i := 239) rfl) rfl
theorem sm_X7_isDigit : Cond.static yX7_isDigit ∈ lw_g := gm_3 (List.mem_of_getElem? (i := 0) rfl) rfl
theorem cd_X7_isDigit : Cond.code yX7_isDigit cX7_isDigit 1 (some .boolean) ∈ lw_g := gm_3 (List.mem_of_getElem? (i := 1) rfl) rfl
theorem ml_X7_45 : Cond.methodLink RX7 45 yX7_readNumber ∈ lw_g := gm_3 (List.mem_of_getElem? (i := 2) rfl) rfl
theorem im_X7_readNumber : Cond.instanceMethod yX7_readNumber ∈ lw_g := gm_3 (List.mem_of_getElem? (i := 4) rfl) rfl
theorem cd_X7_readNumber : Cond.code yX7_readNumber cX7_readNumber 3 none ∈ lw_g := gm_3 (List.mem_of_getElem? (i := 5) rfl) rfl
theorem ml_X6_57 : Cond.methodLink RX6 57 yX6_takesToken ∈ lw_g := gm_3 (List.mem_of_getElem? (i := 6) rfl) rfl
theorem im_X6_takesToken : Cond.instanceMethod yX6_takesToken ∈ lw_g := gm_3 (List.mem_of_getElem? (i := 8) rfl) rfl
theorem cd_X6_takesToken : Cond.code yX6_takesToken cX6_takesToken 2 (some .boolean) ∈ lw_g := gm_3 (List.mem_of_getElem? (i := 9) rfl) rfl
theorem ml_X6_61 : Cond.methodLink RX6 61 yX6_takesWord ∈ lw_g := gm_3 (List.mem_of_getElem? (i := 10) rfl) rfl
theorem im_X6_takesWord : Cond.instanceMethod yX6_takesWord ∈ lw_g := gm_3 (List.mem_of_getElem? (i := 12) rfl) rfl
theorem cd_X6_takesWord : Cond.code yX6_takesWord cX6_takesWord 1 (some .boolean) ∈ lw_g := gm_3 (List.mem_of_getElem? (i := 13) rfl) rfl
theorem ml_X6_70 : Cond.methodLink RX6 70 yX6_mayBegin ∈ lw_g := gm_3 (List.mem_of_getElem? (i := 14) rfl) rfl
theorem im_X6_mayBegin : Cond.instanceMethod yX6_mayBegin ∈ lw_g := gm_3 (List.mem_of_getElem? (i := 16) rfl) rfl
theorem cd_X6_mayBegin : Cond.code yX6_mayBegin cX6_mayBegin 2 (some .boolean) ∈ lw_g := gm_3 (List.mem_of_getElem? (i := 17) rfl) rfl
theorem ml_X6_78 : Cond.methodLink RX6 78 yX4_isFull ∈ lw_g := gm_3 (List.mem_of_getElem? (i := 18) rfl) rfl
theorem im_X4_isFull : Cond.instanceMethod yX4_isFull ∈ lw_g := gm_3 (List.mem_of_getElem? (i := 19) rfl) rfl
theorem se_X4_isFull : Cond.selects RX4 yX4_isFull yX4_isFull ∈ lw_g := gm_3 (List.mem_of_getElem? (i := 20) rfl) rfl
theorem cd_X4_isFull : Cond.code yX4_isFull cX4_isFull 1 (some .boolean) ∈ lw_g := gm_3 (List.mem_of_getElem? (i := 21) rfl) rfl
theorem ml_X6_64 : Cond.methodLink RX6 64 yX6_takesNumber ∈ lw_g := gm_3 (List.mem_of_getElem? (i := 22) rfl) rfl
theorem im_X6_takesNumber : Cond.instanceMethod yX6_takesNumber ∈ lw_g := gm_3 (List.mem_of_getElem? (i := 24) rfl) rfl
theorem cd_X6_takesNumber : Cond.code yX6_takesNumber cX6_takesNumber 2 (some .boolean) ∈ lw_g := gm_3 (List.mem_of_getElem? (i := 25) rfl) rfl
theorem ml_X6_86 : Cond.methodLink RX6 86 yX6_mostNumber ∈ lw_g := gm_3 (List.mem_of_getElem? (i := 26) rfl) rfl
theorem im_X6_mostNumber : Cond.instanceMethod yX6_mostNumber ∈ lw_g := gm_3 (List.mem_of_getElem? (i := 28) rfl) rfl
theorem cd_X6_mostNumber : Cond.code yX6_mostNumber cX6_mostNumber 2 (some .int) ∈ lw_g := gm_3 (List.mem_of_getElem? (i := 29) rfl) rfl
theorem ml_X6_67 : Cond.methodLink RX6 67 yX6_takesEnd ∈ lw_g := gm_3 (List.mem_of_getElem? (i := 30) rfl) rfl
theorem im_X6_takesEnd : Cond.instanceMethod yX6_takesEnd ∈ lw_g := gm_3 (List.mem_of_getElem? (i := 32) rfl) rfl
theorem cd_X6_takesEnd : Cond.code yX6_takesEnd cX6_takesEnd 1 (some .boolean) ∈ lw_g := gm_3 (List.mem_of_getElem? (i := 33) rfl) rfl
theorem ml_X6_96 : Cond.methodLink RX6 96 yX1_setWorth ∈ lw_g := gm_3 (List.mem_of_getElem? (i := 34) rfl) rfl
theorem im_X1_setWorth : Cond.instanceMethod yX1_setWorth ∈ lw_g := gm_3 (List.mem_of_getElem? (i := 35) rfl) rfl
theorem se_X1_setWorth : Cond.selects RX1 yX1_setWorth yX1_setWorth ∈ lw_g := gm_3 (List.mem_of_getElem? (i := 36) rfl) rfl
theorem cd_X1_setWorth : Cond.code yX1_setWorth cX1_setWorth 3 none ∈ lw_g := gm_3 (List.mem_of_getElem? (i := 37) rfl) rfl
theorem ml_X6_100 : Cond.methodLink RX6 100 yX4_add ∈ lw_g := gm_3 (List.mem_of_getElem? (i := 38) rfl) rfl
theorem im_X4_add : Cond.instanceMethod yX4_add ∈ lw_g := gm_3 (List.mem_of_getElem? (i := 39) rfl) rfl
theorem se_X4_add : Cond.selects RX4 yX4_add yX4_add ∈ lw_g := gm_3 (List.mem_of_getElem? (i := 40) rfl) rfl
theorem cd_X4_add : Cond.code yX4_add cX4_add 3 none ∈ lw_g := gm_3 (List.mem_of_getElem? (i := 41) rfl) rfl
theorem ml_X4_22 : Cond.methodLink RX4 22 yX4_isFull ∈ lw_g := gm_3 (List.mem_of_getElem? (i := 42) rfl) rfl
theorem ml_X8_97 : Cond.methodLink RX8 97 yX1_copyFrom ∈ lw_g := gm_3 (List.mem_of_getElem? (i := 43) rfl) rfl
theorem im_X1_copyFrom : Cond.instanceMethod yX1_copyFrom ∈ lw_g := gm_3 (List.mem_of_getElem? (i := 44) rfl) rfl
theorem se_X1_copyFrom : Cond.selects RX1 yX1_copyFrom yX1_copyFrom ∈ lw_g := gm_3 (List.mem_of_getElem? (i := 45) rfl) rfl
theorem cd_X1_copyFrom : Cond.code yX1_copyFrom cX1_copyFrom 2 none ∈ lw_g := gm_3 (List.mem_of_getElem? (i := 46) rfl) rfl
theorem ml_X1_38 : Cond.methodLink RX1 38 arraycopyName ∈ lw_g := gm_3 (List.mem_of_getElem? (i := 47) rfl) rfl
theorem ml_X1_44 : Cond.methodLink RX1 44 yX4_copyFrom ∈ lw_g := gm_3 (List.mem_of_getElem? (i := 48) rfl) rfl
theorem im_X4_copyFrom : Cond.instanceMethod yX4_copyFrom ∈ lw_g := gm_3 (List.mem_of_getElem? (i := 49) rfl) rfl
theorem se_X4_copyFrom : Cond.selects RX4 yX4_copyFrom yX4_copyFrom ∈ lw_g := gm_3 (List.mem_of_getElem? (i := 50) rfl) rfl
theorem cd_X4_copyFrom : Cond.code yX4_copyFrom cX4_copyFrom 2 none ∈ lw_g := gm_3 (List.mem_of_getElem? (i := 51) rfl) rfl
theorem ml_X4_26 : Cond.methodLink RX4 26 arraycopyName ∈ lw_g := gm_3 (List.mem_of_getElem? (i := 52) rfl) rfl
theorem arr_byte : Cond.arrayClass .byte ∈ lw_g := gm_3 (List.mem_of_getElem? (i := 53) rfl) rfl
theorem ml_L_29 : Cond.methodLink RL 29 yX8_cell ∈ lw_g := gm_3 (List.mem_of_getElem? (i := 54) rfl) rfl
theorem im_X8_cell : Cond.instanceMethod yX8_cell ∈ lw_g := gm_3 (List.mem_of_getElem? (i := 55) rfl) rfl
theorem se_X8_cell : Cond.selects RX8 yX8_cell yX8_cell ∈ lw_g := gm_3 (List.mem_of_getElem? (i := 56) rfl) rfl
theorem cd_X8_cell : Cond.code yX8_cell cX8_cell 3 (some .int) ∈ lw_g := gm_3 (List.mem_of_getElem? (i := 57) rfl) rfl
theorem ml_X8_104 : Cond.methodLink RX8 104 yX8_isCell ∈ lw_g := gm_3 (List.mem_of_getElem? (i := 58) rfl) rfl
theorem im_X8_isCell : Cond.instanceMethod yX8_isCell ∈ lw_g := gm_3 (List.mem_of_getElem? (i := 60) rfl) rfl
theorem cd_X8_isCell : Cond.code yX8_isCell cX8_isCell 2 (some .boolean) ∈ lw_g := gm_3 (List.mem_of_getElem? (i := 61) rfl) rfl
theorem ml_X8_124 : Cond.methodLink RX8 124 yX3_gainOf ∈ lw_g := gm_3 (List.mem_of_getElem? (i := 62) rfl) rfl
theorem im_X3_gainOf : Cond.instanceMethod yX3_gainOf ∈ lw_g := gm_3 (List.mem_of_getElem? (i := 63) rfl) rfl
theorem se_X3_gainOf : Cond.selects RX3 yX3_gainOf yX3_gainOf ∈ lw_g := gm_3 (List.mem_of_getElem? (i := 64) rfl) rfl
theorem cd_X3_gainOf : Cond.code yX3_gainOf cX3_gainOf 5 (some .int) ∈ lw_g := gm_3 (List.mem_of_getElem? (i := 65) rfl) rfl
theorem ml_X3_85 : Cond.methodLink RX3 85 yX3_touching ∈ lw_g := gm_3 (List.mem_of_getElem? (i := 66) rfl) rfl
theorem im_X3_touching : Cond.instanceMethod yX3_touching ∈ lw_g := gm_3 (List.mem_of_getElem? (i := 67) rfl) rfl
theorem se_X3_touching : Cond.selects RX3 yX3_touching yX3_touching ∈ lw_g := gm_3 (List.mem_of_getElem? (i := 68) rfl) rfl
theorem cd_X3_touching : Cond.code yX3_touching cX3_touching 4 (some .int) ∈ lw_g := gm_3 (List.mem_of_getElem? (i := 69) rfl) rfl
theorem ml_X3_82 : Cond.methodLink RX3 82 yJ9_abs_0f7a4 ∈ lw_g := gm_3 (List.mem_of_getElem? (i := 70) rfl) rfl
theorem ml_L_34 : Cond.methodLink RL 34 yX8_at ∈ lw_g := gm_3 (List.mem_of_getElem? (i := 71) rfl) rfl
theorem im_X8_at : Cond.instanceMethod yX8_at ∈ lw_g := gm_3 (List.mem_of_getElem? (i := 72) rfl) rfl
theorem se_X8_at : Cond.selects RX8 yX8_at yX8_at ∈ lw_g := gm_3 (List.mem_of_getElem? (i := 73) rfl) rfl
theorem cd_X8_at : Cond.code yX8_at cX8_at 5 (some .int) ∈ lw_g := gm_3 (List.mem_of_getElem? (i := 74) rfl) rfl
theorem ml_L_39 : Cond.methodLink RL 39 yX8_fold ∈ lw_g := gm_3 (List.mem_of_getElem? (i := 75) rfl) rfl
theorem im_X8_fold : Cond.instanceMethod yX8_fold ∈ lw_g := gm_3 (List.mem_of_getElem? (i := 76) rfl) rfl
theorem se_X8_fold : Cond.selects RX8 yX8_fold yX8_fold ∈ lw_g := gm_3 (List.mem_of_getElem? (i := 77) rfl) rfl
theorem cd_X8_fold : Cond.code yX8_fold cX8_fold 6 (some .int) ∈ lw_g := gm_3 (List.mem_of_getElem? (i := 78) rfl) rfl
theorem ml_X8_131 : Cond.methodLink RX8 131 yX8_isBit ∈ lw_g := gm_3 (List.mem_of_getElem? (i := 79) rfl) rfl
theorem sm_X8_isBit : Cond.static yX8_isBit ∈ lw_g := gm_3 (List.mem_of_getElem? (i := 80) rfl) rfl
theorem cd_X8_isBit : Cond.code yX8_isBit cX8_isBit 1 (some .boolean) ∈ lw_g := gm_3 (List.mem_of_getElem? (i := 81) rfl) rfl
theorem ml_X8_134 : Cond.methodLink RX8 134 yX3_canBend ∈ lw_g := gm_3 (List.mem_of_getElem? (i := 82) rfl) rfl
theorem im_X3_canBend : Cond.instanceMethod yX3_canBend ∈ lw_g := gm_3 (List.mem_of_getElem? (i := 83) rfl) rfl
theorem se_X3_canBend : Cond.selects RX3 yX3_canBend yX3_canBend ∈ lw_g := gm_3 (List.mem_of_getElem? (i := 84) rfl) rfl
theorem cd_X3_canBend : Cond.code yX3_canBend cX3_canBend 3 (some .boolean) ∈ lw_g := gm_3 (List.mem_of_getElem? (i := 85) rfl) rfl
theorem ml_X8_140 : Cond.methodLink RX8 140 yX0_wouldTear ∈ lw_g := gm_3 (List.mem_of_getElem? (i := 86) rfl) rfl
theorem im_X0_wouldTear : Cond.instanceMethod yX0_wouldTear ∈ lw_g := gm_3 (List.mem_of_getElem? (i := 87) rfl) rfl
theorem se_X0_wouldTear : Cond.selects RX0 yX0_wouldTear yX0_wouldTear ∈ lw_g := gm_3 (List.mem_of_getElem? (i := 88) rfl) rfl
theorem cd_X0_wouldTear : Cond.code yX0_wouldTear cX0_wouldTear 5 (some .boolean) ∈ lw_g := gm_3 (List.mem_of_getElem? (i := 89) rfl) rfl
theorem ml_X8_144 : Cond.methodLink RX8 144 yX2_addFold ∈ lw_g := gm_3 (List.mem_of_getElem? (i := 90) rfl) rfl
theorem im_X2_addFold : Cond.instanceMethod yX2_addFold ∈ lw_g := gm_3 (List.mem_of_getElem? (i := 91) rfl) rfl
theorem se_X2_addFold : Cond.selects RX2 yX2_addFold yX2_addFold ∈ lw_g := gm_3 (List.mem_of_getElem? (i := 92) rfl) rfl
theorem cd_X2_addFold : Cond.code yX2_addFold cX2_addFold 2 none ∈ lw_g := gm_3 (List.mem_of_getElem? (i := 93) rfl) rfl
theorem ml_X8_150 : Cond.methodLink RX8 150 yX3_thickest ∈ lw_g := gm_3 (List.mem_of_getElem? (i := 94) rfl) rfl
theorem im_X3_thickest : Cond.instanceMethod yX3_thickest ∈ lw_g := gm_3 (List.mem_of_getElem? (i := 95) rfl) rfl
theorem se_X3_thickest : Cond.selects RX3 yX3_thickest yX3_thickest ∈ lw_g := gm_3 (List.mem_of_getElem? (i := 96) rfl) rfl
theorem cd_X3_thickest : Cond.code yX3_thickest cX3_thickest 3 (some .int) ∈ lw_g := gm_3 (List.mem_of_getElem? (i := 97) rfl) rfl
theorem ml_L_44 : Cond.methodLink RL 44 yX8_undo ∈ lw_g := gm_3 (List.mem_of_getElem? (i := 98) rfl) rfl
theorem im_X8_undo : Cond.instanceMethod yX8_undo ∈ lw_g := gm_3 (List.mem_of_getElem? (i := 99) rfl) rfl
theorem se_X8_undo : Cond.selects RX8 yX8_undo yX8_undo ∈ lw_g := gm_3 (List.mem_of_getElem? (i := 100) rfl) rfl
theorem cd_X8_undo : Cond.code yX8_undo cX8_undo 1 (some .int) ∈ lw_g := gm_3 (List.mem_of_getElem? (i := 101) rfl) rfl
theorem ml_L_48 : Cond.methodLink RL 48 yX8_day ∈ lw_g := gm_3 (List.mem_of_getElem? (i := 102) rfl) rfl
theorem im_X8_day : Cond.instanceMethod yX8_day ∈ lw_g := gm_3 (List.mem_of_getElem? (i := 103) rfl) rfl
theorem se_X8_day : Cond.selects RX8 yX8_day yX8_day ∈ lw_g := gm_3 (List.mem_of_getElem? (i := 104) rfl) rfl
theorem cd_X8_day : Cond.code yX8_day cX8_day 1 (some .int) ∈ lw_g := gm_3 (List.mem_of_getElem? (i := 105) rfl) rfl
theorem ml_X8_160 : Cond.methodLink RX8 160 yX2_nextDay ∈ lw_g := gm_3 (List.mem_of_getElem? (i := 106) rfl) rfl
theorem im_X2_nextDay : Cond.instanceMethod yX2_nextDay ∈ lw_g := gm_3 (List.mem_of_getElem? (i := 107) rfl) rfl
theorem se_X2_nextDay : Cond.selects RX2 yX2_nextDay yX2_nextDay ∈ lw_g := gm_3 (List.mem_of_getElem? (i := 108) rfl) rfl
theorem cd_X2_nextDay : Cond.code yX2_nextDay cX2_nextDay 2 none ∈ lw_g := gm_3 (List.mem_of_getElem? (i := 109) rfl) rfl
theorem ml_X2_34 : Cond.methodLink RX2 34 arraycopyName ∈ lw_g := gm_3 (List.mem_of_getElem? (i := 110) rfl) rfl
theorem ml_L_52 : Cond.methodLink RL 52 yX8_bent ∈ lw_g := gm_3 (List.mem_of_getElem? (i := 111) rfl) rfl
theorem im_X8_bent : Cond.instanceMethod yX8_bent ∈ lw_g := gm_3 (List.mem_of_getElem? (i := 112) rfl) rfl
theorem se_X8_bent : Cond.selects RX8 yX8_bent yX8_bent ∈ lw_g := gm_3 (List.mem_of_getElem? (i := 113) rfl) rfl
theorem cd_X8_bent : Cond.code yX8_bent cX8_bent 4 (some .int) ∈ lw_g := gm_3 (List.mem_of_getElem? (i := 114) rfl) rfl
theorem ml_X8_167 : Cond.methodLink RX8 167 yX0_find ∈ lw_g := gm_3 (List.mem_of_getElem? (i := 115) rfl) rfl
theorem im_X0_find : Cond.instanceMethod yX0_find ∈ lw_g := gm_3 (List.mem_of_getElem? (i := 116) rfl) rfl
theorem se_X0_find : Cond.selects RX0 yX0_find yX0_find ∈ lw_g := gm_3 (List.mem_of_getElem? (i := 117) rfl) rfl
theorem cd_X0_find : Cond.code yX0_find cX0_find 6 (some .int) ∈ lw_g := gm_3 (List.mem_of_getElem? (i := 118) rfl) rfl
theorem ml_X0_42 : Cond.methodLink RX0 42 yJ9_min_7cf53 ∈ lw_g := gm_3 (List.mem_of_getElem? (i := 119) rfl) rfl
theorem ml_X0_46 : Cond.methodLink RX0 46 yJ9_max_7cf53 ∈ lw_g := gm_3 (List.mem_of_getElem? (i := 120) rfl) rfl
theorem ml_L_56 : Cond.methodLink RL 56 yX8_touch ∈ lw_g := gm_3 (List.mem_of_getElem? (i := 121) rfl) rfl
theorem im_X8_touch : Cond.instanceMethod yX8_touch ∈ lw_g := gm_3 (List.mem_of_getElem? (i := 122) rfl) rfl
theorem se_X8_touch : Cond.selects RX8 yX8_touch yX8_touch ∈ lw_g := gm_3 (List.mem_of_getElem? (i := 123) rfl) rfl
theorem cd_X8_touch : Cond.code yX8_touch cX8_touch 3 (some .int) ∈ lw_g := gm_3 (List.mem_of_getElem? (i := 124) rfl) rfl
theorem ml_X8_174 : Cond.methodLink RX8 174 yX8_areTwoCells ∈ lw_g := gm_3 (List.mem_of_getElem? (i := 125) rfl) rfl
theorem im_X8_areTwoCells : Cond.instanceMethod yX8_areTwoCells ∈ lw_g := gm_3 (List.mem_of_getElem? (i := 127) rfl) rfl
theorem cd_X8_areTwoCells : Cond.code yX8_areTwoCells cX8_areTwoCells 3 (some .boolean) ∈ lw_g := gm_3 (List.mem_of_getElem? (i := 128) rfl) rfl
theorem ml_X8_178 : Cond.methodLink RX8 178 yX3_touching ∈ lw_g := gm_3 (List.mem_of_getElem? (i := 129) rfl) rfl
theorem ml_L_60 : Cond.methodLink RL 60 yX8_packet ∈ lw_g := gm_3 (List.mem_of_getElem? (i := 130) rfl) rfl
theorem im_X8_packet : Cond.instanceMethod yX8_packet ∈ lw_g := gm_3 (List.mem_of_getElem? (i := 131) rfl) rfl
theorem se_X8_packet : Cond.selects RX8 yX8_packet yX8_packet ∈ lw_g := gm_3 (List.mem_of_getElem? (i := 132) rfl) rfl
theorem cd_X8_packet : Cond.code yX8_packet cX8_packet 2 (some .int) ∈ lw_g := gm_3 (List.mem_of_getElem? (i := 133) rfl) rfl
theorem ml_X8_190 : Cond.methodLink RX8 190 yX3_countFought ∈ lw_g := gm_3 (List.mem_of_getElem? (i := 134) rfl) rfl
theorem im_X3_countFought : Cond.instanceMethod yX3_countFought ∈ lw_g := gm_3 (List.mem_of_getElem? (i := 135) rfl) rfl
theorem se_X3_countFought : Cond.selects RX3 yX3_countFought yX3_countFought ∈ lw_g := gm_3 (List.mem_of_getElem? (i := 136) rfl) rfl
theorem cd_X3_countFought : Cond.code yX3_countFought cX3_countFought 4 (some .int) ∈ lw_g := gm_3 (List.mem_of_getElem? (i := 137) rfl) rfl
theorem ml_X8_194 : Cond.methodLink RX8 194 yX3_countFrontPairs ∈ lw_g := gm_3 (List.mem_of_getElem? (i := 138) rfl) rfl
theorem im_X3_countFrontPairs : Cond.instanceMethod yX3_countFrontPairs ∈ lw_g := gm_3 (List.mem_of_getElem? (i := 139) rfl) rfl
theorem se_X3_countFrontPairs : Cond.selects RX3 yX3_countFrontPairs yX3_countFrontPairs ∈ lw_g := gm_3 (List.mem_of_getElem? (i := 140) rfl) rfl
theorem cd_X3_countFrontPairs : Cond.code yX3_countFrontPairs cX3_countFrontPairs 4 (some .int) ∈ lw_g := gm_3 (List.mem_of_getElem? (i := 141) rfl) rfl
theorem ml_L_65 : Cond.methodLink RL 65 yX8_reach ∈ lw_g := gm_3 (List.mem_of_getElem? (i := 142) rfl) rfl
theorem im_X8_reach : Cond.instanceMethod yX8_reach ∈ lw_g := gm_3 (List.mem_of_getElem? (i := 143) rfl) rfl
theorem se_X8_reach : Cond.selects RX8 yX8_reach yX8_reach ∈ lw_g := gm_3 (List.mem_of_getElem? (i := 144) rfl) rfl
theorem cd_X8_reach : Cond.code yX8_reach cX8_reach 4 (some .int) ∈ lw_g := gm_3 (List.mem_of_getElem? (i := 145) rfl) rfl
theorem ml_X8_197 : Cond.methodLink RX8 197 yX5_startFrom ∈ lw_g := gm_3 (List.mem_of_getElem? (i := 146) rfl) rfl
theorem im_X5_startFrom : Cond.instanceMethod yX5_startFrom ∈ lw_g := gm_3 (List.mem_of_getElem? (i := 147) rfl) rfl
theorem se_X5_startFrom : Cond.selects RX5 yX5_startFrom yX5_startFrom ∈ lw_g := gm_3 (List.mem_of_getElem? (i := 148) rfl) rfl
theorem cd_X5_startFrom : Cond.code yX5_startFrom cX5_startFrom 2 none ∈ lw_g := gm_3 (List.mem_of_getElem? (i := 149) rfl) rfl
theorem ml_X5_33 : Cond.methodLink RX5 33 yX3_copyFrom ∈ lw_g := gm_3 (List.mem_of_getElem? (i := 150) rfl) rfl
theorem ml_X8_201 : Cond.methodLink RX8 201 yX5_findMeeting ∈ lw_g := gm_3 (List.mem_of_getElem? (i := 151) rfl) rfl
theorem im_X5_findMeeting : Cond.instanceMethod yX5_findMeeting ∈ lw_g := gm_3 (List.mem_of_getElem? (i := 152) rfl) rfl
theorem se_X5_findMeeting : Cond.selects RX5 yX5_findMeeting yX5_findMeeting ∈ lw_g := gm_3 (List.mem_of_getElem? (i := 153) rfl) rfl
theorem cd_X5_findMeeting : Cond.code yX5_findMeeting cX5_findMeeting 6 (some .boolean) ∈ lw_g := gm_3 (List.mem_of_getElem? (i := 154) rfl) rfl
theorem ml_X5_37 : Cond.methodLink RX5 37 yX3_touching ∈ lw_g := gm_3 (List.mem_of_getElem? (i := 155) rfl) rfl
theorem fl_X5_41 : Cond.fieldLink RX5 41 "FoldedMap$Plans" "PLANS_OF" "[I" ∈ lw_g := gm_3 (List.mem_of_getElem? (i := 156) rfl) rfl
theorem ls_X5_PLANS_OF : Cond.laysStatic RX5 "PLANS_OF" "[I" ∈ lw_tbl := List.mem_append_right _ (List.mem_append_right _ (List.mem_append_right _ (List.mem_append_left _ (List.mem_of_getElem? (i := 157) rfl))))
theorem ml_X5_44 : Cond.methodLink RX5 44 yX5_lay ∈ lw_g := gm_3 (List.mem_of_getElem? (i := 158) rfl) rfl
theorem im_X5_lay : Cond.instanceMethod yX5_lay ∈ lw_g := gm_3 (List.mem_of_getElem? (i := 160) rfl) rfl
theorem cd_X5_lay : Cond.code yX5_lay cX5_lay 4 (some .boolean) ∈ lw_g := gm_3 (List.mem_of_getElem? (i := 161) rfl) rfl
theorem ml_X5_69 : Cond.methodLink RX5 69 yX5_layFold ∈ lw_g := gm_3 (List.mem_of_getElem? (i := 162) rfl) rfl
theorem im_X5_layFold : Cond.instanceMethod yX5_layFold ∈ lw_g := gm_3 (List.mem_of_getElem? (i := 164) rfl) rfl
theorem cd_X5_layFold : Cond.code yX5_layFold cX5_layFold 4 (some .boolean) ∈ lw_g := gm_3 (List.mem_of_getElem? (i := 165) rfl) rfl
theorem fl_X5_72 : Cond.fieldLink RX5 72 "FoldedMap$Plans" "CHOICE" "[I" ∈ lw_g := gm_3 (List.mem_of_getElem? (i := 166) rfl) rfl
theorem ls_X5_CHOICE : Cond.laysStatic RX5 "CHOICE" "[I" ∈ lw_tbl := List.mem_append_right _ (List.mem_append_right _ (List.mem_append_right _ (List.mem_append_left _ (List.mem_of_getElem? (i := 167) rfl))))
theorem ml_X5_75 : Cond.methodLink RX5 75 yX3_canBend ∈ lw_g := gm_3 (List.mem_of_getElem? (i := 168) rfl) rfl
theorem ml_X5_79 : Cond.methodLink RX5 79 yX3_bend ∈ lw_g := gm_3 (List.mem_of_getElem? (i := 169) rfl) rfl
theorem ml_X5_48 : Cond.methodLink RX5 48 yX3_meetingFold ∈ lw_g := gm_3 (List.mem_of_getElem? (i := 170) rfl) rfl
theorem im_X3_meetingFold : Cond.instanceMethod yX3_meetingFold ∈ lw_g := gm_3 (List.mem_of_getElem? (i := 171) rfl) rfl
theorem se_X3_meetingFold : Cond.selects RX3 yX3_meetingFold yX3_meetingFold ∈ lw_g := gm_3 (List.mem_of_getElem? (i := 172) rfl) rfl
theorem cd_X3_meetingFold : Cond.code yX3_meetingFold cX3_meetingFold 9 (some .int) ∈ lw_g := gm_3 (List.mem_of_getElem? (i := 173) rfl) rfl
theorem ml_X3_99 : Cond.methodLink RX3 99 yX3_isOutermost ∈ lw_g := gm_3 (List.mem_of_getElem? (i := 174) rfl) rfl
theorem im_X3_isOutermost : Cond.instanceMethod yX3_isOutermost ∈ lw_g := gm_3 (List.mem_of_getElem? (i := 176) rfl) rfl
theorem cd_X3_isOutermost : Cond.code yX3_isOutermost cX3_isOutermost 4 (some .boolean) ∈ lw_g := gm_3 (List.mem_of_getElem? (i := 177) rfl) rfl
theorem ml_X5_51 : Cond.methodLink RX5 51 yX5_noteFound ∈ lw_g := gm_3 (List.mem_of_getElem? (i := 178) rfl) rfl
theorem im_X5_noteFound : Cond.instanceMethod yX5_noteFound ∈ lw_g := gm_3 (List.mem_of_getElem? (i := 180) rfl) rfl
theorem cd_X5_noteFound : Cond.code yX5_noteFound cX5_noteFound 2 none ∈ lw_g := gm_3 (List.mem_of_getElem? (i := 181) rfl) rfl
theorem ml_X5_63 : Cond.methodLink RX5 63 arraycopyName ∈ lw_g := gm_3 (List.mem_of_getElem? (i := 182) rfl) rfl
theorem ml_X8_207 : Cond.methodLink RX8 207 yX5_foundFold ∈ lw_g := gm_3 (List.mem_of_getElem? (i := 183) rfl) rfl
theorem im_X5_foundFold : Cond.instanceMethod yX5_foundFold ∈ lw_g := gm_3 (List.mem_of_getElem? (i := 184) rfl) rfl
theorem se_X5_foundFold : Cond.selects RX5 yX5_foundFold yX5_foundFold ∈ lw_g := gm_3 (List.mem_of_getElem? (i := 185) rfl) rfl
theorem cd_X5_foundFold : Cond.code yX5_foundFold cX5_foundFold 2 (some .int) ∈ lw_g := gm_3 (List.mem_of_getElem? (i := 186) rfl) rfl
theorem ml_L_69 : Cond.methodLink RL 69 yX8_serves ∈ lw_g := gm_3 (List.mem_of_getElem? (i := 187) rfl) rfl
theorem im_X8_serves : Cond.instanceMethod yX8_serves ∈ lw_g := gm_3 (List.mem_of_getElem? (i := 188) rfl) rfl
theorem se_X8_serves : Cond.selects RX8 yX8_serves yX8_serves ∈ lw_g := gm_3 (List.mem_of_getElem? (i := 189) rfl) rfl
theorem cd_X8_serves : Cond.code yX8_serves cX8_serves 4 (some .int) ∈ lw_g := gm_3 (List.mem_of_getElem? (i := 190) rfl) rfl
theorem ml_X8_211 : Cond.methodLink RX8 211 yX5_findBestGain ∈ lw_g := gm_3 (List.mem_of_getElem? (i := 191) rfl) rfl
theorem im_X5_findBestGain : Cond.instanceMethod yX5_findBestGain ∈ lw_g := gm_3 (List.mem_of_getElem? (i := 192) rfl) rfl
theorem se_X5_findBestGain : Cond.selects RX5 yX5_findBestGain yX5_findBestGain ∈ lw_g := gm_3 (List.mem_of_getElem? (i := 193) rfl) rfl
theorem cd_X5_findBestGain : Cond.code yX5_findBestGain cX5_findBestGain 7 (some .int) ∈ lw_g := gm_3 (List.mem_of_getElem? (i := 194) rfl) rfl
theorem ml_X5_55 : Cond.methodLink RX5 55 yX3_gainOf ∈ lw_g := gm_3 (List.mem_of_getElem? (i := 195) rfl) rfl
theorem ml_L_73 : Cond.methodLink RL 73 yX8_saw ∈ lw_g := gm_3 (List.mem_of_getElem? (i := 196) rfl) rfl
theorem im_X8_saw : Cond.instanceMethod yX8_saw ∈ lw_g := gm_3 (List.mem_of_getElem? (i := 197) rfl) rfl
theorem se_X8_saw : Cond.selects RX8 yX8_saw yX8_saw ∈ lw_g := gm_3 (List.mem_of_getElem? (i := 198) rfl) rfl
theorem cd_X8_saw : Cond.code yX8_saw cX8_saw 3 (some .int) ∈ lw_g := gm_3 (List.mem_of_getElem? (i := 199) rfl) rfl
theorem ml_X8_214 : Cond.methodLink RX8 214 yX4_isFull ∈ lw_g := gm_3 (List.mem_of_getElem? (i := 200) rfl) rfl
theorem ml_X8_217 : Cond.methodLink RX8 217 yX4_add ∈ lw_g := gm_3 (List.mem_of_getElem? (i := 201) rfl) rfl
theorem ml_L_77 : Cond.methodLink RL 77 yX8_forget ∈ lw_g := gm_3 (List.mem_of_getElem? (i := 202) rfl) rfl
theorem im_X8_forget : Cond.instanceMethod yX8_forget ∈ lw_g := gm_3 (List.mem_of_getElem? (i := 203) rfl) rfl
theorem se_X8_forget : Cond.selects RX8 yX8_forget yX8_forget ∈ lw_g := gm_3 (List.mem_of_getElem? (i := 204) rfl) rfl
theorem cd_X8_forget : Cond.code yX8_forget cX8_forget 2 (some .int) ∈ lw_g := gm_3 (List.mem_of_getElem? (i := 205) rfl) rfl
theorem ml_L_81 : Cond.methodLink RL 81 yX8_fits ∈ lw_g := gm_3 (List.mem_of_getElem? (i := 206) rfl) rfl
theorem im_X8_fits : Cond.instanceMethod yX8_fits ∈ lw_g := gm_3 (List.mem_of_getElem? (i := 207) rfl) rfl
theorem se_X8_fits : Cond.selects RX8 yX8_fits yX8_fits ∈ lw_g := gm_3 (List.mem_of_getElem? (i := 208) rfl) rfl
theorem cd_X8_fits : Cond.code yX8_fits cX8_fits 2 (some .int) ∈ lw_g := gm_3 (List.mem_of_getElem? (i := 209) rfl) rfl
theorem ml_X8_224 : Cond.methodLink RX8 224 yX5_countFitting ∈ lw_g := gm_3 (List.mem_of_getElem? (i := 210) rfl) rfl
theorem im_X5_countFitting : Cond.instanceMethod yX5_countFitting ∈ lw_g := gm_3 (List.mem_of_getElem? (i := 211) rfl) rfl
theorem se_X5_countFitting : Cond.selects RX5 yX5_countFitting yX5_countFitting ∈ lw_g := gm_3 (List.mem_of_getElem? (i := 212) rfl) rfl
theorem cd_X5_countFitting : Cond.code yX5_countFitting cX5_countFitting 5 (some .int) ∈ lw_g := gm_3 (List.mem_of_getElem? (i := 213) rfl) rfl
theorem ml_X5_59 : Cond.methodLink RX5 59 yX3_allTouch ∈ lw_g := gm_3 (List.mem_of_getElem? (i := 214) rfl) rfl
theorem im_X3_allTouch : Cond.instanceMethod yX3_allTouch ∈ lw_g := gm_3 (List.mem_of_getElem? (i := 215) rfl) rfl
theorem se_X3_allTouch : Cond.selects RX3 yX3_allTouch yX3_allTouch ∈ lw_g := gm_3 (List.mem_of_getElem? (i := 216) rfl) rfl
theorem cd_X3_allTouch : Cond.code yX3_allTouch cX3_allTouch 3 (some .boolean) ∈ lw_g := gm_3 (List.mem_of_getElem? (i := 217) rfl) rfl
theorem ml_L_85 : Cond.methodLink RL 85 yX8_rate ∈ lw_g := gm_3 (List.mem_of_getElem? (i := 218) rfl) rfl
theorem im_X8_rate : Cond.instanceMethod yX8_rate ∈ lw_g := gm_3 (List.mem_of_getElem? (i := 219) rfl) rfl
theorem se_X8_rate : Cond.selects RX8 yX8_rate yX8_rate ∈ lw_g := gm_3 (List.mem_of_getElem? (i := 220) rfl) rfl
theorem cd_X8_rate : Cond.code yX8_rate cX8_rate 3 (some .int) ∈ lw_g := gm_3 (List.mem_of_getElem? (i := 221) rfl) rfl
theorem ki_X8_228 : Cond.constant RX8 228 (-1000000) ∈ lw_g := gm_3 (List.mem_of_getElem? (i := 222) rfl) rfl
theorem ml_X8_229 : Cond.methodLink RX8 229 yX8_rateAsWell ∈ lw_g := gm_3 (List.mem_of_getElem? (i := 223) rfl) rfl
theorem im_X8_rateAsWell : Cond.instanceMethod yX8_rateAsWell ∈ lw_g := gm_3 (List.mem_of_getElem? (i := 225) rfl) rfl
theorem cd_X8_rateAsWell : Cond.code yX8_rateAsWell cX8_rateAsWell 2 (some .int) ∈ lw_g := gm_3 (List.mem_of_getElem? (i := 226) rfl) rfl
theorem kl_X8_288 : Cond.constantLong RX8 288 (10) ∈ lw_g := gm_3 (List.mem_of_getElem? (i := 227) rfl) rfl
theorem ml_X8_244 : Cond.methodLink RX8 244 yX8_rateAsCell ∈ lw_g := gm_3 (List.mem_of_getElem? (i := 228) rfl) rfl
theorem im_X8_rateAsCell : Cond.instanceMethod yX8_rateAsCell ∈ lw_g := gm_3 (List.mem_of_getElem? (i := 230) rfl) rfl
theorem cd_X8_rateAsCell : Cond.code yX8_rateAsCell cX8_rateAsCell 2 (some .int) ∈ lw_g := gm_3 (List.mem_of_getElem? (i := 231) rfl) rfl
theorem ml_X8_232 : Cond.methodLink RX8 232 yX8_rateAsHermit ∈ lw_g := gm_3 (List.mem_of_getElem? (i := 232) rfl) rfl
theorem im_X8_rateAsHermit : Cond.instanceMethod yX8_rateAsHermit ∈ lw_g := gm_3 (List.mem_of_getElem? (i := 234) rfl) rfl
theorem cd_X8_rateAsHermit : Cond.code yX8_rateAsHermit cX8_rateAsHermit 2 (some .int) ∈ lw_g := gm_3 (List.mem_of_getElem? (i := 235) rfl) rfl
theorem kl_X8_290 : Cond.constantLong RX8 290 (100) ∈ lw_g := gm_3 (List.mem_of_getElem? (i := 236) rfl) rfl
theorem ml_X8_235 : Cond.methodLink RX8 235 yX8_rateAsLight ∈ lw_g := gm_3 (List.mem_of_getElem? (i := 237) rfl) rfl
theorem im_X8_rateAsLight : Cond.instanceMethod yX8_rateAsLight ∈ lw_g := gm_3 (List.mem_of_getElem? (i := 239) rfl) rfl
theorem cd_X8_rateAsLight : Cond.code yX8_rateAsLight cX8_rateAsLight 2 (some .int) ∈ lw_g := gm_4 (List.mem_of_getElem? (i := 0) rfl) rfl
theorem kl_X8_292 : Cond.constantLong RX8 292 (1000) ∈ lw_g := gm_4 (List.mem_of_getElem? (i := 1) rfl) rfl
theorem ml_X8_238 : Cond.methodLink RX8 238 yX8_rateAsFolder ∈ lw_g := gm_4 (List.mem_of_getElem? (i := 2) rfl) rfl
theorem im_X8_rateAsFolder : Cond.instanceMethod yX8_rateAsFolder ∈ lw_g := gm_4 (List.mem_of_getElem? (i := 4) rfl) rfl
theorem cd_X8_rateAsFolder : Cond.code yX8_rateAsFolder cX8_rateAsFolder 2 (some .int) ∈ lw_g := gm_4 (List.mem_of_getElem? (i := 5) rfl) rfl
theorem kl_X8_294 : Cond.constantLong RX8 294 (10000) ∈ lw_g := gm_4 (List.mem_of_getElem? (i := 6) rfl) rfl
theorem ml_X8_241 : Cond.methodLink RX8 241 yX8_rateAsDuke ∈ lw_g := gm_4 (List.mem_of_getElem? (i := 7) rfl) rfl
theorem im_X8_rateAsDuke : Cond.instanceMethod yX8_rateAsDuke ∈ lw_g := gm_4 (List.mem_of_getElem? (i := 9) rfl) rfl
theorem cd_X8_rateAsDuke : Cond.code yX8_rateAsDuke cX8_rateAsDuke 2 (some .int) ∈ lw_g := gm_4 (List.mem_of_getElem? (i := 10) rfl) rfl
theorem kl_X8_296 : Cond.constantLong RX8 296 (100000) ∈ lw_g := gm_4 (List.mem_of_getElem? (i := 11) rfl) rfl
theorem ml_L_89 : Cond.methodLink RL 89 yX8_keep ∈ lw_g := gm_4 (List.mem_of_getElem? (i := 12) rfl) rfl
theorem im_X8_keep : Cond.instanceMethod yX8_keep ∈ lw_g := gm_4 (List.mem_of_getElem? (i := 13) rfl) rfl
theorem se_X8_keep : Cond.selects RX8 yX8_keep yX8_keep ∈ lw_g := gm_4 (List.mem_of_getElem? (i := 14) rfl) rfl
theorem cd_X8_keep : Cond.code yX8_keep cX8_keep 2 (some .int) ∈ lw_g := gm_4 (List.mem_of_getElem? (i := 15) rfl) rfl
theorem ml_X8_247 : Cond.methodLink RX8 247 yX8_isImage ∈ lw_g := gm_4 (List.mem_of_getElem? (i := 16) rfl) rfl
theorem sm_X8_isImage : Cond.static yX8_isImage ∈ lw_g := gm_4 (List.mem_of_getElem? (i := 17) rfl) rfl
theorem cd_X8_isImage : Cond.code yX8_isImage cX8_isImage 1 (some .boolean) ∈ lw_g := gm_4 (List.mem_of_getElem? (i := 18) rfl) rfl
theorem ml_X8_250 : Cond.methodLink RX8 250 yX2_copyFrom ∈ lw_g := gm_4 (List.mem_of_getElem? (i := 19) rfl) rfl
theorem im_X2_copyFrom : Cond.instanceMethod yX2_copyFrom ∈ lw_g := gm_4 (List.mem_of_getElem? (i := 20) rfl) rfl
theorem se_X2_copyFrom : Cond.selects RX2 yX2_copyFrom yX2_copyFrom ∈ lw_g := gm_4 (List.mem_of_getElem? (i := 21) rfl) rfl
theorem cd_X2_copyFrom : Cond.code yX2_copyFrom cX2_copyFrom 2 none ∈ lw_g := gm_4 (List.mem_of_getElem? (i := 22) rfl) rfl
theorem ml_L_93 : Cond.methodLink RL 93 yX8_back ∈ lw_g := gm_4 (List.mem_of_getElem? (i := 23) rfl) rfl
theorem im_X8_back : Cond.instanceMethod yX8_back ∈ lw_g := gm_4 (List.mem_of_getElem? (i := 24) rfl) rfl
theorem se_X8_back : Cond.selects RX8 yX8_back yX8_back ∈ lw_g := gm_4 (List.mem_of_getElem? (i := 25) rfl) rfl
theorem cd_X8_back : Cond.code yX8_back cX8_back 2 (some .int) ∈ lw_g := gm_4 (List.mem_of_getElem? (i := 26) rfl) rfl
theorem ml_L_97 : Cond.methodLink RL 97 yX8_count ∈ lw_g := gm_4 (List.mem_of_getElem? (i := 27) rfl) rfl
theorem im_X8_count : Cond.instanceMethod yX8_count ∈ lw_g := gm_4 (List.mem_of_getElem? (i := 28) rfl) rfl
theorem se_X8_count : Cond.selects RX8 yX8_count yX8_count ∈ lw_g := gm_4 (List.mem_of_getElem? (i := 29) rfl) rfl
theorem cd_X8_count : Cond.code yX8_count cX8_count 2 (some .int) ∈ lw_g := gm_4 (List.mem_of_getElem? (i := 30) rfl) rfl
theorem ml_L_101 : Cond.methodLink RL 101 yX8_trace ∈ lw_g := gm_4 (List.mem_of_getElem? (i := 31) rfl) rfl
theorem im_X8_trace : Cond.instanceMethod yX8_trace ∈ lw_g := gm_4 (List.mem_of_getElem? (i := 32) rfl) rfl
theorem se_X8_trace : Cond.selects RX8 yX8_trace yX8_trace ∈ lw_g := gm_4 (List.mem_of_getElem? (i := 33) rfl) rfl
theorem cd_X8_trace : Cond.code yX8_trace cX8_trace 1 (some .long) ∈ lw_g := gm_4 (List.mem_of_getElem? (i := 34) rfl) rfl
theorem ck_L_10 : Cond.classLink RL 10 RX9 ∈ lw_g := gm_4 (List.mem_of_getElem? (i := 35) rfl) rfl
theorem ins_X9 : Cond.instantiable RX9 22 ∈ lw_g := gm_4 (List.mem_of_getElem? (i := 36) rfl) rfl
theorem ml_L_12 : Cond.methodLink RL 12 yX9_init ∈ lw_g := gm_4 (List.mem_of_getElem? (i := 37) rfl) rfl
theorem im_X9_init : Cond.instanceMethod yX9_init ∈ lw_g := gm_4 (List.mem_of_getElem? (i := 38) rfl) rfl
theorem cd_X9_init : Cond.code yX9_init cX9_init 2 none ∈ lw_g := gm_4 (List.mem_of_getElem? (i := 39) rfl) rfl
theorem ml_X9_1 : Cond.methodLink RX9 1 objectInit ∈ lw_g := gm_4 (List.mem_of_getElem? (i := 40) rfl) rfl
theorem ml_X9_47 : Cond.methodLink RX9 47 yX9_reads ∈ lw_g := gm_4 (List.mem_of_getElem? (i := 41) rfl) rfl
theorem im_X9_reads : Cond.instanceMethod yX9_reads ∈ lw_g := gm_4 (List.mem_of_getElem? (i := 43) rfl) rfl
theorem cd_X9_reads : Cond.code yX9_reads cX9_reads 2 (some .boolean) ∈ lw_g := gm_4 (List.mem_of_getElem? (i := 44) rfl) rfl
theorem ml_X9_55 : Cond.methodLink RX9 55 yX9_in ∈ lw_g := gm_4 (List.mem_of_getElem? (i := 45) rfl) rfl
theorem sm_X9_in : Cond.static yX9_in ∈ lw_g := gm_4 (List.mem_of_getElem? (i := 46) rfl) rfl
theorem cd_X9_in : Cond.code yX9_in cX9_in 3 (some .boolean) ∈ lw_g := gm_4 (List.mem_of_getElem? (i := 47) rfl) rfl
theorem ml_X9_98 : Cond.methodLink RX9 98 yX9_token ∈ lw_g := gm_4 (List.mem_of_getElem? (i := 48) rfl) rfl
theorem im_X9_token : Cond.instanceMethod yX9_token ∈ lw_g := gm_4 (List.mem_of_getElem? (i := 50) rfl) rfl
theorem cd_X9_token : Cond.code yX9_token cX9_token 1 none ∈ lw_g := gm_4 (List.mem_of_getElem? (i := 51) rfl) rfl
theorem ml_X9_72 : Cond.methodLink RX9 72 yX9_byteAt ∈ lw_g := gm_4 (List.mem_of_getElem? (i := 52) rfl) rfl
theorem im_X9_byteAt : Cond.instanceMethod yX9_byteAt ∈ lw_g := gm_4 (List.mem_of_getElem? (i := 54) rfl) rfl
theorem cd_X9_byteAt : Cond.code yX9_byteAt cX9_byteAt 2 (some .int) ∈ lw_g := gm_4 (List.mem_of_getElem? (i := 55) rfl) rfl
theorem ml_X9_79 : Cond.methodLink RX9 79 yX9_sortOf ∈ lw_g := gm_4 (List.mem_of_getElem? (i := 56) rfl) rfl
theorem sm_X9_sortOf : Cond.static yX9_sortOf ∈ lw_g := gm_4 (List.mem_of_getElem? (i := 57) rfl) rfl
theorem cd_X9_sortOf : Cond.code yX9_sortOf cX9_sortOf 1 (some .int) ∈ lw_g := gm_4 (List.mem_of_getElem? (i := 58) rfl) rfl
theorem ml_X9_120 : Cond.methodLink RX9 120 yX9_verb ∈ lw_g := gm_4 (List.mem_of_getElem? (i := 59) rfl) rfl
theorem im_X9_verb : Cond.instanceMethod yX9_verb ∈ lw_g := gm_4 (List.mem_of_getElem? (i := 61) rfl) rfl
theorem cd_X9_verb : Cond.code yX9_verb cX9_verb 4 (some .int) ∈ lw_g := gm_4 (List.mem_of_getElem? (i := 62) rfl) rfl
theorem kl_X9_88 : Cond.constantLong RX9 88 (256) ∈ lw_g := gm_4 (List.mem_of_getElem? (i := 63) rfl) rfl
theorem kl_X9_90 : Cond.constantLong RX9 90 (7168368) ∈ lw_g := gm_4 (List.mem_of_getElem? (i := 64) rfl) rfl
theorem kl_X9_92 : Cond.constantLong RX9 92 (512970880104) ∈ lw_g := gm_4 (List.mem_of_getElem? (i := 65) rfl) rfl
theorem kl_X9_94 : Cond.constantLong RX9 94 (31935733760681324) ∈ lw_g := gm_4 (List.mem_of_getElem? (i := 66) rfl) rfl
theorem kl_X9_96 : Cond.constantLong RX9 96 (1952801138) ∈ lw_g := gm_4 (List.mem_of_getElem? (i := 67) rfl) rfl
theorem ml_X9_123 : Cond.methodLink RX9 123 yX9_readsItem ∈ lw_g := gm_4 (List.mem_of_getElem? (i := 68) rfl) rfl
theorem im_X9_readsItem : Cond.instanceMethod yX9_readsItem ∈ lw_g := gm_4 (List.mem_of_getElem? (i := 70) rfl) rfl
theorem cd_X9_readsItem : Cond.code yX9_readsItem cX9_readsItem 2 (some .boolean) ∈ lw_g := gm_4 (List.mem_of_getElem? (i := 71) rfl) rfl
theorem ml_X9_108 : Cond.methodLink RX9 108 yX9_readsMap ∈ lw_g := gm_4 (List.mem_of_getElem? (i := 72) rfl) rfl
theorem im_X9_readsMap : Cond.instanceMethod yX9_readsMap ∈ lw_g := gm_4 (List.mem_of_getElem? (i := 74) rfl) rfl
theorem cd_X9_readsMap : Cond.code yX9_readsMap cX9_readsMap 3 (some .boolean) ∈ lw_g := gm_4 (List.mem_of_getElem? (i := 75) rfl) rfl
theorem ml_X9_101 : Cond.methodLink RX9 101 yX9_number ∈ lw_g := gm_4 (List.mem_of_getElem? (i := 76) rfl) rfl
theorem im_X9_number : Cond.instanceMethod yX9_number ∈ lw_g := gm_4 (List.mem_of_getElem? (i := 78) rfl) rfl
theorem cd_X9_number : Cond.code yX9_number cX9_number 5 (some .int) ∈ lw_g := gm_4 (List.mem_of_getElem? (i := 79) rfl) rfl
theorem ml_X9_111 : Cond.methodLink RX9 111 yX9_readsWorth ∈ lw_g := gm_4 (List.mem_of_getElem? (i := 80) rfl) rfl
theorem im_X9_readsWorth : Cond.instanceMethod yX9_readsWorth ∈ lw_g := gm_4 (List.mem_of_getElem? (i := 82) rfl) rfl
theorem cd_X9_readsWorth : Cond.code yX9_readsWorth cX9_readsWorth 3 (some .boolean) ∈ lw_g := gm_4 (List.mem_of_getElem? (i := 83) rfl) rfl
theorem ml_X9_105 : Cond.methodLink RX9 105 yX9_draftCells ∈ lw_g := gm_4 (List.mem_of_getElem? (i := 84) rfl) rfl
theorem im_X9_draftCells : Cond.instanceMethod yX9_draftCells ∈ lw_g := gm_4 (List.mem_of_getElem? (i := 86) rfl) rfl
theorem cd_X9_draftCells : Cond.code yX9_draftCells cX9_draftCells 1 (some .int) ∈ lw_g := gm_4 (List.mem_of_getElem? (i := 87) rfl) rfl
theorem ml_X9_114 : Cond.methodLink RX9 114 yX9_readsQuarrel ∈ lw_g := gm_4 (List.mem_of_getElem? (i := 88) rfl) rfl
theorem im_X9_readsQuarrel : Cond.instanceMethod yX9_readsQuarrel ∈ lw_g := gm_4 (List.mem_of_getElem? (i := 90) rfl) rfl
theorem cd_X9_readsQuarrel : Cond.code yX9_readsQuarrel cX9_readsQuarrel 4 (some .boolean) ∈ lw_g := gm_4 (List.mem_of_getElem? (i := 91) rfl) rfl
theorem ml_X9_117 : Cond.methodLink RX9 117 yX9_readsTear ∈ lw_g := gm_4 (List.mem_of_getElem? (i := 92) rfl) rfl
theorem im_X9_readsTear : Cond.instanceMethod yX9_readsTear ∈ lw_g := gm_4 (List.mem_of_getElem? (i := 94) rfl) rfl
theorem cd_X9_readsTear : Cond.code yX9_readsTear cX9_readsTear 2 (some .boolean) ∈ lw_g := gm_4 (List.mem_of_getElem? (i := 95) rfl) rfl
theorem fl_X9_197 : Cond.fieldLink RX9 197 (TX9 0).1 (TX9 0).2.1 (TX9 0).2.2.1 ∈ lw_g := gm_4 (List.mem_of_getElem? (i := 96) rfl) rfl
theorem fl_X9_7 : Cond.fieldLink RX9 7 (TX9 1).1 (TX9 1).2.1 (TX9 1).2.2.1 ∈ lw_g := gm_4 (List.mem_of_getElem? (i := 97) rfl) rfl
theorem fl_X9_63 : Cond.fieldLink RX9 63 (TX9 2).1 (TX9 2).2.1 (TX9 2).2.2.1 ∈ lw_g := gm_4 (List.mem_of_getElem? (i := 98) rfl) rfl
theorem fl_X9_13 : Cond.fieldLink RX9 13 (TX9 3).1 (TX9 3).2.1 (TX9 3).2.2.1 ∈ lw_g := gm_4 (List.mem_of_getElem? (i := 99) rfl) rfl
theorem fl_X9_16 : Cond.fieldLink RX9 16 (TX9 4).1 (TX9 4).2.1 (TX9 4).2.2.1 ∈ lw_g := gm_4 (List.mem_of_getElem? (i := 100) rfl) rfl
theorem fl_X9_19 : Cond.fieldLink RX9 19 (TX9 5).1 (TX9 5).2.1 (TX9 5).2.2.1 ∈ lw_g := gm_4 (List.mem_of_getElem? (i := 101) rfl) rfl
theorem fl_X9_22 : Cond.fieldLink RX9 22 (TX9 6).1 (TX9 6).2.1 (TX9 6).2.2.1 ∈ lw_g := gm_4 (List.mem_of_getElem? (i := 102) rfl) rfl
theorem fl_X9_25 : Cond.fieldLink RX9 25 (TX9 7).1 (TX9 7).2.1 (TX9 7).2.2.1 ∈ lw_g := gm_4 (List.mem_of_getElem? (i := 103) rfl) rfl
theorem fl_X9_29 : Cond.fieldLink RX9 29 (TX9 8).1 (TX9 8).2.1 (TX9 8).2.2.1 ∈ lw_g := gm_4 (List.mem_of_getElem? (i := 104) rfl) rfl
theorem fl_X9_32 : Cond.fieldLink RX9 32 (TX9 9).1 (TX9 9).2.1 (TX9 9).2.2.1 ∈ lw_g := gm_4 (List.mem_of_getElem? (i := 105) rfl) rfl
theorem fl_X9_126 : Cond.fieldLink RX9 126 (TX9 10).1 (TX9 10).2.1 (TX9 10).2.2.1 ∈ lw_g := gm_4 (List.mem_of_getElem? (i := 106) rfl) rfl
theorem fl_X9_69 : Cond.fieldLink RX9 69 (TX9 11).1 (TX9 11).2.1 (TX9 11).2.2.1 ∈ lw_g := gm_4 (List.mem_of_getElem? (i := 107) rfl) rfl
theorem fl_X9_82 : Cond.fieldLink RX9 82 (TX9 12).1 (TX9 12).2.1 (TX9 12).2.2.1 ∈ lw_g := gm_4 (List.mem_of_getElem? (i := 108) rfl) rfl
theorem fl_X9_76 : Cond.fieldLink RX9 76 (TX9 13).1 (TX9 13).2.1 (TX9 13).2.2.1 ∈ lw_g := gm_4 (List.mem_of_getElem? (i := 109) rfl) rfl
theorem fl_X9_85 : Cond.fieldLink RX9 85 (TX9 14).1 (TX9 14).2.1 (TX9 14).2.2.1 ∈ lw_g := gm_4 (List.mem_of_getElem? (i := 110) rfl) rfl
theorem fl_X9_35 : Cond.fieldLink RX9 35 (TX9 15).1 (TX9 15).2.1 (TX9 15).2.2.1 ∈ lw_g := gm_4 (List.mem_of_getElem? (i := 111) rfl) rfl
theorem fl_X9_38 : Cond.fieldLink RX9 38 (TX9 16).1 (TX9 16).2.1 (TX9 16).2.2.1 ∈ lw_g := gm_4 (List.mem_of_getElem? (i := 112) rfl) rfl
theorem fl_X9_41 : Cond.fieldLink RX9 41 (TX9 17).1 (TX9 17).2.1 (TX9 17).2.2.1 ∈ lw_g := gm_4 (List.mem_of_getElem? (i := 113) rfl) rfl
theorem fl_X9_44 : Cond.fieldLink RX9 44 (TX9 18).1 (TX9 18).2.1 (TX9 18).2.2.1 ∈ lw_g := gm_4 (List.mem_of_getElem? (i := 114) rfl) rfl
theorem fl_X9_180 : Cond.fieldLink RX9 180 (TX9 19).1 (TX9 19).2.1 (TX9 19).2.2.1 ∈ lw_g := gm_4 (List.mem_of_getElem? (i := 115) rfl) rfl
theorem fl_X9_183 : Cond.fieldLink RX9 183 (TX9 20).1 (TX9 20).2.1 (TX9 20).2.2.1 ∈ lw_g := gm_4 (List.mem_of_getElem? (i := 116) rfl) rfl
theorem fl_X9_186 : Cond.fieldLink RX9 186 (TX9 21).1 (TX9 21).2.1 (TX9 21).2.2.1 ∈ lw_g := gm_4 (List.mem_of_getElem? (i := 117) rfl) rfl
theorem arr_boolean : Cond.arrayClass .boolean ∈ lw_g := gm_4 (List.mem_of_getElem? (i := 163) rfl) rfl
theorem ml_L_19 : Cond.methodLink RL 19 yX9_type ∈ lw_g := gm_4 (List.mem_of_getElem? (i := 164) rfl) rfl
theorem im_X9_type : Cond.instanceMethod yX9_type ∈ lw_g := gm_4 (List.mem_of_getElem? (i := 165) rfl) rfl
theorem se_X9_type : Cond.selects RX9 yX9_type yX9_type ∈ lw_g := gm_4 (List.mem_of_getElem? (i := 166) rfl) rfl
theorem cd_X9_type : Cond.code yX9_type cX9_type 5 (some .int) ∈ lw_g := gm_4 (List.mem_of_getElem? (i := 167) rfl) rfl
theorem kl_X9_67 : Cond.constantLong RX9 67 (255) ∈ lw_g := gm_4 (List.mem_of_getElem? (i := 168) rfl) rfl
theorem ml_L_24 : Cond.methodLink RL 24 yX9_clear ∈ lw_g := gm_4 (List.mem_of_getElem? (i := 169) rfl) rfl
theorem im_X9_clear : Cond.instanceMethod yX9_clear ∈ lw_g := gm_4 (List.mem_of_getElem? (i := 170) rfl) rfl
theorem se_X9_clear : Cond.selects RX9 yX9_clear yX9_clear ∈ lw_g := gm_4 (List.mem_of_getElem? (i := 171) rfl) rfl
theorem cd_X9_clear : Cond.code yX9_clear cX9_clear 2 (some .int) ∈ lw_g := gm_4 (List.mem_of_getElem? (i := 172) rfl) rfl
theorem ml_L_28 : Cond.methodLink RL 28 yX9_map ∈ lw_g := gm_4 (List.mem_of_getElem? (i := 173) rfl) rfl
theorem im_X9_map : Cond.instanceMethod yX9_map ∈ lw_g := gm_4 (List.mem_of_getElem? (i := 174) rfl) rfl
theorem se_X9_map : Cond.selects RX9 yX9_map yX9_map ∈ lw_g := gm_4 (List.mem_of_getElem? (i := 175) rfl) rfl
theorem cd_X9_map : Cond.code yX9_map cX9_map 2 (some .int) ∈ lw_g := gm_4 (List.mem_of_getElem? (i := 176) rfl) rfl
theorem ml_L_33 : Cond.methodLink RL 33 yX9_cell ∈ lw_g := gm_4 (List.mem_of_getElem? (i := 177) rfl) rfl
theorem im_X9_cell : Cond.instanceMethod yX9_cell ∈ lw_g := gm_4 (List.mem_of_getElem? (i := 178) rfl) rfl
theorem se_X9_cell : Cond.selects RX9 yX9_cell yX9_cell ∈ lw_g := gm_4 (List.mem_of_getElem? (i := 179) rfl) rfl
theorem cd_X9_cell : Cond.code yX9_cell cX9_cell 3 (some .int) ∈ lw_g := gm_4 (List.mem_of_getElem? (i := 180) rfl) rfl
theorem ml_X9_59 : Cond.methodLink RX9 59 yX9_isCell ∈ lw_g := gm_4 (List.mem_of_getElem? (i := 181) rfl) rfl
theorem im_X9_isCell : Cond.instanceMethod yX9_isCell ∈ lw_g := gm_4 (List.mem_of_getElem? (i := 183) rfl) rfl
theorem cd_X9_isCell : Cond.code yX9_isCell cX9_isCell 2 (some .boolean) ∈ lw_g := gm_4 (List.mem_of_getElem? (i := 184) rfl) rfl
theorem ml_X9_51 : Cond.methodLink RX9 51 yX9_cells ∈ lw_g := gm_4 (List.mem_of_getElem? (i := 185) rfl) rfl
theorem im_X9_cells : Cond.instanceMethod yX9_cells ∈ lw_g := gm_4 (List.mem_of_getElem? (i := 187) rfl) rfl
theorem cd_X9_cells : Cond.code yX9_cells cX9_cells 1 (some .int) ∈ lw_g := gm_4 (List.mem_of_getElem? (i := 188) rfl) rfl
theorem ml_X9_148 : Cond.methodLink RX9 148 yX9_now ∈ lw_g := gm_4 (List.mem_of_getElem? (i := 189) rfl) rfl
theorem im_X9_now : Cond.instanceMethod yX9_now ∈ lw_g := gm_4 (List.mem_of_getElem? (i := 191) rfl) rfl
theorem cd_X9_now : Cond.code yX9_now cX9_now 3 none ∈ lw_g := gm_4 (List.mem_of_getElem? (i := 192) rfl) rfl
theorem ml_X9_133 : Cond.methodLink RX9 133 yX9_flat ∈ lw_g := gm_4 (List.mem_of_getElem? (i := 193) rfl) rfl
theorem im_X9_flat : Cond.instanceMethod yX9_flat ∈ lw_g := gm_4 (List.mem_of_getElem? (i := 195) rfl) rfl
theorem cd_X9_flat : Cond.code yX9_flat cX9_flat 2 none ∈ lw_g := gm_4 (List.mem_of_getElem? (i := 196) rfl) rfl
theorem ml_X9_136 : Cond.methodLink RX9 136 yX9_folds ∈ lw_g := gm_4 (List.mem_of_getElem? (i := 197) rfl) rfl
theorem im_X9_folds : Cond.instanceMethod yX9_folds ∈ lw_g := gm_4 (List.mem_of_getElem? (i := 199) rfl) rfl
theorem cd_X9_folds : Cond.code yX9_folds cX9_folds 15 (some .boolean) ∈ lw_g := gm_4 (List.mem_of_getElem? (i := 200) rfl) rfl
theorem ml_X9_129 : Cond.methodLink RX9 129 yX9_manyAt ∈ lw_g := gm_4 (List.mem_of_getElem? (i := 201) rfl) rfl
theorem im_X9_manyAt : Cond.instanceMethod yX9_manyAt ∈ lw_g := gm_4 (List.mem_of_getElem? (i := 203) rfl) rfl
theorem cd_X9_manyAt : Cond.code yX9_manyAt cX9_manyAt 8 (some .int) ∈ lw_g := gm_4 (List.mem_of_getElem? (i := 204) rfl) rfl
theorem ml_X9_140 : Cond.methodLink RX9 140 yX9_falls ∈ lw_g := gm_4 (List.mem_of_getElem? (i := 205) rfl) rfl
theorem im_X9_falls : Cond.instanceMethod yX9_falls ∈ lw_g := gm_4 (List.mem_of_getElem? (i := 207) rfl) rfl
theorem cd_X9_falls : Cond.code yX9_falls cX9_falls 3 none ∈ lw_g := gm_4 (List.mem_of_getElem? (i := 208) rfl) rfl
theorem ml_X9_151 : Cond.methodLink RX9 151 yX9_gain ∈ lw_g := gm_4 (List.mem_of_getElem? (i := 209) rfl) rfl
theorem im_X9_gain : Cond.instanceMethod yX9_gain ∈ lw_g := gm_4 (List.mem_of_getElem? (i := 211) rfl) rfl
theorem cd_X9_gain : Cond.code yX9_gain cX9_gain 5 (some .int) ∈ lw_g := gm_4 (List.mem_of_getElem? (i := 212) rfl) rfl
theorem ml_X9_144 : Cond.methodLink RX9 144 yX9_touches ∈ lw_g := gm_4 (List.mem_of_getElem? (i := 213) rfl) rfl
theorem im_X9_touches : Cond.instanceMethod yX9_touches ∈ lw_g := gm_4 (List.mem_of_getElem? (i := 215) rfl) rfl
theorem cd_X9_touches : Cond.code yX9_touches cX9_touches 10 (some .int) ∈ lw_g := gm_4 (List.mem_of_getElem? (i := 216) rfl) rfl
theorem ml_L_38 : Cond.methodLink RL 38 yX9_at ∈ lw_g := gm_4 (List.mem_of_getElem? (i := 217) rfl) rfl
theorem im_X9_at : Cond.instanceMethod yX9_at ∈ lw_g := gm_4 (List.mem_of_getElem? (i := 218) rfl) rfl
theorem se_X9_at : Cond.selects RX9 yX9_at yX9_at ∈ lw_g := gm_4 (List.mem_of_getElem? (i := 219) rfl) rfl
theorem cd_X9_at : Cond.code yX9_at cX9_at 6 (some .int) ∈ lw_g := gm_4 (List.mem_of_getElem? (i := 220) rfl) rfl
theorem ml_L_43 : Cond.methodLink RL 43 yX9_fold ∈ lw_g := gm_4 (List.mem_of_getElem? (i := 221) rfl) rfl
theorem im_X9_fold : Cond.instanceMethod yX9_fold ∈ lw_g := gm_4 (List.mem_of_getElem? (i := 222) rfl) rfl
theorem se_X9_fold : Cond.selects RX9 yX9_fold yX9_fold ∈ lw_g := gm_4 (List.mem_of_getElem? (i := 223) rfl) rfl
theorem cd_X9_fold : Cond.code yX9_fold cX9_fold 6 (some .int) ∈ lw_g := gm_4 (List.mem_of_getElem? (i := 224) rfl) rfl
theorem ml_X9_161 : Cond.methodLink RX9 161 yX9_bendsAll ∈ lw_g := gm_4 (List.mem_of_getElem? (i := 225) rfl) rfl
theorem im_X9_bendsAll : Cond.instanceMethod yX9_bendsAll ∈ lw_g := gm_4 (List.mem_of_getElem? (i := 227) rfl) rfl
theorem cd_X9_bendsAll : Cond.code yX9_bendsAll cX9_bendsAll 8 (some .int) ∈ lw_g := gm_4 (List.mem_of_getElem? (i := 228) rfl) rfl
theorem ml_X9_154 : Cond.methodLink RX9 154 yX9_neighbour ∈ lw_g := gm_4 (List.mem_of_getElem? (i := 229) rfl) rfl
theorem im_X9_neighbour : Cond.instanceMethod yX9_neighbour ∈ lw_g := gm_4 (List.mem_of_getElem? (i := 231) rfl) rfl
theorem cd_X9_neighbour : Cond.code yX9_neighbour cX9_neighbour 4 (some .int) ∈ lw_g := gm_4 (List.mem_of_getElem? (i := 232) rfl) rfl
theorem ml_X9_157 : Cond.methodLink RX9 157 yX9_bends ∈ lw_g := gm_4 (List.mem_of_getElem? (i := 233) rfl) rfl
theorem im_X9_bends : Cond.instanceMethod yX9_bends ∈ lw_g := gm_4 (List.mem_of_getElem? (i := 235) rfl) rfl
theorem cd_X9_bends : Cond.code yX9_bends cX9_bends 9 (some .boolean) ∈ lw_g := gm_4 (List.mem_of_getElem? (i := 236) rfl) rfl
theorem ml_X9_164 : Cond.methodLink RX9 164 yX9_thick ∈ lw_g := gm_4 (List.mem_of_getElem? (i := 237) rfl) rfl
theorem im_X9_thick : Cond.instanceMethod yX9_thick ∈ lw_g := gm_4 (List.mem_of_getElem? (i := 239) rfl) rfl
theorem cd_X9_thick : Cond.code yX9_thick cX9_thick 3 (some .int) ∈ lw_g := gm_5 (List.mem_of_getElem? (i := 0) rfl) rfl
theorem ml_L_47 : Cond.methodLink RL 47 yX9_undo ∈ lw_g := gm_5 (List.mem_of_getElem? (i := 1) rfl) rfl
theorem im_X9_undo : Cond.instanceMethod yX9_undo ∈ lw_g := gm_5 (List.mem_of_getElem? (i := 2) rfl) rfl
theorem se_X9_undo : Cond.selects RX9 yX9_undo yX9_undo ∈ lw_g := gm_5 (List.mem_of_getElem? (i := 3) rfl) rfl
theorem cd_X9_undo : Cond.code yX9_undo cX9_undo 1 (some .int) ∈ lw_g := gm_5 (List.mem_of_getElem? (i := 4) rfl) rfl
theorem ml_L_51 : Cond.methodLink RL 51 yX9_day ∈ lw_g := gm_5 (List.mem_of_getElem? (i := 5) rfl) rfl
theorem im_X9_day : Cond.instanceMethod yX9_day ∈ lw_g := gm_5 (List.mem_of_getElem? (i := 6) rfl) rfl
theorem se_X9_day : Cond.selects RX9 yX9_day yX9_day ∈ lw_g := gm_5 (List.mem_of_getElem? (i := 7) rfl) rfl
theorem cd_X9_day : Cond.code yX9_day cX9_day 1 (some .int) ∈ lw_g := gm_5 (List.mem_of_getElem? (i := 8) rfl) rfl
theorem ml_L_55 : Cond.methodLink RL 55 yX9_bent ∈ lw_g := gm_5 (List.mem_of_getElem? (i := 9) rfl) rfl
theorem im_X9_bent : Cond.instanceMethod yX9_bent ∈ lw_g := gm_5 (List.mem_of_getElem? (i := 10) rfl) rfl
theorem se_X9_bent : Cond.selects RX9 yX9_bent yX9_bent ∈ lw_g := gm_5 (List.mem_of_getElem? (i := 11) rfl) rfl
theorem cd_X9_bent : Cond.code yX9_bent cX9_bent 5 (some .int) ∈ lw_g := gm_5 (List.mem_of_getElem? (i := 12) rfl) rfl
theorem ml_X9_167 : Cond.methodLink RX9 167 yX9_areTwo ∈ lw_g := gm_5 (List.mem_of_getElem? (i := 13) rfl) rfl
theorem im_X9_areTwo : Cond.instanceMethod yX9_areTwo ∈ lw_g := gm_5 (List.mem_of_getElem? (i := 15) rfl) rfl
theorem cd_X9_areTwo : Cond.code yX9_areTwo cX9_areTwo 3 (some .boolean) ∈ lw_g := gm_5 (List.mem_of_getElem? (i := 16) rfl) rfl
theorem ml_L_59 : Cond.methodLink RL 59 yX9_touch ∈ lw_g := gm_5 (List.mem_of_getElem? (i := 17) rfl) rfl
theorem im_X9_touch : Cond.instanceMethod yX9_touch ∈ lw_g := gm_5 (List.mem_of_getElem? (i := 18) rfl) rfl
theorem se_X9_touch : Cond.selects RX9 yX9_touch yX9_touch ∈ lw_g := gm_5 (List.mem_of_getElem? (i := 19) rfl) rfl
theorem cd_X9_touch : Cond.code yX9_touch cX9_touch 3 (some .int) ∈ lw_g := gm_5 (List.mem_of_getElem? (i := 20) rfl) rfl
theorem ml_L_64 : Cond.methodLink RL 64 yX9_packet ∈ lw_g := gm_5 (List.mem_of_getElem? (i := 21) rfl) rfl
theorem im_X9_packet : Cond.instanceMethod yX9_packet ∈ lw_g := gm_5 (List.mem_of_getElem? (i := 22) rfl) rfl
theorem se_X9_packet : Cond.selects RX9 yX9_packet yX9_packet ∈ lw_g := gm_5 (List.mem_of_getElem? (i := 23) rfl) rfl
theorem cd_X9_packet : Cond.code yX9_packet cX9_packet 6 (some .int) ∈ lw_g := gm_5 (List.mem_of_getElem? (i := 24) rfl) rfl
theorem ml_L_68 : Cond.methodLink RL 68 yX9_reach ∈ lw_g := gm_5 (List.mem_of_getElem? (i := 25) rfl) rfl
theorem im_X9_reach : Cond.instanceMethod yX9_reach ∈ lw_g := gm_5 (List.mem_of_getElem? (i := 26) rfl) rfl
theorem se_X9_reach : Cond.selects RX9 yX9_reach yX9_reach ∈ lw_g := gm_5 (List.mem_of_getElem? (i := 27) rfl) rfl
theorem cd_X9_reach : Cond.code yX9_reach cX9_reach 6 (some .int) ∈ lw_g := gm_5 (List.mem_of_getElem? (i := 28) rfl) rfl
theorem ml_X9_174 : Cond.methodLink RX9 174 yX9_reaches ∈ lw_g := gm_5 (List.mem_of_getElem? (i := 29) rfl) rfl
theorem im_X9_reaches : Cond.instanceMethod yX9_reaches ∈ lw_g := gm_5 (List.mem_of_getElem? (i := 31) rfl) rfl
theorem cd_X9_reaches : Cond.code yX9_reaches cX9_reaches 6 (some .int) ∈ lw_g := gm_5 (List.mem_of_getElem? (i := 32) rfl) rfl
theorem ml_X9_170 : Cond.methodLink RX9 170 yX9_reachesOn ∈ lw_g := gm_5 (List.mem_of_getElem? (i := 33) rfl) rfl
theorem im_X9_reachesOn : Cond.instanceMethod yX9_reachesOn ∈ lw_g := gm_5 (List.mem_of_getElem? (i := 35) rfl) rfl
theorem cd_X9_reachesOn : Cond.code yX9_reachesOn cX9_reachesOn 8 (some .int) ∈ lw_g := gm_5 (List.mem_of_getElem? (i := 36) rfl) rfl
theorem ml_X9_177 : Cond.methodLink RX9 177 yX9_member ∈ lw_g := gm_5 (List.mem_of_getElem? (i := 37) rfl) rfl
theorem sm_X9_member : Cond.static yX9_member ∈ lw_g := gm_5 (List.mem_of_getElem? (i := 38) rfl) rfl
theorem cd_X9_member : Cond.code yX9_member cX9_member 5 (some .int) ∈ lw_g := gm_5 (List.mem_of_getElem? (i := 39) rfl) rfl
theorem ml_L_72 : Cond.methodLink RL 72 yX9_serves ∈ lw_g := gm_5 (List.mem_of_getElem? (i := 40) rfl) rfl
theorem im_X9_serves : Cond.instanceMethod yX9_serves ∈ lw_g := gm_5 (List.mem_of_getElem? (i := 41) rfl) rfl
theorem se_X9_serves : Cond.selects RX9 yX9_serves yX9_serves ∈ lw_g := gm_5 (List.mem_of_getElem? (i := 42) rfl) rfl
theorem cd_X9_serves : Cond.code yX9_serves cX9_serves 5 (some .int) ∈ lw_g := gm_5 (List.mem_of_getElem? (i := 43) rfl) rfl
theorem ml_X9_189 : Cond.methodLink RX9 189 yX9_tries ∈ lw_g := gm_5 (List.mem_of_getElem? (i := 44) rfl) rfl
theorem im_X9_tries : Cond.instanceMethod yX9_tries ∈ lw_g := gm_5 (List.mem_of_getElem? (i := 46) rfl) rfl
theorem cd_X9_tries : Cond.code yX9_tries cX9_tries 5 none ∈ lw_g := gm_5 (List.mem_of_getElem? (i := 47) rfl) rfl
theorem ml_L_76 : Cond.methodLink RL 76 yX9_saw ∈ lw_g := gm_5 (List.mem_of_getElem? (i := 48) rfl) rfl
theorem im_X9_saw : Cond.instanceMethod yX9_saw ∈ lw_g := gm_5 (List.mem_of_getElem? (i := 49) rfl) rfl
theorem se_X9_saw : Cond.selects RX9 yX9_saw yX9_saw ∈ lw_g := gm_5 (List.mem_of_getElem? (i := 50) rfl) rfl
theorem cd_X9_saw : Cond.code yX9_saw cX9_saw 3 (some .int) ∈ lw_g := gm_5 (List.mem_of_getElem? (i := 51) rfl) rfl
theorem ml_L_80 : Cond.methodLink RL 80 yX9_forget ∈ lw_g := gm_5 (List.mem_of_getElem? (i := 52) rfl) rfl
theorem im_X9_forget : Cond.instanceMethod yX9_forget ∈ lw_g := gm_5 (List.mem_of_getElem? (i := 53) rfl) rfl
theorem se_X9_forget : Cond.selects RX9 yX9_forget yX9_forget ∈ lw_g := gm_5 (List.mem_of_getElem? (i := 54) rfl) rfl
theorem cd_X9_forget : Cond.code yX9_forget cX9_forget 2 (some .int) ∈ lw_g := gm_5 (List.mem_of_getElem? (i := 55) rfl) rfl
theorem ml_L_84 : Cond.methodLink RL 84 yX9_fits ∈ lw_g := gm_5 (List.mem_of_getElem? (i := 56) rfl) rfl
theorem im_X9_fits : Cond.instanceMethod yX9_fits ∈ lw_g := gm_5 (List.mem_of_getElem? (i := 57) rfl) rfl
theorem se_X9_fits : Cond.selects RX9 yX9_fits yX9_fits ∈ lw_g := gm_5 (List.mem_of_getElem? (i := 58) rfl) rfl
theorem cd_X9_fits : Cond.code yX9_fits cX9_fits 6 (some .int) ∈ lw_g := gm_5 (List.mem_of_getElem? (i := 59) rfl) rfl
theorem ml_X9_193 : Cond.methodLink RX9 193 yX9_fitsAt ∈ lw_g := gm_5 (List.mem_of_getElem? (i := 60) rfl) rfl
theorem im_X9_fitsAt : Cond.instanceMethod yX9_fitsAt ∈ lw_g := gm_5 (List.mem_of_getElem? (i := 62) rfl) rfl
theorem cd_X9_fitsAt : Cond.code yX9_fitsAt cX9_fitsAt 4 (some .int) ∈ lw_g := gm_5 (List.mem_of_getElem? (i := 63) rfl) rfl
theorem ml_L_88 : Cond.methodLink RL 88 yX9_rate ∈ lw_g := gm_5 (List.mem_of_getElem? (i := 64) rfl) rfl
theorem im_X9_rate : Cond.instanceMethod yX9_rate ∈ lw_g := gm_5 (List.mem_of_getElem? (i := 65) rfl) rfl
theorem se_X9_rate : Cond.selects RX9 yX9_rate yX9_rate ∈ lw_g := gm_5 (List.mem_of_getElem? (i := 66) rfl) rfl
theorem cd_X9_rate : Cond.code yX9_rate cX9_rate 6 (some .int) ∈ lw_g := gm_5 (List.mem_of_getElem? (i := 67) rfl) rfl
theorem ki_X9_196 : Cond.constant RX9 196 (-1000000) ∈ lw_g := gm_5 (List.mem_of_getElem? (i := 68) rfl) rfl
theorem kl_X9_201 : Cond.constantLong RX9 201 (11) ∈ lw_g := gm_5 (List.mem_of_getElem? (i := 69) rfl) rfl
theorem kl_X9_203 : Cond.constantLong RX9 203 (101) ∈ lw_g := gm_5 (List.mem_of_getElem? (i := 70) rfl) rfl
theorem kl_X9_205 : Cond.constantLong RX9 205 (1011) ∈ lw_g := gm_5 (List.mem_of_getElem? (i := 71) rfl) rfl
theorem kl_X9_207 : Cond.constantLong RX9 207 (10101) ∈ lw_g := gm_5 (List.mem_of_getElem? (i := 72) rfl) rfl
theorem kl_X9_209 : Cond.constantLong RX9 209 (100001) ∈ lw_g := gm_5 (List.mem_of_getElem? (i := 73) rfl) rfl
theorem ml_L_92 : Cond.methodLink RL 92 yX9_keep ∈ lw_g := gm_5 (List.mem_of_getElem? (i := 74) rfl) rfl
theorem im_X9_keep : Cond.instanceMethod yX9_keep ∈ lw_g := gm_5 (List.mem_of_getElem? (i := 75) rfl) rfl
theorem se_X9_keep : Cond.selects RX9 yX9_keep yX9_keep ∈ lw_g := gm_5 (List.mem_of_getElem? (i := 76) rfl) rfl
theorem cd_X9_keep : Cond.code yX9_keep cX9_keep 3 (some .int) ∈ lw_g := gm_5 (List.mem_of_getElem? (i := 77) rfl) rfl
theorem ml_L_96 : Cond.methodLink RL 96 yX9_back ∈ lw_g := gm_5 (List.mem_of_getElem? (i := 78) rfl) rfl
theorem im_X9_back : Cond.instanceMethod yX9_back ∈ lw_g := gm_5 (List.mem_of_getElem? (i := 79) rfl) rfl
theorem se_X9_back : Cond.selects RX9 yX9_back yX9_back ∈ lw_g := gm_5 (List.mem_of_getElem? (i := 80) rfl) rfl
theorem cd_X9_back : Cond.code yX9_back cX9_back 3 (some .int) ∈ lw_g := gm_5 (List.mem_of_getElem? (i := 81) rfl) rfl
theorem ml_L_100 : Cond.methodLink RL 100 yX9_count ∈ lw_g := gm_5 (List.mem_of_getElem? (i := 82) rfl) rfl
theorem im_X9_count : Cond.instanceMethod yX9_count ∈ lw_g := gm_5 (List.mem_of_getElem? (i := 83) rfl) rfl
theorem se_X9_count : Cond.selects RX9 yX9_count yX9_count ∈ lw_g := gm_5 (List.mem_of_getElem? (i := 84) rfl) rfl
theorem cd_X9_count : Cond.code yX9_count cX9_count 3 (some .int) ∈ lw_g := gm_5 (List.mem_of_getElem? (i := 85) rfl) rfl
theorem ml_L_105 : Cond.methodLink RL 105 yX9_trace ∈ lw_g := gm_5 (List.mem_of_getElem? (i := 86) rfl) rfl
theorem im_X9_trace : Cond.instanceMethod yX9_trace ∈ lw_g := gm_5 (List.mem_of_getElem? (i := 87) rfl) rfl
theorem se_X9_trace : Cond.selects RX9 yX9_trace yX9_trace ∈ lw_g := gm_5 (List.mem_of_getElem? (i := 88) rfl) rfl
theorem cd_X9_trace : Cond.code yX9_trace cX9_trace 1 (some .long) ∈ lw_g := gm_5 (List.mem_of_getElem? (i := 89) rfl) rfl
theorem kl_L_13 : Cond.constantLong RL 13 (4294967295) ∈ lw_g := gm_5 (List.mem_of_getElem? (i := 90) rfl) rfl
theorem fl_J0_9 : Cond.fieldLink RJ0 9 "java/lang/String" "value" "[B" ∈ lw_g := gm_5 (List.mem_of_getElem? (i := 91) rfl) rfl
theorem fl_J0_15 : Cond.fieldLink RJ0 15 "java/lang/String" "coder" "B" ∈ lw_g := gm_5 (List.mem_of_getElem? (i := 92) rfl) rfl
theorem se_X8_beginAnew : Cond.selects RX8 yX8_beginAnew yX8_beginAnew ∈ lw_g := gp_1 (q := (yX8_beginAnew, 11)) (List.mem_of_getElem? (i := 0) rfl) rfl
theorem se_X8_foldAsNowTells : Cond.selects RX8 yX8_foldAsNowTells yX8_foldAsNowTells ∈ lw_g := gp_1 (q := (yX8_foldAsNowTells, 11)) (List.mem_of_getElem? (i := 1) rfl) rfl
theorem se_X8_bendBy : Cond.selects RX8 yX8_bendBy yX8_bendBy ∈ lw_g := gp_1 (q := (yX8_bendBy, 11)) (List.mem_of_getElem? (i := 2) rfl) rfl
theorem se_X3_countHeights : Cond.selects RX3 yX3_countHeights yX3_countHeights ∈ lw_g := gp_1 (q := (yX3_countHeights, 8)) (List.mem_of_getElem? (i := 3) rfl) rfl
theorem se_X3_shiftOf : Cond.selects RX3 yX3_shiftOf yX3_shiftOf ∈ lw_g := gp_1 (q := (yX3_shiftOf, 8)) (List.mem_of_getElem? (i := 4) rfl) rfl
theorem se_X3_heightAt : Cond.selects RX3 yX3_heightAt yX3_heightAt ∈ lw_g := gp_1 (q := (yX3_heightAt, 8)) (List.mem_of_getElem? (i := 5) rfl) rfl
theorem se_X3_shrink : Cond.selects RX3 yX3_shrink yX3_shrink ∈ lw_g := gp_1 (q := (yX3_shrink, 8)) (List.mem_of_getElem? (i := 6) rfl) rfl
theorem se_X7_byteAt : Cond.selects RX7 yX7_byteAt yX7_byteAt ∈ lw_g := gp_1 (q := (yX7_byteAt, 6)) (List.mem_of_getElem? (i := 7) rfl) rfl
theorem se_X7_readWord : Cond.selects RX7 yX7_readWord yX7_readWord ∈ lw_g := gp_1 (q := (yX7_readWord, 6)) (List.mem_of_getElem? (i := 8) rfl) rfl
theorem se_X7_isWord : Cond.selects RX7 yX7_isWord yX7_isWord ∈ lw_g := gp_1 (q := (yX7_isWord, 6)) (List.mem_of_getElem? (i := 9) rfl) rfl
theorem se_X7_readNumber : Cond.selects RX7 yX7_readNumber yX7_readNumber ∈ lw_g := gp_1 (q := (yX7_readNumber, 6)) (List.mem_of_getElem? (i := 10) rfl) rfl
theorem se_X6_takesToken : Cond.selects RX6 yX6_takesToken yX6_takesToken ∈ lw_g := gp_1 (q := (yX6_takesToken, 8)) (List.mem_of_getElem? (i := 11) rfl) rfl
theorem se_X6_takesWord : Cond.selects RX6 yX6_takesWord yX6_takesWord ∈ lw_g := gp_1 (q := (yX6_takesWord, 8)) (List.mem_of_getElem? (i := 12) rfl) rfl
theorem se_X6_mayBegin : Cond.selects RX6 yX6_mayBegin yX6_mayBegin ∈ lw_g := gp_1 (q := (yX6_mayBegin, 8)) (List.mem_of_getElem? (i := 13) rfl) rfl
theorem se_X6_takesNumber : Cond.selects RX6 yX6_takesNumber yX6_takesNumber ∈ lw_g := gp_1 (q := (yX6_takesNumber, 8)) (List.mem_of_getElem? (i := 14) rfl) rfl
theorem se_X6_mostNumber : Cond.selects RX6 yX6_mostNumber yX6_mostNumber ∈ lw_g := gp_1 (q := (yX6_mostNumber, 8)) (List.mem_of_getElem? (i := 15) rfl) rfl
theorem se_X6_takesEnd : Cond.selects RX6 yX6_takesEnd yX6_takesEnd ∈ lw_g := gp_2 (q := (yX6_takesEnd, 8)) (List.mem_of_getElem? (i := 0) rfl) rfl
theorem se_X8_isCell : Cond.selects RX8 yX8_isCell yX8_isCell ∈ lw_g := gp_2 (q := (yX8_isCell, 11)) (List.mem_of_getElem? (i := 1) rfl) rfl
theorem se_X8_areTwoCells : Cond.selects RX8 yX8_areTwoCells yX8_areTwoCells ∈ lw_g := gp_2 (q := (yX8_areTwoCells, 11)) (List.mem_of_getElem? (i := 2) rfl) rfl
theorem se_X5_lay : Cond.selects RX5 yX5_lay yX5_lay ∈ lw_g := gp_2 (q := (yX5_lay, 5)) (List.mem_of_getElem? (i := 3) rfl) rfl
theorem se_X5_layFold : Cond.selects RX5 yX5_layFold yX5_layFold ∈ lw_g := gp_2 (q := (yX5_layFold, 5)) (List.mem_of_getElem? (i := 4) rfl) rfl
theorem se_X3_isOutermost : Cond.selects RX3 yX3_isOutermost yX3_isOutermost ∈ lw_g := gp_2 (q := (yX3_isOutermost, 8)) (List.mem_of_getElem? (i := 5) rfl) rfl
theorem se_X5_noteFound : Cond.selects RX5 yX5_noteFound yX5_noteFound ∈ lw_g := gp_2 (q := (yX5_noteFound, 5)) (List.mem_of_getElem? (i := 6) rfl) rfl
theorem se_X8_rateAsWell : Cond.selects RX8 yX8_rateAsWell yX8_rateAsWell ∈ lw_g := gp_2 (q := (yX8_rateAsWell, 11)) (List.mem_of_getElem? (i := 7) rfl) rfl
theorem se_X8_rateAsCell : Cond.selects RX8 yX8_rateAsCell yX8_rateAsCell ∈ lw_g := gp_2 (q := (yX8_rateAsCell, 11)) (List.mem_of_getElem? (i := 8) rfl) rfl
theorem se_X8_rateAsHermit : Cond.selects RX8 yX8_rateAsHermit yX8_rateAsHermit ∈ lw_g := gp_2 (q := (yX8_rateAsHermit, 11)) (List.mem_of_getElem? (i := 9) rfl) rfl
theorem se_X8_rateAsLight : Cond.selects RX8 yX8_rateAsLight yX8_rateAsLight ∈ lw_g := gp_2 (q := (yX8_rateAsLight, 11)) (List.mem_of_getElem? (i := 10) rfl) rfl
theorem se_X8_rateAsFolder : Cond.selects RX8 yX8_rateAsFolder yX8_rateAsFolder ∈ lw_g := gp_2 (q := (yX8_rateAsFolder, 11)) (List.mem_of_getElem? (i := 11) rfl) rfl
theorem se_X8_rateAsDuke : Cond.selects RX8 yX8_rateAsDuke yX8_rateAsDuke ∈ lw_g := gp_2 (q := (yX8_rateAsDuke, 11)) (List.mem_of_getElem? (i := 12) rfl) rfl
theorem se_X9_reads : Cond.selects RX9 yX9_reads yX9_reads ∈ lw_g := gp_2 (q := (yX9_reads, 22)) (List.mem_of_getElem? (i := 13) rfl) rfl
theorem se_X9_token : Cond.selects RX9 yX9_token yX9_token ∈ lw_g := gp_2 (q := (yX9_token, 22)) (List.mem_of_getElem? (i := 14) rfl) rfl
theorem se_X9_byteAt : Cond.selects RX9 yX9_byteAt yX9_byteAt ∈ lw_g := gp_2 (q := (yX9_byteAt, 22)) (List.mem_of_getElem? (i := 15) rfl) rfl
theorem se_X9_verb : Cond.selects RX9 yX9_verb yX9_verb ∈ lw_g := gp_3 (q := (yX9_verb, 22)) (List.mem_of_getElem? (i := 0) rfl) rfl
theorem se_X9_readsItem : Cond.selects RX9 yX9_readsItem yX9_readsItem ∈ lw_g := gp_3 (q := (yX9_readsItem, 22)) (List.mem_of_getElem? (i := 1) rfl) rfl
theorem se_X9_readsMap : Cond.selects RX9 yX9_readsMap yX9_readsMap ∈ lw_g := gp_3 (q := (yX9_readsMap, 22)) (List.mem_of_getElem? (i := 2) rfl) rfl
theorem se_X9_number : Cond.selects RX9 yX9_number yX9_number ∈ lw_g := gp_3 (q := (yX9_number, 22)) (List.mem_of_getElem? (i := 3) rfl) rfl
theorem se_X9_readsWorth : Cond.selects RX9 yX9_readsWorth yX9_readsWorth ∈ lw_g := gp_3 (q := (yX9_readsWorth, 22)) (List.mem_of_getElem? (i := 4) rfl) rfl
theorem se_X9_draftCells : Cond.selects RX9 yX9_draftCells yX9_draftCells ∈ lw_g := gp_3 (q := (yX9_draftCells, 22)) (List.mem_of_getElem? (i := 5) rfl) rfl
theorem se_X9_readsQuarrel : Cond.selects RX9 yX9_readsQuarrel yX9_readsQuarrel ∈ lw_g := gp_3 (q := (yX9_readsQuarrel, 22)) (List.mem_of_getElem? (i := 6) rfl) rfl
theorem se_X9_readsTear : Cond.selects RX9 yX9_readsTear yX9_readsTear ∈ lw_g := gp_3 (q := (yX9_readsTear, 22)) (List.mem_of_getElem? (i := 7) rfl) rfl
theorem se_X9_isCell : Cond.selects RX9 yX9_isCell yX9_isCell ∈ lw_g := gp_3 (q := (yX9_isCell, 22)) (List.mem_of_getElem? (i := 8) rfl) rfl
theorem se_X9_cells : Cond.selects RX9 yX9_cells yX9_cells ∈ lw_g := gp_3 (q := (yX9_cells, 22)) (List.mem_of_getElem? (i := 9) rfl) rfl
theorem se_X9_now : Cond.selects RX9 yX9_now yX9_now ∈ lw_g := gp_3 (q := (yX9_now, 22)) (List.mem_of_getElem? (i := 10) rfl) rfl
theorem se_X9_flat : Cond.selects RX9 yX9_flat yX9_flat ∈ lw_g := gp_3 (q := (yX9_flat, 22)) (List.mem_of_getElem? (i := 11) rfl) rfl
theorem se_X9_folds : Cond.selects RX9 yX9_folds yX9_folds ∈ lw_g := gp_3 (q := (yX9_folds, 22)) (List.mem_of_getElem? (i := 12) rfl) rfl
theorem se_X9_manyAt : Cond.selects RX9 yX9_manyAt yX9_manyAt ∈ lw_g := gp_3 (q := (yX9_manyAt, 22)) (List.mem_of_getElem? (i := 13) rfl) rfl
theorem se_X9_falls : Cond.selects RX9 yX9_falls yX9_falls ∈ lw_g := gp_3 (q := (yX9_falls, 22)) (List.mem_of_getElem? (i := 14) rfl) rfl
theorem se_X9_gain : Cond.selects RX9 yX9_gain yX9_gain ∈ lw_g := gp_3 (q := (yX9_gain, 22)) (List.mem_of_getElem? (i := 15) rfl) rfl
theorem se_X9_touches : Cond.selects RX9 yX9_touches yX9_touches ∈ lw_g := gp_4 (q := (yX9_touches, 22)) (List.mem_of_getElem? (i := 0) rfl) rfl
theorem se_X9_bendsAll : Cond.selects RX9 yX9_bendsAll yX9_bendsAll ∈ lw_g := gp_4 (q := (yX9_bendsAll, 22)) (List.mem_of_getElem? (i := 1) rfl) rfl
theorem se_X9_neighbour : Cond.selects RX9 yX9_neighbour yX9_neighbour ∈ lw_g := gp_4 (q := (yX9_neighbour, 22)) (List.mem_of_getElem? (i := 2) rfl) rfl
theorem se_X9_bends : Cond.selects RX9 yX9_bends yX9_bends ∈ lw_g := gp_4 (q := (yX9_bends, 22)) (List.mem_of_getElem? (i := 3) rfl) rfl
theorem se_X9_thick : Cond.selects RX9 yX9_thick yX9_thick ∈ lw_g := gp_4 (q := (yX9_thick, 22)) (List.mem_of_getElem? (i := 4) rfl) rfl
theorem se_X9_areTwo : Cond.selects RX9 yX9_areTwo yX9_areTwo ∈ lw_g := gp_4 (q := (yX9_areTwo, 22)) (List.mem_of_getElem? (i := 5) rfl) rfl
theorem se_X9_reaches : Cond.selects RX9 yX9_reaches yX9_reaches ∈ lw_g := gp_4 (q := (yX9_reaches, 22)) (List.mem_of_getElem? (i := 6) rfl) rfl
theorem se_X9_reachesOn : Cond.selects RX9 yX9_reachesOn yX9_reachesOn ∈ lw_g := gp_4 (q := (yX9_reachesOn, 22)) (List.mem_of_getElem? (i := 7) rfl) rfl
theorem se_X9_tries : Cond.selects RX9 yX9_tries yX9_tries ∈ lw_g := gp_4 (q := (yX9_tries, 22)) (List.mem_of_getElem? (i := 8) rfl) rfl
theorem se_X9_fitsAt : Cond.selects RX9 yX9_fitsAt yX9_fitsAt ∈ lw_g := gp_4 (q := (yX9_fitsAt, 22)) (List.mem_of_getElem? (i := 9) rfl) rfl
theorem ly_X0_0 : u_lay RX0 TX0 0 ∈ lw_g := gm_1 (List.mem_of_getElem? (i := 200) rfl) rfl
theorem ly_X0_1 : u_lay RX0 TX0 1 ∈ lw_g := gm_1 (List.mem_of_getElem? (i := 202) rfl) rfl
theorem ly_X0_2 : u_lay RX0 TX0 2 ∈ lw_g := gm_1 (List.mem_of_getElem? (i := 204) rfl) rfl
theorem ly_X0_3 : u_lay RX0 TX0 3 ∈ lw_g := gm_1 (List.mem_of_getElem? (i := 206) rfl) rfl
theorem inc_X0 : ∀ w ∈ u_ws RX0 TX0 4, w ∈ lw_g := by
  intro w hw
  obtain ⟨k, hk, rfl⟩ := List.mem_map.mp hw
  have hk := List.mem_range.mp hk
  match k, hk with
  | 0, _ => exact ly_X0_0
  | 1, _ => exact ly_X0_1
  | 2, _ => exact ly_X0_2
  | 3, _ => exact ly_X0_3
  | k + 4, h => omega
theorem ly_X1_0 : u_lay RX1 TX1 0 ∈ lw_g := gm_1 (List.mem_of_getElem? (i := 106) rfl) rfl
theorem ly_X1_1 : u_lay RX1 TX1 1 ∈ lw_g := gm_1 (List.mem_of_getElem? (i := 108) rfl) rfl
theorem ly_X1_2 : u_lay RX1 TX1 2 ∈ lw_g := gm_1 (List.mem_of_getElem? (i := 110) rfl) rfl
theorem ly_X1_3 : u_lay RX1 TX1 3 ∈ lw_g := gm_1 (List.mem_of_getElem? (i := 112) rfl) rfl
theorem ly_X1_4 : u_lay RX1 TX1 4 ∈ lw_g := gm_1 (List.mem_of_getElem? (i := 114) rfl) rfl
theorem inc_X1 : ∀ w ∈ u_ws RX1 TX1 5, w ∈ lw_g := by
  intro w hw
  obtain ⟨k, hk, rfl⟩ := List.mem_map.mp hw
  have hk := List.mem_range.mp hk
  match k, hk with
  | 0, _ => exact ly_X1_0
  | 1, _ => exact ly_X1_1
  | 2, _ => exact ly_X1_2
  | 3, _ => exact ly_X1_3
  | 4, _ => exact ly_X1_4
  | k + 5, h => omega
theorem ly_X2_0 : u_lay RX2 TX2 0 ∈ lw_g := gm_1 (List.mem_of_getElem? (i := 225) rfl) rfl
theorem ly_X2_1 : u_lay RX2 TX2 1 ∈ lw_g := gm_1 (List.mem_of_getElem? (i := 227) rfl) rfl
theorem ly_X2_2 : u_lay RX2 TX2 2 ∈ lw_g := gm_1 (List.mem_of_getElem? (i := 229) rfl) rfl
theorem ly_X2_3 : u_lay RX2 TX2 3 ∈ lw_g := gm_1 (List.mem_of_getElem? (i := 231) rfl) rfl
theorem ly_X2_4 : u_lay RX2 TX2 4 ∈ lw_g := gm_1 (List.mem_of_getElem? (i := 233) rfl) rfl
theorem inc_X2 : ∀ w ∈ u_ws RX2 TX2 5, w ∈ lw_g := by
  intro w hw
  obtain ⟨k, hk, rfl⟩ := List.mem_map.mp hw
  have hk := List.mem_range.mp hk
  match k, hk with
  | 0, _ => exact ly_X2_0
  | 1, _ => exact ly_X2_1
  | 2, _ => exact ly_X2_2
  | 3, _ => exact ly_X2_3
  | 4, _ => exact ly_X2_4
  | k + 5, h => omega
theorem ly_X3_0 : u_lay RX3 TX3 0 ∈ lw_g := gm_1 (List.mem_of_getElem? (i := 171) rfl) rfl
theorem ly_X3_1 : u_lay RX3 TX3 1 ∈ lw_g := gm_1 (List.mem_of_getElem? (i := 173) rfl) rfl
theorem ly_X3_2 : u_lay RX3 TX3 2 ∈ lw_g := gm_1 (List.mem_of_getElem? (i := 175) rfl) rfl
theorem ly_X3_3 : u_lay RX3 TX3 3 ∈ lw_g := gm_1 (List.mem_of_getElem? (i := 177) rfl) rfl
theorem ly_X3_4 : u_lay RX3 TX3 4 ∈ lw_g := gm_1 (List.mem_of_getElem? (i := 179) rfl) rfl
theorem ly_X3_5 : u_lay RX3 TX3 5 ∈ lw_g := gm_1 (List.mem_of_getElem? (i := 181) rfl) rfl
theorem ly_X3_6 : u_lay RX3 TX3 6 ∈ lw_g := gm_1 (List.mem_of_getElem? (i := 183) rfl) rfl
theorem ly_X3_7 : u_lay RX3 TX3 7 ∈ lw_g := gm_1 (List.mem_of_getElem? (i := 185) rfl) rfl
theorem inc_X3 : ∀ w ∈ u_ws RX3 TX3 8, w ∈ lw_g := by
  intro w hw
  obtain ⟨k, hk, rfl⟩ := List.mem_map.mp hw
  have hk := List.mem_range.mp hk
  match k, hk with
  | 0, _ => exact ly_X3_0
  | 1, _ => exact ly_X3_1
  | 2, _ => exact ly_X3_2
  | 3, _ => exact ly_X3_3
  | 4, _ => exact ly_X3_4
  | 5, _ => exact ly_X3_5
  | 6, _ => exact ly_X3_6
  | 7, _ => exact ly_X3_7
  | k + 8, h => omega
theorem ly_X4_0 : u_lay RX4 TX4 0 ∈ lw_g := gm_1 (List.mem_of_getElem? (i := 81) rfl) rfl
theorem ly_X4_1 : u_lay RX4 TX4 1 ∈ lw_g := gm_1 (List.mem_of_getElem? (i := 83) rfl) rfl
theorem ly_X4_2 : u_lay RX4 TX4 2 ∈ lw_g := gm_1 (List.mem_of_getElem? (i := 85) rfl) rfl
theorem inc_X4 : ∀ w ∈ u_ws RX4 TX4 3, w ∈ lw_g := by
  intro w hw
  obtain ⟨k, hk, rfl⟩ := List.mem_map.mp hw
  have hk := List.mem_range.mp hk
  match k, hk with
  | 0, _ => exact ly_X4_0
  | 1, _ => exact ly_X4_1
  | 2, _ => exact ly_X4_2
  | k + 3, h => omega
theorem ly_X5_0 : u_lay RX5 TX5 0 ∈ lw_g := gm_2 (List.mem_of_getElem? (i := 14) rfl) rfl
theorem ly_X5_1 : u_lay RX5 TX5 1 ∈ lw_g := gm_2 (List.mem_of_getElem? (i := 16) rfl) rfl
theorem ly_X5_2 : u_lay RX5 TX5 2 ∈ lw_g := gm_2 (List.mem_of_getElem? (i := 18) rfl) rfl
theorem ly_X5_3 : u_lay RX5 TX5 3 ∈ lw_g := gm_2 (List.mem_of_getElem? (i := 20) rfl) rfl
theorem ly_X5_4 : u_lay RX5 TX5 4 ∈ lw_g := gm_2 (List.mem_of_getElem? (i := 22) rfl) rfl
theorem inc_X5 : ∀ w ∈ u_ws RX5 TX5 5, w ∈ lw_g := by
  intro w hw
  obtain ⟨k, hk, rfl⟩ := List.mem_map.mp hw
  have hk := List.mem_range.mp hk
  match k, hk with
  | 0, _ => exact ly_X5_0
  | 1, _ => exact ly_X5_1
  | 2, _ => exact ly_X5_2
  | 3, _ => exact ly_X5_3
  | 4, _ => exact ly_X5_4
  | k + 5, h => omega
theorem ly_X6_0 : u_lay RX6 TX6 0 ∈ lw_g := gm_1 (List.mem_of_getElem? (i := 128) rfl) rfl
theorem ly_X6_1 : u_lay RX6 TX6 1 ∈ lw_g := gm_1 (List.mem_of_getElem? (i := 130) rfl) rfl
theorem ly_X6_2 : u_lay RX6 TX6 2 ∈ lw_g := gm_1 (List.mem_of_getElem? (i := 132) rfl) rfl
theorem ly_X6_3 : u_lay RX6 TX6 3 ∈ lw_g := gm_1 (List.mem_of_getElem? (i := 134) rfl) rfl
theorem ly_X6_4 : u_lay RX6 TX6 4 ∈ lw_g := gm_1 (List.mem_of_getElem? (i := 136) rfl) rfl
theorem ly_X6_5 : u_lay RX6 TX6 5 ∈ lw_g := gm_1 (List.mem_of_getElem? (i := 138) rfl) rfl
theorem ly_X6_6 : u_lay RX6 TX6 6 ∈ lw_g := gm_1 (List.mem_of_getElem? (i := 140) rfl) rfl
theorem ly_X6_7 : u_lay RX6 TX6 7 ∈ lw_g := gm_1 (List.mem_of_getElem? (i := 142) rfl) rfl
theorem inc_X6 : ∀ w ∈ u_ws RX6 TX6 8, w ∈ lw_g := by
  intro w hw
  obtain ⟨k, hk, rfl⟩ := List.mem_map.mp hw
  have hk := List.mem_range.mp hk
  match k, hk with
  | 0, _ => exact ly_X6_0
  | 1, _ => exact ly_X6_1
  | 2, _ => exact ly_X6_2
  | 3, _ => exact ly_X6_3
  | 4, _ => exact ly_X6_4
  | 5, _ => exact ly_X6_5
  | 6, _ => exact ly_X6_6
  | 7, _ => exact ly_X6_7
  | k + 8, h => omega
theorem ly_X7_0 : u_lay RX7 TX7 0 ∈ lw_g := gm_1 (List.mem_of_getElem? (i := 47) rfl) rfl
theorem ly_X7_1 : u_lay RX7 TX7 1 ∈ lw_g := gm_1 (List.mem_of_getElem? (i := 49) rfl) rfl
theorem ly_X7_2 : u_lay RX7 TX7 2 ∈ lw_g := gm_1 (List.mem_of_getElem? (i := 51) rfl) rfl
theorem ly_X7_3 : u_lay RX7 TX7 3 ∈ lw_g := gm_1 (List.mem_of_getElem? (i := 53) rfl) rfl
theorem ly_X7_4 : u_lay RX7 TX7 4 ∈ lw_g := gm_1 (List.mem_of_getElem? (i := 55) rfl) rfl
theorem ly_X7_5 : u_lay RX7 TX7 5 ∈ lw_g := gm_1 (List.mem_of_getElem? (i := 57) rfl) rfl
theorem inc_X7 : ∀ w ∈ u_ws RX7 TX7 6, w ∈ lw_g := by
  intro w hw
  obtain ⟨k, hk, rfl⟩ := List.mem_map.mp hw
  have hk := List.mem_range.mp hk
  match k, hk with
  | 0, _ => exact ly_X7_0
  | 1, _ => exact ly_X7_1
  | 2, _ => exact ly_X7_2
  | 3, _ => exact ly_X7_3
  | 4, _ => exact ly_X7_4
  | 5, _ => exact ly_X7_5
  | k + 6, h => omega
theorem ly_X8_0 : u_lay RX8 TX8 0 ∈ lw_g := gm_2 (List.mem_of_getElem? (i := 120) rfl) rfl
theorem ly_X8_1 : u_lay RX8 TX8 1 ∈ lw_g := gm_2 (List.mem_of_getElem? (i := 122) rfl) rfl
theorem ly_X8_2 : u_lay RX8 TX8 2 ∈ lw_g := gm_2 (List.mem_of_getElem? (i := 124) rfl) rfl
theorem ly_X8_3 : u_lay RX8 TX8 3 ∈ lw_g := gm_2 (List.mem_of_getElem? (i := 126) rfl) rfl
theorem ly_X8_4 : u_lay RX8 TX8 4 ∈ lw_g := gm_2 (List.mem_of_getElem? (i := 128) rfl) rfl
theorem ly_X8_5 : u_lay RX8 TX8 5 ∈ lw_g := gm_2 (List.mem_of_getElem? (i := 130) rfl) rfl
theorem ly_X8_6 : u_lay RX8 TX8 6 ∈ lw_g := gm_2 (List.mem_of_getElem? (i := 132) rfl) rfl
theorem ly_X8_7 : u_lay RX8 TX8 7 ∈ lw_g := gm_2 (List.mem_of_getElem? (i := 134) rfl) rfl
theorem ly_X8_8 : u_lay RX8 TX8 8 ∈ lw_g := gm_2 (List.mem_of_getElem? (i := 136) rfl) rfl
theorem ly_X8_9 : u_lay RX8 TX8 9 ∈ lw_g := gm_2 (List.mem_of_getElem? (i := 138) rfl) rfl
theorem ly_X8_10 : u_lay RX8 TX8 10 ∈ lw_g := gm_2 (List.mem_of_getElem? (i := 140) rfl) rfl
theorem inc_X8 : ∀ w ∈ u_ws RX8 TX8 11, w ∈ lw_g := by
  intro w hw
  obtain ⟨k, hk, rfl⟩ := List.mem_map.mp hw
  have hk := List.mem_range.mp hk
  match k, hk with
  | 0, _ => exact ly_X8_0
  | 1, _ => exact ly_X8_1
  | 2, _ => exact ly_X8_2
  | 3, _ => exact ly_X8_3
  | 4, _ => exact ly_X8_4
  | 5, _ => exact ly_X8_5
  | 6, _ => exact ly_X8_6
  | 7, _ => exact ly_X8_7
  | 8, _ => exact ly_X8_8
  | 9, _ => exact ly_X8_9
  | 10, _ => exact ly_X8_10
  | k + 11, h => omega
theorem ly_X9_0 : u_lay RX9 TX9 0 ∈ lw_g := gm_4 (List.mem_of_getElem? (i := 118) rfl) rfl
theorem ly_X9_1 : u_lay RX9 TX9 1 ∈ lw_g := gm_4 (List.mem_of_getElem? (i := 120) rfl) rfl
theorem ly_X9_2 : u_lay RX9 TX9 2 ∈ lw_g := gm_4 (List.mem_of_getElem? (i := 122) rfl) rfl
theorem ly_X9_3 : u_lay RX9 TX9 3 ∈ lw_g := gm_4 (List.mem_of_getElem? (i := 124) rfl) rfl
theorem ly_X9_4 : u_lay RX9 TX9 4 ∈ lw_g := gm_4 (List.mem_of_getElem? (i := 126) rfl) rfl
theorem ly_X9_5 : u_lay RX9 TX9 5 ∈ lw_g := gm_4 (List.mem_of_getElem? (i := 128) rfl) rfl
theorem ly_X9_6 : u_lay RX9 TX9 6 ∈ lw_g := gm_4 (List.mem_of_getElem? (i := 130) rfl) rfl
theorem ly_X9_7 : u_lay RX9 TX9 7 ∈ lw_g := gm_4 (List.mem_of_getElem? (i := 132) rfl) rfl
theorem ly_X9_8 : u_lay RX9 TX9 8 ∈ lw_g := gm_4 (List.mem_of_getElem? (i := 134) rfl) rfl
theorem ly_X9_9 : u_lay RX9 TX9 9 ∈ lw_g := gm_4 (List.mem_of_getElem? (i := 136) rfl) rfl
theorem ly_X9_10 : u_lay RX9 TX9 10 ∈ lw_g := gm_4 (List.mem_of_getElem? (i := 138) rfl) rfl
theorem ly_X9_11 : u_lay RX9 TX9 11 ∈ lw_g := gm_4 (List.mem_of_getElem? (i := 140) rfl) rfl
theorem ly_X9_12 : u_lay RX9 TX9 12 ∈ lw_g := gm_4 (List.mem_of_getElem? (i := 142) rfl) rfl
theorem ly_X9_13 : u_lay RX9 TX9 13 ∈ lw_g := gm_4 (List.mem_of_getElem? (i := 144) rfl) rfl
theorem ly_X9_14 : u_lay RX9 TX9 14 ∈ lw_g := gm_4 (List.mem_of_getElem? (i := 146) rfl) rfl
theorem ly_X9_15 : u_lay RX9 TX9 15 ∈ lw_g := gm_4 (List.mem_of_getElem? (i := 148) rfl) rfl
theorem ly_X9_16 : u_lay RX9 TX9 16 ∈ lw_g := gm_4 (List.mem_of_getElem? (i := 150) rfl) rfl
theorem ly_X9_17 : u_lay RX9 TX9 17 ∈ lw_g := gm_4 (List.mem_of_getElem? (i := 152) rfl) rfl
theorem ly_X9_18 : u_lay RX9 TX9 18 ∈ lw_g := gm_4 (List.mem_of_getElem? (i := 154) rfl) rfl
theorem ly_X9_19 : u_lay RX9 TX9 19 ∈ lw_g := gm_4 (List.mem_of_getElem? (i := 156) rfl) rfl
theorem ly_X9_20 : u_lay RX9 TX9 20 ∈ lw_g := gm_4 (List.mem_of_getElem? (i := 158) rfl) rfl
theorem ly_X9_21 : u_lay RX9 TX9 21 ∈ lw_g := gm_4 (List.mem_of_getElem? (i := 160) rfl) rfl
theorem inc_X9 : ∀ w ∈ u_ws RX9 TX9 22, w ∈ lw_g := by
  intro w hw
  obtain ⟨k, hk, rfl⟩ := List.mem_map.mp hw
  have hk := List.mem_range.mp hk
  match k, hk with
  | 0, _ => exact ly_X9_0
  | 1, _ => exact ly_X9_1
  | 2, _ => exact ly_X9_2
  | 3, _ => exact ly_X9_3
  | 4, _ => exact ly_X9_4
  | 5, _ => exact ly_X9_5
  | 6, _ => exact ly_X9_6
  | 7, _ => exact ly_X9_7
  | 8, _ => exact ly_X9_8
  | 9, _ => exact ly_X9_9
  | 10, _ => exact ly_X9_10
  | 11, _ => exact ly_X9_11
  | 12, _ => exact ly_X9_12
  | 13, _ => exact ly_X9_13
  | 14, _ => exact ly_X9_14
  | 15, _ => exact ly_X9_15
  | 16, _ => exact ly_X9_16
  | 17, _ => exact ly_X9_17
  | 18, _ => exact ly_X9_18
  | 19, _ => exact ly_X9_19
  | 20, _ => exact ly_X9_20
  | 21, _ => exact ly_X9_21
  | k + 22, h => omega
end
section
/-! ===== BASE: contents, worlds that keep their addresses, contracts, calls, loops ===== -/
/-- what a shape's cells hold: cell, place, number -/
abbrev Sg : Type := Nat → Nat → Int32
def sg_st (σ : Sg) (k j : Nat) (v : Int32) : Sg := fun q => if q = k then upd (σ k) j v else σ q
def sg_ar (σ : Sg) (k : Nat) (f : Nat → Int32) : Sg := fun q => if q = k then f else σ q
def sg_off {α : Type} (f : Nat → α) (n : Nat) : Nat → α := fun k => f (n + k)
def sg_sp (σ : Sg) (b n : Nat) (τ : Sg) : Sg := fun k => if b ≤ k ∧ k < b + n then τ (k - b) else σ k
/-- the classes' numbers, the array classes, the addresses of what the statics hold -/
abbrev Ev : Type := va_G × (Nat → ClassId) × (Nat → Nat)
def tyl (c : Nat → ClassId) : List (ClassId × FieldType) := [(c 0, .int), (c 1, .boolean), (c 2, .object RX2), (c 3, .object RX3)]
def KK (E : Ev) (U : State) : Prop := va_K E.1 vwCl (tyl E.2.1) U
def am_choice : Nat → Int32 := fun j => ([0, 1, 4, 5, 8, 9, 12, 13, 16, 17, 20, 21] : List Int32).getD j 0
def am_plans : Nat → Int32 := fun j => ([1, 12, 144] : List Int32).getD j 0
def am_len : List Nat := [3, 5, 7, 4]
def am_byt : List (List Int32) := [[109, 97, 112], [119, 111, 114, 116, 104], [113, 117, 97, 114, 114, 101, 108], [116, 101, 97, 114]]
def am_tx : Nat → Nat × String := fun i => match i with
  | 0 => (48, "map")
  | 1 => (54, "worth")
  | 2 => (56, "quarrel")
  | _ => (58, "tear")
/-- what the start gives and nobody changes -/
def Amb (E : Ev) (A : Nat → Prop) (U : State) (H : Heap) : Prop :=
  va_Z RX5 "CHOICE" "[I" (.ref (E.2.2 0)) A U H ∧ va_T .int (E.2.2 0) 12 (fun j => .int (am_choice j)) A U H ∧ va_Z RX5 "PLANS_OF" "[I" (.ref (E.2.2 1)) A U H ∧ va_T .int (E.2.2 1) 3 (fun j => .int (am_plans j)) A U H ∧
  va_Z "java/lang/String" "COMPACT_STRINGS" "Z" (.int 1) A U H ∧ va_Zq "jdk/internal/util/Preconditions" "SIOOBE_FORMATTER" "Ljava/util/function/BiFunction;" A U H ∧ va_AO RX2 U ∧ va_AO RX3 U ∧
  vk_S 4 am_len am_byt (sg_off E.2.2 10) (sg_off E.2.2 20) A U H ∧ ∀ i : Nat, i < 4 → vk_R RX7 (am_tx i).1 (am_tx i).2 (E.2.2 (10 + i)) U
theorem Amb.kept {E : Ev} {A : Nat → Prop} {U : State} {H H1 : Heap} (h : Amb E A U H) (hq : ∀ a : Nat, a < H.size → ¬ A a → H1[a]? = H[a]?) : Amb E A U H1 := by
  obtain ⟨h1, h2, h3, h4, h5, h5b, h5c, h5d, h6, h7⟩ := h
  exact ⟨h1.kept hq, h2.kept hq, h3.kept hq, h4.kept hq, h5.kept hq, h5b.kept hq, h5c, h5d, h6.kept hq, h7⟩
theorem Amb.narrow {E : Ev} {A B : Nat → Prop} {U : State} {H : Heap} (h : Amb E A U H) (hAB : ∀ q, B q → A q) : Amb E B U H := by
  obtain ⟨h1, h2, h3, h4, h5, h5b, h5c, h5d, h6, h7⟩ := h
  exact ⟨h1.narrow hAB, h2.narrow hAB, h3.narrow hAB, h4.narrow hAB, h5.narrow hAB, h5b.narrow hAB, h5c, h5d, h6.narrow hAB, h7⟩
theorem Amb.warm {E : Ev} {A : Nat → Prop} {s U : State} {H : Heap} (hW : s.WarmedH U.vm) (h : Amb E A s H) : Amb E A U H := by
  obtain ⟨h1, h2, h3, h4, h5, h5b, h5c, h5d, h6, h7⟩ := h
  exact ⟨h1.moved hW.alike, h2.moved hW.alike, h3.moved hW.alike, h4.moved hW.alike, h5.moved hW.alike, h5b.moved hW.alike, h5c.moved hW.alike, h5d.moved hW.alike, h6.moved hW.alike, fun i hi => (h7 i hi).warm hW⟩
theorem Amb.same {E : Ev} {A : Nat → Prop} {s U : State} {H : Heap} (hv : U.vm = s.vm) (h : Amb E A s H) : Amb E A U H := by
  have ha : s.vm.Alike U.vm := by rw [hv]; exact Vm.Alike.refl _
  obtain ⟨h1, h2, h3, h4, h5, h5b, h5c, h5d, h6, h7⟩ := h
  exact ⟨h1.moved ha, h2.moved ha, h3.moved ha, h4.moved ha, h5.moved ha, h5b.moved ha, h5c.moved ha, h5d.moved ha, h6.moved ha, fun i hi => (h7 i hi).same hv⟩
theorem Amb.compact {E : Ev} {A : Nat → Prop} {U : State} {H : Heap} (h : Amb E A U H) : va_Z "java/lang/String" "COMPACT_STRINGS" "Z" (.int 1) A U H := h.2.2.2.2.1
theorem Amb.fmt {E : Ev} {A : Nat → Prop} {U : State} {H : Heap} (h : Amb E A U H) : va_Zq "jdk/internal/util/Preconditions" "SIOOBE_FORMATTER" "Ljava/util/function/BiFunction;" A U H := h.2.2.2.2.2.1
theorem Amb.ao2 {E : Ev} {A : Nat → Prop} {U : State} {H : Heap} (h : Amb E A U H) : va_AO RX2 U := h.2.2.2.2.2.2.1
theorem Amb.ao3 {E : Ev} {A : Nat → Prop} {U : State} {H : Heap} (h : Amb E A U H) : va_AO RX3 U := h.2.2.2.2.2.2.2.1
theorem Amb.strs {E : Ev} {A : Nat → Prop} {U : State} {H : Heap} (h : Amb E A U H) : vk_S 4 am_len am_byt (sg_off E.2.2 10) (sg_off E.2.2 20) A U H := h.2.2.2.2.2.2.2.2.1
theorem Amb.str {E : Ev} {A : Nat → Prop} {U : State} {H : Heap} (h : Amb E A U H) (i : Nat) (hi : i < 4) : vk_R RX7 (am_tx i).1 (am_tx i).2 (E.2.2 (10 + i)) U := h.2.2.2.2.2.2.2.2.2 i hi
/-- a method's start: its world, apart, and what nobody changes -/
def PreW (E : Ev) (w : va_W) (sz : Nat) : State → Prop := fun U => U.heap.size = sz ∧ va_P E.1 vwCl w U.heap ∧ KK E U ∧ va_D (fun _ => True) w ∧ Amb E (va_A w sz) U U.heap
/-- a method's words: its own code, and all words of the tables -/
def wl (y : MethodName) (cc : ByteArray) (mL : Nat) (ret : Option FieldType) : List Cond := Cond.code y cc mL ret :: lw_g
def QW (E : Ev) (w : va_W) (t : State) : Prop := va_P E.1 vwCl w t.heap
def MtV (l : Launch) (y : MethodName) (ws : List Cond) (rm : Room) (E : Ev) (av : List Value) (w w' : va_W) : Prop := ∀ sz : Nat, Met l y ws rm (va_Pc av (PreW E w sz)) (va_Qv (fun _ : Unit => True) (fun _ t => QW E w' t) (va_A w sz)) 0 0 (va_A w sz)
def MtI (l : Launch) (y : MethodName) (ws : List Cond) (rm : Room) (E : Ev) (av : List Value) (w : va_W) (r : Int32) (w' : va_W) : Prop := ∀ sz : Nat, Met l y ws rm (va_Pc av (PreW E w sz)) (va_Qi (fun x (_ : Unit) => x = r) (fun _ t => QW E w' t) (va_A w sz)) 0 0 (va_A w sz)
def MtL (l : Launch) (y : MethodName) (ws : List Cond) (rm : Room) (E : Ev) (av : List Value) (w : va_W) (r : Int64) (w' : va_W) : Prop := ∀ sz : Nat, Met l y ws rm (va_Pc av (PreW E w sz)) (va_Ql (fun x (_ : Unit) => x = r) (fun _ t => QW E w' t) (va_A w sz)) 0 0 (va_A w sz)
theorem preW_blind (E : Ev) (w : va_W) (sz : Nat) (av : List Value) : FrameBlind (va_Pc av (PreW E w sz)) := fun a U g mk q => by
  obtain ⟨q0, q1, qP, qK, qD, qA⟩ := q
  exact ⟨q0, q1, qP, va_K.moved (u := U) (U := U.calling g mk a) (Vm.Alike.refl U.vm) qK, qD, qA.same rfl⟩
theorem vD_addr {A : Nat → Prop} {ws ws' : va_W} (h : ws'.map Prod.fst = ws.map Prod.fst) (hD : va_D A ws) : va_D A ws' := by
  have key : ∀ (k : Nat) (q : Nat × va_E), ws'[k]? = some q → ∃ q0, ws[k]? = some q0 ∧ q0.1 = q.1 := by
    intro k q hk
    have h1 : (ws'.map Prod.fst)[k]? = some q.1 := by rw [List.getElem?_map, hk]; rfl
    rw [h, List.getElem?_map] at h1
    cases hq : ws[k]? with
    | none => rw [hq] at h1; cases h1
    | some q0 => rw [hq] at h1; exact ⟨q0, rfl, Option.some.inj h1⟩
  refine ⟨fun i j p q hi hj e => ?_, fun k q hk => ?_⟩
  · obtain ⟨p0, a1, a2⟩ := key i p hi
    obtain ⟨q0, b1, b2⟩ := key j q hj
    exact hD.1 i j p0 q0 a1 b1 (a2.trans (e.trans b2.symm))
  · obtain ⟨q0, a1, a2⟩ := key k q hk
    rw [← a2]
    exact hD.2 k q0 a1
/-- a part of a world is put back, in its places -/
def wput : va_W → List Nat → va_W → va_W
  | wb, i :: is, c :: cs => wput (wb.set i c) is cs
  | wb, _, _ => wb
theorem wput_get : ∀ (is : List Nat) (wb cs : va_W) (k : Nat) (q : Nat × va_E), is.length = cs.length → (wput wb is cs)[k]? = some q → (∃ j : Nat, cs[j]? = some q) ∨ (wb[k]? = some q ∧ k ∉ is)
  | [], wb, cs, k, q, _, h => Or.inr ⟨by cases cs <;> simpa [wput] using h, by simp⟩
  | i :: is, wb, [], k, q, hl, h => by simp at hl
  | i :: is, wb, c :: cs, k, q, hl, h => by
    have hl' : is.length = cs.length := by simpa using hl
    rcases wput_get is (wb.set i c) cs k q hl' h with ⟨j, hj⟩ | ⟨h1, h2⟩
    · exact Or.inl ⟨j + 1, by simpa using hj⟩
    · by_cases hki : k = i
      · subst hki
        by_cases hlt : k < wb.length
        · rw [List.getElem?_set_self hlt] at h1
          cases h1
          exact Or.inl ⟨0, rfl⟩
        · have : (wb.set k c).length ≤ k := by simp; omega
          rw [List.getElem?_eq_none this] at h1
          cases h1
      · rw [List.getElem?_set_ne (Ne.symm hki)] at h1
        exact Or.inr ⟨h1, by simp [hki, h2]⟩
theorem vsub_at {ws wc : va_W} {is : List Nat} (hC : is.map (fun i => ws[i]?) = wc.map some) (k : Nat) (q : Nat × va_E) (hk : wc[k]? = some q) : ∃ i : Nat, is[k]? = some i ∧ ws[i]? = some q := by
  have h1 : (is.map (fun i => ws[i]?))[k]? = some (some q) := by rw [hC, List.getElem?_map, hk]; rfl
  rw [List.getElem?_map] at h1
  cases hi : is[k]? with
  | none => rw [hi] at h1; cases h1
  | some i => rw [hi] at h1; exact ⟨i, rfl, Option.some.inj h1⟩
theorem vout {A : Nat → Prop} {D : va_G} {cl : List vw_C} {wb wc : va_W} {H : Heap} {is : List Nat} (hP : va_P D cl wb H) (hD : va_D A wb) (hC : is.map (fun i => wb[i]?) = wc.map some) {k : Nat} {q : Nat × va_E} (hk : wb[k]? = some q) (hn : k ∉ is) : q.1 < H.size ∧ ¬ va_A wc H.size q.1 := by
  have hl := (hP k q hk).lt
  refine ⟨hl, fun h => ?_⟩
  rcases h with ⟨k2, e, h⟩ | h
  · obtain ⟨j, h3, h4⟩ := vsub_at hC k2 (q.1, e) h
    have hij := hD.1 k j q (q.1, e) hk h4 rfl
    subst hij
    exact hn (List.mem_of_getElem? h3)
  · omega
theorem wput_P {A : Nat → Prop} {D : va_G} {cl : List vw_C} {wb wc wc' : va_W} {H H1 : Heap} {is : List Nat} (hP : va_P D cl wb H) (hD : va_D A wb) (hC : is.map (fun i => wb[i]?) = wc.map some) (hadr : wc'.map Prod.fst = wc.map Prod.fst)
    (hk : ∀ q : Nat, q < H.size → ¬ va_A wc H.size q → H1[q]? = H[q]?) (hP1 : va_P D cl wc' H1) : va_P D cl (wput wb is wc') H1 := by
  intro k q hq
  have e1 := congrArg List.length hC
  have e2 := congrArg List.length hadr
  simp at e1 e2
  rcases wput_get is wb wc' k q (by omega) hq with ⟨j, hj⟩ | ⟨h1, h2⟩
  · exact hP1 j q hj
  · obtain ⟨g1, g2⟩ := vout hP hD hC h1 h2
    exact (hP k q h1).kept (hk q.1 g1 g2)
theorem wro_P {A : Nat → Prop} {D : va_G} {cl : List vw_C} {wb wc : va_W} {H H1 : Heap} {is : List Nat} (hP : va_P D cl wb H) (hD : va_D A wb) (hC : is.map (fun i => wb[i]?) = wc.map some)
    (hk : ∀ q : Nat, q < H.size → ¬ va_A wc H.size q → H1[q]? = H[q]?) (hP1 : va_P D cl wc H1) : va_P D cl wb H1 := by
  intro k q hq
  by_cases hi : k ∈ is
  · obtain ⟨j, hj⟩ := List.getElem?_of_mem hi
    have h1 : (is.map (fun i => wb[i]?))[j]? = some (some q) := by rw [List.getElem?_map, hj]; simp [hq]
    rw [hC, List.getElem?_map] at h1
    cases hc : wc[j]? with
    | none => rw [hc] at h1; cases h1
    | some q2 =>
      rw [hc] at h1
      have : q2 = q := Option.some.inj (Option.some.inj h1)
      subst this
      exact hP1 j q2 hc
  · obtain ⟨g1, g2⟩ := vout hP hD hC hq hi
    exact (hP k q hq).kept (hk q.1 g1 g2)
theorem preW_of {E : Ev} {A : Nat → Prop} {wb wc : va_W} {s : State} {H : Heap} {locs : List Loc} {is : List Nat} (hP : va_P E.1 vwCl wb H) (hD : va_D A wb) (hS : va_S A s.heap H locs) (hK : KK E s) (hAm : Amb E A s s.heap) (hA : ∀ q, s.heap.size ≤ q → A q) (hC : is.map (fun i => wb[i]?) = wc.map some) (hnd : va_nd is = true) :
    ∀ U : State, U.heap = H → s.WarmedH U.vm → PreW E wc H.size U := by
  intro U hU hW
  have hF := va_free (wc := wc) hD hS hA is hC
  refine ⟨by rw [hU], ?_, va_K.moved hW.alike hK, (hD.sub is hnd hC).weaken (fun _ _ _ _ => trivial), ?_⟩
  · rw [hU]
    intro k q hk
    obtain ⟨i, -, hi⟩ := vsub_at hC k q hk
    exact hP i q hi
  · rw [hU]
    exact ((hAm.kept hS.2.1).narrow hF).warm hW
/-- what a call of an instance method, of a static one, asks of the tables -/
def PkV (C : String) (y : MethodName) (cc : ByteArray) (mL : Nat) (ret : Option FieldType) (n : Nat) : Prop := Cond.instanceMethod y ∈ lw_g ∧ Cond.selects C y y ∈ lw_g ∧ Cond.initialized C ∈ lw_g ∧ Cond.code y cc mL ret ∈ lw_g ∧ (y.cls = C ∧ y.cls ≠ "java/lang/invoke/MethodHandle" ∧ y.cls ≠ "java/lang/invoke/VarHandle" ∧ (parseMethodDescriptor y.desc).map (fun d => d.parameters.length) = some n)
def PkS (y : MethodName) (cc : ByteArray) (mL : Nat) (ret : Option FieldType) (n : Nat) : Prop := Cond.static y ∈ lw_g ∧ Cond.initialized y.cls ∈ lw_g ∧ Cond.code y cc mL ret ∈ lw_g ∧ (y.cls ≠ "java/lang/invoke/MethodHandle" ∧ y.cls ≠ "java/lang/invoke/VarHandle" ∧ (parseMethodDescriptor y.desc).map (fun d => d.parameters.length) = some n)
theorem gd_wl {y : MethodName} {cc : ByteArray} {mL : Nat} {ret : Option FieldType} {pre : List Cond} (hp : ∀ w ∈ pre, w ∈ lw_g) (h : Cond.code y cc mL ret ∈ lw_g) : GoodIn lw_g (pre ++ wl y cc mL ret) := by
  intro w hw
  have h1 : w ∈ lw_g := by
    rcases List.mem_append.mp hw with h2 | h2
    · exact hp w h2
    · rcases List.mem_cons.mp h2 with h3 | h3
      · rw [h3]; exact h
      · exact h3
  exact ⟨h1, lw_g_good w h1⟩
theorem PkV.cw {R : Room} {s : State} {args : Array Value} {own C : String} {index mL n : Nat} {y : MethodName} {cc : ByteArray} {ret : Option FieldType} {rm : Room} (k : PkV C y cc mL ret n) (ht : ∀ w ∈ lw_g, w.before args s = true) (hl : Cond.methodLink own index y ∈ lw_g) (hr : rm.cells = 0 ∧ rm.slots = 0) (hR : rm.frames + 1 ≤ R.frames ∧ 8 + (mL + 11) + rm.locals ≤ R.locals) : CallW R s args own C index y cc mL ret (wl y cc mL ret) rm 0 0 n := by
  obtain ⟨k1, k2, k3, k4, k5⟩ := k
  refine cwV n ht (gd_wl (pre := [.methodLink own index y, .instanceMethod y, .selects C y y, .initialized C]) ?_ k4) rfl hr.1 hr.2 k5 hR
  intro w hw
  simp only [List.mem_cons, List.not_mem_nil, or_false] at hw
  rcases hw with rfl | rfl | rfl | rfl <;> assumption
theorem PkS.cw {R : Room} {s : State} {args : Array Value} {own : String} {index mL n : Nat} {y : MethodName} {cc : ByteArray} {ret : Option FieldType} {rm : Room} (k : PkS y cc mL ret n) (ht : ∀ w ∈ lw_g, w.before args s = true) (hl : Cond.methodLink own index y ∈ lw_g) (hr : rm.cells = 0 ∧ rm.slots = 0) (hR : rm.frames + 1 ≤ R.frames ∧ 8 + (mL + 11) + rm.locals ≤ R.locals) : CallB R s args own index y cc mL ret (wl y cc mL ret) rm 0 0 n ∧ (Cond.static y).before args s = true := by
  obtain ⟨k1, k2, k3, k4⟩ := k
  refine va_cwS n ht (gd_wl (pre := [.methodLink own index y, .static y, .initialized y.cls]) ?_ k3) rfl hr.1 hr.2 k4 hR
  intro w hw
  simp only [List.mem_cons, List.not_mem_nil, or_false] at hw
  rcases hw with rfl | rfl | rfl <;> assumption
section CALLS
variable {p : Program} {l : Launch} {e : Env} {R : Room} {s : State} {m : MethodId} {args : Array Value} {below : List Frame} {meth : Method} {c : Code} {H : Heap} {locs : List Loc} {cells slots : Nat} {Q : State → Prop}
variable {cc : ByteArray} {pc nL : Nat} {ls : Array Slot} {rest st As : List Value} {A : Nat → Prop} {E : Ev} {wb wc wc' w' : va_W} {own C : String}
variable {y : MethodName} {bytes : ByteArray} {maxL n index b : Nat} {ret : Option FieldType} {rm : Room} {av : Array Value}
/-- what every row of a walk stands on -/
def Cx (p : Program) (s : State) (m : MethodId) (args : Array Value) (meth : Method) (c : Code) (cc : ByteArray) (nL : Nat) (own : String) (E : Ev) (A : Nat → Prop) : Prop :=
  CallFix p m c cc nL s args lw_g own ∧ KK E s ∧ Amb E A s s.heap ∧ (∀ q, s.heap.size ≤ q → A q) ∧ meth.locks = false
/-- behind a call of a method that changes a part of the world: one of the three answers -/
theorem k_putI {r : Int32} {is : List Nat} (hr : va_Run p l e R s m args below meth c H locs cells slots 0 0 (F0 m pc ls st) rest (va_Qi (fun x (_ : Unit) => x = r) (fun _ t => QW E wc' t) (va_A wc H.size) av) (va_A wc H.size)) (X : Cx p s m args meth c cc nL own E A) (hP : va_P E.1 vwCl wb H) (hD : va_D A wb) (hS : va_S A s.heap H locs)
    (hC : is.map (fun i => wb[i]?) = wc.map some) (hadr : wc'.map Prod.fst = wc.map Prod.fst) (hw : wput wb is wc' = w') (hadr' : w'.map Prod.fst = wb.map Prod.fst)
    (kk : ∀ (H1 : Heap) (locs1 : List Loc), va_P E.1 vwCl w' H1 → va_D A w' → va_S A s.heap H1 locs1 → W p l e R s m args below meth c H1 locs1 cells slots Q (F0 m (pc + 3) ls (.int r :: rest))) : W p l e R s m args below meth c H locs cells slots Q (F0 m pc ls st) := by
  have hF := va_free (wc := wc) hD hS X.2.2.2.1 is hC
  refine va_calli hr hS (fun q _ h => hF q h) hF (fun r1 u t H1 locs1 ht hvm hw1 hB hz1 hk1 hS1 => ?_)
  subst hw1
  have h1 : va_P E.1 vwCl w' H1 := by
    rw [← hw]
    refine wput_P hP hD hC hadr hk1 ?_
    rw [← ht]
    exact hB
  exact kk H1 locs1 h1 (vD_addr hadr' hD) hS1
theorem k_putV {is : List Nat} (hr : va_Run p l e R s m args below meth c H locs cells slots 0 0 (F0 m pc ls st) rest (va_Qv (fun _ : Unit => True) (fun _ t => QW E wc' t) (va_A wc H.size) av) (va_A wc H.size)) (X : Cx p s m args meth c cc nL own E A) (hP : va_P E.1 vwCl wb H) (hD : va_D A wb) (hS : va_S A s.heap H locs)
    (hC : is.map (fun i => wb[i]?) = wc.map some) (hadr : wc'.map Prod.fst = wc.map Prod.fst) (hw : wput wb is wc' = w') (hadr' : w'.map Prod.fst = wb.map Prod.fst)
    (kk : ∀ (H1 : Heap) (locs1 : List Loc), va_P E.1 vwCl w' H1 → va_D A w' → va_S A s.heap H1 locs1 → W p l e R s m args below meth c H1 locs1 cells slots Q (F0 m (pc + 3) ls rest)) : W p l e R s m args below meth c H locs cells slots Q (F0 m pc ls st) := by
  have hF := va_free (wc := wc) hD hS X.2.2.2.1 is hC
  refine va_callv hr hS (fun q _ h => hF q h) hF (fun u t H1 locs1 ht hvm hw1 hB hz1 hk1 hS1 => ?_)
  have h1 : va_P E.1 vwCl w' H1 := by
    rw [← hw]
    refine wput_P hP hD hC hadr hk1 ?_
    rw [← ht]
    exact hB
  exact kk H1 locs1 h1 (vD_addr hadr' hD) hS1
theorem k_roI {r : Int32} {is : List Nat} (hr : va_Run p l e R s m args below meth c H locs cells slots 0 0 (F0 m pc ls st) rest (va_Qi (fun x (_ : Unit) => x = r) (fun _ t => QW E wc t) (va_A wc H.size) av) (va_A wc H.size)) (X : Cx p s m args meth c cc nL own E A) (hP : va_P E.1 vwCl wb H) (hD : va_D A wb) (hS : va_S A s.heap H locs)
    (hC : is.map (fun i => wb[i]?) = wc.map some)
    (kk : ∀ (H1 : Heap) (locs1 : List Loc), va_P E.1 vwCl wb H1 → va_S A s.heap H1 locs1 → W p l e R s m args below meth c H1 locs1 cells slots Q (F0 m (pc + 3) ls (.int r :: rest))) : W p l e R s m args below meth c H locs cells slots Q (F0 m pc ls st) := by
  have hF := va_free (wc := wc) hD hS X.2.2.2.1 is hC
  refine va_calli hr hS (fun q _ h => hF q h) hF (fun r1 u t H1 locs1 ht hvm hw1 hB hz1 hk1 hS1 => ?_)
  subst hw1
  exact kk H1 locs1 (wro_P hP hD hC hk1 (by rw [← ht]; exact hB)) hS1
theorem k_allI {r : Int32} (hr : va_Run p l e R s m args below meth c H locs cells slots 0 0 (F0 m pc ls st) rest (va_Qi (fun x (_ : Unit) => x = r) (fun _ t => QW E w' t) (va_A wb H.size) av) (va_A wb H.size)) (X : Cx p s m args meth c cc nL own E A) (hD : va_D A wb) (hS : va_S A s.heap H locs) (hadr' : w'.map Prod.fst = wb.map Prod.fst)
    (kk : ∀ (H1 : Heap) (locs1 : List Loc), va_P E.1 vwCl w' H1 → va_D A w' → va_S A s.heap H1 locs1 → W p l e R s m args below meth c H1 locs1 cells slots Q (F0 m (pc + 3) ls (.int r :: rest))) : W p l e R s m args below meth c H locs cells slots Q (F0 m pc ls st) := by
  have hF : ∀ q, va_A wb H.size q → A q := fun q h => by
    rcases h with ⟨k, e, h⟩ | h
    · exact hD.2 k (q, e) h
    · exact X.2.2.2.1 q (Nat.le_trans hS.1 h)
  refine va_calli hr hS (fun q _ h => hF q h) hF (fun r1 u t H1 locs1 ht hvm hw1 hB hz1 hk1 hS1 => ?_)
  subst hw1
  exact kk H1 locs1 (by rw [← ht]; exact hB) (vD_addr hadr' hD) hS1
theorem k_allL {r : Int64} (hr : va_Run p l e R s m args below meth c H locs cells slots 0 0 (F0 m pc ls st) rest (va_Ql (fun x (_ : Unit) => x = r) (fun _ t => QW E w' t) (va_A wb H.size) av) (va_A wb H.size)) (X : Cx p s m args meth c cc nL own E A) (hD : va_D A wb) (hS : va_S A s.heap H locs) (hadr' : w'.map Prod.fst = wb.map Prod.fst)
    (kk : ∀ (H1 : Heap) (locs1 : List Loc), va_P E.1 vwCl w' H1 → va_D A w' → va_S A s.heap H1 locs1 → W p l e R s m args below meth c H1 locs1 cells slots Q (F0 m (pc + 3) ls (.long r :: rest))) : W p l e R s m args below meth c H locs cells slots Q (F0 m pc ls st) := by
  have hF : ∀ q, va_A wb H.size q → A q := fun q h => by
    rcases h with ⟨k, e, h⟩ | h
    · exact hD.2 k (q, e) h
    · exact X.2.2.2.1 q (Nat.le_trans hS.1 h)
  refine va_calll hr hS (fun q _ h => hF q h) hF (fun r1 u t H1 locs1 ht hvm hw1 hB hz1 hk1 hS1 => ?_)
  subst hw1
  exact kk H1 locs1 (by rw [← ht]; exact hB) (vD_addr hadr' hD) hS1
theorem k_allV (hr : va_Run p l e R s m args below meth c H locs cells slots 0 0 (F0 m pc ls st) rest (va_Qv (fun _ : Unit => True) (fun _ t => QW E w' t) (va_A wb H.size) av) (va_A wb H.size)) (X : Cx p s m args meth c cc nL own E A) (hD : va_D A wb) (hS : va_S A s.heap H locs) (hadr' : w'.map Prod.fst = wb.map Prod.fst)
    (kk : ∀ (H1 : Heap) (locs1 : List Loc), va_P E.1 vwCl w' H1 → va_D A w' → va_S A s.heap H1 locs1 → W p l e R s m args below meth c H1 locs1 cells slots Q (F0 m (pc + 3) ls rest)) : W p l e R s m args below meth c H locs cells slots Q (F0 m pc ls st) := by
  have hF : ∀ q, va_A wb H.size q → A q := fun q h => by
    rcases h with ⟨k, e, h⟩ | h
    · exact hD.2 k (q, e) h
    · exact X.2.2.2.1 q (Nat.le_trans hS.1 h)
  refine va_callv hr hS (fun q _ h => hF q h) hF (fun u t H1 locs1 ht hvm hw1 hB hz1 hk1 hS1 => ?_)
  exact kk H1 locs1 (by rw [← ht]; exact hB) (vD_addr hadr' hD) hS1
theorem preW_all {w : va_W} (X : Cx p s m args meth c cc nL own E A) (hP : va_P E.1 vwCl w H) (hD : va_D A w) (hS : va_S A s.heap H locs) : ∀ U : State, U.heap = H → s.WarmedH U.vm → PreW E w H.size U := by
  intro U hU hW
  have hF : ∀ q, va_A w H.size q → A q := fun q h => by
    rcases h with ⟨k, e, h⟩ | h
    · exact hD.2 k (q, e) h
    · exact X.2.2.2.1 q (Nat.le_trans hS.1 h)
  refine ⟨by rw [hU], by rw [hU]; exact hP, va_K.moved hW.alike X.2.1, hD.weaken (fun _ _ _ _ => trivial), ?_⟩
  rw [hU]
  exact ((X.2.2.1.kept hS.2.1).narrow hF).warm hW

/-- an instance method that changes a part of the world and answers an int -/
theorem cV_putI {r : Int32} {is : List Nat} {ci : Nat} {fs : List Value} {q : vw_C} (X : Cx p s m args meth c cc nL own E A) (hM : MtI l y (wl y bytes maxL ret) rm E (.ref b :: As) wc r wc') (pk : PkV q.1 y bytes maxL ret n) (hl : Cond.methodLink own index y ∈ lw_g) (hrm : rm.cells = 0 ∧ rm.slots = 0) (hR : rm.frames + 1 ≤ R.frames ∧ 8 + (maxL + 11) + rm.locals ≤ R.locals) (hP : va_P E.1 vwCl wb H) (hD : va_D A wb) (hS : va_S A s.heap H locs)
    (hC : is.map (fun i => wb[i]?) = wc.map some) (hnd : va_nd is = true) (hrc : wc[0]? = some (b, .inr (ci, fs))) (hcl : vwCl[ci]? = some q) (hadr : wc'.map Prod.fst = wc.map Prod.fst) (hw : wput wb is wc' = w') (hadr' : w'.map Prod.fst = wb.map Prod.fst)
    (hn : As.length = n) (hsize : ls.size = nL) (hstack : st = As.reverse ++ .ref b :: rest) (hW : (rest.map fun v => v.category).sum ≤ 8) (hdg : decode cc pc = .ok (.invokevirtual index, 3)) (hf : cells ≤ R.cells ∧ slots ≤ R.slots)
    (kk : ∀ (H1 : Heap) (locs1 : List Loc), va_P E.1 vwCl w' H1 → va_D A w' → va_S A s.heap H1 locs1 → W p l e R s m args below meth c H1 locs1 cells slots Q (F0 m (pc + 3) ls (.int r :: rest))) : W p l e R s m args below meth c H locs cells slots Q (F0 m pc ls st) := by
  have hPc : va_P E.1 vwCl wc H := fun k q hk => by obtain ⟨i, -, hi⟩ := vsub_at hC k q hk; exact hP i q hi
  exact k_putI (va_runV (As := As) (rest := rest) X.1 (hM H.size) (pk.cw X.1.2.2.2.2 hl hrm hR) ⟨preW_blind _ _ _ _, va_recv X.2.1 hPc hcl hrc, fun U hU hW => ⟨rfl, preW_of hP hD hS X.2.1 X.2.2.1 X.2.2.2.1 hC hnd U hU hW⟩⟩ rfl hn hsize hstack (lv_room hW) hdg hf) X hP hD hS hC hadr hw hadr' kk
theorem cV_putV {is : List Nat} {ci : Nat} {fs : List Value} {q : vw_C} (X : Cx p s m args meth c cc nL own E A) (hM : MtV l y (wl y bytes maxL ret) rm E (.ref b :: As) wc wc') (pk : PkV q.1 y bytes maxL ret n) (hl : Cond.methodLink own index y ∈ lw_g) (hrm : rm.cells = 0 ∧ rm.slots = 0) (hR : rm.frames + 1 ≤ R.frames ∧ 8 + (maxL + 11) + rm.locals ≤ R.locals) (hP : va_P E.1 vwCl wb H) (hD : va_D A wb) (hS : va_S A s.heap H locs)
    (hC : is.map (fun i => wb[i]?) = wc.map some) (hnd : va_nd is = true) (hrc : wc[0]? = some (b, .inr (ci, fs))) (hcl : vwCl[ci]? = some q) (hadr : wc'.map Prod.fst = wc.map Prod.fst) (hw : wput wb is wc' = w') (hadr' : w'.map Prod.fst = wb.map Prod.fst)
    (hn : As.length = n) (hsize : ls.size = nL) (hstack : st = As.reverse ++ .ref b :: rest) (hW : (rest.map fun v => v.category).sum ≤ 8) (hdg : decode cc pc = .ok (.invokevirtual index, 3)) (hf : cells ≤ R.cells ∧ slots ≤ R.slots)
    (kk : ∀ (H1 : Heap) (locs1 : List Loc), va_P E.1 vwCl w' H1 → va_D A w' → va_S A s.heap H1 locs1 → W p l e R s m args below meth c H1 locs1 cells slots Q (F0 m (pc + 3) ls rest)) : W p l e R s m args below meth c H locs cells slots Q (F0 m pc ls st) := by
  have hPc : va_P E.1 vwCl wc H := fun k q hk => by obtain ⟨i, -, hi⟩ := vsub_at hC k q hk; exact hP i q hi
  exact k_putV (va_runV (As := As) (rest := rest) X.1 (hM H.size) (pk.cw X.1.2.2.2.2 hl hrm hR) ⟨preW_blind _ _ _ _, va_recv X.2.1 hPc hcl hrc, fun U hU hW => ⟨rfl, preW_of hP hD hS X.2.1 X.2.2.1 X.2.2.2.1 hC hnd U hU hW⟩⟩ rfl hn hsize hstack (lv_room hW) hdg hf) X hP hD hS hC hadr hw hadr' kk
theorem cV_roI {r : Int32} {is : List Nat} {ci : Nat} {fs : List Value} {q : vw_C} (X : Cx p s m args meth c cc nL own E A) (hM : MtI l y (wl y bytes maxL ret) rm E (.ref b :: As) wc r wc) (pk : PkV q.1 y bytes maxL ret n) (hl : Cond.methodLink own index y ∈ lw_g) (hrm : rm.cells = 0 ∧ rm.slots = 0) (hR : rm.frames + 1 ≤ R.frames ∧ 8 + (maxL + 11) + rm.locals ≤ R.locals) (hP : va_P E.1 vwCl wb H) (hD : va_D A wb) (hS : va_S A s.heap H locs)
    (hC : is.map (fun i => wb[i]?) = wc.map some) (hnd : va_nd is = true) (hrc : wc[0]? = some (b, .inr (ci, fs))) (hcl : vwCl[ci]? = some q)
    (hn : As.length = n) (hsize : ls.size = nL) (hstack : st = As.reverse ++ .ref b :: rest) (hW : (rest.map fun v => v.category).sum ≤ 8) (hdg : decode cc pc = .ok (.invokevirtual index, 3)) (hf : cells ≤ R.cells ∧ slots ≤ R.slots)
    (kk : ∀ (H1 : Heap) (locs1 : List Loc), va_P E.1 vwCl wb H1 → va_S A s.heap H1 locs1 → W p l e R s m args below meth c H1 locs1 cells slots Q (F0 m (pc + 3) ls (.int r :: rest))) : W p l e R s m args below meth c H locs cells slots Q (F0 m pc ls st) := by
  have hPc : va_P E.1 vwCl wc H := fun k q hk => by obtain ⟨i, -, hi⟩ := vsub_at hC k q hk; exact hP i q hi
  exact k_roI (va_runV (As := As) (rest := rest) X.1 (hM H.size) (pk.cw X.1.2.2.2.2 hl hrm hR) ⟨preW_blind _ _ _ _, va_recv X.2.1 hPc hcl hrc, fun U hU hW => ⟨rfl, preW_of hP hD hS X.2.1 X.2.2.1 X.2.2.2.1 hC hnd U hU hW⟩⟩ rfl hn hsize hstack (lv_room hW) hdg hf) X hP hD hS hC kk
theorem cV_allI {r : Int32} {ci : Nat} {fs : List Value} {q : vw_C} (X : Cx p s m args meth c cc nL own E A) (hM : MtI l y (wl y bytes maxL ret) rm E (.ref b :: As) wb r w') (pk : PkV q.1 y bytes maxL ret n) (hl : Cond.methodLink own index y ∈ lw_g) (hrm : rm.cells = 0 ∧ rm.slots = 0) (hR : rm.frames + 1 ≤ R.frames ∧ 8 + (maxL + 11) + rm.locals ≤ R.locals) (hP : va_P E.1 vwCl wb H) (hD : va_D A wb) (hS : va_S A s.heap H locs)
    (hrc : wb[0]? = some (b, .inr (ci, fs))) (hcl : vwCl[ci]? = some q) (hadr' : w'.map Prod.fst = wb.map Prod.fst)
    (hn : As.length = n) (hsize : ls.size = nL) (hstack : st = As.reverse ++ .ref b :: rest) (hW : (rest.map fun v => v.category).sum ≤ 8) (hdg : decode cc pc = .ok (.invokevirtual index, 3)) (hf : cells ≤ R.cells ∧ slots ≤ R.slots)
    (kk : ∀ (H1 : Heap) (locs1 : List Loc), va_P E.1 vwCl w' H1 → va_D A w' → va_S A s.heap H1 locs1 → W p l e R s m args below meth c H1 locs1 cells slots Q (F0 m (pc + 3) ls (.int r :: rest))) : W p l e R s m args below meth c H locs cells slots Q (F0 m pc ls st) :=
  k_allI (va_runV (As := As) (rest := rest) X.1 (hM H.size) (pk.cw X.1.2.2.2.2 hl hrm hR) ⟨preW_blind _ _ _ _, va_recv X.2.1 hP hcl hrc, fun U hU hW => ⟨rfl, preW_all X hP hD hS U hU hW⟩⟩ rfl hn hsize hstack (lv_room hW) hdg hf) X hD hS hadr' kk
theorem cV_allV {ci : Nat} {fs : List Value} {q : vw_C} (X : Cx p s m args meth c cc nL own E A) (hM : MtV l y (wl y bytes maxL ret) rm E (.ref b :: As) wb w') (pk : PkV q.1 y bytes maxL ret n) (hl : Cond.methodLink own index y ∈ lw_g) (hrm : rm.cells = 0 ∧ rm.slots = 0) (hR : rm.frames + 1 ≤ R.frames ∧ 8 + (maxL + 11) + rm.locals ≤ R.locals) (hP : va_P E.1 vwCl wb H) (hD : va_D A wb) (hS : va_S A s.heap H locs)
    (hrc : wb[0]? = some (b, .inr (ci, fs))) (hcl : vwCl[ci]? = some q) (hadr' : w'.map Prod.fst = wb.map Prod.fst)
    (hn : As.length = n) (hsize : ls.size = nL) (hstack : st = As.reverse ++ .ref b :: rest) (hW : (rest.map fun v => v.category).sum ≤ 8) (hdg : decode cc pc = .ok (.invokevirtual index, 3)) (hf : cells ≤ R.cells ∧ slots ≤ R.slots)
    (kk : ∀ (H1 : Heap) (locs1 : List Loc), va_P E.1 vwCl w' H1 → va_D A w' → va_S A s.heap H1 locs1 → W p l e R s m args below meth c H1 locs1 cells slots Q (F0 m (pc + 3) ls rest)) : W p l e R s m args below meth c H locs cells slots Q (F0 m pc ls st) :=
  k_allV (va_runV (As := As) (rest := rest) X.1 (hM H.size) (pk.cw X.1.2.2.2.2 hl hrm hR) ⟨preW_blind _ _ _ _, va_recv X.2.1 hP hcl hrc, fun U hU hW => ⟨rfl, preW_all X hP hD hS U hU hW⟩⟩ rfl hn hsize hstack (lv_room hW) hdg hf) X hD hS hadr' kk
/-- a static method that reads a part of the world (or none) -/
theorem cS_roI {r : Int32} {is : List Nat} (X : Cx p s m args meth c cc nL own E A) (hM : MtI l y (wl y bytes maxL ret) rm E As wc r wc) (pk : PkS y bytes maxL ret n) (hl : Cond.methodLink own index y ∈ lw_g) (hrm : rm.cells = 0 ∧ rm.slots = 0) (hR : rm.frames + 1 ≤ R.frames ∧ 8 + (maxL + 11) + rm.locals ≤ R.locals) (hP : va_P E.1 vwCl wb H) (hD : va_D A wb) (hS : va_S A s.heap H locs)
    (hC : is.map (fun i => wb[i]?) = wc.map some) (hnd : va_nd is = true)
    (hn : As.length = n) (hsize : ls.size = nL) (hstack : st = As.reverse ++ rest) (hW : (rest.map fun v => v.category).sum ≤ 8) (hdg : decode cc pc = .ok (.invokestatic index, 3)) (hf : cells ≤ R.cells ∧ slots ≤ R.slots)
    (kk : ∀ (H1 : Heap) (locs1 : List Loc), va_P E.1 vwCl wb H1 → va_S A s.heap H1 locs1 → W p l e R s m args below meth c H1 locs1 cells slots Q (F0 m (pc + 3) ls (.int r :: rest))) : W p l e R s m args below meth c H locs cells slots Q (F0 m pc ls st) :=
  k_roI (va_runS (As := As) (rest := rest) X.1 (hM H.size) (pk.cw X.1.2.2.2.2 hl hrm hR) ⟨preW_blind _ _ _ _, fun U hU hW => ⟨rfl, preW_of hP hD hS X.2.1 X.2.2.1 X.2.2.2.1 hC hnd U hU hW⟩⟩ rfl hn hsize hstack (lv_room hW) hdg hf) X hP hD hS hC kk
/-- a method of a text constant -/
theorem cStr {r : Int32} {i : Nat} (X : Cx p s m args meth c cc nL own E A) (hM : MtI l y (wl y bytes maxL ret) rm E (.ref (E.2.2 (10 + i)) :: As) [] r []) (hi : i < 4) (pk : PkV "java/lang/String" y bytes maxL ret n) (hl : Cond.methodLink own index y ∈ lw_g) (hrm : rm.cells = 0 ∧ rm.slots = 0) (hR : rm.frames + 1 ≤ R.frames ∧ 8 + (maxL + 11) + rm.locals ≤ R.locals) (hP : va_P E.1 vwCl wb H) (hD : va_D A wb) (hS : va_S A s.heap H locs)
    (hn : As.length = n) (hsize : ls.size = nL) (hstack : st = As.reverse ++ .ref (E.2.2 (10 + i)) :: rest) (hW : (rest.map fun v => v.category).sum ≤ 8) (hdg : decode cc pc = .ok (.invokevirtual index, 3)) (hf : cells ≤ R.cells ∧ slots ≤ R.slots)
    (kk : ∀ (H1 : Heap) (locs1 : List Loc), va_P E.1 vwCl wb H1 → va_S A s.heap H1 locs1 → W p l e R s m args below meth c H1 locs1 cells slots Q (F0 m (pc + 3) ls (.int r :: rest))) : W p l e R s m args below meth c H locs cells slots Q (F0 m pc ls st) :=
  k_roI (is := []) (va_runV (As := As) (rest := rest) X.1 (hM H.size) (pk.cw X.1.2.2.2.2 hl hrm hR) ⟨preW_blind _ _ _ _, vk_recv X.2.2.1.strs hi hS, fun U hU hW => ⟨rfl, preW_of (is := []) hP hD hS X.2.1 X.2.2.1 X.2.2.2.1 rfl rfl U hU hW⟩⟩ rfl hn hsize hstack (lv_room hW) hdg hf) X hP hD hS rfl kk
end CALLS
section ROWS
variable {p : Program} {l : Launch} {e : Env} {R : Room} {s : State} {m : MethodId} {args : Array Value} {below : List Frame} {meth : Method} {c : Code} {H : Heap} {locs : List Loc} {cells slots : Nat} {Q : State → Prop}
variable {cc : ByteArray} {pc nL : Nat} {ls : Array Slot} {rest : List Value} {A : Nat → Prop} {E : Ev} {w w' : va_W} {own : String} {a : Nat}
theorem r_get {C : String} {T : u_T} {N ci index : Nat} (X : Cx p s m args meth c cc nL own E A) (hP : va_P E.1 vwCl w H) (q0 : Nat) {fs : List Value} (he : w[q0]? = some (a, .inr (ci, fs))) (hc : vwCl[ci]? = some (C, T, N)) (hin : ∀ w ∈ u_ws C T N, w ∈ lw_g) (k : Nat) (hk : k < N) (hlink : Cond.fieldLink own index (T k).1 (T k).2.1 (T k).2.2.1 ∈ lw_g) {v : Value} (hv : fs[k]? = some v) (hdg : decode cc pc = .ok (.getfield index, 3))
    (kk : W p l e R s m args below meth c H locs cells slots Q (F0 m (pc + 3) ls (v :: rest))) : W p l e R s m args below meth c H locs cells slots Q (F0 m pc ls (.ref a :: rest)) :=
  va_get (D := E.1) (ci := ci) (v := v) (C := C) (T := T) (N := N) X.1.1 X.1.2.1 X.1.2.2.2.2 hin X.1.2.2.2.1 X.2.1 hP q0 he hc k hk (X.1.2.2.2.2 _ hlink) (fun _ h9 => h9) hv hdg kk
theorem r_put {C : String} {T : u_T} {N ci index : Nat} (X : Cx p s m args meth c cc nL own E A) (hP : va_P E.1 vwCl w H) (hD : va_D A w) (hS : va_S A s.heap H locs) (q0 : Nat) {fs : List Value} (he : w[q0]? = some (a, .inr (ci, fs))) (hc : vwCl[ci]? = some (C, T, N)) (hin : ∀ w ∈ u_ws C T N, w ∈ lw_g) (ty0 : Nat → FieldType) (hty : ∀ k, k < N → parseFieldDescriptor (T k).2.2.1 = some (ty0 k)) (hnm : ∀ a, a < N → ∀ b, b < N → a ≠ b → (T a).2.1 ≠ (T b).2.1) (k : Nat) (hk : k < N) (hlink : Cond.fieldLink own index (T k).1 (T k).2.1 (T k).2.2.1 ∈ lw_g) (hfin : (T k).2.2.2 = false) {ty : FieldType} {v : Value} (hd : ty0 k = ty) (hn : narrow ty v = v) (hfit : fits ty v = true) (hl : k < fs.length) (hw : w.set q0 (a, .inr (ci, fs.set k v)) = w')
    (hdg : decode cc pc = .ok (.putfield index, 3)) (kk : ∀ (H1 : Heap) (locs1 : List Loc), va_P E.1 vwCl w' H1 → va_D A w' → va_S A s.heap H1 locs1 → W p l e R s m args below meth c H1 locs1 cells slots Q (F0 m (pc + 3) ls rest)) : W p l e R s m args below meth c H locs cells slots Q (F0 m pc ls (v :: .ref a :: rest)) := by
  subst hw
  exact va_put (D := E.1) (ci := ci) (v := v) (ty := ty) (C := C) (T := T) (N := N) X.1.1 X.1.2.1 X.1.2.2.2.2 hin ty0 hty hnm X.1.2.2.2.1 X.2.1 hP hD hS q0 he hc k hk (X.1.2.2.2.2 _ hlink) (fun _ h9 => h9) hfin (by rw [hty k hk, hd]) hn hfit hl hdg kk
theorem r_iald (X : Cx p s m args meth c cc nL own E A) (hP : va_P E.1 vwCl w H) (q0 : Nat) {n : Nat} {f : Nat → Int32} (ha : w[q0]? = some (a, .inl (E.2.1 0, n, .inl f))) {i : Int32} (hin : vp_in i n) (hdg : decode cc pc = .ok (.iaload, 1))
    (kk : W p l e R s m args below meth c H locs cells slots Q (F0 m (pc + 1) ls (.int (f i.toNatClampNeg) :: rest))) : W p l e R s m args below meth c H locs cells slots Q (F0 m pc ls (.int i :: .ref a :: rest)) :=
  va_iald X.1.1 X.1.2.1 X.2.1 hP q0 0 ha rfl hin hdg kk
theorem r_zald (X : Cx p s m args meth c cc nL own E A) (hP : va_P E.1 vwCl w H) (q0 : Nat) {n : Nat} {f : Nat → Int32} (ha : w[q0]? = some (a, .inl (E.2.1 1, n, .inl f))) {i : Int32} (hin : vp_in i n) (hdg : decode cc pc = .ok (.baload, 1))
    (kk : W p l e R s m args below meth c H locs cells slots Q (F0 m (pc + 1) ls (.int (f i.toNatClampNeg) :: rest))) : W p l e R s m args below meth c H locs cells slots Q (F0 m pc ls (.int i :: .ref a :: rest)) :=
  va_zald X.1.1 X.1.2.1 X.2.1 hP q0 1 ha rfl hin hdg kk
theorem r_iast (X : Cx p s m args meth c cc nL own E A) (hP : va_P E.1 vwCl w H) (hD : va_D A w) (hS : va_S A s.heap H locs) (q0 : Nat) {n : Nat} {f : Nat → Int32} (ha : w[q0]? = some (a, .inl (E.2.1 0, n, .inl f))) {i x : Int32} (hin : vp_in i n) (hw : w.set q0 (a, .inl (E.2.1 0, n, .inl (upd f i.toNatClampNeg x))) = w') (hdg : decode cc pc = .ok (.iastore, 1))
    (kk : ∀ (H1 : Heap) (locs1 : List Loc), va_P E.1 vwCl w' H1 → va_D A w' → va_S A s.heap H1 locs1 → W p l e R s m args below meth c H1 locs1 cells slots Q (F0 m (pc + 1) ls rest)) : W p l e R s m args below meth c H locs cells slots Q (F0 m pc ls (.int x :: .int i :: .ref a :: rest)) := by
  subst hw
  exact va_iast X.1.1 X.1.2.1 X.2.1 hP hD hS q0 0 ha rfl hin hdg kk
theorem r_zast (X : Cx p s m args meth c cc nL own E A) (hP : va_P E.1 vwCl w H) (hD : va_D A w) (hS : va_S A s.heap H locs) (q0 : Nat) {n : Nat} {f : Nat → Int32} (ha : w[q0]? = some (a, .inl (E.2.1 1, n, .inl f))) {i x : Int32} (hin : vp_in i n) (hw : w.set q0 (a, .inl (E.2.1 1, n, .inl (upd f i.toNatClampNeg (vp_nar .boolean x)))) = w') (hdg : decode cc pc = .ok (.bastore, 1))
    (kk : ∀ (H1 : Heap) (locs1 : List Loc), va_P E.1 vwCl w' H1 → va_D A w' → va_S A s.heap H1 locs1 → W p l e R s m args below meth c H1 locs1 cells slots Q (F0 m (pc + 1) ls rest)) : W p l e R s m args below meth c H locs cells slots Q (F0 m pc ls (.int x :: .int i :: .ref a :: rest)) := by
  subst hw
  exact va_zast X.1.1 X.1.2.1 X.2.1 hP hD hS q0 1 ha rfl hin hdg kk
/-- a reference out of an array of objects, at a place that is known -/
theorem r_aldq (X : Cx p s m args meth c cc nL own E A) (hP : va_P E.1 vwCl w H) (q0 t0 : Nat) {cA : ClassId} {C : String} {n : Nat} {f : Nat → Option Nat} (ha : w[q0]? = some (a, .inl (cA, n, .inr (.inr (.inr (.inr f)))))) (ht : (tyl E.2.1)[t0]? = some (cA, .object C)) {i z : Int32} (hi : i = z) (hin : vp_in z n) {v : Nat} (hv : f z.toNatClampNeg = some v) (hdg : decode cc pc = .ok (.aaload, 1))
    (kk : W p l e R s m args below meth c H locs cells slots Q (F0 m (pc + 1) ls (.ref v :: rest))) : W p l e R s m args below meth c H locs cells slots Q (F0 m pc ls (.int i :: .ref a :: rest)) := by
  subst hi
  refine va_aldq X.1.1 X.1.2.1 X.2.1 hP q0 t0 ha ht hin hdg ?_
  rw [hv]
  exact kk
theorem r_copy (X : Cx p s m args meth c cc nL own E A) (hsz : ls.size = nL) (hP : va_P E.1 vwCl w H) (hD : va_D A w) (hS : va_S A s.heap H locs) {index : Nat} (hlink : Cond.methodLink own index arraycopyName ∈ lw_g) (hnat : Cond.native arraycopyName ∈ lw_g) (hstat : Cond.static arraycopyName ∈ lw_g) (hini : Cond.initialized "java/lang/System" ∈ lw_g) (q0 q1 : Nat) {a0 n0 n1 : Nat} {f g : Nat → Int32} (ha0 : w[q0]? = some (a0, .inl (E.2.1 0, n0, .inl f))) (ha1 : w[q1]? = some (a, .inl (E.2.1 0, n1, .inl g)))
    {sp dp n : Int32} (hck : (¬ sp < 0 ∧ ¬ dp < 0 ∧ ¬ n < 0) ∧ sp.toNatClampNeg + n.toNatClampNeg ≤ n0 ∧ dp.toNatClampNeg + n.toNatClampNeg ≤ n1) (hframes : 1 ≤ R.frames) (hlocals : (rest.map fun v => v.category).sum + (nativeFrameWords "java/lang/System" "arraycopy" 5 + 11) ≤ R.locals) (hw : w.set q1 (a, .inl (E.2.1 0, n1, .inl (va_cpy f g sp.toNatClampNeg dp.toNatClampNeg n.toNatClampNeg))) = w') (hdg : decode cc pc = .ok (.invokestatic index, 3))
    (kk : ∀ (H1 : Heap) (locs1 : List Loc), va_P E.1 vwCl w' H1 → va_D A w' → va_S A s.heap H1 locs1 → W p l e R s m args below meth c H1 locs1 cells slots Q (F0 m (pc + 3) ls rest)) : W p l e R s m args below meth c H locs cells slots Q (F0 m pc ls (.int n :: .int dp :: .ref a :: .int sp :: .ref a0 :: rest)) := by
  subst hw
  exact va_copyi (ty := .int) X.1.1 X.1.2.1 (X.1.2.2.1.trans hsz.symm) X.1.2.2.2.1 (X.1.2.2.2.2 _ hlink) (X.1.2.2.2.2 _ hnat) (X.1.2.2.2.2 _ hstat) (X.1.2.2.2.2 _ hini) X.2.1 hP hD hS q0 q1 0 0 ha0 ha1 rfl rfl rfl hck.1.1 hck.1.2.1 hck.1.2.2 hck.2.1 hck.2.2 (fun _ _ => rfl) hframes hlocals hdg kk
theorem r_max (X : Cx p s m args meth c cc nL own E A) (hsz : ls.size = nL) {index : Nat} (hlink : Cond.methodLink own index Lib.Math.max.name ∈ lw_g) (hstat : Cond.static Lib.Math.max.name ∈ lw_g) (hini : Cond.initialized "java/lang/Math" ∈ lw_g) (hcode : Cond.code Lib.Math.max.name Lib.Math.max.code 2 (some .int) ∈ lw_g) (hframes : 1 ≤ R.frames) (hlocals : (rest.map fun v => v.category).sum + 13 ≤ R.locals) (hc : cells ≤ R.cells) (hs : slots ≤ R.slots) {x y : Int32} (hdg : decode cc pc = .ok (.invokestatic index, 3))
    (kk : W p l e R s m args below meth c H locs cells slots Q (F0 m (pc + 3) ls (.int (if x < y then y else x) :: rest))) : W p l e R s m args below meth c H locs cells slots Q (F0 m pc ls (.int y :: .int x :: rest)) :=
  va_mmax X.1.1 X.1.2.1 (X.1.2.2.1.trans hsz.symm) X.1.2.2.2.1 (X.1.2.2.2.2 _ hlink) (X.1.2.2.2.2 _ hstat) (X.1.2.2.2.2 _ hini) (X.1.2.2.2.2 _ hcode) hframes hlocals hc hs hdg kk
theorem r_min (X : Cx p s m args meth c cc nL own E A) (hsz : ls.size = nL) {index : Nat} (hlink : Cond.methodLink own index Lib.Math.min.name ∈ lw_g) (hstat : Cond.static Lib.Math.min.name ∈ lw_g) (hini : Cond.initialized "java/lang/Math" ∈ lw_g) (hcode : Cond.code Lib.Math.min.name Lib.Math.min.code 2 (some .int) ∈ lw_g) (hframes : 1 ≤ R.frames) (hlocals : (rest.map fun v => v.category).sum + 13 ≤ R.locals) (hc : cells ≤ R.cells) (hs : slots ≤ R.slots) {x y : Int32} (hdg : decode cc pc = .ok (.invokestatic index, 3))
    (kk : W p l e R s m args below meth c H locs cells slots Q (F0 m (pc + 3) ls (.int (if y < x then y else x) :: rest))) : W p l e R s m args below meth c H locs cells slots Q (F0 m pc ls (.int y :: .int x :: rest)) :=
  va_mmin X.1.1 X.1.2.1 (X.1.2.2.1.trans hsz.symm) X.1.2.2.2.1 (X.1.2.2.2.2 _ hlink) (X.1.2.2.2.2 _ hstat) (X.1.2.2.2.2 _ hini) (X.1.2.2.2.2 _ hcode) hframes hlocals hc hs hdg kk
theorem r_abs (X : Cx p s m args meth c cc nL own E A) (hsz : ls.size = nL) {index : Nat} (hlink : Cond.methodLink own index Lib.Math.abs.name ∈ lw_g) (hstat : Cond.static Lib.Math.abs.name ∈ lw_g) (hini : Cond.initialized "java/lang/Math" ∈ lw_g) (hcode : Cond.code Lib.Math.abs.name Lib.Math.abs.code 1 (some .int) ∈ lw_g) (hframes : 1 ≤ R.frames) (hlocals : (rest.map fun v => v.category).sum + 13 ≤ R.locals) (hc : cells ≤ R.cells) (hs : slots ≤ R.slots) {x : Int32} (hdg : decode cc pc = .ok (.invokestatic index, 3))
    (kk : W p l e R s m args below meth c H locs cells slots Q (F0 m (pc + 3) ls (.int (if 0 ≤ x then x else 0 - x) :: rest))) : W p l e R s m args below meth c H locs cells slots Q (F0 m pc ls (.int x :: rest)) :=
  va_mabs X.1.1 X.1.2.1 (X.1.2.2.1.trans hsz.symm) X.1.2.2.2.1 (X.1.2.2.2.2 _ hlink) (X.1.2.2.2.2 _ hstat) (X.1.2.2.2.2 _ hini) (X.1.2.2.2.2 _ hcode) hframes hlocals hc hs hdg kk
/-- the ends -/
theorem r_iret {v r : Int32} (X : Cx p s m args meth c cc nL own E A) (hr : meth.sig.returnType = some .int) (hP : va_P E.1 vwCl w H) (hS : va_S A s.heap H locs) (hv : v = r) (hw : w = w') (hdg : decode cc pc = .ok (.ireturn, 1)) : W p l e R s m args below meth c H locs cells slots (MQ below (va_Qi (fun x (_ : Unit) => x = r) (fun _ t => QW E w' t) A) args s cells slots A) (F0 m pc ls [.int v]) := by
  subst hv; subst hw
  exact W.iret X.1.1 X.1.2.1 hr (fun t ht hW => ⟨⟨v, (), rfl, rfl, by show va_P _ _ _ _; rw [ht]; exact hP⟩, hS.F ht⟩) hS.2.2 hdg X.2.2.2.2
theorem r_zret {v r : Int32} (X : Cx p s m args meth c cc nL own E A) (hr : meth.sig.returnType = some .boolean) (hP : va_P E.1 vwCl w H) (hS : va_S A s.heap H locs) (hn : narrow .boolean (.int v) = .int v) (hv : v = r) (hw : w = w') (hdg : decode cc pc = .ok (.ireturn, 1)) : W p l e R s m args below meth c H locs cells slots (MQ below (va_Qi (fun x (_ : Unit) => x = r) (fun _ t => QW E w' t) A) args s cells slots A) (F0 m pc ls [.int v]) := by
  subst hv; subst hw
  exact W.zret X.1.1 X.1.2.1 hr hn (fun t ht hW => ⟨⟨v, (), rfl, rfl, by show va_P _ _ _ _; rw [ht]; exact hP⟩, hS.F ht⟩) hS.2.2 hdg X.2.2.2.2
theorem r_cret {v r : Int32} (X : Cx p s m args meth c cc nL own E A) (hr : meth.sig.returnType = some .char) (hP : va_P E.1 vwCl w H) (hS : va_S A s.heap H locs) (hn : narrow .char (.int v) = .int v) (hv : v = r) (hw : w = w') (hdg : decode cc pc = .ok (.ireturn, 1)) : W p l e R s m args below meth c H locs cells slots (MQ below (va_Qi (fun x (_ : Unit) => x = r) (fun _ t => QW E w' t) A) args s cells slots A) (F0 m pc ls [.int v]) := by
  subst hv; subst hw
  exact W.zret X.1.1 X.1.2.1 hr hn (fun t ht hW => ⟨⟨v, (), rfl, rfl, by show va_P _ _ _ _; rw [ht]; exact hP⟩, hS.F ht⟩) hS.2.2 hdg X.2.2.2.2
theorem r_bret {v r : Int32} (X : Cx p s m args meth c cc nL own E A) (hr : meth.sig.returnType = some .byte) (hP : va_P E.1 vwCl w H) (hS : va_S A s.heap H locs) (hn : narrow .byte (.int v) = .int v) (hv : v = r) (hw : w = w') (hdg : decode cc pc = .ok (.ireturn, 1)) : W p l e R s m args below meth c H locs cells slots (MQ below (va_Qi (fun x (_ : Unit) => x = r) (fun _ t => QW E w' t) A) args s cells slots A) (F0 m pc ls [.int v]) := by
  subst hv; subst hw
  exact W.zret X.1.1 X.1.2.1 hr hn (fun t ht hW => ⟨⟨v, (), rfl, rfl, by show va_P _ _ _ _; rw [ht]; exact hP⟩, hS.F ht⟩) hS.2.2 hdg X.2.2.2.2
theorem r_vret (X : Cx p s m args meth c cc nL own E A) (hr : meth.sig.returnType = none) (hP : va_P E.1 vwCl w H) (hS : va_S A s.heap H locs) (hw : w = w') (hdg : decode cc pc = .ok (.return_, 1)) : W p l e R s m args below meth c H locs cells slots (MQ below (va_Qv (fun _ : Unit => True) (fun _ t => QW E w' t) A) args s cells slots A) (F0 m pc ls []) := by
  subst hw
  exact W.vret X.1.1 X.1.2.1 hr (fun t ht hW => ⟨⟨(), rfl, trivial, by show va_P _ _ _ _; rw [ht]; exact hP⟩, hS.F ht⟩) hS.2.2 hdg X.2.2.2.2
theorem r_lret {v r : Int64} (X : Cx p s m args meth c cc nL own E A) (hr : meth.sig.returnType = some .long) (hP : va_P E.1 vwCl w H) (hS : va_S A s.heap H locs) (hv : v = r) (hw : w = w') (hdg : decode cc pc = .ok (.lreturn, 1)) : W p l e R s m args below meth c H locs cells slots (MQ below (va_Ql (fun x (_ : Unit) => x = r) (fun _ t => QW E w' t) A) args s cells slots A) (F0 m pc ls [.long v]) := by
  subst hv; subst hw
  exact W.lret X.1.1 X.1.2.1 hr (fun t ht hW => ⟨⟨v, (), rfl, rfl, by show va_P _ _ _ _; rw [ht]; exact hP⟩, hS.F ht⟩) hS.2.2 hdg X.2.2.2.2
end ROWS
/-- a method's walk gives its contract -/
theorem mt_of {l : Launch} {y : MethodName} {rm : Room} {E : Ev} {av : List Value} {w : va_W} {cc : ByteArray} {maxL : Nat} {ret : Option FieldType} {QQ : (Nat → Prop) → Array Value → State → Outcome → State → Prop} (hy : plainName y.cls = true) (hsl : (lg_sl av).length ≤ maxL)
    (body : ∀ (p : Program) (e : Env) (s : State) (m : MethodId) (below : List Frame) (meth : Method) (c : Code) (A : Nat → Prop) (ls : Array Slot), Cx p s m av.toArray meth c cc maxL y.cls E A → meth.sig.returnType = ret → va_P E.1 vwCl w s.heap → va_D A w → va_S A s.heap s.heap [] → lv_has ls maxL (lv_args 0 av) →
      W p l e rm s m av.toArray below meth c s.heap [] 0 0 (MQ below (QQ A) av.toArray s 0 0 A) (F0 m 0 ls [])) (sz : Nat) : Met l y (wl y cc maxL ret) rm (va_Pc av (PreW E w sz)) (QQ (va_A w sz)) 0 0 (va_A w sz) := by
  refine Met.ofW (cc := cc) (maxL := maxL) (ret := ret) hy rfl ?_
  intro p e s m args below meth c s₁ B hml hv
  obtain ⟨rfl, hsz, hP, hK, hD0, hAm⟩ := hv
  subst hsz
  have hD := hD0.self (sz := s.heap.size)
  have hl := lv_entry av (n := maxL) hsl
  rw [lg_entry_eq]
  exact body p e s m below meth c (va_A w s.heap.size) _ ⟨⟨B.exec, B.bytes, hml, findClass_of_methodNamed B.named, fun w hw => atoms_spec (ws := wl y cc maxL ret) B.pre w (List.mem_cons_of_mem _ hw)⟩, hK, hAm, fun q h => Or.inr h, B.notSynchronized⟩ B.returns hP hD va_S.rf hl
/-! ===== pure: checks, binds, loops ===== -/
/-- a place is looked at before it is used -/
def chk {R : Type} (i : Int32) (n : Nat) (k : Option R) : Option R := if i < 0 ∨ n ≤ i.toNatClampNeg then none else k
theorem chk_in {R : Type} {i : Int32} {n : Nat} {k : Option R} {o : R} (h : chk i n k = some o) : vp_in i n ∧ k = some o := by
  unfold chk at h
  split at h
  · cases h
  · next g => exact ⟨g, h⟩
def cnz {R : Type} (y : Int32) (k : Option R) : Option R := if y = 0 then none else k
theorem cnz_in {R : Type} {y : Int32} {k : Option R} {o : R} (h : cnz y k = some o) : ¬ y = 0 ∧ k = some o := by
  unfold cnz at h
  split at h
  · cases h
  · next g => exact ⟨g, h⟩
def cbl {R : Type} (v : Int32) (k : Option R) : Option R := if v = 0 ∨ v = 1 then k else none
theorem cbl_in {R : Type} {v : Int32} {k : Option R} {o : R} (h : cbl v k = some o) : narrow .boolean (.int v) = .int v ∧ k = some o := by
  unfold cbl at h
  split at h
  · next g =>
    refine ⟨?_, h⟩
    rcases g with g | g <;> (subst g; rfl)
  · cases h
def ccp {R : Type} (sp dp n : Int32) (n0 n1 : Nat) (k : Option R) : Option R := if (¬ sp < 0 ∧ ¬ dp < 0 ∧ ¬ n < 0) ∧ sp.toNatClampNeg + n.toNatClampNeg ≤ n0 ∧ dp.toNatClampNeg + n.toNatClampNeg ≤ n1 then k else none
theorem ccp_in {R : Type} {sp dp n : Int32} {n0 n1 : Nat} {k : Option R} {o : R} (h : ccp sp dp n n0 n1 k = some o) : ((¬ sp < 0 ∧ ¬ dp < 0 ∧ ¬ n < 0) ∧ sp.toNatClampNeg + n.toNatClampNeg ≤ n0 ∧ dp.toNatClampNeg + n.toNatClampNeg ≤ n1) ∧ k = some o := by
  unfold ccp at h
  split at h
  · next g => exact ⟨g, h⟩
  · cases h
theorem obd {α β : Type} {o : Option α} {k : α → Option β} {r : β} (h : o.bind k = some r) : ∃ z : α, o = some z ∧ k z = some r := by
  cases o with
  | none => cases h
  | some z => exact ⟨z, rfl, h⟩
theorem ob_none {β : Type} {r : β} {P : Prop} (h : (none : Option β) = some r) : P := by cases h
/-- a table switch, none of whose cases is met -/
theorem tsw_out {x : Int32} {lo hi : Int} (h : ∀ j : Int, lo ≤ j → j ≤ hi → ¬ x = Int32.ofInt j) : x.toInt < lo ∨ hi < x.toInt := by
  rcases Int.lt_or_le x.toInt lo with h1 | h1
  · exact Or.inl h1
  · rcases Int.lt_or_le hi x.toInt with h2 | h2
    · exact Or.inr h2
    · exact absurd (Int32.ofInt_toInt x).symm (h x.toInt h1 h2)
def lc1 {R : Type} {T1 : Type} (step : T1 → (T1 → Option R) → Option R) : Nat → T1 → Option R
  | 0, _ => none
  | n + 1, x1 => step x1 (lc1 step n)
theorem lc1_ind {R : Type} {T1 : Type} {step : T1 → (T1 → Option R) → Option R} {o : R} (G : T1 → Prop) (h : ∀ (x1 : T1) (κ : T1 → Option R), (∀ (x1 : T1), κ x1 = some o → G x1) → step x1 κ = some o → G x1) : ∀ (n : Nat) (x1 : T1), lc1 step n x1 = some o → G x1
  | 0, _, hf => by cases hf
  | n + 1, x1, hf => h x1 (lc1 step n) (lc1_ind G h n) hf
def lc2 {R : Type} {T1 T2 : Type} (step : T1 → T2 → (T1 → T2 → Option R) → Option R) : Nat → T1 → T2 → Option R
  | 0, _, _ => none
  | n + 1, x1, x2 => step x1 x2 (lc2 step n)
theorem lc2_ind {R : Type} {T1 T2 : Type} {step : T1 → T2 → (T1 → T2 → Option R) → Option R} {o : R} (G : T1 → T2 → Prop) (h : ∀ (x1 : T1) (x2 : T2) (κ : T1 → T2 → Option R), (∀ (x1 : T1) (x2 : T2), κ x1 x2 = some o → G x1 x2) → step x1 x2 κ = some o → G x1 x2) : ∀ (n : Nat) (x1 : T1) (x2 : T2), lc2 step n x1 x2 = some o → G x1 x2
  | 0, _, _, hf => by cases hf
  | n + 1, x1, x2, hf => h x1 x2 (lc2 step n) (lc2_ind G h n) hf
def lc3 {R : Type} {T1 T2 T3 : Type} (step : T1 → T2 → T3 → (T1 → T2 → T3 → Option R) → Option R) : Nat → T1 → T2 → T3 → Option R
  | 0, _, _, _ => none
  | n + 1, x1, x2, x3 => step x1 x2 x3 (lc3 step n)
theorem lc3_ind {R : Type} {T1 T2 T3 : Type} {step : T1 → T2 → T3 → (T1 → T2 → T3 → Option R) → Option R} {o : R} (G : T1 → T2 → T3 → Prop) (h : ∀ (x1 : T1) (x2 : T2) (x3 : T3) (κ : T1 → T2 → T3 → Option R), (∀ (x1 : T1) (x2 : T2) (x3 : T3), κ x1 x2 x3 = some o → G x1 x2 x3) → step x1 x2 x3 κ = some o → G x1 x2 x3) : ∀ (n : Nat) (x1 : T1) (x2 : T2) (x3 : T3), lc3 step n x1 x2 x3 = some o → G x1 x2 x3
  | 0, _, _, _, hf => by cases hf
  | n + 1, x1, x2, x3, hf => h x1 x2 x3 (lc3 step n) (lc3_ind G h n) hf
def lc4 {R : Type} {T1 T2 T3 T4 : Type} (step : T1 → T2 → T3 → T4 → (T1 → T2 → T3 → T4 → Option R) → Option R) : Nat → T1 → T2 → T3 → T4 → Option R
  | 0, _, _, _, _ => none
  | n + 1, x1, x2, x3, x4 => step x1 x2 x3 x4 (lc4 step n)
theorem lc4_ind {R : Type} {T1 T2 T3 T4 : Type} {step : T1 → T2 → T3 → T4 → (T1 → T2 → T3 → T4 → Option R) → Option R} {o : R} (G : T1 → T2 → T3 → T4 → Prop) (h : ∀ (x1 : T1) (x2 : T2) (x3 : T3) (x4 : T4) (κ : T1 → T2 → T3 → T4 → Option R), (∀ (x1 : T1) (x2 : T2) (x3 : T3) (x4 : T4), κ x1 x2 x3 x4 = some o → G x1 x2 x3 x4) → step x1 x2 x3 x4 κ = some o → G x1 x2 x3 x4) : ∀ (n : Nat) (x1 : T1) (x2 : T2) (x3 : T3) (x4 : T4), lc4 step n x1 x2 x3 x4 = some o → G x1 x2 x3 x4
  | 0, _, _, _, _, hf => by cases hf
  | n + 1, x1, x2, x3, x4, hf => h x1 x2 x3 x4 (lc4 step n) (lc4_ind G h n) hf
def lc5 {R : Type} {T1 T2 T3 T4 T5 : Type} (step : T1 → T2 → T3 → T4 → T5 → (T1 → T2 → T3 → T4 → T5 → Option R) → Option R) : Nat → T1 → T2 → T3 → T4 → T5 → Option R
  | 0, _, _, _, _, _ => none
  | n + 1, x1, x2, x3, x4, x5 => step x1 x2 x3 x4 x5 (lc5 step n)
theorem lc5_ind {R : Type} {T1 T2 T3 T4 T5 : Type} {step : T1 → T2 → T3 → T4 → T5 → (T1 → T2 → T3 → T4 → T5 → Option R) → Option R} {o : R} (G : T1 → T2 → T3 → T4 → T5 → Prop) (h : ∀ (x1 : T1) (x2 : T2) (x3 : T3) (x4 : T4) (x5 : T5) (κ : T1 → T2 → T3 → T4 → T5 → Option R), (∀ (x1 : T1) (x2 : T2) (x3 : T3) (x4 : T4) (x5 : T5), κ x1 x2 x3 x4 x5 = some o → G x1 x2 x3 x4 x5) → step x1 x2 x3 x4 x5 κ = some o → G x1 x2 x3 x4 x5) : ∀ (n : Nat) (x1 : T1) (x2 : T2) (x3 : T3) (x4 : T4) (x5 : T5), lc5 step n x1 x2 x3 x4 x5 = some o → G x1 x2 x3 x4 x5
  | 0, _, _, _, _, _, hf => by cases hf
  | n + 1, x1, x2, x3, x4, x5, hf => h x1 x2 x3 x4 x5 (lc5 step n) (lc5_ind G h n) hf
def lc6 {R : Type} {T1 T2 T3 T4 T5 T6 : Type} (step : T1 → T2 → T3 → T4 → T5 → T6 → (T1 → T2 → T3 → T4 → T5 → T6 → Option R) → Option R) : Nat → T1 → T2 → T3 → T4 → T5 → T6 → Option R
  | 0, _, _, _, _, _, _ => none
  | n + 1, x1, x2, x3, x4, x5, x6 => step x1 x2 x3 x4 x5 x6 (lc6 step n)
theorem lc6_ind {R : Type} {T1 T2 T3 T4 T5 T6 : Type} {step : T1 → T2 → T3 → T4 → T5 → T6 → (T1 → T2 → T3 → T4 → T5 → T6 → Option R) → Option R} {o : R} (G : T1 → T2 → T3 → T4 → T5 → T6 → Prop) (h : ∀ (x1 : T1) (x2 : T2) (x3 : T3) (x4 : T4) (x5 : T5) (x6 : T6) (κ : T1 → T2 → T3 → T4 → T5 → T6 → Option R), (∀ (x1 : T1) (x2 : T2) (x3 : T3) (x4 : T4) (x5 : T5) (x6 : T6), κ x1 x2 x3 x4 x5 x6 = some o → G x1 x2 x3 x4 x5 x6) → step x1 x2 x3 x4 x5 x6 κ = some o → G x1 x2 x3 x4 x5 x6) : ∀ (n : Nat) (x1 : T1) (x2 : T2) (x3 : T3) (x4 : T4) (x5 : T5) (x6 : T6), lc6 step n x1 x2 x3 x4 x5 x6 = some o → G x1 x2 x3 x4 x5 x6
  | 0, _, _, _, _, _, _, hf => by cases hf
  | n + 1, x1, x2, x3, x4, x5, x6, hf => h x1 x2 x3 x4 x5 x6 (lc6 step n) (lc6_ind G h n) hf
def lc7 {R : Type} {T1 T2 T3 T4 T5 T6 T7 : Type} (step : T1 → T2 → T3 → T4 → T5 → T6 → T7 → (T1 → T2 → T3 → T4 → T5 → T6 → T7 → Option R) → Option R) : Nat → T1 → T2 → T3 → T4 → T5 → T6 → T7 → Option R
  | 0, _, _, _, _, _, _, _ => none
  | n + 1, x1, x2, x3, x4, x5, x6, x7 => step x1 x2 x3 x4 x5 x6 x7 (lc7 step n)
theorem lc7_ind {R : Type} {T1 T2 T3 T4 T5 T6 T7 : Type} {step : T1 → T2 → T3 → T4 → T5 → T6 → T7 → (T1 → T2 → T3 → T4 → T5 → T6 → T7 → Option R) → Option R} {o : R} (G : T1 → T2 → T3 → T4 → T5 → T6 → T7 → Prop) (h : ∀ (x1 : T1) (x2 : T2) (x3 : T3) (x4 : T4) (x5 : T5) (x6 : T6) (x7 : T7) (κ : T1 → T2 → T3 → T4 → T5 → T6 → T7 → Option R), (∀ (x1 : T1) (x2 : T2) (x3 : T3) (x4 : T4) (x5 : T5) (x6 : T6) (x7 : T7), κ x1 x2 x3 x4 x5 x6 x7 = some o → G x1 x2 x3 x4 x5 x6 x7) → step x1 x2 x3 x4 x5 x6 x7 κ = some o → G x1 x2 x3 x4 x5 x6 x7) : ∀ (n : Nat) (x1 : T1) (x2 : T2) (x3 : T3) (x4 : T4) (x5 : T5) (x6 : T6) (x7 : T7), lc7 step n x1 x2 x3 x4 x5 x6 x7 = some o → G x1 x2 x3 x4 x5 x6 x7
  | 0, _, _, _, _, _, _, _, hf => by cases hf
  | n + 1, x1, x2, x3, x4, x5, x6, x7, hf => h x1 x2 x3 x4 x5 x6 x7 (lc7 step n) (lc7_ind G h n) hf
def lc8 {R : Type} {T1 T2 T3 T4 T5 T6 T7 T8 : Type} (step : T1 → T2 → T3 → T4 → T5 → T6 → T7 → T8 → (T1 → T2 → T3 → T4 → T5 → T6 → T7 → T8 → Option R) → Option R) : Nat → T1 → T2 → T3 → T4 → T5 → T6 → T7 → T8 → Option R
  | 0, _, _, _, _, _, _, _, _ => none
  | n + 1, x1, x2, x3, x4, x5, x6, x7, x8 => step x1 x2 x3 x4 x5 x6 x7 x8 (lc8 step n)
theorem lc8_ind {R : Type} {T1 T2 T3 T4 T5 T6 T7 T8 : Type} {step : T1 → T2 → T3 → T4 → T5 → T6 → T7 → T8 → (T1 → T2 → T3 → T4 → T5 → T6 → T7 → T8 → Option R) → Option R} {o : R} (G : T1 → T2 → T3 → T4 → T5 → T6 → T7 → T8 → Prop) (h : ∀ (x1 : T1) (x2 : T2) (x3 : T3) (x4 : T4) (x5 : T5) (x6 : T6) (x7 : T7) (x8 : T8) (κ : T1 → T2 → T3 → T4 → T5 → T6 → T7 → T8 → Option R), (∀ (x1 : T1) (x2 : T2) (x3 : T3) (x4 : T4) (x5 : T5) (x6 : T6) (x7 : T7) (x8 : T8), κ x1 x2 x3 x4 x5 x6 x7 x8 = some o → G x1 x2 x3 x4 x5 x6 x7 x8) → step x1 x2 x3 x4 x5 x6 x7 x8 κ = some o → G x1 x2 x3 x4 x5 x6 x7 x8) : ∀ (n : Nat) (x1 : T1) (x2 : T2) (x3 : T3) (x4 : T4) (x5 : T5) (x6 : T6) (x7 : T7) (x8 : T8), lc8 step n x1 x2 x3 x4 x5 x6 x7 x8 = some o → G x1 x2 x3 x4 x5 x6 x7 x8
  | 0, _, _, _, _, _, _, _, _, hf => by cases hf
  | n + 1, x1, x2, x3, x4, x5, x6, x7, x8, hf => h x1 x2 x3 x4 x5 x6 x7 x8 (lc8 step n) (lc8_ind G h n) hf
end
