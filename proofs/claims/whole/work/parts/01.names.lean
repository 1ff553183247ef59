-- ===== PART A: goes FIRST, ahead of the names: the tables' words, and 'selects' of the private methods out of them =====
/-- a private method of a class that the tables say can be made, by its rows of tables_1 -/
def lw_okq (q : MethodName × Nat) : Prop := (q.1.cls ≠ "java/lang/invoke/MethodHandle" ∧ q.1.cls ≠ "java/lang/invoke/VarHandle") ∧ Cond.instantiable q.1.cls q.2 ∈ tables_1 ∧ Cond.privateMethod q.1 ∈ tables_1 ∧ Cond.instanceMethod q.1 ∈ tables_1
theorem lw_p0 : lw_okq (⟨"HeatBatches", "forgetBest", "()V"⟩, 12) := ⟨⟨by decide +kernel, by decide +kernel⟩, List.mem_of_getElem? (i := 12) (by decide +kernel), List.mem_of_getElem? (i := 178) (by decide +kernel), List.mem_of_getElem? (i := 179) (by decide +kernel)⟩
theorem lw_p1 : lw_okq (⟨"HeatBatches", "isJob", "(I)Z"⟩, 12) := ⟨⟨by decide +kernel, by decide +kernel⟩, List.mem_of_getElem? (i := 12) (by decide +kernel), List.mem_of_getElem? (i := 198) (by decide +kernel), List.mem_of_getElem? (i := 199) (by decide +kernel)⟩
theorem lw_p2 : lw_okq (⟨"HeatBatches", "findBest", "(I)V"⟩, 12) := ⟨⟨by decide +kernel, by decide +kernel⟩, List.mem_of_getElem? (i := 12) (by decide +kernel), List.mem_of_getElem? (i := 231) (by decide +kernel), List.mem_of_getElem? (i := 232) (by decide +kernel)⟩
theorem lw_p3 : lw_okq (⟨"HeatBatches$Search", "listBatches", "()V"⟩, 7) := ⟨⟨by decide +kernel, by decide +kernel⟩, List.mem_of_getElem? (i := 102) (by decide +kernel), List.mem_of_getElem? (i := 239) (by decide +kernel), List.mem_of_getElem? (i := 240) (by decide +kernel)⟩
theorem lw_p4 : lw_okq (⟨"HeatBatches$Search", "listBatch", "(II)V"⟩, 7) := ⟨⟨by decide +kernel, by decide +kernel⟩, List.mem_of_getElem? (i := 102) (by decide +kernel), List.mem_of_getElem? (i := 243) (by decide +kernel), List.mem_of_getElem? (i := 244) (by decide +kernel)⟩
theorem lw_p5 : lw_okq (⟨"HeatBatches$Search", "forgetFinds", "()V"⟩, 7) := ⟨⟨by decide +kernel, by decide +kernel⟩, List.mem_of_getElem? (i := 102) (by decide +kernel), List.mem_of_getElem? (i := 247) (by decide +kernel), List.mem_of_getElem? (i := 248) (by decide +kernel)⟩
theorem lw_p6 : lw_okq (⟨"HeatBatches$Search", "leastLeft", "(IIII)I"⟩, 7) := ⟨⟨by decide +kernel, by decide +kernel⟩, List.mem_of_getElem? (i := 102) (by decide +kernel), List.mem_of_getElem? (i := 258) (by decide +kernel), List.mem_of_getElem? (i := 259) (by decide +kernel)⟩
theorem lw_p7 : lw_okq (⟨"HeatBatches$Search", "part", "(III)I"⟩, 7) := ⟨⟨by decide +kernel, by decide +kernel⟩, List.mem_of_getElem? (i := 102) (by decide +kernel), List.mem_of_getElem? (i := 275) (by decide +kernel), List.mem_of_getElem? (i := 276) (by decide +kernel)⟩
theorem lw_p8 : lw_okq (⟨"HeatBatches$Search", "slotOf", "(I)I"⟩, 7) := ⟨⟨by decide +kernel, by decide +kernel⟩, List.mem_of_getElem? (i := 102) (by decide +kernel), List.mem_of_getElem? (i := 286) (by decide +kernel), List.mem_of_getElem? (i := 287) (by decide +kernel)⟩
theorem lw_p9 : lw_okq (⟨"HeatBatches$Search", "keep", "(II)V"⟩, 7) := ⟨⟨by decide +kernel, by decide +kernel⟩, List.mem_of_getElem? (i := 102) (by decide +kernel), List.mem_of_getElem? (i := 299) (by decide +kernel), List.mem_of_getElem? (i := 300) (by decide +kernel)⟩
theorem lw_p10 : lw_okq (⟨"HeatBatches$Search", "firstBatch", "(IIIII)I"⟩, 7) := ⟨⟨by decide +kernel, by decide +kernel⟩, List.mem_of_getElem? (i := 102) (by decide +kernel), List.mem_of_getElem? (i := 315) (by decide +kernel), List.mem_of_getElem? (i := 316) (by decide +kernel)⟩
theorem lw_p11 : lw_okq (⟨"HeatBatches", "earliestDue", "(II)I"⟩, 12) := ⟨⟨by decide +kernel, by decide +kernel⟩, List.mem_of_getElem? (i := 12) (by decide +kernel), List.mem_of_getElem? (i := 351) (by decide +kernel), List.mem_of_getElem? (i := 352) (by decide +kernel)⟩
theorem lw_p12 : lw_okq (⟨"HeatBatches", "layRule", "()V"⟩, 12) := ⟨⟨by decide +kernel, by decide +kernel⟩, List.mem_of_getElem? (i := 12) (by decide +kernel), List.mem_of_getElem? (i := 367) (by decide +kernel), List.mem_of_getElem? (i := 368) (by decide +kernel)⟩
theorem lw_p13 : lw_okq (⟨"HeatBatches", "ruleBatch", "(I)I"⟩, 12) := ⟨⟨by decide +kernel, by decide +kernel⟩, List.mem_of_getElem? (i := 12) (by decide +kernel), List.mem_of_getElem? (i := 373) (by decide +kernel), List.mem_of_getElem? (i := 374) (by decide +kernel)⟩
theorem lw_p14 : lw_okq (⟨"HeatBatches", "tightest", "(I)I"⟩, 12) := ⟨⟨by decide +kernel, by decide +kernel⟩, List.mem_of_getElem? (i := 12) (by decide +kernel), List.mem_of_getElem? (i := 377) (by decide +kernel), List.mem_of_getElem? (i := 378) (by decide +kernel)⟩
theorem lw_p15 : lw_okq (⟨"HeatBatches", "putIn", "(IZ)I"⟩, 12) := ⟨⟨by decide +kernel, by decide +kernel⟩, List.mem_of_getElem? (i := 12) (by decide +kernel), List.mem_of_getElem? (i := 450) (by decide +kernel), List.mem_of_getElem? (i := 451) (by decide +kernel)⟩
def lw_privs_1 : List (MethodName × Nat) := [(⟨"HeatBatches", "forgetBest", "()V"⟩, 12), (⟨"HeatBatches", "isJob", "(I)Z"⟩, 12), (⟨"HeatBatches", "findBest", "(I)V"⟩, 12), (⟨"HeatBatches$Search", "listBatches", "()V"⟩, 7), (⟨"HeatBatches$Search", "listBatch", "(II)V"⟩, 7), (⟨"HeatBatches$Search", "forgetFinds", "()V"⟩, 7), (⟨"HeatBatches$Search", "leastLeft", "(IIII)I"⟩, 7), (⟨"HeatBatches$Search", "part", "(III)I"⟩, 7), (⟨"HeatBatches$Search", "slotOf", "(I)I"⟩, 7), (⟨"HeatBatches$Search", "keep", "(II)V"⟩, 7), (⟨"HeatBatches$Search", "firstBatch", "(IIIII)I"⟩, 7), (⟨"HeatBatches", "earliestDue", "(II)I"⟩, 12), (⟨"HeatBatches", "layRule", "()V"⟩, 12), (⟨"HeatBatches", "ruleBatch", "(I)I"⟩, 12), (⟨"HeatBatches", "tightest", "(I)I"⟩, 12), (⟨"HeatBatches", "putIn", "(IZ)I"⟩, 12)]
theorem lw_r1 : ∀ q ∈ lw_privs_1, lw_okq q := List.forall_mem_cons.mpr ⟨lw_p0, List.forall_mem_cons.mpr ⟨lw_p1, List.forall_mem_cons.mpr ⟨lw_p2, List.forall_mem_cons.mpr ⟨lw_p3, List.forall_mem_cons.mpr ⟨lw_p4, List.forall_mem_cons.mpr ⟨lw_p5, List.forall_mem_cons.mpr ⟨lw_p6, List.forall_mem_cons.mpr ⟨lw_p7, List.forall_mem_cons.mpr ⟨lw_p8, List.forall_mem_cons.mpr ⟨lw_p9, List.forall_mem_cons.mpr ⟨lw_p10, List.forall_mem_cons.mpr ⟨lw_p11, List.forall_mem_cons.mpr ⟨lw_p12, List.forall_mem_cons.mpr ⟨lw_p13, List.forall_mem_cons.mpr ⟨lw_p14, List.forall_mem_cons.mpr ⟨lw_p15, fun _ h => absurd h List.not_mem_nil⟩⟩⟩⟩⟩⟩⟩⟩⟩⟩⟩⟩⟩⟩⟩⟩
theorem lw_p16 : lw_okq (⟨"HeatBatchesModel", "many", "()I"⟩, 13) := ⟨⟨by decide +kernel, by decide +kernel⟩, List.mem_of_getElem? (i := 483) (by decide +kernel), List.mem_of_getElem? (i := 548) (by decide +kernel), List.mem_of_getElem? (i := 549) (by decide +kernel)⟩
theorem lw_p17 : lw_okq (⟨"HeatBatchesModel", "isJob", "(I)Z"⟩, 13) := ⟨⟨by decide +kernel, by decide +kernel⟩, List.mem_of_getElem? (i := 483) (by decide +kernel), List.mem_of_getElem? (i := 556) (by decide +kernel), List.mem_of_getElem? (i := 557) (by decide +kernel)⟩
theorem lw_p18 : lw_okq (⟨"HeatBatchesModel", "tight", "(I)I"⟩, 13) := ⟨⟨by decide +kernel, by decide +kernel⟩, List.mem_of_getElem? (i := 483) (by decide +kernel), List.mem_of_getElem? (i := 568) (by decide +kernel), List.mem_of_getElem? (i := 569) (by decide +kernel)⟩
theorem lw_p19 : lw_okq (⟨"HeatBatchesModel", "bestOf", "(I)I"⟩, 13) := ⟨⟨by decide +kernel, by decide +kernel⟩, List.mem_of_getElem? (i := 483) (by decide +kernel), List.mem_of_getElem? (i := 582) (by decide +kernel), List.mem_of_getElem? (i := 583) (by decide +kernel)⟩
theorem lw_p20 : lw_okq (⟨"HeatBatchesModel", "layBatches", "()V"⟩, 13) := ⟨⟨by decide +kernel, by decide +kernel⟩, List.mem_of_getElem? (i := 483) (by decide +kernel), List.mem_of_getElem? (i := 586) (by decide +kernel), List.mem_of_getElem? (i := 587) (by decide +kernel)⟩
theorem lw_p21 : lw_okq (⟨"HeatBatchesModel", "full", "()I"⟩, 13) := ⟨⟨by decide +kernel, by decide +kernel⟩, List.mem_of_getElem? (i := 483) (by decide +kernel), List.mem_of_getElem? (i := 590) (by decide +kernel), List.mem_of_getElem? (i := 591) (by decide +kernel)⟩
theorem lw_p22 : lw_okq (⟨"HeatBatchesModel", "volumeOf", "(I)I"⟩, 13) := ⟨⟨by decide +kernel, by decide +kernel⟩, List.mem_of_getElem? (i := 483) (by decide +kernel), List.mem_of_getElem? (i := 594) (by decide +kernel), List.mem_of_getElem? (i := 595) (by decide +kernel)⟩
theorem lw_p23 : lw_okq (⟨"HeatBatchesModel", "familyOf", "(I)I"⟩, 13) := ⟨⟨by decide +kernel, by decide +kernel⟩, List.mem_of_getElem? (i := 483) (by decide +kernel), List.mem_of_getElem? (i := 601) (by decide +kernel), List.mem_of_getElem? (i := 602) (by decide +kernel)⟩
theorem lw_p24 : lw_okq (⟨"HeatBatchesModel", "markAll", "()V"⟩, 13) := ⟨⟨by decide +kernel, by decide +kernel⟩, List.mem_of_getElem? (i := 483) (by decide +kernel), List.mem_of_getElem? (i := 605) (by decide +kernel), List.mem_of_getElem? (i := 606) (by decide +kernel)⟩
theorem lw_p25 : lw_okq (⟨"HeatBatchesModel", "markFrom", "(III)V"⟩, 13) := ⟨⟨by decide +kernel, by decide +kernel⟩, List.mem_of_getElem? (i := 483) (by decide +kernel), List.mem_of_getElem? (i := 612) (by decide +kernel), List.mem_of_getElem? (i := 613) (by decide +kernel)⟩
theorem lw_p26 : lw_okq (⟨"HeatBatchesModel", "endOf", "(III)I"⟩, 13) := ⟨⟨by decide +kernel, by decide +kernel⟩, List.mem_of_getElem? (i := 483) (by decide +kernel), List.mem_of_getElem? (i := 616) (by decide +kernel), List.mem_of_getElem? (i := 617) (by decide +kernel)⟩
theorem lw_p27 : lw_okq (⟨"HeatBatchesModel", "changeOf", "(II)I"⟩, 13) := ⟨⟨by decide +kernel, by decide +kernel⟩, List.mem_of_getElem? (i := 483) (by decide +kernel), List.mem_of_getElem? (i := 620) (by decide +kernel), List.mem_of_getElem? (i := 621) (by decide +kernel)⟩
theorem lw_p28 : lw_okq (⟨"HeatBatchesModel", "layLeast", "(I)I"⟩, 13) := ⟨⟨by decide +kernel, by decide +kernel⟩, List.mem_of_getElem? (i := 483) (by decide +kernel), List.mem_of_getElem? (i := 624) (by decide +kernel), List.mem_of_getElem? (i := 625) (by decide +kernel)⟩
theorem lw_p29 : lw_okq (⟨"HeatBatchesModel", "leastFrom", "(IIII)I"⟩, 13) := ⟨⟨by decide +kernel, by decide +kernel⟩, List.mem_of_getElem? (i := 483) (by decide +kernel), List.mem_of_getElem? (i := 628) (by decide +kernel), List.mem_of_getElem? (i := 629) (by decide +kernel)⟩
theorem lw_p30 : lw_okq (⟨"HeatBatchesModel", "both", "(III)I"⟩, 13) := ⟨⟨by decide +kernel, by decide +kernel⟩, List.mem_of_getElem? (i := 483) (by decide +kernel), List.mem_of_getElem? (i := 633) (by decide +kernel), List.mem_of_getElem? (i := 634) (by decide +kernel)⟩
theorem lw_p31 : lw_okq (⟨"HeatBatchesModel", "worstOf", "(II)I"⟩, 13) := ⟨⟨by decide +kernel, by decide +kernel⟩, List.mem_of_getElem? (i := 483) (by decide +kernel), List.mem_of_getElem? (i := 637) (by decide +kernel), List.mem_of_getElem? (i := 638) (by decide +kernel)⟩
def lw_privs_2 : List (MethodName × Nat) := [(⟨"HeatBatchesModel", "many", "()I"⟩, 13), (⟨"HeatBatchesModel", "isJob", "(I)Z"⟩, 13), (⟨"HeatBatchesModel", "tight", "(I)I"⟩, 13), (⟨"HeatBatchesModel", "bestOf", "(I)I"⟩, 13), (⟨"HeatBatchesModel", "layBatches", "()V"⟩, 13), (⟨"HeatBatchesModel", "full", "()I"⟩, 13), (⟨"HeatBatchesModel", "volumeOf", "(I)I"⟩, 13), (⟨"HeatBatchesModel", "familyOf", "(I)I"⟩, 13), (⟨"HeatBatchesModel", "markAll", "()V"⟩, 13), (⟨"HeatBatchesModel", "markFrom", "(III)V"⟩, 13), (⟨"HeatBatchesModel", "endOf", "(III)I"⟩, 13), (⟨"HeatBatchesModel", "changeOf", "(II)I"⟩, 13), (⟨"HeatBatchesModel", "layLeast", "(I)I"⟩, 13), (⟨"HeatBatchesModel", "leastFrom", "(IIII)I"⟩, 13), (⟨"HeatBatchesModel", "both", "(III)I"⟩, 13), (⟨"HeatBatchesModel", "worstOf", "(II)I"⟩, 13)]
theorem lw_r2 : ∀ q ∈ lw_privs_2, lw_okq q := List.forall_mem_cons.mpr ⟨lw_p16, List.forall_mem_cons.mpr ⟨lw_p17, List.forall_mem_cons.mpr ⟨lw_p18, List.forall_mem_cons.mpr ⟨lw_p19, List.forall_mem_cons.mpr ⟨lw_p20, List.forall_mem_cons.mpr ⟨lw_p21, List.forall_mem_cons.mpr ⟨lw_p22, List.forall_mem_cons.mpr ⟨lw_p23, List.forall_mem_cons.mpr ⟨lw_p24, List.forall_mem_cons.mpr ⟨lw_p25, List.forall_mem_cons.mpr ⟨lw_p26, List.forall_mem_cons.mpr ⟨lw_p27, List.forall_mem_cons.mpr ⟨lw_p28, List.forall_mem_cons.mpr ⟨lw_p29, List.forall_mem_cons.mpr ⟨lw_p30, List.forall_mem_cons.mpr ⟨lw_p31, fun _ h => absurd h List.not_mem_nil⟩⟩⟩⟩⟩⟩⟩⟩⟩⟩⟩⟩⟩⟩⟩⟩
theorem lw_p32 : lw_okq (⟨"HeatBatchesModel", "sumOf", "(II)I"⟩, 13) := ⟨⟨by decide +kernel, by decide +kernel⟩, List.mem_of_getElem? (i := 483) (by decide +kernel), List.mem_of_getElem? (i := 641) (by decide +kernel), List.mem_of_getElem? (i := 642) (by decide +kernel)⟩
theorem lw_p33 : lw_okq (⟨"HeatBatchesModel", "layBest", "(I)V"⟩, 13) := ⟨⟨by decide +kernel, by decide +kernel⟩, List.mem_of_getElem? (i := 483) (by decide +kernel), List.mem_of_getElem? (i := 652) (by decide +kernel), List.mem_of_getElem? (i := 653) (by decide +kernel)⟩
theorem lw_p34 : lw_okq (⟨"HeatBatchesModel", "isWithin", "(IIIIII)Z"⟩, 13) := ⟨⟨by decide +kernel, by decide +kernel⟩, List.mem_of_getElem? (i := 483) (by decide +kernel), List.mem_of_getElem? (i := 656) (by decide +kernel), List.mem_of_getElem? (i := 657) (by decide +kernel)⟩
theorem lw_p35 : lw_okq (⟨"HeatBatchesModel", "told", "(I)I"⟩, 13) := ⟨⟨by decide +kernel, by decide +kernel⟩, List.mem_of_getElem? (i := 483) (by decide +kernel), List.mem_of_getElem? (i := 660) (by decide +kernel), List.mem_of_getElem? (i := 661) (by decide +kernel)⟩
theorem lw_p36 : lw_okq (⟨"HeatBatchesModel", "layEnds", "()V"⟩, 13) := ⟨⟨by decide +kernel, by decide +kernel⟩, List.mem_of_getElem? (i := 483) (by decide +kernel), List.mem_of_getElem? (i := 668) (by decide +kernel), List.mem_of_getElem? (i := 669) (by decide +kernel)⟩
theorem lw_p37 : lw_okq (⟨"HeatBatchesModel", "batchOf", "(I)I"⟩, 13) := ⟨⟨by decide +kernel, by decide +kernel⟩, List.mem_of_getElem? (i := 483) (by decide +kernel), List.mem_of_getElem? (i := 672) (by decide +kernel), List.mem_of_getElem? (i := 673) (by decide +kernel)⟩
theorem lw_p38 : lw_okq (⟨"HeatBatchesModel", "isAsGood", "(IIII)Z"⟩, 13) := ⟨⟨by decide +kernel, by decide +kernel⟩, List.mem_of_getElem? (i := 483) (by decide +kernel), List.mem_of_getElem? (i := 680) (by decide +kernel), List.mem_of_getElem? (i := 681) (by decide +kernel)⟩
theorem lw_p39 : lw_okq (⟨"HeatBatchesModel", "layRule", "()V"⟩, 13) := ⟨⟨by decide +kernel, by decide +kernel⟩, List.mem_of_getElem? (i := 483) (by decide +kernel), List.mem_of_getElem? (i := 688) (by decide +kernel), List.mem_of_getElem? (i := 689) (by decide +kernel)⟩
theorem lw_p40 : lw_okq (⟨"HeatBatchesModel", "tightest", "(III)I"⟩, 13) := ⟨⟨by decide +kernel, by decide +kernel⟩, List.mem_of_getElem? (i := 483) (by decide +kernel), List.mem_of_getElem? (i := 692) (by decide +kernel), List.mem_of_getElem? (i := 693) (by decide +kernel)⟩
theorem lw_p41 : lw_okq (⟨"HeatBatchesModel", "isTighter", "(II)Z"⟩, 13) := ⟨⟨by decide +kernel, by decide +kernel⟩, List.mem_of_getElem? (i := 483) (by decide +kernel), List.mem_of_getElem? (i := 696) (by decide +kernel), List.mem_of_getElem? (i := 697) (by decide +kernel)⟩
theorem lw_p42 : lw_okq (⟨"HeatBatchesModel", "measureOf", "(I)I"⟩, 13) := ⟨⟨by decide +kernel, by decide +kernel⟩, List.mem_of_getElem? (i := 483) (by decide +kernel), List.mem_of_getElem? (i := 704) (by decide +kernel), List.mem_of_getElem? (i := 705) (by decide +kernel)⟩
theorem lw_p43 : lw_okq (⟨"HeatBatchesModel", "layPad", "()I"⟩, 13) := ⟨⟨by decide +kernel, by decide +kernel⟩, List.mem_of_getElem? (i := 483) (by decide +kernel), List.mem_of_getElem? (i := 720) (by decide +kernel), List.mem_of_getElem? (i := 721) (by decide +kernel)⟩
theorem lw_p44 : lw_okq (⟨"HeatBatchesModel", "canStand", "(I)Z"⟩, 13) := ⟨⟨by decide +kernel, by decide +kernel⟩, List.mem_of_getElem? (i := 483) (by decide +kernel), List.mem_of_getElem? (i := 724) (by decide +kernel), List.mem_of_getElem? (i := 725) (by decide +kernel)⟩
theorem lw_p45 : lw_okq (⟨"HeatBatchesModel", "putAt", "(II)Z"⟩, 13) := ⟨⟨by decide +kernel, by decide +kernel⟩, List.mem_of_getElem? (i := 483) (by decide +kernel), List.mem_of_getElem? (i := 740) (by decide +kernel), List.mem_of_getElem? (i := 741) (by decide +kernel)⟩
theorem lw_p46 : lw_okq (⟨"HeatBatchesModel", "putAhead", "(II)V"⟩, 13) := ⟨⟨by decide +kernel, by decide +kernel⟩, List.mem_of_getElem? (i := 483) (by decide +kernel), List.mem_of_getElem? (i := 744) (by decide +kernel), List.mem_of_getElem? (i := 745) (by decide +kernel)⟩
theorem lw_p47 : lw_okq (⟨"HeatBatchesModel", "familiesUsed", "()I"⟩, 13) := ⟨⟨by decide +kernel, by decide +kernel⟩, List.mem_of_getElem? (i := 483) (by decide +kernel), List.mem_of_getElem? (i := 760) (by decide +kernel), List.mem_of_getElem? (i := 761) (by decide +kernel)⟩
def lw_privs_3 : List (MethodName × Nat) := [(⟨"HeatBatchesModel", "sumOf", "(II)I"⟩, 13), (⟨"HeatBatchesModel", "layBest", "(I)V"⟩, 13), (⟨"HeatBatchesModel", "isWithin", "(IIIIII)Z"⟩, 13), (⟨"HeatBatchesModel", "told", "(I)I"⟩, 13), (⟨"HeatBatchesModel", "layEnds", "()V"⟩, 13), (⟨"HeatBatchesModel", "batchOf", "(I)I"⟩, 13), (⟨"HeatBatchesModel", "isAsGood", "(IIII)Z"⟩, 13), (⟨"HeatBatchesModel", "layRule", "()V"⟩, 13), (⟨"HeatBatchesModel", "tightest", "(III)I"⟩, 13), (⟨"HeatBatchesModel", "isTighter", "(II)Z"⟩, 13), (⟨"HeatBatchesModel", "measureOf", "(I)I"⟩, 13), (⟨"HeatBatchesModel", "layPad", "()I"⟩, 13), (⟨"HeatBatchesModel", "canStand", "(I)Z"⟩, 13), (⟨"HeatBatchesModel", "putAt", "(II)Z"⟩, 13), (⟨"HeatBatchesModel", "putAhead", "(II)V"⟩, 13), (⟨"HeatBatchesModel", "familiesUsed", "()I"⟩, 13)]
theorem lw_r3 : ∀ q ∈ lw_privs_3, lw_okq q := List.forall_mem_cons.mpr ⟨lw_p32, List.forall_mem_cons.mpr ⟨lw_p33, List.forall_mem_cons.mpr ⟨lw_p34, List.forall_mem_cons.mpr ⟨lw_p35, List.forall_mem_cons.mpr ⟨lw_p36, List.forall_mem_cons.mpr ⟨lw_p37, List.forall_mem_cons.mpr ⟨lw_p38, List.forall_mem_cons.mpr ⟨lw_p39, List.forall_mem_cons.mpr ⟨lw_p40, List.forall_mem_cons.mpr ⟨lw_p41, List.forall_mem_cons.mpr ⟨lw_p42, List.forall_mem_cons.mpr ⟨lw_p43, List.forall_mem_cons.mpr ⟨lw_p44, List.forall_mem_cons.mpr ⟨lw_p45, List.forall_mem_cons.mpr ⟨lw_p46, List.forall_mem_cons.mpr ⟨lw_p47, fun _ h => absurd h List.not_mem_nil⟩⟩⟩⟩⟩⟩⟩⟩⟩⟩⟩⟩⟩⟩⟩⟩
def lw_privs : List (MethodName × Nat) := lw_privs_1 ++ (lw_privs_2 ++ (lw_privs_3))
def lw_tbl : List Cond := k2_sels lw_privs ++ tables_1
theorem lw_privs_ok : ∀ q ∈ lw_privs, lw_okq q := by
  show ∀ q ∈ lw_privs_1 ++ (lw_privs_2 ++ (lw_privs_3)), lw_okq q
  exact List.forall_mem_append.mpr ⟨lw_r1, List.forall_mem_append.mpr ⟨lw_r2, lw_r3⟩⟩

/-! ===== BEGIN words of one list among another's, by their places ===== -/
theorem goodIn_r {big : List Cond} (ws : List Cond) (ps : List Nat) (hp : ws = ps.filterMap (fun i => big[i]?)) (h : ws.all goodWord = true) : GoodIn big ws := by
  intro w hw
  have h1 := List.all_eq_true.mp h w hw
  rw [hp] at hw
  obtain ⟨i, -, hi⟩ := List.mem_filterMap.mp hw
  have hm : w ∈ big := by first | exact List.mem_of_getElem? hi | exact List.getElem?_mem hi
  exact ⟨hm, good_of_word h1⟩
theorem goodIn_app {big a b : List Cond} (ha : GoodIn big a) (hb : GoodIn big b) : GoodIn big (a ++ b) := fun w h => (List.mem_append.mp h).elim (ha w) (hb w)
theorem goodIn_ca {big a b : List Cond} {c : Cond} (ha : GoodIn big (c :: a)) (hb : GoodIn big b) : GoodIn big (c :: (a ++ b)) := fun w h => (List.mem_cons.mp h).elim (fun e => ha w (List.mem_cons.mpr (Or.inl e))) (fun h => (List.mem_append.mp h).elim (fun h => ha w (List.mem_cons.mpr (Or.inr h))) (hb w))
theorem goodIn_sub {big ws : List Cond} (hm : ∀ w ∈ ws, w ∈ big) (h : ws.all goodWord = true) : GoodIn big ws := fun w hw => ⟨hm w hw, good_of_word (List.all_eq_true.mp h w hw)⟩
/-! ===== END ===== -/

/-! ===== BEGIN printed: names, fields, word lists, decode rows ===== -/
def RX0 : String := "HeatBatches$Pad"
def TX0 : u_T := fun k => match k with
  | 0 => ("HeatBatches$Pad", "length", "I", false)
  | _ => ("HeatBatches$Pad", "signs", "[I", true)
def tyX0 : Nat → FieldType := fun k => match k with
  | 0 => .int
  | _ => .array .int
abbrev wsX00 : List Cond := u_ws RX0 TX0 2
theorem nmX0 : ∀ a, a < 2 → ∀ b, b < 2 → a ≠ b → (TX0 a).2.1 ≠ (TX0 b).2.1 := by decide +kernel
theorem tyX0_ok : ∀ k, k < 2 → parseFieldDescriptor (TX0 k).2.2.1 = some (tyX0 k) := by decide +kernel
abbrev cX0_init : ByteArray := prog_2_method_1_code
def yX0_init : MethodName := ⟨RX0, "<init>", "()V"⟩
abbrev cX0_write : ByteArray := prog_2_method_2_code
def yX0_write : MethodName := ⟨RX0, "write", "(I)V"⟩
abbrev cX0_read : ByteArray := prog_2_method_3_code
def yX0_read : MethodName := ⟨RX0, "read", "(LHeatBatches$Shop;LHeatBatches$Plan;)I"⟩
abbrev cX0_mayStand : ByteArray := prog_2_method_4_code
def yX0_mayStand : MethodName := ⟨RX0, "mayStand", "(LHeatBatches$Shop;III)Z"⟩
def RX1 : String := "HeatBatches$Plan"
def TX1 : u_T := fun k => match k with
  | 0 => ("HeatBatches$Plan", "batches", "I", false)
  | 1 => ("HeatBatches$Plan", "batch", "[I", true)
  | _ => ("HeatBatches$Plan", "ends", "[I", true)
def tyX1 : Nat → FieldType := fun k => match k with
  | 0 => .int
  | 1 => .array .int
  | _ => .array .int
abbrev wsX10 : List Cond := u_ws RX1 TX1 3
theorem nmX1 : ∀ a, a < 3 → ∀ b, b < 3 → a ≠ b → (TX1 a).2.1 ≠ (TX1 b).2.1 := by decide +kernel
theorem tyX1_ok : ∀ k, k < 3 → parseFieldDescriptor (TX1 k).2.2.1 = some (tyX1 k) := by decide +kernel
abbrev cX1_init : ByteArray := prog_3_method_1_code
def yX1_init : MethodName := ⟨RX1, "<init>", "()V"⟩
abbrev cX1_clear : ByteArray := prog_3_method_2_code
def yX1_clear : MethodName := ⟨RX1, "clear", "()V"⟩
abbrev cX1_add : ByteArray := prog_3_method_3_code
def yX1_add : MethodName := ⟨RX1, "add", "(LHeatBatches$Shop;I)V"⟩
abbrev cX1_time : ByteArray := prog_3_method_4_code
def yX1_time : MethodName := ⟨RX1, "time", "()I"⟩
abbrev cX1_members : ByteArray := prog_3_method_5_code
def yX1_members : MethodName := ⟨RX1, "members", "()I"⟩
abbrev cX1_batchOrHowMany : ByteArray := prog_3_method_6_code
def yX1_batchOrHowMany : MethodName := ⟨RX1, "batchOrHowMany", "(I)I"⟩
abbrev cX1_endOf : ByteArray := prog_3_method_7_code
def yX1_endOf : MethodName := ⟨RX1, "endOf", "(I)I"⟩
abbrev cX1_measured : ByteArray := prog_3_method_8_code
def yX1_measured : MethodName := ⟨RX1, "measured", "(LHeatBatches$Shop;I)I"⟩
abbrev cX1_becomeWith : ByteArray := prog_3_method_9_code
def yX1_becomeWith : MethodName := ⟨RX1, "becomeWith", "(LHeatBatches$Shop;LHeatBatches$Plan;II)Z"⟩
def RX2 : String := "HeatBatches$Search"
def TX2 : u_T := fun k => match k with
  | 0 => ("HeatBatches$Search", "shop", "LHeatBatches$Shop;", false)
  | 1 => ("HeatBatches$Search", "measure", "I", false)
  | 2 => ("HeatBatches$Search", "familyOfBatch", "[I", true)
  | 3 => ("HeatBatches$Search", "volumeOfBatch", "[I", true)
  | 4 => ("HeatBatches$Search", "age", "I", false)
  | 5 => ("HeatBatches$Search", "keys", "[I", true)
  | _ => ("HeatBatches$Search", "finds", "[I", true)
def tyX2 : Nat → FieldType := fun k => match k with
  | 0 => .object "HeatBatches$Shop"
  | 1 => .int
  | 2 => .array .int
  | 3 => .array .int
  | 4 => .int
  | 5 => .array .int
  | _ => .array .int
abbrev wsX20 : List Cond := u_ws RX2 TX2 7
theorem nmX2 : ∀ a, a < 7 → ∀ b, b < 7 → a ≠ b → (TX2 a).2.1 ≠ (TX2 b).2.1 := by decide +kernel
theorem tyX2_ok : ∀ k, k < 7 → parseFieldDescriptor (TX2 k).2.2.1 = some (tyX2 k) := by decide +kernel
abbrev cX2_init : ByteArray := prog_4_method_1_code
def yX2_init : MethodName := ⟨RX2, "<init>", "()V"⟩
abbrev cX2_leastOf : ByteArray := prog_4_method_2_code
def yX2_leastOf : MethodName := ⟨RX2, "leastOf", "(LHeatBatches$Shop;I)I"⟩
abbrev cX2_layFirst : ByteArray := prog_4_method_3_code
def yX2_layFirst : MethodName := ⟨RX2, "layFirst", "(ILHeatBatches$Plan;)V"⟩
abbrev cX2_firstBatch : ByteArray := prog_4_method_4_code
def yX2_firstBatch : MethodName := ⟨RX2, "firstBatch", "(IIIII)I"⟩
abbrev cX2_listBatches : ByteArray := prog_4_method_5_code
def yX2_listBatches : MethodName := ⟨RX2, "listBatches", "()V"⟩
abbrev cX2_listBatch : ByteArray := prog_4_method_6_code
def yX2_listBatch : MethodName := ⟨RX2, "listBatch", "(II)V"⟩
abbrev cX2_forgetFinds : ByteArray := prog_4_method_7_code
def yX2_forgetFinds : MethodName := ⟨RX2, "forgetFinds", "()V"⟩
abbrev cX2_leastLeft : ByteArray := prog_4_method_8_code
def yX2_leastLeft : MethodName := ⟨RX2, "leastLeft", "(IIII)I"⟩
abbrev cX2_part : ByteArray := prog_4_method_9_code
def yX2_part : MethodName := ⟨RX2, "part", "(III)I"⟩
abbrev cX2_slotOf : ByteArray := prog_4_method_10_code
def yX2_slotOf : MethodName := ⟨RX2, "slotOf", "(I)I"⟩
abbrev cX2_keep : ByteArray := prog_4_method_11_code
def yX2_keep : MethodName := ⟨RX2, "keep", "(II)V"⟩
def RX3 : String := "HeatBatches$Shop"
def TX3 : u_T := fun k => match k with
  | 0 => ("HeatBatches$Shop", "heat", "[I", true)
  | 1 => ("HeatBatches$Shop", "cook", "[I", true)
  | 2 => ("HeatBatches$Shop", "room", "I", false)
  | 3 => ("HeatBatches$Shop", "up", "I", false)
  | 4 => ("HeatBatches$Shop", "down", "I", false)
  | 5 => ("HeatBatches$Shop", "jobs", "I", false)
  | 6 => ("HeatBatches$Shop", "familyOf", "[I", true)
  | 7 => ("HeatBatches$Shop", "volumeOf", "[I", true)
  | _ => ("HeatBatches$Shop", "dueOf", "[I", true)
def tyX3 : Nat → FieldType := fun k => match k with
  | 0 => .array .int
  | 1 => .array .int
  | 2 => .int
  | 3 => .int
  | 4 => .int
  | 5 => .int
  | 6 => .array .int
  | 7 => .array .int
  | _ => .array .int
abbrev wsX30 : List Cond := u_ws RX3 TX3 9
theorem nmX3 : ∀ a, a < 9 → ∀ b, b < 9 → a ≠ b → (TX3 a).2.1 ≠ (TX3 b).2.1 := by decide +kernel
theorem tyX3_ok : ∀ k, k < 9 → parseFieldDescriptor (TX3 k).2.2.1 = some (tyX3 k) := by decide +kernel
abbrev cX3_init : ByteArray := prog_5_method_1_code
def yX3_init : MethodName := ⟨RX3, "<init>", "()V"⟩
abbrev cX3_become : ByteArray := prog_5_method_2_code
def yX3_become : MethodName := ⟨RX3, "become", "(LHeatBatches$Shop;)V"⟩
abbrev cX3_take : ByteArray := prog_5_method_3_code
def yX3_take : MethodName := ⟨RX3, "take", "(III)I"⟩
abbrev cX3_remove : ByteArray := prog_5_method_4_code
def yX3_remove : MethodName := ⟨RX3, "remove", "(I)V"⟩
abbrev cX3_tight : ByteArray := prog_5_method_5_code
def yX3_tight : MethodName := ⟨RX3, "tight", "(I)I"⟩
abbrev cX3_everyJob : ByteArray := prog_5_method_6_code
def yX3_everyJob : MethodName := ⟨RX3, "everyJob", "()I"⟩
abbrev cX3_membersOf : ByteArray := prog_5_method_7_code
def yX3_membersOf : MethodName := ⟨RX3, "membersOf", "(I)I"⟩
abbrev cX3_familiesUsed : ByteArray := prog_5_method_8_code
def yX3_familiesUsed : MethodName := ⟨RX3, "familiesUsed", "()I"⟩
abbrev cX3_allVolumes : ByteArray := prog_5_method_9_code
def yX3_allVolumes : MethodName := ⟨RX3, "allVolumes", "()I"⟩
abbrev cX3_volumeOfSet : ByteArray := prog_5_method_10_code
def yX3_volumeOfSet : MethodName := ⟨RX3, "volumeOfSet", "(I)I"⟩
abbrev cX3_fits : ByteArray := prog_5_method_11_code
def yX3_fits : MethodName := ⟨RX3, "fits", "(II)Z"⟩
abbrev cX3_familyOfSet : ByteArray := prog_5_method_12_code
def yX3_familyOfSet : MethodName := ⟨RX3, "familyOfSet", "(I)I"⟩
abbrev cX3_takes : ByteArray := prog_5_method_13_code
def yX3_takes : MethodName := ⟨RX3, "takes", "(II)I"⟩
abbrev cX3_late : ByteArray := prog_5_method_14_code
def yX3_late : MethodName := ⟨RX3, "late", "(III)I"⟩
def RX4 : String := "HeatBatches"
def TX4 : u_T := fun k => match k with
  | 0 => ("HeatBatches", "shop", "LHeatBatches$Shop;", true)
  | 1 => ("HeatBatches", "trial", "LHeatBatches$Shop;", true)
  | 2 => ("HeatBatches", "images", "[LHeatBatches$Shop;", true)
  | 3 => ("HeatBatches", "imagesKept", "I", false)
  | 4 => ("HeatBatches", "pad", "LHeatBatches$Pad;", true)
  | 5 => ("HeatBatches", "padPlan", "LHeatBatches$Plan;", true)
  | 6 => ("HeatBatches", "putPlan", "LHeatBatches$Plan;", true)
  | 7 => ("HeatBatches", "rulePlan", "LHeatBatches$Plan;", true)
  | 8 => ("HeatBatches", "bestPlans", "[LHeatBatches$Plan;", true)
  | 9 => ("HeatBatches", "bestValues", "[I", true)
  | 10 => ("HeatBatches", "bestKnown", "[Z", true)
  | _ => ("HeatBatches", "search", "LHeatBatches$Search;", true)
def tyX4 : Nat → FieldType := fun k => match k with
  | 0 => .object "HeatBatches$Shop"
  | 1 => .object "HeatBatches$Shop"
  | 2 => .array (.object "HeatBatches$Shop")
  | 3 => .int
  | 4 => .object "HeatBatches$Pad"
  | 5 => .object "HeatBatches$Plan"
  | 6 => .object "HeatBatches$Plan"
  | 7 => .object "HeatBatches$Plan"
  | 8 => .array (.object "HeatBatches$Plan")
  | 9 => .array .int
  | 10 => .array .boolean
  | _ => .object "HeatBatches$Search"
abbrev wsX40 : List Cond := u_ws RX4 TX4 12
theorem nmX4 : ∀ a, a < 12 → ∀ b, b < 12 → a ≠ b → (TX4 a).2.1 ≠ (TX4 b).2.1 := by decide +kernel
theorem tyX4_ok : ∀ k, k < 12 → parseFieldDescriptor (TX4 k).2.2.1 = some (tyX4 k) := by decide +kernel
abbrev cX4_init : ByteArray := prog_1_method_1_code
def yX4_init : MethodName := ⟨RX4, "<init>", "()V"⟩
abbrev cX4_family : ByteArray := prog_1_method_2_code
def yX4_family : MethodName := ⟨RX4, "family", "(III)I"⟩
abbrev cX4_set : ByteArray := prog_1_method_3_code
def yX4_set : MethodName := ⟨RX4, "set", "(II)I"⟩
abbrev cX4_job : ByteArray := prog_1_method_4_code
def yX4_job : MethodName := ⟨RX4, "job", "(III)I"⟩
abbrev cX4_drop : ByteArray := prog_1_method_5_code
def yX4_drop : MethodName := ⟨RX4, "drop", "(I)I"⟩
abbrev cX4_due : ByteArray := prog_1_method_6_code
def yX4_due : MethodName := ⟨RX4, "due", "(II)I"⟩
abbrev cX4_of : ByteArray := prog_1_method_7_code
def yX4_of : MethodName := ⟨RX4, "of", "(II)I"⟩
abbrev cX4_best : ByteArray := prog_1_method_8_code
def yX4_best : MethodName := ⟨RX4, "best", "(I)I"⟩
abbrev cX4_plan : ByteArray := prog_1_method_9_code
def yX4_plan : MethodName := ⟨RX4, "plan", "(II)I"⟩
abbrev cX4_end : ByteArray := prog_1_method_10_code
def yX4_end : MethodName := ⟨RX4, "end", "(II)I"⟩
abbrev cX4_slack : ByteArray := prog_1_method_11_code
def yX4_slack : MethodName := ⟨RX4, "slack", "(II)I"⟩
abbrev cX4_rule : ByteArray := prog_1_method_12_code
def yX4_rule : MethodName := ⟨RX4, "rule", "(I)I"⟩
abbrev cX4_ruled : ByteArray := prog_1_method_13_code
def yX4_ruled : MethodName := ⟨RX4, "ruled", "(I)I"⟩
abbrev cX4_say : ByteArray := prog_1_method_14_code
def yX4_say : MethodName := ⟨RX4, "say", "(I)I"⟩
abbrev cX4_wipe : ByteArray := prog_1_method_15_code
def yX4_wipe : MethodName := ⟨RX4, "wipe", "()I"⟩
abbrev cX4_fault : ByteArray := prog_1_method_16_code
def yX4_fault : MethodName := ⟨RX4, "fault", "()I"⟩
abbrev cX4_row : ByteArray := prog_1_method_17_code
def yX4_row : MethodName := ⟨RX4, "row", "(I)I"⟩
abbrev cX4_at : ByteArray := prog_1_method_18_code
def yX4_at : MethodName := ⟨RX4, "at", "(I)I"⟩
abbrev cX4_put : ByteArray := prog_1_method_19_code
def yX4_put : MethodName := ⟨RX4, "put", "(II)I"⟩
abbrev cX4_image : ByteArray := prog_1_method_20_code
def yX4_image : MethodName := ⟨RX4, "image", "(I)I"⟩
abbrev cX4_restore : ByteArray := prog_1_method_21_code
def yX4_restore : MethodName := ⟨RX4, "restore", "(I)I"⟩
abbrev cX4_count : ByteArray := prog_1_method_22_code
def yX4_count : MethodName := ⟨RX4, "count", "(I)I"⟩
abbrev cX4_isWithin : ByteArray := prog_1_method_23_code
def yX4_isWithin : MethodName := ⟨RX4, "isWithin", "(III)Z"⟩
abbrev cX4_isFamily : ByteArray := prog_1_method_24_code
def yX4_isFamily : MethodName := ⟨RX4, "isFamily", "(I)Z"⟩
abbrev cX4_isMeasure : ByteArray := prog_1_method_25_code
def yX4_isMeasure : MethodName := ⟨RX4, "isMeasure", "(I)Z"⟩
abbrev cX4_isOfDues : ByteArray := prog_1_method_26_code
def yX4_isOfDues : MethodName := ⟨RX4, "isOfDues", "(I)Z"⟩
abbrev cX4_isJob : ByteArray := prog_1_method_27_code
def yX4_isJob : MethodName := ⟨RX4, "isJob", "(I)Z"⟩
abbrev cX4_contains : ByteArray := prog_1_method_28_code
def yX4_contains : MethodName := ⟨RX4, "contains", "(II)Z"⟩
abbrev cX4_joined : ByteArray := prog_1_method_29_code
def yX4_joined : MethodName := ⟨RX4, "joined", "(III)I"⟩
abbrev cX4_forgetBest : ByteArray := prog_1_method_30_code
def yX4_forgetBest : MethodName := ⟨RX4, "forgetBest", "()V"⟩
abbrev cX4_findBest : ByteArray := prog_1_method_31_code
def yX4_findBest : MethodName := ⟨RX4, "findBest", "(I)V"⟩
abbrev cX4_earliestDue : ByteArray := prog_1_method_32_code
def yX4_earliestDue : MethodName := ⟨RX4, "earliestDue", "(II)I"⟩
abbrev cX4_layRule : ByteArray := prog_1_method_33_code
def yX4_layRule : MethodName := ⟨RX4, "layRule", "()V"⟩
abbrev cX4_ruleBatch : ByteArray := prog_1_method_34_code
def yX4_ruleBatch : MethodName := ⟨RX4, "ruleBatch", "(I)I"⟩
abbrev cX4_tightest : ByteArray := prog_1_method_35_code
def yX4_tightest : MethodName := ⟨RX4, "tightest", "(I)I"⟩
abbrev cX4_putIn : ByteArray := prog_1_method_36_code
def yX4_putIn : MethodName := ⟨RX4, "putIn", "(IZ)I"⟩
def RX5 : String := "HeatBatchesModel"
def TX5 : u_T := fun k => match k with
  | 0 => ("HeatBatchesModel", "state", "[I", true)
  | 1 => ("HeatBatchesModel", "images", "[I", true)
  | 2 => ("HeatBatchesModel", "isKept", "[Z", true)
  | 3 => ("HeatBatchesModel", "pad", "[I", true)
  | 4 => ("HeatBatchesModel", "said", "I", false)
  | 5 => ("HeatBatchesModel", "plan", "[I", true)
  | 6 => ("HeatBatchesModel", "planMany", "I", false)
  | 7 => ("HeatBatchesModel", "endAt", "[I", true)
  | 8 => ("HeatBatchesModel", "batchFamily", "[I", true)
  | 9 => ("HeatBatchesModel", "comes", "[Z", true)
  | 10 => ("HeatBatchesModel", "least", "[I", true)
  | 11 => ("HeatBatchesModel", "allTold", "I", false)
  | _ => ("HeatBatchesModel", "open", "I", false)
def tyX5 : Nat → FieldType := fun k => match k with
  | 0 => .array .int
  | 1 => .array .int
  | 2 => .array .boolean
  | 3 => .array .int
  | 4 => .int
  | 5 => .array .int
  | 6 => .int
  | 7 => .array .int
  | 8 => .array .int
  | 9 => .array .boolean
  | 10 => .array .int
  | 11 => .int
  | _ => .int
abbrev wsX50 : List Cond := u_ws RX5 TX5 13
theorem nmX5 : ∀ a, a < 13 → ∀ b, b < 13 → a ≠ b → (TX5 a).2.1 ≠ (TX5 b).2.1 := by decide +kernel
theorem tyX5_ok : ∀ k, k < 13 → parseFieldDescriptor (TX5 k).2.2.1 = some (tyX5 k) := by decide +kernel
abbrev cX5_init : ByteArray := prog_7_method_1_code
def yX5_init : MethodName := ⟨RX5, "<init>", "()V"⟩
abbrev cX5_in : ByteArray := prog_7_method_2_code
def yX5_in : MethodName := ⟨RX5, "in", "(III)Z"⟩
abbrev cX5_isFamily : ByteArray := prog_7_method_3_code
def yX5_isFamily : MethodName := ⟨RX5, "isFamily", "(I)Z"⟩
abbrev cX5_many : ByteArray := prog_7_method_4_code
def yX5_many : MethodName := ⟨RX5, "many", "()I"⟩
abbrev cX5_isJob : ByteArray := prog_7_method_5_code
def yX5_isJob : MethodName := ⟨RX5, "isJob", "(I)Z"⟩
abbrev cX5_isMeasure : ByteArray := prog_7_method_6_code
def yX5_isMeasure : MethodName := ⟨RX5, "isMeasure", "(I)Z"⟩
abbrev cX5_family : ByteArray := prog_7_method_7_code
def yX5_family : MethodName := ⟨RX5, "family", "(III)I"⟩
abbrev cX5_set : ByteArray := prog_7_method_8_code
def yX5_set : MethodName := ⟨RX5, "set", "(II)I"⟩
abbrev cX5_job : ByteArray := prog_7_method_9_code
def yX5_job : MethodName := ⟨RX5, "job", "(III)I"⟩
abbrev cX5_drop : ByteArray := prog_7_method_10_code
def yX5_drop : MethodName := ⟨RX5, "drop", "(I)I"⟩
abbrev cX5_due : ByteArray := prog_7_method_11_code
def yX5_due : MethodName := ⟨RX5, "due", "(II)I"⟩
abbrev cX5_down : ByteArray := prog_7_method_12_code
def yX5_down : MethodName := ⟨RX5, "down", "(II)I"⟩
abbrev cX5_tight : ByteArray := prog_7_method_13_code
def yX5_tight : MethodName := ⟨RX5, "tight", "(I)I"⟩
abbrev cX5_of : ByteArray := prog_7_method_14_code
def yX5_of : MethodName := ⟨RX5, "of", "(II)I"⟩
abbrev cX5_has : ByteArray := prog_7_method_15_code
def yX5_has : MethodName := ⟨RX5, "has", "(II)Z"⟩
abbrev cX5_volumeOf : ByteArray := prog_7_method_16_code
def yX5_volumeOf : MethodName := ⟨RX5, "volumeOf", "(I)I"⟩
abbrev cX5_familyOf : ByteArray := prog_7_method_17_code
def yX5_familyOf : MethodName := ⟨RX5, "familyOf", "(I)I"⟩
abbrev cX5_changeOf : ByteArray := prog_7_method_18_code
def yX5_changeOf : MethodName := ⟨RX5, "changeOf", "(II)I"⟩
abbrev cX5_endOf : ByteArray := prog_7_method_19_code
def yX5_endOf : MethodName := ⟨RX5, "endOf", "(III)I"⟩
abbrev cX5_worstOf : ByteArray := prog_7_method_20_code
def yX5_worstOf : MethodName := ⟨RX5, "worstOf", "(II)I"⟩
abbrev cX5_sumOf : ByteArray := prog_7_method_21_code
def yX5_sumOf : MethodName := ⟨RX5, "sumOf", "(II)I"⟩
abbrev cX5_layEnds : ByteArray := prog_7_method_22_code
def yX5_layEnds : MethodName := ⟨RX5, "layEnds", "()V"⟩
abbrev cX5_measureOf : ByteArray := prog_7_method_23_code
def yX5_measureOf : MethodName := ⟨RX5, "measureOf", "(I)I"⟩
abbrev cX5_batchOf : ByteArray := prog_7_method_24_code
def yX5_batchOf : MethodName := ⟨RX5, "batchOf", "(I)I"⟩
abbrev cX5_place : ByteArray := prog_7_method_25_code
def yX5_place : MethodName := ⟨RX5, "place", "(III)I"⟩
abbrev cX5_full : ByteArray := prog_7_method_26_code
def yX5_full : MethodName := ⟨RX5, "full", "()I"⟩
abbrev cX5_layBatches : ByteArray := prog_7_method_27_code
def yX5_layBatches : MethodName := ⟨RX5, "layBatches", "()V"⟩
abbrev cX5_markFrom : ByteArray := prog_7_method_28_code
def yX5_markFrom : MethodName := ⟨RX5, "markFrom", "(III)V"⟩
abbrev cX5_markAll : ByteArray := prog_7_method_29_code
def yX5_markAll : MethodName := ⟨RX5, "markAll", "()V"⟩
abbrev cX5_both : ByteArray := prog_7_method_30_code
def yX5_both : MethodName := ⟨RX5, "both", "(III)I"⟩
abbrev cX5_together : ByteArray := prog_7_method_31_code
def yX5_together : MethodName := ⟨RX5, "together", "(III)I"⟩
abbrev cX5_leastFrom : ByteArray := prog_7_method_32_code
def yX5_leastFrom : MethodName := ⟨RX5, "leastFrom", "(IIII)I"⟩
abbrev cX5_layLeast : ByteArray := prog_7_method_33_code
def yX5_layLeast : MethodName := ⟨RX5, "layLeast", "(I)I"⟩
abbrev cX5_bestOf : ByteArray := prog_7_method_34_code
def yX5_bestOf : MethodName := ⟨RX5, "bestOf", "(I)I"⟩
abbrev cX5_best : ByteArray := prog_7_method_35_code
def yX5_best : MethodName := ⟨RX5, "best", "(I)I"⟩
abbrev cX5_layBest : ByteArray := prog_7_method_36_code
def yX5_layBest : MethodName := ⟨RX5, "layBest", "(I)V"⟩
abbrev cX5_isWithin : ByteArray := prog_7_method_37_code
def yX5_isWithin : MethodName := ⟨RX5, "isWithin", "(IIIIII)Z"⟩
abbrev cX5_told : ByteArray := prog_7_method_38_code
def yX5_told : MethodName := ⟨RX5, "told", "(I)I"⟩
abbrev cX5_plan : ByteArray := prog_7_method_39_code
def yX5_plan : MethodName := ⟨RX5, "plan", "(II)I"⟩
abbrev cX5_end : ByteArray := prog_7_method_40_code
def yX5_end : MethodName := ⟨RX5, "end", "(II)I"⟩
abbrev cX5_isAsGood : ByteArray := prog_7_method_41_code
def yX5_isAsGood : MethodName := ⟨RX5, "isAsGood", "(IIII)Z"⟩
abbrev cX5_slack : ByteArray := prog_7_method_42_code
def yX5_slack : MethodName := ⟨RX5, "slack", "(II)I"⟩
abbrev cX5_isTighter : ByteArray := prog_7_method_43_code
def yX5_isTighter : MethodName := ⟨RX5, "isTighter", "(II)Z"⟩
abbrev cX5_tightest : ByteArray := prog_7_method_44_code
def yX5_tightest : MethodName := ⟨RX5, "tightest", "(III)I"⟩
abbrev cX5_layRule : ByteArray := prog_7_method_45_code
def yX5_layRule : MethodName := ⟨RX5, "layRule", "()V"⟩
abbrev cX5_rule : ByteArray := prog_7_method_46_code
def yX5_rule : MethodName := ⟨RX5, "rule", "(I)I"⟩
abbrev cX5_ruled : ByteArray := prog_7_method_47_code
def yX5_ruled : MethodName := ⟨RX5, "ruled", "(I)I"⟩
abbrev cX5_say : ByteArray := prog_7_method_48_code
def yX5_say : MethodName := ⟨RX5, "say", "(I)I"⟩
abbrev cX5_wipe : ByteArray := prog_7_method_49_code
def yX5_wipe : MethodName := ⟨RX5, "wipe", "()I"⟩
abbrev cX5_canStand : ByteArray := prog_7_method_50_code
def yX5_canStand : MethodName := ⟨RX5, "canStand", "(I)Z"⟩
abbrev cX5_layPad : ByteArray := prog_7_method_51_code
def yX5_layPad : MethodName := ⟨RX5, "layPad", "()I"⟩
abbrev cX5_fault : ByteArray := prog_7_method_52_code
def yX5_fault : MethodName := ⟨RX5, "fault", "()I"⟩
abbrev cX5_row : ByteArray := prog_7_method_53_code
def yX5_row : MethodName := ⟨RX5, "row", "(I)I"⟩
abbrev cX5_at : ByteArray := prog_7_method_54_code
def yX5_at : MethodName := ⟨RX5, "at", "(I)I"⟩
abbrev cX5_putAhead : ByteArray := prog_7_method_55_code
def yX5_putAhead : MethodName := ⟨RX5, "putAhead", "(II)V"⟩
abbrev cX5_putAt : ByteArray := prog_7_method_56_code
def yX5_putAt : MethodName := ⟨RX5, "putAt", "(II)Z"⟩
abbrev cX5_put : ByteArray := prog_7_method_57_code
def yX5_put : MethodName := ⟨RX5, "put", "(II)I"⟩
abbrev cX5_image : ByteArray := prog_7_method_58_code
def yX5_image : MethodName := ⟨RX5, "image", "(I)I"⟩
abbrev cX5_restore : ByteArray := prog_7_method_59_code
def yX5_restore : MethodName := ⟨RX5, "restore", "(I)I"⟩
abbrev cX5_familiesUsed : ByteArray := prog_7_method_60_code
def yX5_familiesUsed : MethodName := ⟨RX5, "familiesUsed", "()I"⟩
abbrev cX5_count : ByteArray := prog_7_method_61_code
def yX5_count : MethodName := ⟨RX5, "count", "(I)I"⟩
def RJ6 : String := "java/lang/Integer"
def TJ6 : u_T := fun k => match k with
  | _ => ("", "", "", false)
def tyJ6 : Nat → FieldType := fun k => match k with
  | _ => .int
abbrev wsJ60 : List Cond := u_ws RJ6 TJ6 0
theorem nmJ6 : ∀ a, a < 0 → ∀ b, b < 0 → a ≠ b → (TJ6 a).2.1 ≠ (TJ6 b).2.1 := by decide +kernel
theorem tyJ6_ok : ∀ k, k < 0 → parseFieldDescriptor (TJ6 k).2.2.1 = some (tyJ6 k) := by decide +kernel
abbrev cJ6_bitCount_0f7a4 : ByteArray := prog_8_method_49_code
def yJ6_bitCount_0f7a4 : MethodName := ⟨RJ6, "bitCount", "(I)I"⟩
def RJ9 : String := "java/lang/Math"
def TJ9 : u_T := fun k => match k with
  | _ => ("", "", "", false)
def tyJ9 : Nat → FieldType := fun k => match k with
  | _ => .int
abbrev wsJ90 : List Cond := u_ws RJ9 TJ9 0
theorem nmJ9 : ∀ a, a < 0 → ∀ b, b < 0 → a ≠ b → (TJ9 a).2.1 ≠ (TJ9 b).2.1 := by decide +kernel
theorem tyJ9_ok : ∀ k, k < 0 → parseFieldDescriptor (TJ9 k).2.2.1 = some (tyJ9 k) := by decide +kernel
abbrev cJ9_floorDiv_7cf53 : ByteArray := prog_9_method_47_code
def yJ9_floorDiv_7cf53 : MethodName := ⟨RJ9, "floorDiv", "(II)I"⟩
abbrev cJ9_max_7cf53 : ByteArray := prog_9_method_65_code
def yJ9_max_7cf53 : MethodName := ⟨RJ9, "max", "(II)I"⟩
abbrev cJ9_min_7cf53 : ByteArray := prog_9_method_69_code
def yJ9_min_7cf53 : MethodName := ⟨RJ9, "min", "(II)I"⟩
def RJ10 : String := "java/lang/System"
def TJ10 : u_T := fun k => match k with
  | _ => ("", "", "", false)
def tyJ10 : Nat → FieldType := fun k => match k with
  | _ => .int
abbrev wsJ100 : List Cond := u_ws RJ10 TJ10 0
theorem nmJ10 : ∀ a, a < 0 → ∀ b, b < 0 → a ≠ b → (TJ10 a).2.1 ≠ (TJ10 b).2.1 := by decide +kernel
theorem tyJ10_ok : ∀ k, k < 0 → parseFieldDescriptor (TJ10 k).2.2.1 = some (tyJ10 k) := by decide +kernel
def RJ7 : String := "java/util/Arrays"
def TJ7 : u_T := fun k => match k with
  | _ => ("", "", "", false)
def tyJ7 : Nat → FieldType := fun k => match k with
  | _ => .int
abbrev wsJ70 : List Cond := u_ws RJ7 TJ7 0
theorem nmJ7 : ∀ a, a < 0 → ∀ b, b < 0 → a ≠ b → (TJ7 a).2.1 ≠ (TJ7 b).2.1 := by decide +kernel
theorem tyJ7_ok : ∀ k, k < 0 → parseFieldDescriptor (TJ7 k).2.2.1 = some (tyJ7 k) := by decide +kernel
abbrev cJ7_fill_53178 : ByteArray := prog_11_method_103_code
def yJ7_fill_53178 : MethodName := ⟨RJ7, "fill", "([II)V"⟩
def RL : String := "HeatBatchesLaw"
abbrev cL_law : ByteArray := code
def yL_law : MethodName := ⟨RL, "law", "([I)Z"⟩
abbrev vwCl : List vw_C := [(RX0, TX0, 2), (RX1, TX1, 3), (RX2, TX2, 7), (RX3, TX3, 9), (RX4, TX4, 12), (RX5, TX5, 13)]

/-- the words of the tables that a call hands on -/
def gtbl : List Cond := lw_tbl.filter goodWord
theorem gt_in {w : Cond} (h : w ∈ lw_tbl) (hg : goodWord w = true) : w ∈ gtbl := List.mem_filter.mpr ⟨h, hg⟩
theorem gt_good : ∀ w ∈ gtbl, goodWord w = true := fun _ h => (List.mem_filter.mp h).2
theorem tb_in {w : Cond} (h : w ∈ tables_1) : w ∈ lw_tbl := List.mem_append_right _ h
theorem gt_i (i : Nat) {w : Cond} (h : tables_1[i]? = some w) (hg : goodWord w = true) : w ∈ gtbl := gt_in (tb_in (List.mem_of_getElem? h)) hg
theorem gt_s (i : Nat) {w : Cond} (h : (k2_sels lw_privs)[i]? = some w) (hg : goodWord w = true) : w ∈ gtbl := gt_in (List.mem_append_left _ (List.mem_of_getElem? h)) hg

