section
-- ===== PART A: goes FIRST, ahead of the names: the tables' words, and 'selects' of the private methods out of them =====
/-- a private method of a class that the tables say can be made, by its rows of tables_1 -/
def lw_okq (q : MethodName × Nat) : Prop := (q.1.cls ≠ "java/lang/invoke/MethodHandle" ∧ q.1.cls ≠ "java/lang/invoke/VarHandle") ∧ Cond.instantiable q.1.cls q.2 ∈ tables_1 ∧ Cond.privateMethod q.1 ∈ tables_1 ∧ Cond.instanceMethod q.1 ∈ tables_1
theorem lw_p0 : lw_okq (⟨"HeatBatches", "forgetBest", "()V"⟩, 12) := ⟨⟨by decide +kernel, by decide +kernel⟩, List.mem_of_getElem? (i := 12) (by decide +kernel), List.mem_of_getElem? (i := 178) (by decide +kernel), List.mem_of_getElem? (i := 179) (by decide +kernel)⟩
theorem lw_p1 : lw_okq (⟨"HeatBatches", "isJob", "(I)Z"⟩, 12) := ⟨⟨by decide +kernel, by decide +kernel⟩, List.mem_of_getElem? (i := 12) (by decide +kernel), List.mem_of_getElem? (i := 198) (by decide +kernel), List.mem_of_getElem? (i := 199) (by decide +kernel)⟩
theorem lw_p2 : lw_okq (⟨"HeatBatches", "findBest", "(I)V"⟩, 12) := ⟨⟨by decide +kernel, by decide +kernel⟩, List.mem_of_getElem? (i := 12) (by decide +kernel), List.mem_of_getElem? (i := 231) (by decide +kernel), List.mem_of_getElem? (i := 232) (by decide +kernel)⟩
theorem lw_p3 : lw_okq (⟨"HeatBatches$Search", "listBatches", "()V"⟩, 7) := ⟨⟨by decide +kernel, by decide +kernel⟩, List.mem_of_getElem? (i := 102) (by decide +kernel), List.mem_of_getElem? (i := 239) (by decide +kernel), List.mem_of_getElem? (i := 240) (by decide +kernel)⟩
theorem lw_p4 : lw_okq (⟨"HeatBatches$Search", "listBatch", "(II)V"⟩, 7) := ⟨⟨by decide +kernel, by decide +kernel⟩, List.mem_of_getElem? (i := 102) (by decide +kernel), List.mem_of_getElem? (i := 243) (by decide +kernel), List.mem_of_getElem? (i := 244) (by decide +kernel)⟩
theorem lw_p5 : lw_okq (⟨"HeatBatches$Search", "forgetFinds", "()V"⟩, 7) := ⟨⟨by decide +kernel, by decide +kernel⟩, List.mem_of_getElem? (i := 102) (by decide +kernel), List.mem_of_getElem? (i := 247) (by decide +kernel), List.mem_of_getElem? (i := 248) (by decide +kernel)⟩
theorem lw_p6 : lw_okq (⟨"HeatBatches$Search", "leastLeft", "(IIII)I"⟩, 7) := ⟨⟨by decide +kernel, by decide +kernel⟩, List.mem_of_getElem? (i := 102) (by decide +kernel), List.mem_of_getElem? (i := 258) (by decide +kernel), List.mem_of_getElem? (i := 259) (by decide +kernel)⟩
theorem lw_p7 : lw_okq (⟨"HeatBatches$Search", "part", "(III)I"⟩, 7) := ⟨⟨by decide +kernel, by decide +kernel⟩, List.mem_of_getElem? (i := 102) (by decide +kernel), List.mem_of_getElem? (i := 275) (by decide +kernel), List.mem_of_getElem? (i := 276) (by decide +kernel)⟩
theorem lw_p8 : lw_okq (⟨"HeatBatches$Search", "slotOf", "(I)I"⟩, 7) := ⟨⟨by decide +kernel, by decide +kernel⟩, List.mem_of_getElem? (i := 102) (by decide +kernel), List.mem_of_getElem? (i := 286) (by decide +kernel), List.mem_of_getElem? (i := 287) (by decide +kernel)⟩
theorem lw_p9 : lw_okq (⟨"HeatBatches$Search", "keep", "(II)V"⟩, 7) := ⟨⟨by decide +kernel, by decide +kernel⟩, List.mem_of_getElem? (i := 102) (by decide +kernel), List.mem_of_getElem? (i := 299) (by decide +kernel), List.mem_of_getElem? (i := 300) (by decide +kernel)⟩
theorem lw_p10 : lw_okq (⟨"HeatBatches$Search", "firstBatch", "(IIIII)I"⟩, 7) := ⟨⟨by decide +kernel, by decide +kernel⟩, List.mem_of_getElem? (i := 102) (by decide +kernel), List.mem_of_getElem? (i := 315) (by decide +kernel), List.mem_of_getElem? (i := 316) (by decide +kernel)⟩
theorem lw_p11 : lw_okq (⟨"HeatBatches", "earliestDue", "(II)I"⟩, 12) := ⟨⟨by decide +kernel, by decide +kernel⟩, List.mem_of_getElem? (i := 12) (by decide +kernel), List.mem_of_getElem? (i := 351) (by decide +kernel), List.mem_of_getElem? (i := 352) (by decide +kernel)⟩
theorem lw_p12 : lw_okq (⟨"HeatBatches", "layRule", "()V"⟩, 12) := ⟨⟨by decide +kernel, by decide +kernel⟩, List.mem_of_getElem? (i := 12) (by decide +kernel), List.mem_of_getElem? (i := 367) (by decide +kernel), List.mem_of_getElem? (i := 368) (by decide +kernel)⟩
theorem lw_p13 : lw_okq (⟨"HeatBatches", "ruleBatch", "(I)I"⟩, 12) := ⟨⟨by decide +kernel, by decide +kernel⟩, List.mem_of_getElem? (i := 12) (by decide +kernel), List.mem_of_getElem? (i := 373) (by decide +kernel), List.mem_of_getElem? (i := 374) (by decide +kernel)⟩
theorem lw_p14 : lw_okq (⟨"HeatBatches", "tightest", "(I)I"⟩, 12) := ⟨⟨by decide +kernel, by decide +kernel⟩, List.mem_of_getElem? (i := 12) (by decide +kernel), List.mem_of_getElem? (i := 377) (by decide +kernel), List.mem_of_getElem? (i := 378) (by decide +kernel)⟩
theorem lw_p15 : lw_okq (⟨"HeatBatches", "putIn", "(IZ)I"⟩, 12) := ⟨⟨by decide +kernel, by decide +kernel⟩, List.mem_of_getElem? (i := 12) (by decide +kernel), List.mem_of_getElem? (i := 450) (by decide +kernel), List.mem_of_getElem? (i := 451) (by decide +kernel)⟩
def lw_privs_1 : List (MethodName × Nat) := [(⟨"HeatBatches", "forgetBest", "()V"⟩, 12), (⟨"HeatBatches", "isJob", "(I)Z"⟩, 12), (⟨"HeatBatches", "findBest", "(I)V"⟩, 12), (⟨"HeatBatches$Search", "listBatches", "()V"⟩, 7), (⟨"HeatBatches$Search", "listBatch", "(II)V"⟩, 7), (⟨"HeatBatches$Search", "forgetFinds", "()V"⟩, 7), (⟨"HeatBatches$Search", "leastLeft", "(IIII)I"⟩, 7), (⟨"HeatBatches$Search", "part", "(III)I"⟩, 7), (⟨"HeatBatches$Search", "slotOf", "(I)I"⟩, 7), (⟨"HeatBatches$Search", "keep", "(II)V"⟩, 7), (⟨"HeatBatches$Search", "firstBatch", "(IIIII)I"⟩, 7), (⟨"HeatBatches", "earliestDue", "(II)I"⟩, 12), (⟨"HeatBatches", "layRule", "()V"⟩, 12), (⟨"HeatBatches", "ruleBatch", "(I)I"⟩, 12), (⟨"HeatBatches", "tightest", "(I)I"⟩, 12), (⟨"HeatBatches", "putIn", "(IZ)I"⟩, 12)]
theorem lw_r1 : ∀ q ∈ lw_privs_1, lw_okq q := List.forall_mem_cons.mpr ⟨lw_p0, List.forall_mem_cons.mpr ⟨lw_p1, List.forall_mem_cons.mpr ⟨lw_p2, List.forall_mem_cons.mpr ⟨lw_p3, List.forall_mem_cons.mpr ⟨lw_p4, List.forall_mem_cons.mpr ⟨lw_p5, List.forall_mem_cons.mpr ⟨lw_p6, List.forall_mem_cons.mpr ⟨lw_p7, List.forall_mem_cons.mpr ⟨lw_p8, List.forall_mem_cons.mpr ⟨lw_p9, List.forall_mem_cons.mpr ⟨lw_p10, List.forall_mem_cons.mpr ⟨lw_p11, List.forall_mem_cons.mpr ⟨lw_p12, List.forall_mem_cons.mpr ⟨lw_p13, List.forall_mem_cons.mpr ⟨lw_p14, List.forall_mem_cons.mpr ⟨lw_p15, fun _ h => absurd h List.not_mem_nil⟩⟩⟩⟩⟩⟩⟩⟩⟩⟩⟩⟩⟩⟩⟩⟩
theorem lw_p16 : lw_okq (⟨"HeatBatchesModel", "many", "()I"⟩, 13) := ⟨⟨by decide +kernel, by decide +kernel⟩, List.mem_of_getElem? (i := 483) (by decide +kernel), List.mem_of_getElem? (i := 548) (by decide +kernel), List.mem_of_getElem? (i := 549) (by decide +kernel)⟩
theorem lw_p17 : lw_okq (⟨"HeatBatchesModel", "isJob", "(I)Z"⟩, 13) := ⟨⟨by decide +kernel, by decide +kernel⟩, List.mem_of_getElem? (i := 483) (by decide +kernel), List.mem_of_getElem? (i := 556) (by decide +kernel), List.mem_of_getElem? (i := 557) (by decide +kernel)⟩
theorem lw_p18 : lw_okq (⟨"HeatBatchesModel", "tight", "(I)I"⟩, 13) := ⟨⟨by decide +kernel, by decide +kernel⟩, List.mem_of_getElem? (i := 483) (by decide +kernel), List.mem_of_getElem? (i := 568) (by decide +kernel), List.mem_of_getElem? (i := 569) (by decide +kernel)⟩
theorem lw_p19 : lw_okq (⟨"HeatBatchesModel", "bestOf", "(I)I"⟩, 13) := ⟨⟨by decide +kernel, by decide +kernel⟩, List.mem_of_getElem? (i := 483) (by decide +kernel), List.mem_of_getElem? (i := 582) (by decide +kernel), List.mem_of_getElem? (i := 583) (by decide +kernel)⟩
theorem lw_p20 : lw_okq (⟨"HeatBatchesModel", "layBatches", "()V"⟩, 13) := ⟨⟨by decide +kernel, by decide +kernel⟩, List.mem_of_getElem? (i := 483) (by decide +kernel), List.mem_of_getElem? (i := 586) (by decide +kernel), List.mem_of_getElem? (i := 587) (by decide +kernel)⟩
theorem lw_p21 : lw_okq (⟨"HeatBatchesModel", "full", "()I"⟩, 13) := ⟨⟨by decide +kernel, by decide +kernel⟩, List.mem_of_getElem? (i := 483) (by decide +kernel), List.mem_of_getElem? (i := 590) (by decide +kernel), List.mem_of_getElem? (i := 591) (by decide +kernel)⟩
theorem lw_p22 : lw_okq (⟨"HeatBatchesModel", "volumeOf", "(I)I"⟩, 13) := ⟨⟨by decide +kernel, by decide +kernel⟩, List.mem_of_getElem? (i := 483) (by decide +kernel), List.mem_of_getElem? (i := 594) (by decide +kernel), List.mem_of_getElem? (i := 595) (by decide +kernel)⟩
theorem lw_p23 : lw_okq (⟨"HeatBatchesModel", "familyOf", "(I)I"⟩, 13) := ⟨⟨by decide +kernel, by decide +kernel⟩, List.mem_of_getElem? (i := 483) (by decide +kernel), List.mem_of_getElem? (i := 601) (by decide +kernel), List.mem_of_getElem? (i := 602) (by decide +kernel)⟩
theorem lw_p24 : lw_okq (⟨"HeatBatchesModel", "markAll", "()V"⟩, 13) := ⟨⟨by decide +kernel, by decide +kernel⟩, List.mem_of_getElem? (i := 483) (by decide +kernel), List.mem_of_getElem? (i := 605) (by decide +kernel), List.mem_of_getElem? (i := 606) (by decide +kernel)⟩
theorem lw_p25 : lw_okq (⟨"HeatBatchesModel", "markFrom", "(III)V"⟩, 13) := ⟨⟨by decide +kernel, by decide +kernel⟩, List.mem_of_getElem? (i := 483) (by decide +kernel), List.mem_of_getElem? (i := 612) (by decide +kernel), List.mem_of_getElem? (i := 613) (by decide +kernel)⟩
theorem lw_p26 : lw_okq (⟨"HeatBatchesModel", "endOf", "(III)I"⟩, 13) := ⟨⟨by decide +kernel, by decide +kernel⟩, List.mem_of_getElem? (i := 483) (by decide +kernel), List.mem_of_getElem? (i := 616) (by decide +kernel), List.mem_of_getElem? (i := 617) (by decide +kernel)⟩
theorem lw_p27 : lw_okq (⟨"HeatBatchesModel", "changeOf", "(II)I"⟩, 13) := ⟨⟨by decide +kernel, by decide +kernel⟩, List.mem_of_getElem? (i := 483) (by decide +kernel), List.mem_of_getElem? (i := 620) (by decide +kernel), List.mem_of_getElem? (i := 621) (by decide +kernel)⟩
theorem lw_p28 : lw_okq (⟨"HeatBatchesModel", "layLeast", "(I)I"⟩, 13) := ⟨⟨by decide +kernel, by decide +kernel⟩, List.mem_of_getElem? (i := 483) (by decide +kernel), List.mem_of_getElem? (i := 624) (by decide +kernel), List.mem_of_getElem? (i := 625) (by decide +kernel)⟩
theorem lw_p29 : lw_okq (⟨"HeatBatchesModel", "leastFrom", "(IIII)I"⟩, 13) := ⟨⟨by decide +kernel, by decide +kernel⟩, List.mem_of_getElem? (i := 483) (by decide +kernel), List.mem_of_getElem? (i := 628) (by decide +kernel), List.mem_of_getElem? (i := 629) (by decide +kernel)⟩
theorem lw_p30 : lw_okq (⟨"HeatBatchesModel", "both", "(III)I"⟩, 13) := ⟨⟨by decide +kernel, by decide +kernel⟩, List.mem_of_getElem? (i := 483) (by decide +kernel), List.mem_of_getElem? (i := 633) (by decide +kernel), List.mem_of_getElem? (i := 634) (by decide +kernel)⟩
theorem lw_p31 : lw_okq (⟨"HeatBatchesModel", "worstOf", "(II)I"⟩, 13) := ⟨⟨by decide +kernel, by decide +kernel⟩, List.mem_of_getElem? (i := 483) (by decide +kernel), List.mem_of_getElem? (i := 637) (by decide +kernel), List.mem_of_getElem? (i := 638) (by decide +kernel)⟩
def lw_privs_2 : List (MethodName × Nat) := [(⟨"HeatBatchesModel", "many", "()I"⟩, 13), (⟨"HeatBatchesModel", "isJob", "(I)Z"⟩, 13), (⟨"HeatBatchesModel", "tight", "(I)I"⟩, 13), (⟨"HeatBatchesModel", "bestOf", "(I)I"⟩, 13), (⟨"HeatBatchesModel", "layBatches", "()V"⟩, 13), (⟨"HeatBatchesModel", "full", "()I"⟩, 13), (⟨"HeatBatchesModel", "volumeOf", "(I)I"⟩, 13), (⟨"HeatBatchesModel", "familyOf", "(I)I"⟩, 13), (⟨"HeatBatchesModel", "markAll", "()V"⟩, 13), (⟨"HeatBatchesModel", "markFrom", "(III)V"⟩, 13), (⟨"HeatBatchesModel", "endOf", "(III)I"⟩, 13), (⟨"HeatBatchesModel", "changeOf", "(II)I"⟩, 13), (⟨"HeatBatchesModel", "layLeast", "(I)I"⟩, 13), (⟨"HeatBatchesModel", "leastFrom", "(IIII)I"⟩, 13), (⟨"HeatBatchesModel", "both", "(III)I"⟩, 13), (⟨"HeatBatchesModel", "worstOf", "(II)I"⟩, 13)]
theorem lw_r2 : ∀ q ∈ lw_privs_2, lw_okq q := List.forall_mem_cons.mpr ⟨lw_p16, List.forall_mem_cons.mpr ⟨lw_p17, List.forall_mem_cons.mpr ⟨lw_p18, List.forall_mem_cons.mpr ⟨lw_p19, List.forall_mem_cons.mpr ⟨lw_p20, List.forall_mem_cons.mpr ⟨lw_p21, List.forall_mem_cons.mpr ⟨lw_p22, List.forall_mem_cons.mpr ⟨lw_p23, List.forall_mem_cons.mpr ⟨lw_p24, List.forall_mem_cons.mpr ⟨lw_p25, List.forall_mem_cons.mpr ⟨lw_p26, List.forall_mem_cons.mpr ⟨lw_p27, List.forall_mem_cons.mpr ⟨lw_p28, List.forall_mem_cons.mpr ⟨lw_p29, List.forall_mem_cons.mpr ⟨lw_p30, List.forall_mem_cons.mpr ⟨lw_p31, fun _ h => absurd h List.not_mem_nil⟩⟩⟩⟩⟩⟩⟩⟩⟩⟩⟩⟩⟩⟩⟩⟩
theorem lw_p32 : lw_okq (⟨"HeatBatchesModel", "sumOf", "(II)I"⟩, 13) := ⟨⟨by decide +kernel, by decide +kernel⟩, List.mem_of_getElem? (i := 483) (by decide +kernel), List.mem_of_getElem? (i := 641) (by decide +kernel), List.mem_of_getElem? (i := 642) (by decide +kernel)⟩
theorem lw_p33 : lw_okq (⟨"HeatBatchesModel", "layBest", "(I)V"⟩, 13) := ⟨⟨by decide +kernel, by decide +kernel⟩, List.mem_of_getElem? (i := 483) (by decide +kernel), List.mem_of_getElem? (i := 652) (by decide +kernel), List.mem_of_getElem? (i := 653) (by decide +kernel)⟩
theorem lw_p34 : lw_okq (⟨"HeatBatchesModel", "isWithin", "(IIIIII)Z"⟩, 13) := ⟨⟨by decide +kernel, by decide +kernel⟩, List.mem_of_getElem? (i := 483) (by decide +kernel), List.mem_of_getElem? (i := 656) (by decide +kernel), List.mem_of_getElem? (i := 657) (by decide +kernel)⟩
theorem lw_p35 : lw_okq (⟨"HeatBatchesModel", "told", "(I)I"⟩, 13) := ⟨⟨by decide +kernel, by decide +kernel⟩, List.mem_of_getElem? (i := 483) (by decide +kernel), List.mem_of_getElem? (i := 660) (by decide +kernel), List.mem_of_getElem? (i := 661) (by decide +kernel)⟩
theorem lw_p36 : lw_okq (⟨"HeatBatchesModel", "layEnds", "()V"⟩, 13) := ⟨⟨by decide +kernel, by decide +kernel⟩, List.mem_of_getElem? (i := 483) (by decide +kernel), List.mem_of_getElem? (i := 668) (by decide +kernel), List.mem_of_getElem? (i := 669) (by decide +kernel)⟩
theorem lw_p37 : lw_okq (⟨"HeatBatchesModel", "batchOf", "(I)I"⟩, 13) := ⟨⟨by decide +kernel, by decide +kernel⟩, List.mem_of_getElem? (i := 483) (by decide +kernel), List.mem_of_getElem? (i := 672) (by decide +kernel), List.mem_of_getElem? (i := 673) (by decide +kernel)⟩
theorem lw_p38 : lw_okq (⟨"HeatBatchesModel", "isAsGood", "(IIII)Z"⟩, 13) := ⟨⟨by decide +kernel, by decide +kernel⟩, List.mem_of_getElem? (i := 483) (by decide +kernel), List.mem_of_getElem? (i := 680) (by decide +kernel), List.mem_of_getElem? (i := 681) (by decide +kernel)⟩
theorem lw_p39 : lw_okq (⟨"HeatBatchesModel", "layRule", "()V"⟩, 13) := ⟨⟨by decide +kernel, by decide +kernel⟩, List.mem_of_getElem? (i := 483) (by decide +kernel), List.mem_of_getElem? (i := 688) (by decide +kernel), List.mem_of_getElem? (i := 689) (by decide +kernel)⟩
theorem lw_p40 : lw_okq (⟨"HeatBatchesModel", "tightest", "(III)I"⟩, 13) := ⟨⟨by decide +kernel, by decide +kernel⟩, List.mem_of_getElem? (i := 483) (by decide +kernel), List.mem_of_getElem? (i := 692) (by decide +kernel), List.mem_of_getElem? (i := 693) (by decide +kernel)⟩
theorem lw_p41 : lw_okq (⟨"HeatBatchesModel", "isTighter", "(II)Z"⟩, 13) := ⟨⟨by decide +kernel, by decide +kernel⟩, List.mem_of_getElem? (i := 483) (by decide +kernel), List.mem_of_getElem? (i := 696) (by decide +kernel), List.mem_of_getElem? (i := 697) (by decide +kernel)⟩
theorem lw_p42 : lw_okq (⟨"HeatBatchesModel", "measureOf", "(I)I"⟩, 13) := ⟨⟨by decide +kernel, by decide +kernel⟩, List.mem_of_getElem? (i := 483) (by decide +kernel), List.mem_of_getElem? (i := 704) (by decide +kernel), List.mem_of_getElem? (i := 705) (by decide +kernel)⟩
theorem lw_p43 : lw_okq (⟨"HeatBatchesModel", "layPad", "()I"⟩, 13) := ⟨⟨by decide +kernel, by decide +kernel⟩, List.mem_of_getElem? (i := 483) (by decide +kernel), List.mem_of_getElem? (i := 720) (by decide +kernel), List.mem_of_getElem? (i := 721) (by decide +kernel)⟩
theorem lw_p44 : lw_okq (⟨"HeatBatchesModel", "canStand", "(I)Z"⟩, 13) := ⟨⟨by decide +kernel, by decide +kernel⟩, List.mem_of_getElem? (i := 483) (by decide +kernel), List.mem_of_getElem? (i := 724) (by decide +kernel), List.mem_of_getElem? (i := 725) (by decide +kernel)⟩
theorem lw_p45 : lw_okq (⟨"HeatBatchesModel", "putAt", "(II)Z"⟩, 13) := ⟨⟨by decide +kernel, by decide +kernel⟩, List.mem_of_getElem? (i := 483) (by decide +kernel), List.mem_of_getElem? (i := 740) (by decide +kernel), List.mem_of_getElem? (i := 741) (by decide +kernel)⟩
theorem lw_p46 : lw_okq (⟨"HeatBatchesModel", "putAhead", "(II)V"⟩, 13) := ⟨⟨by decide +kernel, by decide +kernel⟩, List.mem_of_getElem? (i := 483) (by decide +kernel), List.mem_of_getElem? (i := 744) (by decide +kernel), List.mem_of_getElem? (i := 745) (by decide +kernel)⟩
theorem lw_p47 : lw_okq (⟨"HeatBatchesModel", "familiesUsed", "()I"⟩, 13) := ⟨⟨by decide +kernel, by decide +kernel⟩, List.mem_of_getElem? (i := 483) (by decide +kernel), List.mem_of_getElem? (i := 760) (by decide +kernel), List.mem_of_getElem? (i := 761) (by decide +kernel)⟩
def lw_privs_3 : List (MethodName × Nat) := [(⟨"HeatBatchesModel", "sumOf", "(II)I"⟩, 13), (⟨"HeatBatchesModel", "layBest", "(I)V"⟩, 13), (⟨"HeatBatchesModel", "isWithin", "(IIIIII)Z"⟩, 13), (⟨"HeatBatchesModel", "told", "(I)I"⟩, 13), (⟨"HeatBatchesModel", "layEnds", "()V"⟩, 13), (⟨"HeatBatchesModel", "batchOf", "(I)I"⟩, 13), (⟨"HeatBatchesModel", "isAsGood", "(IIII)Z"⟩, 13), (⟨"HeatBatchesModel", "layRule", "()V"⟩, 13), (⟨"HeatBatchesModel", "tightest", "(III)I"⟩, 13), (⟨"HeatBatchesModel", "isTighter", "(II)Z"⟩, 13), (⟨"HeatBatchesModel", "measureOf", "(I)I"⟩, 13), (⟨"HeatBatchesModel", "layPad", "()I"⟩, 13), (⟨"HeatBatchesModel", "canStand", "(I)Z"⟩, 13), (⟨"HeatBatchesModel", "putAt", "(II)Z"⟩, 13), (⟨"HeatBatchesModel", "putAhead", "(II)V"⟩, 13), (⟨"HeatBatchesModel", "familiesUsed", "()I"⟩, 13)]
theorem lw_r3 : ∀ q ∈ lw_privs_3, lw_okq q := List.forall_mem_cons.mpr ⟨lw_p32, List.forall_mem_cons.mpr ⟨lw_p33, List.forall_mem_cons.mpr ⟨lw_p34, List.forall_mem_cons.mpr ⟨lw_p35, List.forall_mem_cons.mpr ⟨lw_p36, List.forall_mem_cons.mpr ⟨lw_p37, List.forall_mem_cons.mpr ⟨lw_p38, List.forall_mem_cons.mpr ⟨lw_p39, List.forall_mem_cons.mpr ⟨lw_p40, List.forall_mem_cons.mpr ⟨lw_p41, List.forall_mem_cons.mpr ⟨lw_p42, List.forall_mem_cons.mpr ⟨lw_p43, List.forall_mem_cons.mpr ⟨lw_p44, List.forall_mem_cons.mpr ⟨lw_p45, List.forall_mem_cons.mpr ⟨lw_p46, List.forall_mem_cons.mpr ⟨lw_p47, fun _ h => absurd h List.not_mem_nil⟩⟩⟩⟩⟩⟩⟩⟩⟩⟩⟩⟩⟩⟩⟩⟩
def lw_privs : List (MethodName × Nat) := lw_privs_1 ++ (lw_privs_2 ++ (lw_privs_3))
def lw_tbl : List Cond := k2_sels lw_privs ++ tables_1
theorem lw_privs_ok : ∀ q ∈ lw_privs, lw_okq q := by
  show ∀ q ∈ lw_privs_1 ++ (lw_privs_2 ++ (lw_privs_3)), lw_okq q
  exact List.forall_mem_append.mpr ⟨lw_r1, List.forall_mem_append.mpr ⟨lw_r2, lw_r3⟩⟩

/-! ===== BEGIN words of one list among another's, by their places ===== -/
theorem goodIn_r {big : List Cond} (ws : List Cond) (ps : List Nat) (hp : ws = ps.filterMap (fun i => big[i]?)) (h : ws.all goodWord = true) : GoodIn big ws := by
  intro w hw
  have h1 := List.all_eq_true.mp h w hw
  rw [hp] at hw
  obtain ⟨i, -, hi⟩ := List.mem_filterMap.mp hw
  have hm : w ∈ big := by first | exact List.mem_of_getElem? hi | exact List.getElem?_mem hi
  exact ⟨hm, good_of_word h1⟩
theorem goodIn_app {big a b : List Cond} (ha : GoodIn big a) (hb : GoodIn big b) : GoodIn big (a ++ b) := fun w h => (List.mem_append.mp h).elim (ha w) (hb w)
theorem goodIn_ca {big a b : List Cond} {c : Cond} (ha : GoodIn big (c :: a)) (hb : GoodIn big b) : GoodIn big (c :: (a ++ b)) := fun w h => (List.mem_cons.mp h).elim (fun e => ha w (List.mem_cons.mpr (Or.inl e))) (fun h => (List.mem_append.mp h).elim (fun h => ha w (List.mem_cons.mpr (Or.inr h))) (hb w))
theorem goodIn_sub {big ws : List Cond} (hm : ∀ w ∈ ws, w ∈ big) (h : ws.all goodWord = true) : GoodIn big ws := fun w hw => ⟨hm w hw, good_of_word (List.all_eq_true.mp h w hw)⟩
/-! ===== END ===== -/

/-! ===== BEGIN printed: names, fields, word lists, decode rows ===== -/
def RX0 : String := "HeatBatches$Pad"
def TX0 : u_T := fun k => match k with
  | 0 => ("HeatBatches$Pad", "length", "I", false)
  | _ => ("HeatBatches$Pad", "signs", "[I", true)
def tyX0 : Nat → FieldType := fun k => match k with
  | 0 => .int
  | _ => .array .int
abbrev wsX00 : List Cond := u_ws RX0 TX0 2
theorem nmX0 : ∀ a, a < 2 → ∀ b, b < 2 → a ≠ b → (TX0 a).2.1 ≠ (TX0 b).2.1 := by decide +kernel
theorem tyX0_ok : ∀ k, k < 2 → parseFieldDescriptor (TX0 k).2.2.1 = some (tyX0 k) := by decide +kernel
abbrev cX0_init : ByteArray := prog_2_method_1_code
def yX0_init : MethodName := ⟨RX0, "<init>", "()V"⟩
abbrev cX0_write : ByteArray := prog_2_method_2_code
def yX0_write : MethodName := ⟨RX0, "write", "(I)V"⟩
abbrev cX0_read : ByteArray := prog_2_method_3_code
def yX0_read : MethodName := ⟨RX0, "read", "(LHeatBatches$Shop;LHeatBatches$Plan;)I"⟩
abbrev cX0_mayStand : ByteArray := prog_2_method_4_code
def yX0_mayStand : MethodName := ⟨RX0, "mayStand", "(LHeatBatches$Shop;III)Z"⟩
def RX1 : String := "HeatBatches$Plan"
def TX1 : u_T := fun k => match k with
  | 0 => ("HeatBatches$Plan", "batches", "I", false)
  | 1 => ("HeatBatches$Plan", "batch", "[I", true)
  | _ => ("HeatBatches$Plan", "ends", "[I", true)
def tyX1 : Nat → FieldType := fun k => match k with
  | 0 => .int
  | 1 => .array .int
  | _ => .array .int
abbrev wsX10 : List Cond := u_ws RX1 TX1 3
theorem nmX1 : ∀ a, a < 3 → ∀ b, b < 3 → a ≠ b → (TX1 a).2.1 ≠ (TX1 b).2.1 := by decide +kernel
theorem tyX1_ok : ∀ k, k < 3 → parseFieldDescriptor (TX1 k).2.2.1 = some (tyX1 k) := by decide +kernel
abbrev cX1_init : ByteArray := prog_3_method_1_code
def yX1_init : MethodName := ⟨RX1, "<init>", "()V"⟩
abbrev cX1_clear : ByteArray := prog_3_method_2_code
def yX1_clear : MethodName := ⟨RX1, "clear", "()V"⟩
abbrev cX1_add : ByteArray := prog_3_method_3_code
def yX1_add : MethodName := ⟨RX1, "add", "(LHeatBatches$Shop;I)V"⟩
abbrev cX1_time : ByteArray := prog_3_method_4_code
def yX1_time : MethodName := ⟨RX1, "time", "()I"⟩
abbrev cX1_members : ByteArray := prog_3_method_5_code
def yX1_members : MethodName := ⟨RX1, "members", "()I"⟩
abbrev cX1_batchOrHowMany : ByteArray := prog_3_method_6_code
def yX1_batchOrHowMany : MethodName := ⟨RX1, "batchOrHowMany", "(I)I"⟩
abbrev cX1_endOf : ByteArray := prog_3_method_7_code
def yX1_endOf : MethodName := ⟨RX1, "endOf", "(I)I"⟩
abbrev cX1_measured : ByteArray := prog_3_method_8_code
def yX1_measured : MethodName := ⟨RX1, "measured", "(LHeatBatches$Shop;I)I"⟩
abbrev cX1_becomeWith : ByteArray := prog_3_method_9_code
def yX1_becomeWith : MethodName := ⟨RX1, "becomeWith", "(LHeatBatches$Shop;LHeatBatches$Plan;II)Z"⟩
def RX2 : String := "HeatBatches$Search"
def TX2 : u_T := fun k => match k with
  | 0 => ("HeatBatches$Search", "shop", "LHeatBatches$Shop;", false)
  | 1 => ("HeatBatches$Search", "measure", "I", false)
  | 2 => ("HeatBatches$Search", "familyOfBatch", "[I", true)
  | 3 => ("HeatBatches$Search", "volumeOfBatch", "[I", true)
  | 4 => ("HeatBatches$Search", "age", "I", false)
  | 5 => ("HeatBatches$Search", "keys", "[I", true)
  | _ => ("HeatBatches$Search", "finds", "[I", true)
def tyX2 : Nat → FieldType := fun k => match k with
  | 0 => .object "HeatBatches$Shop"
  | 1 => .int
  | 2 => .array .int
  | 3 => .array .int
  | 4 => .int
  | 5 => .array .int
  | _ => .array .int
abbrev wsX20 : List Cond := u_ws RX2 TX2 7
theorem nmX2 : ∀ a, a < 7 → ∀ b, b < 7 → a ≠ b → (TX2 a).2.1 ≠ (TX2 b).2.1 := by decide +kernel
theorem tyX2_ok : ∀ k, k < 7 → parseFieldDescriptor (TX2 k).2.2.1 = some (tyX2 k) := by decide +kernel
abbrev cX2_init : ByteArray := prog_4_method_1_code
def yX2_init : MethodName := ⟨RX2, "<init>", "()V"⟩
abbrev cX2_leastOf : ByteArray := prog_4_method_2_code
def yX2_leastOf : MethodName := ⟨RX2, "leastOf", "(LHeatBatches$Shop;I)I"⟩
abbrev cX2_layFirst : ByteArray := prog_4_method_3_code
def yX2_layFirst : MethodName := ⟨RX2, "layFirst", "(ILHeatBatches$Plan;)V"⟩
abbrev cX2_firstBatch : ByteArray := prog_4_method_4_code
def yX2_firstBatch : MethodName := ⟨RX2, "firstBatch", "(IIIII)I"⟩
abbrev cX2_listBatches : ByteArray := prog_4_method_5_code
def yX2_listBatches : MethodName := ⟨RX2, "listBatches", "()V"⟩
abbrev cX2_listBatch : ByteArray := prog_4_method_6_code
def yX2_listBatch : MethodName := ⟨RX2, "listBatch", "(II)V"⟩
abbrev cX2_forgetFinds : ByteArray := prog_4_method_7_code
def yX2_forgetFinds : MethodName := ⟨RX2, "forgetFinds", "()V"⟩
abbrev cX2_leastLeft : ByteArray := prog_4_method_8_code
def yX2_leastLeft : MethodName := ⟨RX2, "leastLeft", "(IIII)I"⟩
abbrev cX2_part : ByteArray := prog_4_method_9_code
def yX2_part : MethodName := ⟨RX2, "part", "(III)I"⟩
abbrev cX2_slotOf : ByteArray := prog_4_method_10_code
def yX2_slotOf : MethodName := ⟨RX2, "slotOf", "(I)I"⟩
abbrev cX2_keep : ByteArray := prog_4_method_11_code
def yX2_keep : MethodName := ⟨RX2, "keep", "(II)V"⟩
def RX3 : String := "HeatBatches$Shop"
def TX3 : u_T := fun k => match k with
  | 0 => ("HeatBatches$Shop", "heat", "[I", true)
  | 1 => ("HeatBatches$Shop", "cook", "[I", true)
  | 2 => ("HeatBatches$Shop", "room", "I", false)
  | 3 => ("HeatBatches$Shop", "up", "I", false)
  | 4 => ("HeatBatches$Shop", "down", "I", false)
  | 5 => ("HeatBatches$Shop", "jobs", "I", false)
  | 6 => ("HeatBatches$Shop", "familyOf", "[I", true)
  | 7 => ("HeatBatches$Shop", "volumeOf", "[I", true)
  | _ => ("HeatBatches$Shop", "dueOf", "[I", true)
def tyX3 : Nat → FieldType := fun k => match k with
  | 0 => .array .int
  | 1 => .array .int
  | 2 => .int
  | 3 => .int
  | 4 => .int
  | 5 => .int
  | 6 => .array .int
  | 7 => .array .int
  | _ => .array .int
abbrev wsX30 : List Cond := u_ws RX3 TX3 9
theorem nmX3 : ∀ a, a < 9 → ∀ b, b < 9 → a ≠ b → (TX3 a).2.1 ≠ (TX3 b).2.1 := by decide +kernel
theorem tyX3_ok : ∀ k, k < 9 → parseFieldDescriptor (TX3 k).2.2.1 = some (tyX3 k) := by decide +kernel
abbrev cX3_init : ByteArray := prog_5_method_1_code
def yX3_init : MethodName := ⟨RX3, "<init>", "()V"⟩
abbrev cX3_become : ByteArray := prog_5_method_2_code
def yX3_become : MethodName := ⟨RX3, "become", "(LHeatBatches$Shop;)V"⟩
abbrev cX3_take : ByteArray := prog_5_method_3_code
def yX3_take : MethodName := ⟨RX3, "take", "(III)I"⟩
abbrev cX3_remove : ByteArray := prog_5_method_4_code
def yX3_remove : MethodName := ⟨RX3, "remove", "(I)V"⟩
abbrev cX3_tight : ByteArray := prog_5_method_5_code
def yX3_tight : MethodName := ⟨RX3, "tight", "(I)I"⟩
abbrev cX3_everyJob : ByteArray := prog_5_method_6_code
def yX3_everyJob : MethodName := ⟨RX3, "everyJob", "()I"⟩
abbrev cX3_membersOf : ByteArray := prog_5_method_7_code
def yX3_membersOf : MethodName := ⟨RX3, "membersOf", "(I)I"⟩
abbrev cX3_familiesUsed : ByteArray := prog_5_method_8_code
def yX3_familiesUsed : MethodName := ⟨RX3, "familiesUsed", "()I"⟩
abbrev cX3_allVolumes : ByteArray := prog_5_method_9_code
def yX3_allVolumes : MethodName := ⟨RX3, "allVolumes", "()I"⟩
abbrev cX3_volumeOfSet : ByteArray := prog_5_method_10_code
def yX3_volumeOfSet : MethodName := ⟨RX3, "volumeOfSet", "(I)I"⟩
abbrev cX3_fits : ByteArray := prog_5_method_11_code
def yX3_fits : MethodName := ⟨RX3, "fits", "(II)Z"⟩
abbrev cX3_familyOfSet : ByteArray := prog_5_method_12_code
def yX3_familyOfSet : MethodName := ⟨RX3, "familyOfSet", "(I)I"⟩
abbrev cX3_takes : ByteArray := prog_5_method_13_code
def yX3_takes : MethodName := ⟨RX3, "takes", "(II)I"⟩
abbrev cX3_late : ByteArray := prog_5_method_14_code
def yX3_late : MethodName := ⟨RX3, "late", "(III)I"⟩
def RX4 : String := "HeatBatches"
def TX4 : u_T := fun k => match k with
  | 0 => ("HeatBatches", "shop", "LHeatBatches$Shop;", true)
  | 1 => ("HeatBatches", "trial", "LHeatBatches$Shop;", true)
  | 2 => ("HeatBatches", "images", "[LHeatBatches$Shop;", true)
  | 3 => ("HeatBatches", "imagesKept", "I", false)
  | 4 => ("HeatBatches", "pad", "LHeatBatches$Pad;", true)
  | 5 => ("HeatBatches", "padPlan", "LHeatBatches$Plan;", true)
  | 6 => ("HeatBatches", "putPlan", "LHeatBatches$Plan;", true)
  | 7 => ("HeatBatches", "rulePlan", "LHeatBatches$Plan;", true)
  | 8 => ("HeatBatches", "bestPlans", "[LHeatBatches$Plan;", true)
  | 9 => ("HeatBatches", "bestValues", "[I", true)
  | 10 => ("HeatBatches", "bestKnown", "[Z", true)
  | _ => ("HeatBatches", "search", "LHeatBatches$Search;", true)
def tyX4 : Nat → FieldType := fun k => match k with
  | 0 => .object "HeatBatches$Shop"
  | 1 => .object "HeatBatches$Shop"
  | 2 => .array (.object "HeatBatches$Shop")
  | 3 => .int
  | 4 => .object "HeatBatches$Pad"
  | 5 => .object "HeatBatches$Plan"
  | 6 => .object "HeatBatches$Plan"
  | 7 => .object "HeatBatches$Plan"
  | 8 => .array (.object "HeatBatches$Plan")
  | 9 => .array .int
  | 10 => .array .boolean
  | _ => .object "HeatBatches$Search"
abbrev wsX40 : List Cond := u_ws RX4 TX4 12
theorem nmX4 : ∀ a, a < 12 → ∀ b, b < 12 → a ≠ b → (TX4 a).2.1 ≠ (TX4 b).2.1 := by decide +kernel
theorem tyX4_ok : ∀ k, k < 12 → parseFieldDescriptor (TX4 k).2.2.1 = some (tyX4 k) := by decide +kernel
abbrev cX4_init : ByteArray := prog_1_method_1_code
def yX4_init : MethodName := ⟨RX4, "<init>", "()V"⟩
abbrev cX4_family : ByteArray := prog_1_method_2_code
def yX4_family : MethodName := ⟨RX4, "family", "(III)I"⟩
abbrev cX4_set : ByteArray := prog_1_method_3_code
def yX4_set : MethodName := ⟨RX4, "set", "(II)I"⟩
abbrev cX4_job : ByteArray := prog_1_method_4_code
def yX4_job : MethodName := ⟨RX4, "job", "(III)I"⟩
abbrev cX4_drop : ByteArray := prog_1_method_5_code
def yX4_drop : MethodName := ⟨RX4, "drop", "(I)I"⟩
abbrev cX4_due : ByteArray := prog_1_method_6_code
def yX4_due : MethodName := ⟨RX4, "due", "(II)I"⟩
abbrev cX4_of : ByteArray := prog_1_method_7_code
def yX4_of : MethodName := ⟨RX4, "of", "(II)I"⟩
abbrev cX4_best : ByteArray := prog_1_method_8_code
def yX4_best : MethodName := ⟨RX4, "best", "(I)I"⟩
abbrev cX4_plan : ByteArray := prog_1_method_9_code
def yX4_plan : MethodName := ⟨RX4, "plan", "(II)I"⟩
abbrev cX4_end : ByteArray := prog_1_method_10_code
def yX4_end : MethodName := ⟨RX4, "end", "(II)I"⟩
abbrev cX4_slack : ByteArray := prog_1_method_11_code
def yX4_slack : MethodName := ⟨RX4, "slack", "(II)I"⟩
abbrev cX4_rule : ByteArray := prog_1_method_12_code
def yX4_rule : MethodName := ⟨RX4, "rule", "(I)I"⟩
abbrev cX4_ruled : ByteArray := prog_1_method_13_code
def yX4_ruled : MethodName := ⟨RX4, "ruled", "(I)I"⟩
abbrev cX4_say : ByteArray := prog_1_method_14_code
def yX4_say : MethodName := ⟨RX4, "say", "(I)I"⟩
abbrev cX4_wipe : ByteArray := prog_1_method_15_code
def yX4_wipe : MethodName := ⟨RX4, "wipe", "()I"⟩
abbrev cX4_fault : ByteArray := prog_1_method_16_code
def yX4_fault : MethodName := ⟨RX4, "fault", "()I"⟩
abbrev cX4_row : ByteArray := prog_1_method_17_code
def yX4_row : MethodName := ⟨RX4, "row", "(I)I"⟩
abbrev cX4_at : ByteArray := prog_1_method_18_code
def yX4_at : MethodName := ⟨RX4, "at", "(I)I"⟩
abbrev cX4_put : ByteArray := prog_1_method_19_code
def yX4_put : MethodName := ⟨RX4, "put", "(II)I"⟩
abbrev cX4_image : ByteArray := prog_1_method_20_code
def yX4_image : MethodName := ⟨RX4, "image", "(I)I"⟩
abbrev cX4_restore : ByteArray := prog_1_method_21_code
def yX4_restore : MethodName := ⟨RX4, "restore", "(I)I"⟩
abbrev cX4_count : ByteArray := prog_1_method_22_code
def yX4_count : MethodName := ⟨RX4, "count", "(I)I"⟩
abbrev cX4_isWithin : ByteArray := prog_1_method_23_code
def yX4_isWithin : MethodName := ⟨RX4, "isWithin", "(III)Z"⟩
abbrev cX4_isFamily : ByteArray := prog_1_method_24_code
def yX4_isFamily : MethodName := ⟨RX4, "isFamily", "(I)Z"⟩
abbrev cX4_isMeasure : ByteArray := prog_1_method_25_code
def yX4_isMeasure : MethodName := ⟨RX4, "isMeasure", "(I)Z"⟩
abbrev cX4_isOfDues : ByteArray := prog_1_method_26_code
def yX4_isOfDues : MethodName := ⟨RX4, "isOfDues", "(I)Z"⟩
abbrev cX4_isJob : ByteArray := prog_1_method_27_code
def yX4_isJob : MethodName := ⟨RX4, "isJob", "(I)Z"⟩
abbrev cX4_contains : ByteArray := prog_1_method_28_code
def yX4_contains : MethodName := ⟨RX4, "contains", "(II)Z"⟩
abbrev cX4_joined : ByteArray := prog_1_method_29_code
def yX4_joined : MethodName := ⟨RX4, "joined", "(III)I"⟩
abbrev cX4_forgetBest : ByteArray := prog_1_method_30_code
def yX4_forgetBest : MethodName := ⟨RX4, "forgetBest", "()V"⟩
abbrev cX4_findBest : ByteArray := prog_1_method_31_code
def yX4_findBest : MethodName := ⟨RX4, "findBest", "(I)V"⟩
abbrev cX4_earliestDue : ByteArray := prog_1_method_32_code
def yX4_earliestDue : MethodName := ⟨RX4, "earliestDue", "(II)I"⟩
abbrev cX4_layRule : ByteArray := prog_1_method_33_code
def yX4_layRule : MethodName := ⟨RX4, "layRule", "()V"⟩
abbrev cX4_ruleBatch : ByteArray := prog_1_method_34_code
def yX4_ruleBatch : MethodName := ⟨RX4, "ruleBatch", "(I)I"⟩
abbrev cX4_tightest : ByteArray := prog_1_method_35_code
def yX4_tightest : MethodName := ⟨RX4, "tightest", "(I)I"⟩
abbrev cX4_putIn : ByteArray := prog_1_method_36_code
def yX4_putIn : MethodName := ⟨RX4, "putIn", "(IZ)I"⟩
def RX5 : String := "HeatBatchesModel"
def TX5 : u_T := fun k => match k with
  | 0 => ("HeatBatchesModel", "state", "[I", true)
  | 1 => ("HeatBatchesModel", "images", "[I", true)
  | 2 => ("HeatBatchesModel", "isKept", "[Z", true)
  | 3 => ("HeatBatchesModel", "pad", "[I", true)
  | 4 => ("HeatBatchesModel", "said", "I", false)
  | 5 => ("HeatBatchesModel", "plan", "[I", true)
  | 6 => ("HeatBatchesModel", "planMany", "I", false)
  | 7 => ("HeatBatchesModel", "endAt", "[I", true)
  | 8 => ("HeatBatchesModel", "batchFamily", "[I", true)
  | 9 => ("HeatBatchesModel", "comes", "[Z", true)
  | 10 => ("HeatBatchesModel", "least", "[I", true)
  | 11 => ("HeatBatchesModel", "allTold", "I", false)
  | _ => ("HeatBatchesModel", "open", "I", false)
def tyX5 : Nat → FieldType := fun k => match k with
  | 0 => .array .int
  | 1 => .array .int
  | 2 => .array .boolean
  | 3 => .array .int
  | 4 => .int
  | 5 => .array .int
  | 6 => .int
  | 7 => .array .int
  | 8 => .array .int
  | 9 => .array .boolean
  | 10 => .array .int
  | 11 => .int
  | _ => .int
abbrev wsX50 : List Cond := u_ws RX5 TX5 13
theorem nmX5 : ∀ a, a < 13 → ∀ b, b < 13 → a ≠ b → (TX5 a).2.1 ≠ (TX5 b).2.1 := by decide +kernel
theorem tyX5_ok : ∀ k, k < 13 → parseFieldDescriptor (TX5 k).2.2.1 = some (tyX5 k) := by decide +kernel
abbrev cX5_init : ByteArray := prog_7_method_1_code
def yX5_init : MethodName := ⟨RX5, "<init>", "()V"⟩
abbrev cX5_in : ByteArray := prog_7_method_2_code
def yX5_in : MethodName := ⟨RX5, "in", "(III)Z"⟩
abbrev cX5_isFamily : ByteArray := prog_7_method_3_code
def yX5_isFamily : MethodName := ⟨RX5, "isFamily", "(I)Z"⟩
abbrev cX5_many : ByteArray := prog_7_method_4_code
def yX5_many : MethodName := ⟨RX5, "many", "()I"⟩
abbrev cX5_isJob : ByteArray := prog_7_method_5_code
def yX5_isJob : MethodName := ⟨RX5, "isJob", "(I)Z"⟩
abbrev cX5_isMeasure : ByteArray := prog_7_method_6_code
def yX5_isMeasure : MethodName := ⟨RX5, "isMeasure", "(I)Z"⟩
abbrev cX5_family : ByteArray := prog_7_method_7_code
def yX5_family : MethodName := ⟨RX5, "family", "(III)I"⟩
abbrev cX5_set : ByteArray := prog_7_method_8_code
def yX5_set : MethodName := ⟨RX5, "set", "(II)I"⟩
abbrev cX5_job : ByteArray := prog_7_method_9_code
def yX5_job : MethodName := ⟨RX5, "job", "(III)I"⟩
abbrev cX5_drop : ByteArray := prog_7_method_10_code
def yX5_drop : MethodName := ⟨RX5, "drop", "(I)I"⟩
abbrev cX5_due : ByteArray := prog_7_method_11_code
def yX5_due : MethodName := ⟨RX5, "due", "(II)I"⟩
abbrev cX5_down : ByteArray := prog_7_method_12_code
def yX5_down : MethodName := ⟨RX5, "down", "(II)I"⟩
abbrev cX5_tight : ByteArray := prog_7_method_13_code
def yX5_tight : MethodName := ⟨RX5, "tight", "(I)I"⟩
abbrev cX5_of : ByteArray := prog_7_method_14_code
def yX5_of : MethodName := ⟨RX5, "of", "(II)I"⟩
abbrev cX5_has : ByteArray := prog_7_method_15_code
def yX5_has : MethodName := ⟨RX5, "has", "(II)Z"⟩
abbrev cX5_volumeOf : ByteArray := prog_7_method_16_code
def yX5_volumeOf : MethodName := ⟨RX5, "volumeOf", "(I)I"⟩
abbrev cX5_familyOf : ByteArray := prog_7_method_17_code
def yX5_familyOf : MethodName := ⟨RX5, "familyOf", "(I)I"⟩
abbrev cX5_changeOf : ByteArray := prog_7_method_18_code
def yX5_changeOf : MethodName := ⟨RX5, "changeOf", "(II)I"⟩
abbrev cX5_endOf : ByteArray := prog_7_method_19_code
def yX5_endOf : MethodName := ⟨RX5, "endOf", "(III)I"⟩
abbrev cX5_worstOf : ByteArray := prog_7_method_20_code
def yX5_worstOf : MethodName := ⟨RX5, "worstOf", "(II)I"⟩
abbrev cX5_sumOf : ByteArray := prog_7_method_21_code
def yX5_sumOf : MethodName := ⟨RX5, "sumOf", "(II)I"⟩
abbrev cX5_layEnds : ByteArray := prog_7_method_22_code
def yX5_layEnds : MethodName := ⟨RX5, "layEnds", "()V"⟩
abbrev cX5_measureOf : ByteArray := prog_7_method_23_code
def yX5_measureOf : MethodName := ⟨RX5, "measureOf", "(I)I"⟩
abbrev cX5_batchOf : ByteArray := prog_7_method_24_code
def yX5_batchOf : MethodName := ⟨RX5, "batchOf", "(I)I"⟩
abbrev cX5_place : ByteArray := prog_7_method_25_code
def yX5_place : MethodName := ⟨RX5, "place", "(III)I"⟩
abbrev cX5_full : ByteArray := prog_7_method_26_code
def yX5_full : MethodName := ⟨RX5, "full", "()I"⟩
abbrev cX5_layBatches : ByteArray := prog_7_method_27_code
def yX5_layBatches : MethodName := ⟨RX5, "layBatches", "()V"⟩
abbrev cX5_markFrom : ByteArray := prog_7_method_28_code
def yX5_markFrom : MethodName := ⟨RX5, "markFrom", "(III)V"⟩
abbrev cX5_markAll : ByteArray := prog_7_method_29_code
def yX5_markAll : MethodName := ⟨RX5, "markAll", "()V"⟩
abbrev cX5_both : ByteArray := prog_7_method_30_code
def yX5_both : MethodName := ⟨RX5, "both", "(III)I"⟩
abbrev cX5_together : ByteArray := prog_7_method_31_code
def yX5_together : MethodName := ⟨RX5, "together", "(III)I"⟩
abbrev cX5_leastFrom : ByteArray := prog_7_method_32_code
def yX5_leastFrom : MethodName := ⟨RX5, "leastFrom", "(IIII)I"⟩
abbrev cX5_layLeast : ByteArray := prog_7_method_33_code
def yX5_layLeast : MethodName := ⟨RX5, "layLeast", "(I)I"⟩
abbrev cX5_bestOf : ByteArray := prog_7_method_34_code
def yX5_bestOf : MethodName := ⟨RX5, "bestOf", "(I)I"⟩
abbrev cX5_best : ByteArray := prog_7_method_35_code
def yX5_best : MethodName := ⟨RX5, "best", "(I)I"⟩
abbrev cX5_layBest : ByteArray := prog_7_method_36_code
def yX5_layBest : MethodName := ⟨RX5, "layBest", "(I)V"⟩
abbrev cX5_isWithin : ByteArray := prog_7_method_37_code
def yX5_isWithin : MethodName := ⟨RX5, "isWithin", "(IIIIII)Z"⟩
abbrev cX5_told : ByteArray := prog_7_method_38_code
def yX5_told : MethodName := ⟨RX5, "told", "(I)I"⟩
abbrev cX5_plan : ByteArray := prog_7_method_39_code
def yX5_plan : MethodName := ⟨RX5, "plan", "(II)I"⟩
abbrev cX5_end : ByteArray := prog_7_method_40_code
def yX5_end : MethodName := ⟨RX5, "end", "(II)I"⟩
abbrev cX5_isAsGood : ByteArray := prog_7_method_41_code
def yX5_isAsGood : MethodName := ⟨RX5, "isAsGood", "(IIII)Z"⟩
abbrev cX5_slack : ByteArray := prog_7_method_42_code
def yX5_slack : MethodName := ⟨RX5, "slack", "(II)I"⟩
abbrev cX5_isTighter : ByteArray := prog_7_method_43_code
def yX5_isTighter : MethodName := ⟨RX5, "isTighter", "(II)Z"⟩
abbrev cX5_tightest : ByteArray := prog_7_method_44_code
def yX5_tightest : MethodName := ⟨RX5, "tightest", "(III)I"⟩
abbrev cX5_layRule : ByteArray := prog_7_method_45_code
def yX5_layRule : MethodName := ⟨RX5, "layRule", "()V"⟩
abbrev cX5_rule : ByteArray := prog_7_method_46_code
def yX5_rule : MethodName := ⟨RX5, "rule", "(I)I"⟩
abbrev cX5_ruled : ByteArray := prog_7_method_47_code
def yX5_ruled : MethodName := ⟨RX5, "ruled", "(I)I"⟩
abbrev cX5_say : ByteArray := prog_7_method_48_code
def yX5_say : MethodName := ⟨RX5, "say", "(I)I"⟩
abbrev cX5_wipe : ByteArray := prog_7_method_49_code
def yX5_wipe : MethodName := ⟨RX5, "wipe", "()I"⟩
abbrev cX5_canStand : ByteArray := prog_7_method_50_code
def yX5_canStand : MethodName := ⟨RX5, "canStand", "(I)Z"⟩
abbrev cX5_layPad : ByteArray := prog_7_method_51_code
def yX5_layPad : MethodName := ⟨RX5, "layPad", "()I"⟩
abbrev cX5_fault : ByteArray := prog_7_method_52_code
def yX5_fault : MethodName := ⟨RX5, "fault", "()I"⟩
abbrev cX5_row : ByteArray := prog_7_method_53_code
def yX5_row : MethodName := ⟨RX5, "row", "(I)I"⟩
abbrev cX5_at : ByteArray := prog_7_method_54_code
def yX5_at : MethodName := ⟨RX5, "at", "(I)I"⟩
abbrev cX5_putAhead : ByteArray := prog_7_method_55_code
def yX5_putAhead : MethodName := ⟨RX5, "putAhead", "(II)V"⟩
abbrev cX5_putAt : ByteArray := prog_7_method_56_code
def yX5_putAt : MethodName := ⟨RX5, "putAt", "(II)Z"⟩
abbrev cX5_put : ByteArray := prog_7_method_57_code
def yX5_put : MethodName := ⟨RX5, "put", "(II)I"⟩
abbrev cX5_image : ByteArray := prog_7_method_58_code
def yX5_image : MethodName := ⟨RX5, "image", "(I)I"⟩
abbrev cX5_restore : ByteArray := prog_7_method_59_code
def yX5_restore : MethodName := ⟨RX5, "restore", "(I)I"⟩
abbrev cX5_familiesUsed : ByteArray := prog_7_method_60_code
def yX5_familiesUsed : MethodName := ⟨RX5, "familiesUsed", "()I"⟩
abbrev cX5_count : ByteArray := prog_7_method_61_code
def yX5_count : MethodName := ⟨RX5, "count", "(I)I"⟩
def RJ6 : String := "java/lang/Integer"
def TJ6 : u_T := fun k => match k with
  | _ => ("", "", "", false)
def tyJ6 : Nat → FieldType := fun k => match k with
  | _ => .int
abbrev wsJ60 : List Cond := u_ws RJ6 TJ6 0
theorem nmJ6 : ∀ a, a < 0 → ∀ b, b < 0 → a ≠ b → (TJ6 a).2.1 ≠ (TJ6 b).2.1 := by decide +kernel
theorem tyJ6_ok : ∀ k, k < 0 → parseFieldDescriptor (TJ6 k).2.2.1 = some (tyJ6 k) := by decide +kernel
abbrev cJ6_bitCount_0f7a4 : ByteArray := prog_8_method_49_code
def yJ6_bitCount_0f7a4 : MethodName := ⟨RJ6, "bitCount", "(I)I"⟩
def RJ9 : String := "java/lang/Math"
def TJ9 : u_T := fun k => match k with
  | _ => ("", "", "", false)
def tyJ9 : Nat → FieldType := fun k => match k with
  | _ => .int
abbrev wsJ90 : List Cond := u_ws RJ9 TJ9 0
theorem nmJ9 : ∀ a, a < 0 → ∀ b, b < 0 → a ≠ b → (TJ9 a).2.1 ≠ (TJ9 b).2.1 := by decide +kernel
theorem tyJ9_ok : ∀ k, k < 0 → parseFieldDescriptor (TJ9 k).2.2.1 = some (tyJ9 k) := by decide +kernel
abbrev cJ9_floorDiv_7cf53 : ByteArray := prog_9_method_47_code
def yJ9_floorDiv_7cf53 : MethodName := ⟨RJ9, "floorDiv", "(II)I"⟩
abbrev cJ9_max_7cf53 : ByteArray := prog_9_method_65_code
def yJ9_max_7cf53 : MethodName := ⟨RJ9, "max", "(II)I"⟩
abbrev cJ9_min_7cf53 : ByteArray := prog_9_method_69_code
def yJ9_min_7cf53 : MethodName := ⟨RJ9, "min", "(II)I"⟩
def RJ10 : String := "java/lang/System"
def TJ10 : u_T := fun k => match k with
  | _ => ("", "", "", false)
def tyJ10 : Nat → FieldType := fun k => match k with
  | _ => .int
abbrev wsJ100 : List Cond := u_ws RJ10 TJ10 0
theorem nmJ10 : ∀ a, a < 0 → ∀ b, b < 0 → a ≠ b → (TJ10 a).2.1 ≠ (TJ10 b).2.1 := by decide +kernel
theorem tyJ10_ok : ∀ k, k < 0 → parseFieldDescriptor (TJ10 k).2.2.1 = some (tyJ10 k) := by decide +kernel
def RJ7 : String := "java/util/Arrays"
def TJ7 : u_T := fun k => match k with
  | _ => ("", "", "", false)
def tyJ7 : Nat → FieldType := fun k => match k with
  | _ => .int
abbrev wsJ70 : List Cond := u_ws RJ7 TJ7 0
theorem nmJ7 : ∀ a, a < 0 → ∀ b, b < 0 → a ≠ b → (TJ7 a).2.1 ≠ (TJ7 b).2.1 := by decide +kernel
theorem tyJ7_ok : ∀ k, k < 0 → parseFieldDescriptor (TJ7 k).2.2.1 = some (tyJ7 k) := by decide +kernel
abbrev cJ7_fill_53178 : ByteArray := prog_11_method_103_code
def yJ7_fill_53178 : MethodName := ⟨RJ7, "fill", "([II)V"⟩
def RL : String := "HeatBatchesLaw"
abbrev cL_law : ByteArray := code
def yL_law : MethodName := ⟨RL, "law", "([I)Z"⟩
abbrev vwCl : List vw_C := [(RX0, TX0, 2), (RX1, TX1, 3), (RX2, TX2, 7), (RX3, TX3, 9), (RX4, TX4, 12), (RX5, TX5, 13)]

/-- the words of the tables that a call hands on -/
def gtbl : List Cond := lw_tbl.filter goodWord
theorem gt_in {w : Cond} (h : w ∈ lw_tbl) (hg : goodWord w = true) : w ∈ gtbl := List.mem_filter.mpr ⟨h, hg⟩
theorem gt_good : ∀ w ∈ gtbl, goodWord w = true := fun _ h => (List.mem_filter.mp h).2
theorem tb_in {w : Cond} (h : w ∈ tables_1) : w ∈ lw_tbl := List.mem_append_right _ h
theorem gt_i (i : Nat) {w : Cond} (h : tables_1[i]? = some w) (hg : goodWord w = true) : w ∈ gtbl := gt_in (tb_in (List.mem_of_getElem? h)) hg
theorem gt_s (i : Nat) {w : Cond} (h : (k2_sels lw_privs)[i]? = some w) (hg : goodWord w = true) : w ∈ gtbl := gt_in (List.mem_append_left _ (List.mem_of_getElem? h)) hg
end
section
theorem dX0_init_0 : decode cX0_init 0 = .ok (.aload_n 0, 1) := by decide +kernel
theorem dX0_init_1 : decode cX0_init 1 = .ok (.invokespecial 3, 3) := by decide +kernel
theorem dX0_init_4 : decode cX0_init 4 = .ok (.aload_n 0, 1) := by decide +kernel
theorem dX0_init_5 : decode cX0_init 5 = .ok (.iconst 0, 1) := by decide +kernel
theorem dX0_init_6 : decode cX0_init 6 = .ok (.putfield 9, 3) := by decide +kernel
theorem dX0_init_9 : decode cX0_init 9 = .ok (.aload_n 0, 1) := by decide +kernel
theorem dX0_init_10 : decode cX0_init 10 = .ok (.bipush 14, 2) := by decide +kernel
theorem dX0_init_12 : decode cX0_init 12 = .ok (.newarray .int, 2) := by decide +kernel
theorem dX0_init_14 : decode cX0_init 14 = .ok (.putfield 15, 3) := by decide +kernel
theorem dX0_init_17 : decode cX0_init 17 = .ok (.return_, 1) := by decide +kernel
theorem dX0_write_0 : decode cX0_write 0 = .ok (.aload_n 0, 1) := by decide +kernel
theorem dX0_write_1 : decode cX0_write 1 = .ok (.getfield 15, 3) := by decide +kernel
theorem dX0_write_4 : decode cX0_write 4 = .ok (.aload_n 0, 1) := by decide +kernel
theorem dX0_write_5 : decode cX0_write 5 = .ok (.getfield 9, 3) := by decide +kernel
theorem dX0_write_8 : decode cX0_write 8 = .ok (.iload_n 1, 1) := by decide +kernel
theorem dX0_write_9 : decode cX0_write 9 = .ok (.iastore, 1) := by decide +kernel
theorem dX0_write_10 : decode cX0_write 10 = .ok (.aload_n 0, 1) := by decide +kernel
theorem dX0_write_11 : decode cX0_write 11 = .ok (.dup, 1) := by decide +kernel
theorem dX0_write_12 : decode cX0_write 12 = .ok (.getfield 9, 3) := by decide +kernel
theorem dX0_write_15 : decode cX0_write 15 = .ok (.iconst 1, 1) := by decide +kernel
theorem dX0_write_16 : decode cX0_write 16 = .ok (.iadd, 1) := by decide +kernel
theorem dX0_write_17 : decode cX0_write 17 = .ok (.putfield 9, 3) := by decide +kernel
theorem dX0_write_20 : decode cX0_write 20 = .ok (.return_, 1) := by decide +kernel
theorem dX0_read_0 : decode cX0_read 0 = .ok (.aload_n 2, 1) := by decide +kernel
theorem dX0_read_1 : decode cX0_read 1 = .ok (.invokevirtual 19, 3) := by decide +kernel
theorem dX0_read_4 : decode cX0_read 4 = .ok (.iconst 0, 1) := by decide +kernel
theorem dX0_read_5 : decode cX0_read 5 = .ok (.istore_n 3, 1) := by decide +kernel
theorem dX0_read_6 : decode cX0_read 6 = .ok (.iconst 0, 1) := by decide +kernel
theorem dX0_read_7 : decode cX0_read 7 = .ok (.istore 4, 2) := by decide +kernel
theorem dX0_read_9 : decode cX0_read 9 = .ok (.iconst 0, 1) := by decide +kernel
theorem dX0_read_10 : decode cX0_read 10 = .ok (.istore 5, 2) := by decide +kernel
theorem dX0_read_12 : decode cX0_read 12 = .ok (.iload 5, 2) := by decide +kernel
theorem dX0_read_14 : decode cX0_read 14 = .ok (.aload_n 0, 1) := by decide +kernel
theorem dX0_read_15 : decode cX0_read 15 = .ok (.getfield 9, 3) := by decide +kernel
theorem dX0_read_18 : decode cX0_read 18 = .ok (.if_icmp .ge 85, 3) := by decide +kernel
theorem dX0_read_21 : decode cX0_read 21 = .ok (.aload_n 0, 1) := by decide +kernel
theorem dX0_read_22 : decode cX0_read 22 = .ok (.getfield 15, 3) := by decide +kernel
theorem dX0_read_25 : decode cX0_read 25 = .ok (.iload 5, 2) := by decide +kernel
theorem dX0_read_27 : decode cX0_read 27 = .ok (.iaload, 1) := by decide +kernel
theorem dX0_read_28 : decode cX0_read 28 = .ok (.bipush 47, 2) := by decide +kernel
theorem dX0_read_30 : decode cX0_read 30 = .ok (.if_icmp .ne 24, 3) := by decide +kernel
theorem dX0_read_33 : decode cX0_read 33 = .ok (.iload 4, 2) := by decide +kernel
theorem dX0_read_35 : decode cX0_read 35 = .ok (.ifCond .ne 6, 3) := by decide +kernel
theorem dX0_read_38 : decode cX0_read 38 = .ok (.iload 5, 2) := by decide +kernel
theorem dX0_read_40 : decode cX0_read 40 = .ok (.ireturn, 1) := by decide +kernel
theorem dX0_read_41 : decode cX0_read 41 = .ok (.aload_n 2, 1) := by decide +kernel
theorem dX0_read_42 : decode cX0_read 42 = .ok (.aload_n 1, 1) := by decide +kernel
theorem dX0_read_43 : decode cX0_read 43 = .ok (.iload 4, 2) := by decide +kernel
theorem dX0_read_45 : decode cX0_read 45 = .ok (.invokevirtual 24, 3) := by decide +kernel
theorem dX0_read_48 : decode cX0_read 48 = .ok (.iconst 0, 1) := by decide +kernel
theorem dX0_read_49 : decode cX0_read 49 = .ok (.istore 4, 2) := by decide +kernel
theorem dX0_read_51 : decode cX0_read 51 = .ok (.goto 46, 3) := by decide +kernel
theorem dX0_read_54 : decode cX0_read 54 = .ok (.aload_n 0, 1) := by decide +kernel
theorem dX0_read_55 : decode cX0_read 55 = .ok (.getfield 15, 3) := by decide +kernel
theorem dX0_read_58 : decode cX0_read 58 = .ok (.iload 5, 2) := by decide +kernel
theorem dX0_read_60 : decode cX0_read 60 = .ok (.iaload, 1) := by decide +kernel
theorem dX0_read_61 : decode cX0_read 61 = .ok (.bipush 48, 2) := by decide +kernel
theorem dX0_read_63 : decode cX0_read 63 = .ok (.isub, 1) := by decide +kernel
theorem dX0_read_64 : decode cX0_read 64 = .ok (.istore 6, 2) := by decide +kernel
theorem dX0_read_66 : decode cX0_read 66 = .ok (.aload_n 1, 1) := by decide +kernel
theorem dX0_read_67 : decode cX0_read 67 = .ok (.iload 6, 2) := by decide +kernel
theorem dX0_read_69 : decode cX0_read 69 = .ok (.iload_n 3, 1) := by decide +kernel
theorem dX0_read_70 : decode cX0_read 70 = .ok (.iload 4, 2) := by decide +kernel
theorem dX0_read_72 : decode cX0_read 72 = .ok (.invokestatic 28, 3) := by decide +kernel
theorem dX0_read_75 : decode cX0_read 75 = .ok (.ifCond .ne 6, 3) := by decide +kernel
theorem dX0_read_78 : decode cX0_read 78 = .ok (.iload 5, 2) := by decide +kernel
theorem dX0_read_80 : decode cX0_read 80 = .ok (.ireturn, 1) := by decide +kernel
theorem dX0_read_81 : decode cX0_read 81 = .ok (.iload_n 3, 1) := by decide +kernel
theorem dX0_read_82 : decode cX0_read 82 = .ok (.iconst 1, 1) := by decide +kernel
theorem dX0_read_83 : decode cX0_read 83 = .ok (.iload 6, 2) := by decide +kernel
theorem dX0_read_85 : decode cX0_read 85 = .ok (.ishl, 1) := by decide +kernel
theorem dX0_read_86 : decode cX0_read 86 = .ok (.ior, 1) := by decide +kernel
theorem dX0_read_87 : decode cX0_read 87 = .ok (.istore_n 3, 1) := by decide +kernel
theorem dX0_read_88 : decode cX0_read 88 = .ok (.iload 4, 2) := by decide +kernel
theorem dX0_read_90 : decode cX0_read 90 = .ok (.iconst 1, 1) := by decide +kernel
theorem dX0_read_91 : decode cX0_read 91 = .ok (.iload 6, 2) := by decide +kernel
theorem dX0_read_93 : decode cX0_read 93 = .ok (.ishl, 1) := by decide +kernel
theorem dX0_read_94 : decode cX0_read 94 = .ok (.ior, 1) := by decide +kernel
theorem dX0_read_95 : decode cX0_read 95 = .ok (.istore 4, 2) := by decide +kernel
theorem dX0_read_97 : decode cX0_read 97 = .ok (.iinc 5 1, 3) := by decide +kernel
theorem dX0_read_100 : decode cX0_read 100 = .ok (.goto (-88), 3) := by decide +kernel
theorem dX0_read_103 : decode cX0_read 103 = .ok (.iload 4, 2) := by decide +kernel
theorem dX0_read_105 : decode cX0_read 105 = .ok (.ifCond .eq 13, 3) := by decide +kernel
theorem dX0_read_108 : decode cX0_read 108 = .ok (.aload_n 2, 1) := by decide +kernel
theorem dX0_read_109 : decode cX0_read 109 = .ok (.aload_n 1, 1) := by decide +kernel
theorem dX0_read_110 : decode cX0_read 110 = .ok (.iload 4, 2) := by decide +kernel
theorem dX0_read_112 : decode cX0_read 112 = .ok (.invokevirtual 24, 3) := by decide +kernel
theorem dX0_read_115 : decode cX0_read 115 = .ok (.bipush (-6), 2) := by decide +kernel
theorem dX0_read_117 : decode cX0_read 117 = .ok (.ireturn, 1) := by decide +kernel
theorem dX0_read_118 : decode cX0_read 118 = .ok (.aload_n 0, 1) := by decide +kernel
theorem dX0_read_119 : decode cX0_read 119 = .ok (.getfield 9, 3) := by decide +kernel
theorem dX0_read_122 : decode cX0_read 122 = .ok (.ifCond .ne 8, 3) := by decide +kernel
theorem dX0_read_125 : decode cX0_read 125 = .ok (.bipush (-6), 2) := by decide +kernel
theorem dX0_read_127 : decode cX0_read 127 = .ok (.goto 7, 3) := by decide +kernel
theorem dX0_read_130 : decode cX0_read 130 = .ok (.aload_n 0, 1) := by decide +kernel
theorem dX0_read_131 : decode cX0_read 131 = .ok (.getfield 9, 3) := by decide +kernel
theorem dX0_read_134 : decode cX0_read 134 = .ok (.ireturn, 1) := by decide +kernel
theorem dX0_mayStand_0 : decode cX0_mayStand 0 = .ok (.iload_n 1, 1) := by decide +kernel
theorem dX0_mayStand_1 : decode cX0_mayStand 1 = .ok (.iconst 0, 1) := by decide +kernel
theorem dX0_mayStand_2 : decode cX0_mayStand 2 = .ok (.aload_n 0, 1) := by decide +kernel
theorem dX0_mayStand_3 : decode cX0_mayStand 3 = .ok (.getfield 32, 3) := by decide +kernel
theorem dX0_mayStand_6 : decode cX0_mayStand 6 = .ok (.iconst 1, 1) := by decide +kernel
theorem dX0_mayStand_7 : decode cX0_mayStand 7 = .ok (.isub, 1) := by decide +kernel
theorem dX0_mayStand_8 : decode cX0_mayStand 8 = .ok (.invokestatic 37, 3) := by decide +kernel
theorem dX0_mayStand_11 : decode cX0_mayStand 11 = .ok (.ifCond .eq 11, 3) := by decide +kernel
theorem dX0_mayStand_14 : decode cX0_mayStand 14 = .ok (.iload_n 2, 1) := by decide +kernel
theorem dX0_mayStand_15 : decode cX0_mayStand 15 = .ok (.iload_n 1, 1) := by decide +kernel
theorem dX0_mayStand_16 : decode cX0_mayStand 16 = .ok (.invokestatic 41, 3) := by decide +kernel
theorem dX0_mayStand_19 : decode cX0_mayStand 19 = .ok (.ifCond .eq 5, 3) := by decide +kernel
theorem dX0_mayStand_22 : decode cX0_mayStand 22 = .ok (.iconst 0, 1) := by decide +kernel
theorem dX0_mayStand_23 : decode cX0_mayStand 23 = .ok (.ireturn, 1) := by decide +kernel
theorem dX0_mayStand_24 : decode cX0_mayStand 24 = .ok (.iload_n 3, 1) := by decide +kernel
theorem dX0_mayStand_25 : decode cX0_mayStand 25 = .ok (.ifCond .eq 12, 3) := by decide +kernel
theorem dX0_mayStand_28 : decode cX0_mayStand 28 = .ok (.aload_n 0, 1) := by decide +kernel
theorem dX0_mayStand_29 : decode cX0_mayStand 29 = .ok (.iload_n 1, 1) := by decide +kernel
theorem dX0_mayStand_30 : decode cX0_mayStand 30 = .ok (.iload_n 3, 1) := by decide +kernel
theorem dX0_mayStand_31 : decode cX0_mayStand 31 = .ok (.invokevirtual 45, 3) := by decide +kernel
theorem dX0_mayStand_34 : decode cX0_mayStand 34 = .ok (.ifCond .eq 7, 3) := by decide +kernel
theorem dX0_mayStand_37 : decode cX0_mayStand 37 = .ok (.iconst 1, 1) := by decide +kernel
theorem dX0_mayStand_38 : decode cX0_mayStand 38 = .ok (.goto 4, 3) := by decide +kernel
theorem dX0_mayStand_41 : decode cX0_mayStand 41 = .ok (.iconst 0, 1) := by decide +kernel
theorem dX0_mayStand_42 : decode cX0_mayStand 42 = .ok (.ireturn, 1) := by decide +kernel
theorem dX1_init_0 : decode cX1_init 0 = .ok (.aload_n 0, 1) := by decide +kernel
theorem dX1_init_1 : decode cX1_init 1 = .ok (.invokespecial 3, 3) := by decide +kernel
theorem dX1_init_4 : decode cX1_init 4 = .ok (.aload_n 0, 1) := by decide +kernel
theorem dX1_init_5 : decode cX1_init 5 = .ok (.iconst 0, 1) := by decide +kernel
theorem dX1_init_6 : decode cX1_init 6 = .ok (.putfield 9, 3) := by decide +kernel
theorem dX1_init_9 : decode cX1_init 9 = .ok (.aload_n 0, 1) := by decide +kernel
theorem dX1_init_10 : decode cX1_init 10 = .ok (.bipush 7, 2) := by decide +kernel
theorem dX1_init_12 : decode cX1_init 12 = .ok (.newarray .int, 2) := by decide +kernel
theorem dX1_init_14 : decode cX1_init 14 = .ok (.putfield 15, 3) := by decide +kernel
theorem dX1_init_17 : decode cX1_init 17 = .ok (.aload_n 0, 1) := by decide +kernel
theorem dX1_init_18 : decode cX1_init 18 = .ok (.bipush 7, 2) := by decide +kernel
theorem dX1_init_20 : decode cX1_init 20 = .ok (.newarray .int, 2) := by decide +kernel
theorem dX1_init_22 : decode cX1_init 22 = .ok (.putfield 19, 3) := by decide +kernel
theorem dX1_init_25 : decode cX1_init 25 = .ok (.return_, 1) := by decide +kernel
theorem dX1_clear_0 : decode cX1_clear 0 = .ok (.aload_n 0, 1) := by decide +kernel
theorem dX1_clear_1 : decode cX1_clear 1 = .ok (.iconst 0, 1) := by decide +kernel
theorem dX1_clear_2 : decode cX1_clear 2 = .ok (.putfield 9, 3) := by decide +kernel
theorem dX1_clear_5 : decode cX1_clear 5 = .ok (.return_, 1) := by decide +kernel
theorem dX1_add_0 : decode cX1_add 0 = .ok (.aload_n 0, 1) := by decide +kernel
theorem dX1_add_1 : decode cX1_add 1 = .ok (.getfield 9, 3) := by decide +kernel
theorem dX1_add_4 : decode cX1_add 4 = .ok (.bipush 7, 2) := by decide +kernel
theorem dX1_add_6 : decode cX1_add 6 = .ok (.if_icmp .ge 7, 3) := by decide +kernel
theorem dX1_add_9 : decode cX1_add 9 = .ok (.iload_n 2, 1) := by decide +kernel
theorem dX1_add_10 : decode cX1_add 10 = .ok (.ifCond .ne 4, 3) := by decide +kernel
theorem dX1_add_13 : decode cX1_add 13 = .ok (.return_, 1) := by decide +kernel
theorem dX1_add_14 : decode cX1_add 14 = .ok (.aload_n 0, 1) := by decide +kernel
theorem dX1_add_15 : decode cX1_add 15 = .ok (.getfield 9, 3) := by decide +kernel
theorem dX1_add_18 : decode cX1_add 18 = .ok (.ifCond .ne 7, 3) := by decide +kernel
theorem dX1_add_21 : decode cX1_add 21 = .ok (.iconst 3, 1) := by decide +kernel
theorem dX1_add_22 : decode cX1_add 22 = .ok (.goto 18, 3) := by decide +kernel
theorem dX1_add_25 : decode cX1_add 25 = .ok (.aload_n 1, 1) := by decide +kernel
theorem dX1_add_26 : decode cX1_add 26 = .ok (.aload_n 0, 1) := by decide +kernel
theorem dX1_add_27 : decode cX1_add 27 = .ok (.getfield 15, 3) := by decide +kernel
theorem dX1_add_30 : decode cX1_add 30 = .ok (.aload_n 0, 1) := by decide +kernel
theorem dX1_add_31 : decode cX1_add 31 = .ok (.getfield 9, 3) := by decide +kernel
theorem dX1_add_34 : decode cX1_add 34 = .ok (.iconst 1, 1) := by decide +kernel
theorem dX1_add_35 : decode cX1_add 35 = .ok (.isub, 1) := by decide +kernel
theorem dX1_add_36 : decode cX1_add 36 = .ok (.iaload, 1) := by decide +kernel
theorem dX1_add_37 : decode cX1_add 37 = .ok (.invokevirtual 24, 3) := by decide +kernel
theorem dX1_add_40 : decode cX1_add 40 = .ok (.istore_n 3, 1) := by decide +kernel
theorem dX1_add_41 : decode cX1_add 41 = .ok (.aload_n 0, 1) := by decide +kernel
theorem dX1_add_42 : decode cX1_add 42 = .ok (.getfield 15, 3) := by decide +kernel
theorem dX1_add_45 : decode cX1_add 45 = .ok (.aload_n 0, 1) := by decide +kernel
theorem dX1_add_46 : decode cX1_add 46 = .ok (.getfield 9, 3) := by decide +kernel
theorem dX1_add_49 : decode cX1_add 49 = .ok (.iload_n 2, 1) := by decide +kernel
theorem dX1_add_50 : decode cX1_add 50 = .ok (.iastore, 1) := by decide +kernel
theorem dX1_add_51 : decode cX1_add 51 = .ok (.aload_n 0, 1) := by decide +kernel
theorem dX1_add_52 : decode cX1_add 52 = .ok (.getfield 19, 3) := by decide +kernel
theorem dX1_add_55 : decode cX1_add 55 = .ok (.aload_n 0, 1) := by decide +kernel
theorem dX1_add_56 : decode cX1_add 56 = .ok (.getfield 9, 3) := by decide +kernel
theorem dX1_add_59 : decode cX1_add 59 = .ok (.aload_n 0, 1) := by decide +kernel
theorem dX1_add_60 : decode cX1_add 60 = .ok (.invokevirtual 28, 3) := by decide +kernel
theorem dX1_add_63 : decode cX1_add 63 = .ok (.aload_n 1, 1) := by decide +kernel
theorem dX1_add_64 : decode cX1_add 64 = .ok (.iload_n 3, 1) := by decide +kernel
theorem dX1_add_65 : decode cX1_add 65 = .ok (.aload_n 1, 1) := by decide +kernel
theorem dX1_add_66 : decode cX1_add 66 = .ok (.iload_n 2, 1) := by decide +kernel
theorem dX1_add_67 : decode cX1_add 67 = .ok (.invokevirtual 24, 3) := by decide +kernel
theorem dX1_add_70 : decode cX1_add 70 = .ok (.invokevirtual 32, 3) := by decide +kernel
theorem dX1_add_73 : decode cX1_add 73 = .ok (.iadd, 1) := by decide +kernel
theorem dX1_add_74 : decode cX1_add 74 = .ok (.iastore, 1) := by decide +kernel
theorem dX1_add_75 : decode cX1_add 75 = .ok (.aload_n 0, 1) := by decide +kernel
theorem dX1_add_76 : decode cX1_add 76 = .ok (.dup, 1) := by decide +kernel
theorem dX1_add_77 : decode cX1_add 77 = .ok (.getfield 9, 3) := by decide +kernel
theorem dX1_add_80 : decode cX1_add 80 = .ok (.iconst 1, 1) := by decide +kernel
theorem dX1_add_81 : decode cX1_add 81 = .ok (.iadd, 1) := by decide +kernel
theorem dX1_add_82 : decode cX1_add 82 = .ok (.putfield 9, 3) := by decide +kernel
theorem dX1_add_85 : decode cX1_add 85 = .ok (.return_, 1) := by decide +kernel
theorem dX1_time_0 : decode cX1_time 0 = .ok (.aload_n 0, 1) := by decide +kernel
theorem dX1_time_1 : decode cX1_time 1 = .ok (.getfield 9, 3) := by decide +kernel
theorem dX1_time_4 : decode cX1_time 4 = .ok (.ifCond .ne 7, 3) := by decide +kernel
theorem dX1_time_7 : decode cX1_time 7 = .ok (.iconst 0, 1) := by decide +kernel
theorem dX1_time_8 : decode cX1_time 8 = .ok (.goto 14, 3) := by decide +kernel
theorem dX1_time_11 : decode cX1_time 11 = .ok (.aload_n 0, 1) := by decide +kernel
theorem dX1_time_12 : decode cX1_time 12 = .ok (.getfield 19, 3) := by decide +kernel
theorem dX1_time_15 : decode cX1_time 15 = .ok (.aload_n 0, 1) := by decide +kernel
theorem dX1_time_16 : decode cX1_time 16 = .ok (.getfield 9, 3) := by decide +kernel
theorem dX1_time_19 : decode cX1_time 19 = .ok (.iconst 1, 1) := by decide +kernel
theorem dX1_time_20 : decode cX1_time 20 = .ok (.isub, 1) := by decide +kernel
theorem dX1_time_21 : decode cX1_time 21 = .ok (.iaload, 1) := by decide +kernel
theorem dX1_time_22 : decode cX1_time 22 = .ok (.ireturn, 1) := by decide +kernel
theorem dX1_members_0 : decode cX1_members 0 = .ok (.iconst 0, 1) := by decide +kernel
theorem dX1_members_1 : decode cX1_members 1 = .ok (.istore_n 1, 1) := by decide +kernel
theorem dX1_members_2 : decode cX1_members 2 = .ok (.iconst 0, 1) := by decide +kernel
theorem dX1_members_3 : decode cX1_members 3 = .ok (.istore_n 2, 1) := by decide +kernel
theorem dX1_members_4 : decode cX1_members 4 = .ok (.iload_n 2, 1) := by decide +kernel
theorem dX1_members_5 : decode cX1_members 5 = .ok (.aload_n 0, 1) := by decide +kernel
theorem dX1_members_6 : decode cX1_members 6 = .ok (.getfield 9, 3) := by decide +kernel
theorem dX1_members_9 : decode cX1_members 9 = .ok (.if_icmp .ge 18, 3) := by decide +kernel
theorem dX1_members_12 : decode cX1_members 12 = .ok (.iload_n 1, 1) := by decide +kernel
theorem dX1_members_13 : decode cX1_members 13 = .ok (.aload_n 0, 1) := by decide +kernel
theorem dX1_members_14 : decode cX1_members 14 = .ok (.getfield 15, 3) := by decide +kernel
theorem dX1_members_17 : decode cX1_members 17 = .ok (.iload_n 2, 1) := by decide +kernel
theorem dX1_members_18 : decode cX1_members 18 = .ok (.iaload, 1) := by decide +kernel
theorem dX1_members_19 : decode cX1_members 19 = .ok (.ior, 1) := by decide +kernel
theorem dX1_members_20 : decode cX1_members 20 = .ok (.istore_n 1, 1) := by decide +kernel
theorem dX1_members_21 : decode cX1_members 21 = .ok (.iinc 2 1, 3) := by decide +kernel
theorem dX1_members_24 : decode cX1_members 24 = .ok (.goto (-20), 3) := by decide +kernel
theorem dX1_members_27 : decode cX1_members 27 = .ok (.iload_n 1, 1) := by decide +kernel
theorem dX1_members_28 : decode cX1_members 28 = .ok (.ireturn, 1) := by decide +kernel
theorem dX1_batchOrHowMany_0 : decode cX1_batchOrHowMany 0 = .ok (.iload_n 1, 1) := by decide +kernel
theorem dX1_batchOrHowMany_1 : decode cX1_batchOrHowMany 1 = .ok (.iconst (-1), 1) := by decide +kernel
theorem dX1_batchOrHowMany_2 : decode cX1_batchOrHowMany 2 = .ok (.if_icmp .ne 8, 3) := by decide +kernel
theorem dX1_batchOrHowMany_5 : decode cX1_batchOrHowMany 5 = .ok (.aload_n 0, 1) := by decide +kernel
theorem dX1_batchOrHowMany_6 : decode cX1_batchOrHowMany 6 = .ok (.getfield 9, 3) := by decide +kernel
theorem dX1_batchOrHowMany_9 : decode cX1_batchOrHowMany 9 = .ok (.ireturn, 1) := by decide +kernel
theorem dX1_batchOrHowMany_10 : decode cX1_batchOrHowMany 10 = .ok (.iload_n 1, 1) := by decide +kernel
theorem dX1_batchOrHowMany_11 : decode cX1_batchOrHowMany 11 = .ok (.iconst 0, 1) := by decide +kernel
theorem dX1_batchOrHowMany_12 : decode cX1_batchOrHowMany 12 = .ok (.aload_n 0, 1) := by decide +kernel
theorem dX1_batchOrHowMany_13 : decode cX1_batchOrHowMany 13 = .ok (.getfield 9, 3) := by decide +kernel
theorem dX1_batchOrHowMany_16 : decode cX1_batchOrHowMany 16 = .ok (.iconst 1, 1) := by decide +kernel
theorem dX1_batchOrHowMany_17 : decode cX1_batchOrHowMany 17 = .ok (.isub, 1) := by decide +kernel
theorem dX1_batchOrHowMany_18 : decode cX1_batchOrHowMany 18 = .ok (.invokestatic 36, 3) := by decide +kernel
theorem dX1_batchOrHowMany_21 : decode cX1_batchOrHowMany 21 = .ok (.ifCond .eq 12, 3) := by decide +kernel
theorem dX1_batchOrHowMany_24 : decode cX1_batchOrHowMany 24 = .ok (.aload_n 0, 1) := by decide +kernel
theorem dX1_batchOrHowMany_25 : decode cX1_batchOrHowMany 25 = .ok (.getfield 15, 3) := by decide +kernel
theorem dX1_batchOrHowMany_28 : decode cX1_batchOrHowMany 28 = .ok (.iload_n 1, 1) := by decide +kernel
theorem dX1_batchOrHowMany_29 : decode cX1_batchOrHowMany 29 = .ok (.iaload, 1) := by decide +kernel
theorem dX1_batchOrHowMany_30 : decode cX1_batchOrHowMany 30 = .ok (.goto 5, 3) := by decide +kernel
theorem dX1_batchOrHowMany_33 : decode cX1_batchOrHowMany 33 = .ok (.bipush (-6), 2) := by decide +kernel
theorem dX1_batchOrHowMany_35 : decode cX1_batchOrHowMany 35 = .ok (.ireturn, 1) := by decide +kernel
theorem dX1_endOf_0 : decode cX1_endOf 0 = .ok (.iconst 0, 1) := by decide +kernel
theorem dX1_endOf_1 : decode cX1_endOf 1 = .ok (.istore_n 2, 1) := by decide +kernel
theorem dX1_endOf_2 : decode cX1_endOf 2 = .ok (.iload_n 2, 1) := by decide +kernel
theorem dX1_endOf_3 : decode cX1_endOf 3 = .ok (.aload_n 0, 1) := by decide +kernel
theorem dX1_endOf_4 : decode cX1_endOf 4 = .ok (.getfield 9, 3) := by decide +kernel
theorem dX1_endOf_7 : decode cX1_endOf 7 = .ok (.if_icmp .ge 29, 3) := by decide +kernel
theorem dX1_endOf_10 : decode cX1_endOf 10 = .ok (.aload_n 0, 1) := by decide +kernel
theorem dX1_endOf_11 : decode cX1_endOf 11 = .ok (.getfield 15, 3) := by decide +kernel
theorem dX1_endOf_14 : decode cX1_endOf 14 = .ok (.iload_n 2, 1) := by decide +kernel
theorem dX1_endOf_15 : decode cX1_endOf 15 = .ok (.iaload, 1) := by decide +kernel
theorem dX1_endOf_16 : decode cX1_endOf 16 = .ok (.iload_n 1, 1) := by decide +kernel
theorem dX1_endOf_17 : decode cX1_endOf 17 = .ok (.invokestatic 40, 3) := by decide +kernel
theorem dX1_endOf_20 : decode cX1_endOf 20 = .ok (.ifCond .eq 10, 3) := by decide +kernel
theorem dX1_endOf_23 : decode cX1_endOf 23 = .ok (.aload_n 0, 1) := by decide +kernel
theorem dX1_endOf_24 : decode cX1_endOf 24 = .ok (.getfield 19, 3) := by decide +kernel
theorem dX1_endOf_27 : decode cX1_endOf 27 = .ok (.iload_n 2, 1) := by decide +kernel
theorem dX1_endOf_28 : decode cX1_endOf 28 = .ok (.iaload, 1) := by decide +kernel
theorem dX1_endOf_29 : decode cX1_endOf 29 = .ok (.ireturn, 1) := by decide +kernel
theorem dX1_endOf_30 : decode cX1_endOf 30 = .ok (.iinc 2 1, 3) := by decide +kernel
theorem dX1_endOf_33 : decode cX1_endOf 33 = .ok (.goto (-31), 3) := by decide +kernel
theorem dX1_endOf_36 : decode cX1_endOf 36 = .ok (.bipush (-6), 2) := by decide +kernel
theorem dX1_endOf_38 : decode cX1_endOf 38 = .ok (.ireturn, 1) := by decide +kernel
theorem dX1_measured_0 : decode cX1_measured 0 = .ok (.iload_n 2, 1) := by decide +kernel
theorem dX1_measured_1 : decode cX1_measured 1 = .ok (.iconst 2, 1) := by decide +kernel
theorem dX1_measured_2 : decode cX1_measured 2 = .ok (.if_icmp .ne 8, 3) := by decide +kernel
theorem dX1_measured_5 : decode cX1_measured 5 = .ok (.aload_n 0, 1) := by decide +kernel
theorem dX1_measured_6 : decode cX1_measured 6 = .ok (.invokevirtual 28, 3) := by decide +kernel
theorem dX1_measured_9 : decode cX1_measured 9 = .ok (.ireturn, 1) := by decide +kernel
theorem dX1_measured_10 : decode cX1_measured 10 = .ok (.iload_n 2, 1) := by decide +kernel
theorem dX1_measured_11 : decode cX1_measured 11 = .ok (.iconst 3, 1) := by decide +kernel
theorem dX1_measured_12 : decode cX1_measured 12 = .ok (.if_icmp .ne 8, 3) := by decide +kernel
theorem dX1_measured_15 : decode cX1_measured 15 = .ok (.aload_n 0, 1) := by decide +kernel
theorem dX1_measured_16 : decode cX1_measured 16 = .ok (.getfield 9, 3) := by decide +kernel
theorem dX1_measured_19 : decode cX1_measured 19 = .ok (.ireturn, 1) := by decide +kernel
theorem dX1_measured_20 : decode cX1_measured 20 = .ok (.iconst 0, 1) := by decide +kernel
theorem dX1_measured_21 : decode cX1_measured 21 = .ok (.istore_n 3, 1) := by decide +kernel
theorem dX1_measured_22 : decode cX1_measured 22 = .ok (.iconst 0, 1) := by decide +kernel
theorem dX1_measured_23 : decode cX1_measured 23 = .ok (.istore 4, 2) := by decide +kernel
theorem dX1_measured_25 : decode cX1_measured 25 = .ok (.iload 4, 2) := by decide +kernel
theorem dX1_measured_27 : decode cX1_measured 27 = .ok (.aload_n 0, 1) := by decide +kernel
theorem dX1_measured_28 : decode cX1_measured 28 = .ok (.getfield 9, 3) := by decide +kernel
theorem dX1_measured_31 : decode cX1_measured 31 = .ok (.if_icmp .ge 34, 3) := by decide +kernel
theorem dX1_measured_34 : decode cX1_measured 34 = .ok (.iload_n 2, 1) := by decide +kernel
theorem dX1_measured_35 : decode cX1_measured 35 = .ok (.iload_n 3, 1) := by decide +kernel
theorem dX1_measured_36 : decode cX1_measured 36 = .ok (.aload_n 1, 1) := by decide +kernel
theorem dX1_measured_37 : decode cX1_measured 37 = .ok (.iload_n 2, 1) := by decide +kernel
theorem dX1_measured_38 : decode cX1_measured 38 = .ok (.aload_n 0, 1) := by decide +kernel
theorem dX1_measured_39 : decode cX1_measured 39 = .ok (.getfield 15, 3) := by decide +kernel
theorem dX1_measured_42 : decode cX1_measured 42 = .ok (.iload 4, 2) := by decide +kernel
theorem dX1_measured_44 : decode cX1_measured 44 = .ok (.iaload, 1) := by decide +kernel
theorem dX1_measured_45 : decode cX1_measured 45 = .ok (.aload_n 0, 1) := by decide +kernel
theorem dX1_measured_46 : decode cX1_measured 46 = .ok (.getfield 19, 3) := by decide +kernel
theorem dX1_measured_49 : decode cX1_measured 49 = .ok (.iload 4, 2) := by decide +kernel
theorem dX1_measured_51 : decode cX1_measured 51 = .ok (.iaload, 1) := by decide +kernel
theorem dX1_measured_52 : decode cX1_measured 52 = .ok (.invokevirtual 44, 3) := by decide +kernel
theorem dX1_measured_55 : decode cX1_measured 55 = .ok (.invokestatic 48, 3) := by decide +kernel
theorem dX1_measured_58 : decode cX1_measured 58 = .ok (.istore_n 3, 1) := by decide +kernel
theorem dX1_measured_59 : decode cX1_measured 59 = .ok (.iinc 4 1, 3) := by decide +kernel
theorem dX1_measured_62 : decode cX1_measured 62 = .ok (.goto (-37), 3) := by decide +kernel
theorem dX1_measured_65 : decode cX1_measured 65 = .ok (.iload_n 3, 1) := by decide +kernel
theorem dX1_measured_66 : decode cX1_measured 66 = .ok (.ireturn, 1) := by decide +kernel
theorem dX1_becomeWith_0 : decode cX1_becomeWith 0 = .ok (.iload 4, 2) := by decide +kernel
theorem dX1_becomeWith_2 : decode cX1_becomeWith 2 = .ok (.iconst 2, 1) := by decide +kernel
theorem dX1_becomeWith_3 : decode cX1_becomeWith 3 = .ok (.idiv, 1) := by decide +kernel
theorem dX1_becomeWith_4 : decode cX1_becomeWith 4 = .ok (.istore 5, 2) := by decide +kernel
theorem dX1_becomeWith_6 : decode cX1_becomeWith 6 = .ok (.iload 4, 2) := by decide +kernel
theorem dX1_becomeWith_8 : decode cX1_becomeWith 8 = .ok (.iconst 2, 1) := by decide +kernel
theorem dX1_becomeWith_9 : decode cX1_becomeWith 9 = .ok (.irem, 1) := by decide +kernel
theorem dX1_becomeWith_10 : decode cX1_becomeWith 10 = .ok (.iconst 1, 1) := by decide +kernel
theorem dX1_becomeWith_11 : decode cX1_becomeWith 11 = .ok (.if_icmp .ne 7, 3) := by decide +kernel
theorem dX1_becomeWith_14 : decode cX1_becomeWith 14 = .ok (.iconst 1, 1) := by decide +kernel
theorem dX1_becomeWith_15 : decode cX1_becomeWith 15 = .ok (.goto 4, 3) := by decide +kernel
theorem dX1_becomeWith_18 : decode cX1_becomeWith 18 = .ok (.iconst 0, 1) := by decide +kernel
theorem dX1_becomeWith_19 : decode cX1_becomeWith 19 = .ok (.istore 6, 2) := by decide +kernel
theorem dX1_becomeWith_21 : decode cX1_becomeWith 21 = .ok (.iload 6, 2) := by decide +kernel
theorem dX1_becomeWith_23 : decode cX1_becomeWith 23 = .ok (.ifCond .eq 29, 3) := by decide +kernel
theorem dX1_becomeWith_26 : decode cX1_becomeWith 26 = .ok (.iload 5, 2) := by decide +kernel
theorem dX1_becomeWith_28 : decode cX1_becomeWith 28 = .ok (.aload_n 2, 1) := by decide +kernel
theorem dX1_becomeWith_29 : decode cX1_becomeWith 29 = .ok (.getfield 9, 3) := by decide +kernel
theorem dX1_becomeWith_32 : decode cX1_becomeWith 32 = .ok (.if_icmp .ge 18, 3) := by decide +kernel
theorem dX1_becomeWith_35 : decode cX1_becomeWith 35 = .ok (.aload_n 1, 1) := by decide +kernel
theorem dX1_becomeWith_36 : decode cX1_becomeWith 36 = .ok (.iload_n 3, 1) := by decide +kernel
theorem dX1_becomeWith_37 : decode cX1_becomeWith 37 = .ok (.aload_n 2, 1) := by decide +kernel
theorem dX1_becomeWith_38 : decode cX1_becomeWith 38 = .ok (.getfield 15, 3) := by decide +kernel
theorem dX1_becomeWith_41 : decode cX1_becomeWith 41 = .ok (.iload 5, 2) := by decide +kernel
theorem dX1_becomeWith_43 : decode cX1_becomeWith 43 = .ok (.iaload, 1) := by decide +kernel
theorem dX1_becomeWith_44 : decode cX1_becomeWith 44 = .ok (.invokevirtual 51, 3) := by decide +kernel
theorem dX1_becomeWith_47 : decode cX1_becomeWith 47 = .ok (.ifCond .ne 5, 3) := by decide +kernel
theorem dX1_becomeWith_50 : decode cX1_becomeWith 50 = .ok (.iconst 0, 1) := by decide +kernel
theorem dX1_becomeWith_51 : decode cX1_becomeWith 51 = .ok (.ireturn, 1) := by decide +kernel
theorem dX1_becomeWith_52 : decode cX1_becomeWith 52 = .ok (.aload_n 0, 1) := by decide +kernel
theorem dX1_becomeWith_53 : decode cX1_becomeWith 53 = .ok (.invokevirtual 54, 3) := by decide +kernel
theorem dX1_becomeWith_56 : decode cX1_becomeWith 56 = .ok (.iconst 0, 1) := by decide +kernel
theorem dX1_becomeWith_57 : decode cX1_becomeWith 57 = .ok (.istore 7, 2) := by decide +kernel
theorem dX1_becomeWith_59 : decode cX1_becomeWith 59 = .ok (.iload 7, 2) := by decide +kernel
theorem dX1_becomeWith_61 : decode cX1_becomeWith 61 = .ok (.aload_n 2, 1) := by decide +kernel
theorem dX1_becomeWith_62 : decode cX1_becomeWith 62 = .ok (.getfield 9, 3) := by decide +kernel
theorem dX1_becomeWith_65 : decode cX1_becomeWith 65 = .ok (.if_icmp .ge 67, 3) := by decide +kernel
theorem dX1_becomeWith_68 : decode cX1_becomeWith 68 = .ok (.iload 7, 2) := by decide +kernel
theorem dX1_becomeWith_70 : decode cX1_becomeWith 70 = .ok (.iload 5, 2) := by decide +kernel
theorem dX1_becomeWith_72 : decode cX1_becomeWith 72 = .ok (.if_icmp .ne 16, 3) := by decide +kernel
theorem dX1_becomeWith_75 : decode cX1_becomeWith 75 = .ok (.iload 6, 2) := by decide +kernel
theorem dX1_becomeWith_77 : decode cX1_becomeWith 77 = .ok (.ifCond .ne 11, 3) := by decide +kernel
theorem dX1_becomeWith_80 : decode cX1_becomeWith 80 = .ok (.aload_n 0, 1) := by decide +kernel
theorem dX1_becomeWith_81 : decode cX1_becomeWith 81 = .ok (.aload_n 1, 1) := by decide +kernel
theorem dX1_becomeWith_82 : decode cX1_becomeWith 82 = .ok (.iconst 1, 1) := by decide +kernel
theorem dX1_becomeWith_83 : decode cX1_becomeWith 83 = .ok (.iload_n 3, 1) := by decide +kernel
theorem dX1_becomeWith_84 : decode cX1_becomeWith 84 = .ok (.ishl, 1) := by decide +kernel
theorem dX1_becomeWith_85 : decode cX1_becomeWith 85 = .ok (.invokevirtual 57, 3) := by decide +kernel
theorem dX1_becomeWith_88 : decode cX1_becomeWith 88 = .ok (.aload_n 0, 1) := by decide +kernel
theorem dX1_becomeWith_89 : decode cX1_becomeWith 89 = .ok (.aload_n 1, 1) := by decide +kernel
theorem dX1_becomeWith_90 : decode cX1_becomeWith 90 = .ok (.iload 7, 2) := by decide +kernel
theorem dX1_becomeWith_92 : decode cX1_becomeWith 92 = .ok (.iload 5, 2) := by decide +kernel
theorem dX1_becomeWith_94 : decode cX1_becomeWith 94 = .ok (.if_icmp .ne 22, 3) := by decide +kernel
theorem dX1_becomeWith_97 : decode cX1_becomeWith 97 = .ok (.iload 6, 2) := by decide +kernel
theorem dX1_becomeWith_99 : decode cX1_becomeWith 99 = .ok (.ifCond .eq 17, 3) := by decide +kernel
theorem dX1_becomeWith_102 : decode cX1_becomeWith 102 = .ok (.aload_n 2, 1) := by decide +kernel
theorem dX1_becomeWith_103 : decode cX1_becomeWith 103 = .ok (.getfield 15, 3) := by decide +kernel
theorem dX1_becomeWith_106 : decode cX1_becomeWith 106 = .ok (.iload 7, 2) := by decide +kernel
theorem dX1_becomeWith_108 : decode cX1_becomeWith 108 = .ok (.iaload, 1) := by decide +kernel
theorem dX1_becomeWith_109 : decode cX1_becomeWith 109 = .ok (.iconst 1, 1) := by decide +kernel
theorem dX1_becomeWith_110 : decode cX1_becomeWith 110 = .ok (.iload_n 3, 1) := by decide +kernel
theorem dX1_becomeWith_111 : decode cX1_becomeWith 111 = .ok (.ishl, 1) := by decide +kernel
theorem dX1_becomeWith_112 : decode cX1_becomeWith 112 = .ok (.ior, 1) := by decide +kernel
theorem dX1_becomeWith_113 : decode cX1_becomeWith 113 = .ok (.goto 10, 3) := by decide +kernel
theorem dX1_becomeWith_116 : decode cX1_becomeWith 116 = .ok (.aload_n 2, 1) := by decide +kernel
theorem dX1_becomeWith_117 : decode cX1_becomeWith 117 = .ok (.getfield 15, 3) := by decide +kernel
theorem dX1_becomeWith_120 : decode cX1_becomeWith 120 = .ok (.iload 7, 2) := by decide +kernel
theorem dX1_becomeWith_122 : decode cX1_becomeWith 122 = .ok (.iaload, 1) := by decide +kernel
theorem dX1_becomeWith_123 : decode cX1_becomeWith 123 = .ok (.invokevirtual 57, 3) := by decide +kernel
theorem dX1_becomeWith_126 : decode cX1_becomeWith 126 = .ok (.iinc 7 1, 3) := by decide +kernel
theorem dX1_becomeWith_129 : decode cX1_becomeWith 129 = .ok (.goto (-70), 3) := by decide +kernel
theorem dX1_becomeWith_132 : decode cX1_becomeWith 132 = .ok (.iload 5, 2) := by decide +kernel
theorem dX1_becomeWith_134 : decode cX1_becomeWith 134 = .ok (.aload_n 2, 1) := by decide +kernel
theorem dX1_becomeWith_135 : decode cX1_becomeWith 135 = .ok (.getfield 9, 3) := by decide +kernel
theorem dX1_becomeWith_138 : decode cX1_becomeWith 138 = .ok (.if_icmp .ne 11, 3) := by decide +kernel
theorem dX1_becomeWith_141 : decode cX1_becomeWith 141 = .ok (.aload_n 0, 1) := by decide +kernel
theorem dX1_becomeWith_142 : decode cX1_becomeWith 142 = .ok (.aload_n 1, 1) := by decide +kernel
theorem dX1_becomeWith_143 : decode cX1_becomeWith 143 = .ok (.iconst 1, 1) := by decide +kernel
theorem dX1_becomeWith_144 : decode cX1_becomeWith 144 = .ok (.iload_n 3, 1) := by decide +kernel
theorem dX1_becomeWith_145 : decode cX1_becomeWith 145 = .ok (.ishl, 1) := by decide +kernel
theorem dX1_becomeWith_146 : decode cX1_becomeWith 146 = .ok (.invokevirtual 57, 3) := by decide +kernel
theorem dX1_becomeWith_149 : decode cX1_becomeWith 149 = .ok (.iconst 1, 1) := by decide +kernel
theorem dX1_becomeWith_150 : decode cX1_becomeWith 150 = .ok (.ireturn, 1) := by decide +kernel
theorem dX2_init_0 : decode cX2_init 0 = .ok (.aload_n 0, 1) := by decide +kernel
theorem dX2_init_1 : decode cX2_init 1 = .ok (.invokespecial 5, 3) := by decide +kernel
theorem dX2_init_4 : decode cX2_init 4 = .ok (.aload_n 0, 1) := by decide +kernel
theorem dX2_init_5 : decode cX2_init 5 = .ok (.aconst_null, 1) := by decide +kernel
theorem dX2_init_6 : decode cX2_init 6 = .ok (.putfield 11, 3) := by decide +kernel
theorem dX2_init_9 : decode cX2_init 9 = .ok (.aload_n 0, 1) := by decide +kernel
theorem dX2_init_10 : decode cX2_init 10 = .ok (.iconst 0, 1) := by decide +kernel
theorem dX2_init_11 : decode cX2_init 11 = .ok (.putfield 15, 3) := by decide +kernel
theorem dX2_init_14 : decode cX2_init 14 = .ok (.aload_n 0, 1) := by decide +kernel
theorem dX2_init_15 : decode cX2_init 15 = .ok (.sipush 128, 3) := by decide +kernel
theorem dX2_init_18 : decode cX2_init 18 = .ok (.newarray .int, 2) := by decide +kernel
theorem dX2_init_20 : decode cX2_init 20 = .ok (.putfield 19, 3) := by decide +kernel
theorem dX2_init_23 : decode cX2_init 23 = .ok (.aload_n 0, 1) := by decide +kernel
theorem dX2_init_24 : decode cX2_init 24 = .ok (.sipush 128, 3) := by decide +kernel
theorem dX2_init_27 : decode cX2_init 27 = .ok (.newarray .int, 2) := by decide +kernel
theorem dX2_init_29 : decode cX2_init 29 = .ok (.putfield 23, 3) := by decide +kernel
theorem dX2_init_32 : decode cX2_init 32 = .ok (.aload_n 0, 1) := by decide +kernel
theorem dX2_init_33 : decode cX2_init 33 = .ok (.iconst 0, 1) := by decide +kernel
theorem dX2_init_34 : decode cX2_init 34 = .ok (.putfield 26, 3) := by decide +kernel
theorem dX2_init_37 : decode cX2_init 37 = .ok (.aload_n 0, 1) := by decide +kernel
theorem dX2_init_38 : decode cX2_init 38 = .ok (.sipush 2048, 3) := by decide +kernel
theorem dX2_init_41 : decode cX2_init 41 = .ok (.newarray .int, 2) := by decide +kernel
theorem dX2_init_43 : decode cX2_init 43 = .ok (.putfield 29, 3) := by decide +kernel
theorem dX2_init_46 : decode cX2_init 46 = .ok (.aload_n 0, 1) := by decide +kernel
theorem dX2_init_47 : decode cX2_init 47 = .ok (.sipush 2048, 3) := by decide +kernel
theorem dX2_init_50 : decode cX2_init 50 = .ok (.newarray .int, 2) := by decide +kernel
theorem dX2_init_52 : decode cX2_init 52 = .ok (.putfield 32, 3) := by decide +kernel
theorem dX2_init_55 : decode cX2_init 55 = .ok (.return_, 1) := by decide +kernel
theorem dX2_leastOf_0 : decode cX2_leastOf 0 = .ok (.aload_n 0, 1) := by decide +kernel
theorem dX2_leastOf_1 : decode cX2_leastOf 1 = .ok (.aload_n 1, 1) := by decide +kernel
theorem dX2_leastOf_2 : decode cX2_leastOf 2 = .ok (.putfield 11, 3) := by decide +kernel
theorem dX2_leastOf_5 : decode cX2_leastOf 5 = .ok (.aload_n 0, 1) := by decide +kernel
theorem dX2_leastOf_6 : decode cX2_leastOf 6 = .ok (.iload_n 2, 1) := by decide +kernel
theorem dX2_leastOf_7 : decode cX2_leastOf 7 = .ok (.putfield 15, 3) := by decide +kernel
theorem dX2_leastOf_10 : decode cX2_leastOf 10 = .ok (.aload_n 0, 1) := by decide +kernel
theorem dX2_leastOf_11 : decode cX2_leastOf 11 = .ok (.invokevirtual 35, 3) := by decide +kernel
theorem dX2_leastOf_14 : decode cX2_leastOf 14 = .ok (.aload_n 0, 1) := by decide +kernel
theorem dX2_leastOf_15 : decode cX2_leastOf 15 = .ok (.invokevirtual 38, 3) := by decide +kernel
theorem dX2_leastOf_18 : decode cX2_leastOf 18 = .ok (.aload_n 0, 1) := by decide +kernel
theorem dX2_leastOf_19 : decode cX2_leastOf 19 = .ok (.aload_n 0, 1) := by decide +kernel
theorem dX2_leastOf_20 : decode cX2_leastOf 20 = .ok (.getfield 11, 3) := by decide +kernel
theorem dX2_leastOf_23 : decode cX2_leastOf 23 = .ok (.invokevirtual 41, 3) := by decide +kernel
theorem dX2_leastOf_26 : decode cX2_leastOf 26 = .ok (.iconst 3, 1) := by decide +kernel
theorem dX2_leastOf_27 : decode cX2_leastOf 27 = .ok (.iconst 0, 1) := by decide +kernel
theorem dX2_leastOf_28 : decode cX2_leastOf 28 = .ok (.iconst 0, 1) := by decide +kernel
theorem dX2_leastOf_29 : decode cX2_leastOf 29 = .ok (.invokevirtual 47, 3) := by decide +kernel
theorem dX2_leastOf_32 : decode cX2_leastOf 32 = .ok (.ireturn, 1) := by decide +kernel
theorem dX2_layFirst_0 : decode cX2_layFirst 0 = .ok (.aload_n 2, 1) := by decide +kernel
theorem dX2_layFirst_1 : decode cX2_layFirst 1 = .ok (.invokevirtual 51, 3) := by decide +kernel
theorem dX2_layFirst_4 : decode cX2_layFirst 4 = .ok (.aload_n 0, 1) := by decide +kernel
theorem dX2_layFirst_5 : decode cX2_layFirst 5 = .ok (.getfield 11, 3) := by decide +kernel
theorem dX2_layFirst_8 : decode cX2_layFirst 8 = .ok (.ifnonnull 4, 3) := by decide +kernel
theorem dX2_layFirst_11 : decode cX2_layFirst 11 = .ok (.return_, 1) := by decide +kernel
theorem dX2_layFirst_12 : decode cX2_layFirst 12 = .ok (.aload_n 0, 1) := by decide +kernel
theorem dX2_layFirst_13 : decode cX2_layFirst 13 = .ok (.getfield 11, 3) := by decide +kernel
theorem dX2_layFirst_16 : decode cX2_layFirst 16 = .ok (.invokevirtual 41, 3) := by decide +kernel
theorem dX2_layFirst_19 : decode cX2_layFirst 19 = .ok (.istore_n 3, 1) := by decide +kernel
theorem dX2_layFirst_20 : decode cX2_layFirst 20 = .ok (.iconst 3, 1) := by decide +kernel
theorem dX2_layFirst_21 : decode cX2_layFirst 21 = .ok (.istore 4, 2) := by decide +kernel
theorem dX2_layFirst_23 : decode cX2_layFirst 23 = .ok (.iconst 0, 1) := by decide +kernel
theorem dX2_layFirst_24 : decode cX2_layFirst 24 = .ok (.istore 5, 2) := by decide +kernel
theorem dX2_layFirst_26 : decode cX2_layFirst 26 = .ok (.iconst 0, 1) := by decide +kernel
theorem dX2_layFirst_27 : decode cX2_layFirst 27 = .ok (.istore 6, 2) := by decide +kernel
theorem dX2_layFirst_29 : decode cX2_layFirst 29 = .ok (.iload 6, 2) := by decide +kernel
theorem dX2_layFirst_31 : decode cX2_layFirst 31 = .ok (.bipush 7, 2) := by decide +kernel
theorem dX2_layFirst_33 : decode cX2_layFirst 33 = .ok (.if_icmp .ge 82, 3) := by decide +kernel
theorem dX2_layFirst_36 : decode cX2_layFirst 36 = .ok (.iload_n 3, 1) := by decide +kernel
theorem dX2_layFirst_37 : decode cX2_layFirst 37 = .ok (.ifCond .eq 78, 3) := by decide +kernel
theorem dX2_layFirst_40 : decode cX2_layFirst 40 = .ok (.aload_n 2, 1) := by decide +kernel
theorem dX2_layFirst_41 : decode cX2_layFirst 41 = .ok (.invokevirtual 56, 3) := by decide +kernel
theorem dX2_layFirst_44 : decode cX2_layFirst 44 = .ok (.istore 7, 2) := by decide +kernel
theorem dX2_layFirst_46 : decode cX2_layFirst 46 = .ok (.aload_n 0, 1) := by decide +kernel
theorem dX2_layFirst_47 : decode cX2_layFirst 47 = .ok (.iload_n 3, 1) := by decide +kernel
theorem dX2_layFirst_48 : decode cX2_layFirst 48 = .ok (.iload 4, 2) := by decide +kernel
theorem dX2_layFirst_50 : decode cX2_layFirst 50 = .ok (.iload 7, 2) := by decide +kernel
theorem dX2_layFirst_52 : decode cX2_layFirst 52 = .ok (.iload 5, 2) := by decide +kernel
theorem dX2_layFirst_54 : decode cX2_layFirst 54 = .ok (.iload_n 1, 1) := by decide +kernel
theorem dX2_layFirst_55 : decode cX2_layFirst 55 = .ok (.invokevirtual 59, 3) := by decide +kernel
theorem dX2_layFirst_58 : decode cX2_layFirst 58 = .ok (.istore 8, 2) := by decide +kernel
theorem dX2_layFirst_60 : decode cX2_layFirst 60 = .ok (.aload_n 2, 1) := by decide +kernel
theorem dX2_layFirst_61 : decode cX2_layFirst 61 = .ok (.aload_n 0, 1) := by decide +kernel
theorem dX2_layFirst_62 : decode cX2_layFirst 62 = .ok (.getfield 11, 3) := by decide +kernel
theorem dX2_layFirst_65 : decode cX2_layFirst 65 = .ok (.iload 8, 2) := by decide +kernel
theorem dX2_layFirst_67 : decode cX2_layFirst 67 = .ok (.invokevirtual 63, 3) := by decide +kernel
theorem dX2_layFirst_70 : decode cX2_layFirst 70 = .ok (.aload_n 0, 1) := by decide +kernel
theorem dX2_layFirst_71 : decode cX2_layFirst 71 = .ok (.getfield 15, 3) := by decide +kernel
theorem dX2_layFirst_74 : decode cX2_layFirst 74 = .ok (.iload 5, 2) := by decide +kernel
theorem dX2_layFirst_76 : decode cX2_layFirst 76 = .ok (.aload_n 0, 1) := by decide +kernel
theorem dX2_layFirst_77 : decode cX2_layFirst 77 = .ok (.iload 8, 2) := by decide +kernel
theorem dX2_layFirst_79 : decode cX2_layFirst 79 = .ok (.iload 7, 2) := by decide +kernel
theorem dX2_layFirst_81 : decode cX2_layFirst 81 = .ok (.aload_n 2, 1) := by decide +kernel
theorem dX2_layFirst_82 : decode cX2_layFirst 82 = .ok (.invokevirtual 56, 3) := by decide +kernel
theorem dX2_layFirst_85 : decode cX2_layFirst 85 = .ok (.invokevirtual 67, 3) := by decide +kernel
theorem dX2_layFirst_88 : decode cX2_layFirst 88 = .ok (.invokestatic 71, 3) := by decide +kernel
theorem dX2_layFirst_91 : decode cX2_layFirst 91 = .ok (.istore 5, 2) := by decide +kernel
theorem dX2_layFirst_93 : decode cX2_layFirst 93 = .ok (.aload_n 0, 1) := by decide +kernel
theorem dX2_layFirst_94 : decode cX2_layFirst 94 = .ok (.getfield 19, 3) := by decide +kernel
theorem dX2_layFirst_97 : decode cX2_layFirst 97 = .ok (.iload 8, 2) := by decide +kernel
theorem dX2_layFirst_99 : decode cX2_layFirst 99 = .ok (.iaload, 1) := by decide +kernel
theorem dX2_layFirst_100 : decode cX2_layFirst 100 = .ok (.istore 4, 2) := by decide +kernel
theorem dX2_layFirst_102 : decode cX2_layFirst 102 = .ok (.iload_n 3, 1) := by decide +kernel
theorem dX2_layFirst_103 : decode cX2_layFirst 103 = .ok (.iload 8, 2) := by decide +kernel
theorem dX2_layFirst_105 : decode cX2_layFirst 105 = .ok (.iconst (-1), 1) := by decide +kernel
theorem dX2_layFirst_106 : decode cX2_layFirst 106 = .ok (.ixor, 1) := by decide +kernel
theorem dX2_layFirst_107 : decode cX2_layFirst 107 = .ok (.iand, 1) := by decide +kernel
theorem dX2_layFirst_108 : decode cX2_layFirst 108 = .ok (.istore_n 3, 1) := by decide +kernel
theorem dX2_layFirst_109 : decode cX2_layFirst 109 = .ok (.iinc 6 1, 3) := by decide +kernel
theorem dX2_layFirst_112 : decode cX2_layFirst 112 = .ok (.goto (-83), 3) := by decide +kernel
theorem dX2_layFirst_115 : decode cX2_layFirst 115 = .ok (.return_, 1) := by decide +kernel
theorem dX2_firstBatch_0 : decode cX2_firstBatch 0 = .ok (.iconst 1, 1) := by decide +kernel
theorem dX2_firstBatch_1 : decode cX2_firstBatch 1 = .ok (.istore 6, 2) := by decide +kernel
theorem dX2_firstBatch_3 : decode cX2_firstBatch 3 = .ok (.iload 6, 2) := by decide +kernel
theorem dX2_firstBatch_5 : decode cX2_firstBatch 5 = .ok (.iload_n 1, 1) := by decide +kernel
theorem dX2_firstBatch_6 : decode cX2_firstBatch 6 = .ok (.if_icmp .gt 99, 3) := by decide +kernel
theorem dX2_firstBatch_9 : decode cX2_firstBatch 9 = .ok (.aload_n 0, 1) := by decide +kernel
theorem dX2_firstBatch_10 : decode cX2_firstBatch 10 = .ok (.getfield 19, 3) := by decide +kernel
theorem dX2_firstBatch_13 : decode cX2_firstBatch 13 = .ok (.iload 6, 2) := by decide +kernel
theorem dX2_firstBatch_15 : decode cX2_firstBatch 15 = .ok (.iaload, 1) := by decide +kernel
theorem dX2_firstBatch_16 : decode cX2_firstBatch 16 = .ok (.istore 7, 2) := by decide +kernel
theorem dX2_firstBatch_18 : decode cX2_firstBatch 18 = .ok (.iload 6, 2) := by decide +kernel
theorem dX2_firstBatch_20 : decode cX2_firstBatch 20 = .ok (.iload_n 1, 1) := by decide +kernel
theorem dX2_firstBatch_21 : decode cX2_firstBatch 21 = .ok (.iconst (-1), 1) := by decide +kernel
theorem dX2_firstBatch_22 : decode cX2_firstBatch 22 = .ok (.ixor, 1) := by decide +kernel
theorem dX2_firstBatch_23 : decode cX2_firstBatch 23 = .ok (.iand, 1) := by decide +kernel
theorem dX2_firstBatch_24 : decode cX2_firstBatch 24 = .ok (.ifCond .ne 75, 3) := by decide +kernel
theorem dX2_firstBatch_27 : decode cX2_firstBatch 27 = .ok (.iload 7, 2) := by decide +kernel
theorem dX2_firstBatch_29 : decode cX2_firstBatch 29 = .ok (.iconst (-1), 1) := by decide +kernel
theorem dX2_firstBatch_30 : decode cX2_firstBatch 30 = .ok (.if_icmp .eq 69, 3) := by decide +kernel
theorem dX2_firstBatch_33 : decode cX2_firstBatch 33 = .ok (.iload_n 3, 1) := by decide +kernel
theorem dX2_firstBatch_34 : decode cX2_firstBatch 34 = .ok (.aload_n 0, 1) := by decide +kernel
theorem dX2_firstBatch_35 : decode cX2_firstBatch 35 = .ok (.getfield 11, 3) := by decide +kernel
theorem dX2_firstBatch_38 : decode cX2_firstBatch 38 = .ok (.iload_n 2, 1) := by decide +kernel
theorem dX2_firstBatch_39 : decode cX2_firstBatch 39 = .ok (.iload 7, 2) := by decide +kernel
theorem dX2_firstBatch_41 : decode cX2_firstBatch 41 = .ok (.invokevirtual 74, 3) := by decide +kernel
theorem dX2_firstBatch_44 : decode cX2_firstBatch 44 = .ok (.iadd, 1) := by decide +kernel
theorem dX2_firstBatch_45 : decode cX2_firstBatch 45 = .ok (.istore 8, 2) := by decide +kernel
theorem dX2_firstBatch_47 : decode cX2_firstBatch 47 = .ok (.aload_n 0, 1) := by decide +kernel
theorem dX2_firstBatch_48 : decode cX2_firstBatch 48 = .ok (.getfield 15, 3) := by decide +kernel
theorem dX2_firstBatch_51 : decode cX2_firstBatch 51 = .ok (.iload 4, 2) := by decide +kernel
theorem dX2_firstBatch_53 : decode cX2_firstBatch 53 = .ok (.aload_n 0, 1) := by decide +kernel
theorem dX2_firstBatch_54 : decode cX2_firstBatch 54 = .ok (.iload 6, 2) := by decide +kernel
theorem dX2_firstBatch_56 : decode cX2_firstBatch 56 = .ok (.iload_n 3, 1) := by decide +kernel
theorem dX2_firstBatch_57 : decode cX2_firstBatch 57 = .ok (.iload 8, 2) := by decide +kernel
theorem dX2_firstBatch_59 : decode cX2_firstBatch 59 = .ok (.invokevirtual 67, 3) := by decide +kernel
theorem dX2_firstBatch_62 : decode cX2_firstBatch 62 = .ok (.invokestatic 71, 3) := by decide +kernel
theorem dX2_firstBatch_65 : decode cX2_firstBatch 65 = .ok (.istore 9, 2) := by decide +kernel
theorem dX2_firstBatch_67 : decode cX2_firstBatch 67 = .ok (.aload_n 0, 1) := by decide +kernel
theorem dX2_firstBatch_68 : decode cX2_firstBatch 68 = .ok (.getfield 15, 3) := by decide +kernel
theorem dX2_firstBatch_71 : decode cX2_firstBatch 71 = .ok (.iload 9, 2) := by decide +kernel
theorem dX2_firstBatch_73 : decode cX2_firstBatch 73 = .ok (.aload_n 0, 1) := by decide +kernel
theorem dX2_firstBatch_74 : decode cX2_firstBatch 74 = .ok (.iload_n 1, 1) := by decide +kernel
theorem dX2_firstBatch_75 : decode cX2_firstBatch 75 = .ok (.iload 6, 2) := by decide +kernel
theorem dX2_firstBatch_77 : decode cX2_firstBatch 77 = .ok (.iconst (-1), 1) := by decide +kernel
theorem dX2_firstBatch_78 : decode cX2_firstBatch 78 = .ok (.ixor, 1) := by decide +kernel
theorem dX2_firstBatch_79 : decode cX2_firstBatch 79 = .ok (.iand, 1) := by decide +kernel
theorem dX2_firstBatch_80 : decode cX2_firstBatch 80 = .ok (.iload 7, 2) := by decide +kernel
theorem dX2_firstBatch_82 : decode cX2_firstBatch 82 = .ok (.iload 8, 2) := by decide +kernel
theorem dX2_firstBatch_84 : decode cX2_firstBatch 84 = .ok (.iconst 0, 1) := by decide +kernel
theorem dX2_firstBatch_85 : decode cX2_firstBatch 85 = .ok (.invokevirtual 47, 3) := by decide +kernel
theorem dX2_firstBatch_88 : decode cX2_firstBatch 88 = .ok (.invokestatic 71, 3) := by decide +kernel
theorem dX2_firstBatch_91 : decode cX2_firstBatch 91 = .ok (.iload 5, 2) := by decide +kernel
theorem dX2_firstBatch_93 : decode cX2_firstBatch 93 = .ok (.if_icmp .gt 6, 3) := by decide +kernel
theorem dX2_firstBatch_96 : decode cX2_firstBatch 96 = .ok (.iload 6, 2) := by decide +kernel
theorem dX2_firstBatch_98 : decode cX2_firstBatch 98 = .ok (.ireturn, 1) := by decide +kernel
theorem dX2_firstBatch_99 : decode cX2_firstBatch 99 = .ok (.iinc 6 1, 3) := by decide +kernel
theorem dX2_firstBatch_102 : decode cX2_firstBatch 102 = .ok (.goto (-99), 3) := by decide +kernel
theorem dX2_firstBatch_105 : decode cX2_firstBatch 105 = .ok (.iload_n 1, 1) := by decide +kernel
theorem dX2_firstBatch_106 : decode cX2_firstBatch 106 = .ok (.iload_n 1, 1) := by decide +kernel
theorem dX2_firstBatch_107 : decode cX2_firstBatch 107 = .ok (.ineg, 1) := by decide +kernel
theorem dX2_firstBatch_108 : decode cX2_firstBatch 108 = .ok (.iand, 1) := by decide +kernel
theorem dX2_firstBatch_109 : decode cX2_firstBatch 109 = .ok (.ireturn, 1) := by decide +kernel
theorem dX2_listBatches_0 : decode cX2_listBatches 0 = .ok (.iconst 0, 1) := by decide +kernel
theorem dX2_listBatches_1 : decode cX2_listBatches 1 = .ok (.istore_n 1, 1) := by decide +kernel
theorem dX2_listBatches_2 : decode cX2_listBatches 2 = .ok (.iload_n 1, 1) := by decide +kernel
theorem dX2_listBatches_3 : decode cX2_listBatches 3 = .ok (.aload_n 0, 1) := by decide +kernel
theorem dX2_listBatches_4 : decode cX2_listBatches 4 = .ok (.getfield 11, 3) := by decide +kernel
theorem dX2_listBatches_7 : decode cX2_listBatches 7 = .ok (.getfield 78, 3) := by decide +kernel
theorem dX2_listBatches_10 : decode cX2_listBatches 10 = .ok (.if_icmp .ge 30, 3) := by decide +kernel
theorem dX2_listBatches_13 : decode cX2_listBatches 13 = .ok (.iconst 0, 1) := by decide +kernel
theorem dX2_listBatches_14 : decode cX2_listBatches 14 = .ok (.istore_n 2, 1) := by decide +kernel
theorem dX2_listBatches_15 : decode cX2_listBatches 15 = .ok (.iload_n 2, 1) := by decide +kernel
theorem dX2_listBatches_16 : decode cX2_listBatches 16 = .ok (.iconst 1, 1) := by decide +kernel
theorem dX2_listBatches_17 : decode cX2_listBatches 17 = .ok (.iload_n 1, 1) := by decide +kernel
theorem dX2_listBatches_18 : decode cX2_listBatches 18 = .ok (.ishl, 1) := by decide +kernel
theorem dX2_listBatches_19 : decode cX2_listBatches 19 = .ok (.if_icmp .ge 15, 3) := by decide +kernel
theorem dX2_listBatches_22 : decode cX2_listBatches 22 = .ok (.aload_n 0, 1) := by decide +kernel
theorem dX2_listBatches_23 : decode cX2_listBatches 23 = .ok (.iload_n 2, 1) := by decide +kernel
theorem dX2_listBatches_24 : decode cX2_listBatches 24 = .ok (.iload_n 1, 1) := by decide +kernel
theorem dX2_listBatches_25 : decode cX2_listBatches 25 = .ok (.invokevirtual 81, 3) := by decide +kernel
theorem dX2_listBatches_28 : decode cX2_listBatches 28 = .ok (.iinc 2 1, 3) := by decide +kernel
theorem dX2_listBatches_31 : decode cX2_listBatches 31 = .ok (.goto (-16), 3) := by decide +kernel
theorem dX2_listBatches_34 : decode cX2_listBatches 34 = .ok (.iinc 1 1, 3) := by decide +kernel
theorem dX2_listBatches_37 : decode cX2_listBatches 37 = .ok (.goto (-35), 3) := by decide +kernel
theorem dX2_listBatches_40 : decode cX2_listBatches 40 = .ok (.return_, 1) := by decide +kernel
theorem dX2_listBatch_0 : decode cX2_listBatch 0 = .ok (.iload_n 1, 1) := by decide +kernel
theorem dX2_listBatch_1 : decode cX2_listBatch 1 = .ok (.iconst 1, 1) := by decide +kernel
theorem dX2_listBatch_2 : decode cX2_listBatch 2 = .ok (.iload_n 2, 1) := by decide +kernel
theorem dX2_listBatch_3 : decode cX2_listBatch 3 = .ok (.ishl, 1) := by decide +kernel
theorem dX2_listBatch_4 : decode cX2_listBatch 4 = .ok (.ior, 1) := by decide +kernel
theorem dX2_listBatch_5 : decode cX2_listBatch 5 = .ok (.istore_n 3, 1) := by decide +kernel
theorem dX2_listBatch_6 : decode cX2_listBatch 6 = .ok (.aload_n 0, 1) := by decide +kernel
theorem dX2_listBatch_7 : decode cX2_listBatch 7 = .ok (.getfield 11, 3) := by decide +kernel
theorem dX2_listBatch_10 : decode cX2_listBatch 10 = .ok (.getfield 85, 3) := by decide +kernel
theorem dX2_listBatch_13 : decode cX2_listBatch 13 = .ok (.iload_n 2, 1) := by decide +kernel
theorem dX2_listBatch_14 : decode cX2_listBatch 14 = .ok (.iaload, 1) := by decide +kernel
theorem dX2_listBatch_15 : decode cX2_listBatch 15 = .ok (.istore 4, 2) := by decide +kernel
theorem dX2_listBatch_17 : decode cX2_listBatch 17 = .ok (.aload_n 0, 1) := by decide +kernel
theorem dX2_listBatch_18 : decode cX2_listBatch 18 = .ok (.getfield 11, 3) := by decide +kernel
theorem dX2_listBatch_21 : decode cX2_listBatch 21 = .ok (.getfield 88, 3) := by decide +kernel
theorem dX2_listBatch_24 : decode cX2_listBatch 24 = .ok (.iload_n 2, 1) := by decide +kernel
theorem dX2_listBatch_25 : decode cX2_listBatch 25 = .ok (.iaload, 1) := by decide +kernel
theorem dX2_listBatch_26 : decode cX2_listBatch 26 = .ok (.istore 5, 2) := by decide +kernel
theorem dX2_listBatch_28 : decode cX2_listBatch 28 = .ok (.iload_n 1, 1) := by decide +kernel
theorem dX2_listBatch_29 : decode cX2_listBatch 29 = .ok (.ifCond .eq 40, 3) := by decide +kernel
theorem dX2_listBatch_32 : decode cX2_listBatch 32 = .ok (.iload 5, 2) := by decide +kernel
theorem dX2_listBatch_34 : decode cX2_listBatch 34 = .ok (.aload_n 0, 1) := by decide +kernel
theorem dX2_listBatch_35 : decode cX2_listBatch 35 = .ok (.getfield 23, 3) := by decide +kernel
theorem dX2_listBatch_38 : decode cX2_listBatch 38 = .ok (.iload_n 1, 1) := by decide +kernel
theorem dX2_listBatch_39 : decode cX2_listBatch 39 = .ok (.iaload, 1) := by decide +kernel
theorem dX2_listBatch_40 : decode cX2_listBatch 40 = .ok (.iadd, 1) := by decide +kernel
theorem dX2_listBatch_41 : decode cX2_listBatch 41 = .ok (.istore 5, 2) := by decide +kernel
theorem dX2_listBatch_43 : decode cX2_listBatch 43 = .ok (.aload_n 0, 1) := by decide +kernel
theorem dX2_listBatch_44 : decode cX2_listBatch 44 = .ok (.getfield 19, 3) := by decide +kernel
theorem dX2_listBatch_47 : decode cX2_listBatch 47 = .ok (.iload_n 1, 1) := by decide +kernel
theorem dX2_listBatch_48 : decode cX2_listBatch 48 = .ok (.iaload, 1) := by decide +kernel
theorem dX2_listBatch_49 : decode cX2_listBatch 49 = .ok (.iload 4, 2) := by decide +kernel
theorem dX2_listBatch_51 : decode cX2_listBatch 51 = .ok (.if_icmp .ne 15, 3) := by decide +kernel
theorem dX2_listBatch_54 : decode cX2_listBatch 54 = .ok (.iload 5, 2) := by decide +kernel
theorem dX2_listBatch_56 : decode cX2_listBatch 56 = .ok (.aload_n 0, 1) := by decide +kernel
theorem dX2_listBatch_57 : decode cX2_listBatch 57 = .ok (.getfield 11, 3) := by decide +kernel
theorem dX2_listBatch_60 : decode cX2_listBatch 60 = .ok (.getfield 91, 3) := by decide +kernel
theorem dX2_listBatch_63 : decode cX2_listBatch 63 = .ok (.if_icmp .le 6, 3) := by decide +kernel
theorem dX2_listBatch_66 : decode cX2_listBatch 66 = .ok (.iconst (-1), 1) := by decide +kernel
theorem dX2_listBatch_67 : decode cX2_listBatch 67 = .ok (.istore 4, 2) := by decide +kernel
theorem dX2_listBatch_69 : decode cX2_listBatch 69 = .ok (.aload_n 0, 1) := by decide +kernel
theorem dX2_listBatch_70 : decode cX2_listBatch 70 = .ok (.getfield 19, 3) := by decide +kernel
theorem dX2_listBatch_73 : decode cX2_listBatch 73 = .ok (.iload_n 3, 1) := by decide +kernel
theorem dX2_listBatch_74 : decode cX2_listBatch 74 = .ok (.iload 4, 2) := by decide +kernel
theorem dX2_listBatch_76 : decode cX2_listBatch 76 = .ok (.iastore, 1) := by decide +kernel
theorem dX2_listBatch_77 : decode cX2_listBatch 77 = .ok (.aload_n 0, 1) := by decide +kernel
theorem dX2_listBatch_78 : decode cX2_listBatch 78 = .ok (.getfield 23, 3) := by decide +kernel
theorem dX2_listBatch_81 : decode cX2_listBatch 81 = .ok (.iload_n 3, 1) := by decide +kernel
theorem dX2_listBatch_82 : decode cX2_listBatch 82 = .ok (.iload 5, 2) := by decide +kernel
theorem dX2_listBatch_84 : decode cX2_listBatch 84 = .ok (.iastore, 1) := by decide +kernel
theorem dX2_listBatch_85 : decode cX2_listBatch 85 = .ok (.return_, 1) := by decide +kernel
theorem dX2_forgetFinds_0 : decode cX2_forgetFinds 0 = .ok (.aload_n 0, 1) := by decide +kernel
theorem dX2_forgetFinds_1 : decode cX2_forgetFinds 1 = .ok (.dup, 1) := by decide +kernel
theorem dX2_forgetFinds_2 : decode cX2_forgetFinds 2 = .ok (.getfield 26, 3) := by decide +kernel
theorem dX2_forgetFinds_5 : decode cX2_forgetFinds 5 = .ok (.iconst 1, 1) := by decide +kernel
theorem dX2_forgetFinds_6 : decode cX2_forgetFinds 6 = .ok (.iadd, 1) := by decide +kernel
theorem dX2_forgetFinds_7 : decode cX2_forgetFinds 7 = .ok (.putfield 26, 3) := by decide +kernel
theorem dX2_forgetFinds_10 : decode cX2_forgetFinds 10 = .ok (.aload_n 0, 1) := by decide +kernel
theorem dX2_forgetFinds_11 : decode cX2_forgetFinds 11 = .ok (.getfield 26, 3) := by decide +kernel
theorem dX2_forgetFinds_14 : decode cX2_forgetFinds 14 = .ok (.sipush 8191, 3) := by decide +kernel
theorem dX2_forgetFinds_17 : decode cX2_forgetFinds 17 = .ok (.if_icmp .le 16, 3) := by decide +kernel
theorem dX2_forgetFinds_20 : decode cX2_forgetFinds 20 = .ok (.aload_n 0, 1) := by decide +kernel
theorem dX2_forgetFinds_21 : decode cX2_forgetFinds 21 = .ok (.getfield 29, 3) := by decide +kernel
theorem dX2_forgetFinds_24 : decode cX2_forgetFinds 24 = .ok (.iconst 0, 1) := by decide +kernel
theorem dX2_forgetFinds_25 : decode cX2_forgetFinds 25 = .ok (.invokestatic 94, 3) := by decide +kernel
theorem dX2_forgetFinds_28 : decode cX2_forgetFinds 28 = .ok (.aload_n 0, 1) := by decide +kernel
theorem dX2_forgetFinds_29 : decode cX2_forgetFinds 29 = .ok (.iconst 1, 1) := by decide +kernel
theorem dX2_forgetFinds_30 : decode cX2_forgetFinds 30 = .ok (.putfield 26, 3) := by decide +kernel
theorem dX2_forgetFinds_33 : decode cX2_forgetFinds 33 = .ok (.return_, 1) := by decide +kernel
theorem dX2_leastLeft_0 : decode cX2_leastLeft 0 = .ok (.iload_n 1, 1) := by decide +kernel
theorem dX2_leastLeft_1 : decode cX2_leastLeft 1 = .ok (.ifCond .eq 10, 3) := by decide +kernel
theorem dX2_leastLeft_4 : decode cX2_leastLeft 4 = .ok (.iload 4, 2) := by decide +kernel
theorem dX2_leastLeft_6 : decode cX2_leastLeft 6 = .ok (.bipush 7, 2) := by decide +kernel
theorem dX2_leastLeft_8 : decode cX2_leastLeft 8 = .ok (.if_icmp .le 5, 3) := by decide +kernel
theorem dX2_leastLeft_11 : decode cX2_leastLeft 11 = .ok (.iconst 0, 1) := by decide +kernel
theorem dX2_leastLeft_12 : decode cX2_leastLeft 12 = .ok (.ireturn, 1) := by decide +kernel
theorem dX2_leastLeft_13 : decode cX2_leastLeft 13 = .ok (.aload_n 0, 1) := by decide +kernel
theorem dX2_leastLeft_14 : decode cX2_leastLeft 14 = .ok (.getfield 15, 3) := by decide +kernel
theorem dX2_leastLeft_17 : decode cX2_leastLeft 17 = .ok (.invokestatic 100, 3) := by decide +kernel
theorem dX2_leastLeft_20 : decode cX2_leastLeft 20 = .ok (.ifCond .eq 7, 3) := by decide +kernel
theorem dX2_leastLeft_23 : decode cX2_leastLeft 23 = .ok (.iload_n 3, 1) := by decide +kernel
theorem dX2_leastLeft_24 : decode cX2_leastLeft 24 = .ok (.goto 4, 3) := by decide +kernel
theorem dX2_leastLeft_27 : decode cX2_leastLeft 27 = .ok (.iconst 0, 1) := by decide +kernel
theorem dX2_leastLeft_28 : decode cX2_leastLeft 28 = .ok (.istore 5, 2) := by decide +kernel
theorem dX2_leastLeft_30 : decode cX2_leastLeft 30 = .ok (.iload_n 1, 1) := by decide +kernel
theorem dX2_leastLeft_31 : decode cX2_leastLeft 31 = .ok (.invokestatic 104, 3) := by decide +kernel
theorem dX2_leastLeft_34 : decode cX2_leastLeft 34 = .ok (.iconst 1, 1) := by decide +kernel
theorem dX2_leastLeft_35 : decode cX2_leastLeft 35 = .ok (.if_icmp .ne 28, 3) := by decide +kernel
theorem dX2_leastLeft_38 : decode cX2_leastLeft 38 = .ok (.aload_n 0, 1) := by decide +kernel
theorem dX2_leastLeft_39 : decode cX2_leastLeft 39 = .ok (.iload_n 1, 1) := by decide +kernel
theorem dX2_leastLeft_40 : decode cX2_leastLeft 40 = .ok (.iload 5, 2) := by decide +kernel
theorem dX2_leastLeft_42 : decode cX2_leastLeft 42 = .ok (.iload 5, 2) := by decide +kernel
theorem dX2_leastLeft_44 : decode cX2_leastLeft 44 = .ok (.aload_n 0, 1) := by decide +kernel
theorem dX2_leastLeft_45 : decode cX2_leastLeft 45 = .ok (.getfield 11, 3) := by decide +kernel
theorem dX2_leastLeft_48 : decode cX2_leastLeft 48 = .ok (.iload_n 2, 1) := by decide +kernel
theorem dX2_leastLeft_49 : decode cX2_leastLeft 49 = .ok (.aload_n 0, 1) := by decide +kernel
theorem dX2_leastLeft_50 : decode cX2_leastLeft 50 = .ok (.getfield 19, 3) := by decide +kernel
theorem dX2_leastLeft_53 : decode cX2_leastLeft 53 = .ok (.iload_n 1, 1) := by decide +kernel
theorem dX2_leastLeft_54 : decode cX2_leastLeft 54 = .ok (.iaload, 1) := by decide +kernel
theorem dX2_leastLeft_55 : decode cX2_leastLeft 55 = .ok (.invokevirtual 74, 3) := by decide +kernel
theorem dX2_leastLeft_58 : decode cX2_leastLeft 58 = .ok (.iadd, 1) := by decide +kernel
theorem dX2_leastLeft_59 : decode cX2_leastLeft 59 = .ok (.invokevirtual 67, 3) := by decide +kernel
theorem dX2_leastLeft_62 : decode cX2_leastLeft 62 = .ok (.ireturn, 1) := by decide +kernel
theorem dX2_leastLeft_63 : decode cX2_leastLeft 63 = .ok (.aload_n 0, 1) := by decide +kernel
theorem dX2_leastLeft_64 : decode cX2_leastLeft 64 = .ok (.getfield 26, 3) := by decide +kernel
theorem dX2_leastLeft_67 : decode cX2_leastLeft 67 = .ok (.bipush 7, 2) := by decide +kernel
theorem dX2_leastLeft_69 : decode cX2_leastLeft 69 = .ok (.ishl, 1) := by decide +kernel
theorem dX2_leastLeft_70 : decode cX2_leastLeft 70 = .ok (.iload_n 1, 1) := by decide +kernel
theorem dX2_leastLeft_71 : decode cX2_leastLeft 71 = .ok (.ior, 1) := by decide +kernel
theorem dX2_leastLeft_72 : decode cX2_leastLeft 72 = .ok (.iconst 2, 1) := by decide +kernel
theorem dX2_leastLeft_73 : decode cX2_leastLeft 73 = .ok (.ishl, 1) := by decide +kernel
theorem dX2_leastLeft_74 : decode cX2_leastLeft 74 = .ok (.iload_n 2, 1) := by decide +kernel
theorem dX2_leastLeft_75 : decode cX2_leastLeft 75 = .ok (.ior, 1) := by decide +kernel
theorem dX2_leastLeft_76 : decode cX2_leastLeft 76 = .ok (.bipush 9, 2) := by decide +kernel
theorem dX2_leastLeft_78 : decode cX2_leastLeft 78 = .ok (.ishl, 1) := by decide +kernel
theorem dX2_leastLeft_79 : decode cX2_leastLeft 79 = .ok (.iload 5, 2) := by decide +kernel
theorem dX2_leastLeft_81 : decode cX2_leastLeft 81 = .ok (.ior, 1) := by decide +kernel
theorem dX2_leastLeft_82 : decode cX2_leastLeft 82 = .ok (.istore 6, 2) := by decide +kernel
theorem dX2_leastLeft_84 : decode cX2_leastLeft 84 = .ok (.aload_n 0, 1) := by decide +kernel
theorem dX2_leastLeft_85 : decode cX2_leastLeft 85 = .ok (.iload 6, 2) := by decide +kernel
theorem dX2_leastLeft_87 : decode cX2_leastLeft 87 = .ok (.invokevirtual 110, 3) := by decide +kernel
theorem dX2_leastLeft_90 : decode cX2_leastLeft 90 = .ok (.istore 7, 2) := by decide +kernel
theorem dX2_leastLeft_92 : decode cX2_leastLeft 92 = .ok (.aload_n 0, 1) := by decide +kernel
theorem dX2_leastLeft_93 : decode cX2_leastLeft 93 = .ok (.getfield 29, 3) := by decide +kernel
theorem dX2_leastLeft_96 : decode cX2_leastLeft 96 = .ok (.iload 7, 2) := by decide +kernel
theorem dX2_leastLeft_98 : decode cX2_leastLeft 98 = .ok (.iaload, 1) := by decide +kernel
theorem dX2_leastLeft_99 : decode cX2_leastLeft 99 = .ok (.iload 6, 2) := by decide +kernel
theorem dX2_leastLeft_101 : decode cX2_leastLeft 101 = .ok (.if_icmp .ne 11, 3) := by decide +kernel
theorem dX2_leastLeft_104 : decode cX2_leastLeft 104 = .ok (.aload_n 0, 1) := by decide +kernel
theorem dX2_leastLeft_105 : decode cX2_leastLeft 105 = .ok (.getfield 32, 3) := by decide +kernel
theorem dX2_leastLeft_108 : decode cX2_leastLeft 108 = .ok (.iload 7, 2) := by decide +kernel
theorem dX2_leastLeft_110 : decode cX2_leastLeft 110 = .ok (.iaload, 1) := by decide +kernel
theorem dX2_leastLeft_111 : decode cX2_leastLeft 111 = .ok (.ireturn, 1) := by decide +kernel
theorem dX2_leastLeft_112 : decode cX2_leastLeft 112 = .ok (.ldc 113, 2) := by decide +kernel
theorem dX2_leastLeft_114 : decode cX2_leastLeft 114 = .ok (.istore 8, 2) := by decide +kernel
theorem dX2_leastLeft_116 : decode cX2_leastLeft 116 = .ok (.iload_n 1, 1) := by decide +kernel
theorem dX2_leastLeft_117 : decode cX2_leastLeft 117 = .ok (.istore 9, 2) := by decide +kernel
theorem dX2_leastLeft_119 : decode cX2_leastLeft 119 = .ok (.iload 9, 2) := by decide +kernel
theorem dX2_leastLeft_121 : decode cX2_leastLeft 121 = .ok (.ifCond .le 101, 3) := by decide +kernel
theorem dX2_leastLeft_124 : decode cX2_leastLeft 124 = .ok (.aload_n 0, 1) := by decide +kernel
theorem dX2_leastLeft_125 : decode cX2_leastLeft 125 = .ok (.getfield 19, 3) := by decide +kernel
theorem dX2_leastLeft_128 : decode cX2_leastLeft 128 = .ok (.iload 9, 2) := by decide +kernel
theorem dX2_leastLeft_130 : decode cX2_leastLeft 130 = .ok (.iaload, 1) := by decide +kernel
theorem dX2_leastLeft_131 : decode cX2_leastLeft 131 = .ok (.istore 10, 2) := by decide +kernel
theorem dX2_leastLeft_133 : decode cX2_leastLeft 133 = .ok (.iload 10, 2) := by decide +kernel
theorem dX2_leastLeft_135 : decode cX2_leastLeft 135 = .ok (.iconst (-1), 1) := by decide +kernel
theorem dX2_leastLeft_136 : decode cX2_leastLeft 136 = .ok (.if_icmp .eq 75, 3) := by decide +kernel
theorem dX2_leastLeft_139 : decode cX2_leastLeft 139 = .ok (.iload 5, 2) := by decide +kernel
theorem dX2_leastLeft_141 : decode cX2_leastLeft 141 = .ok (.aload_n 0, 1) := by decide +kernel
theorem dX2_leastLeft_142 : decode cX2_leastLeft 142 = .ok (.getfield 11, 3) := by decide +kernel
theorem dX2_leastLeft_145 : decode cX2_leastLeft 145 = .ok (.iload_n 2, 1) := by decide +kernel
theorem dX2_leastLeft_146 : decode cX2_leastLeft 146 = .ok (.iload 10, 2) := by decide +kernel
theorem dX2_leastLeft_148 : decode cX2_leastLeft 148 = .ok (.invokevirtual 74, 3) := by decide +kernel
theorem dX2_leastLeft_151 : decode cX2_leastLeft 151 = .ok (.iadd, 1) := by decide +kernel
theorem dX2_leastLeft_152 : decode cX2_leastLeft 152 = .ok (.istore 11, 2) := by decide +kernel
theorem dX2_leastLeft_154 : decode cX2_leastLeft 154 = .ok (.aload_n 0, 1) := by decide +kernel
theorem dX2_leastLeft_155 : decode cX2_leastLeft 155 = .ok (.iload 9, 2) := by decide +kernel
theorem dX2_leastLeft_157 : decode cX2_leastLeft 157 = .ok (.iload 5, 2) := by decide +kernel
theorem dX2_leastLeft_159 : decode cX2_leastLeft 159 = .ok (.iload 11, 2) := by decide +kernel
theorem dX2_leastLeft_161 : decode cX2_leastLeft 161 = .ok (.invokevirtual 67, 3) := by decide +kernel
theorem dX2_leastLeft_164 : decode cX2_leastLeft 164 = .ok (.istore 12, 2) := by decide +kernel
theorem dX2_leastLeft_166 : decode cX2_leastLeft 166 = .ok (.iload 12, 2) := by decide +kernel
theorem dX2_leastLeft_168 : decode cX2_leastLeft 168 = .ok (.iload 8, 2) := by decide +kernel
theorem dX2_leastLeft_170 : decode cX2_leastLeft 170 = .ok (.if_icmp .ge 41, 3) := by decide +kernel
theorem dX2_leastLeft_173 : decode cX2_leastLeft 173 = .ok (.aload_n 0, 1) := by decide +kernel
theorem dX2_leastLeft_174 : decode cX2_leastLeft 174 = .ok (.iload_n 1, 1) := by decide +kernel
theorem dX2_leastLeft_175 : decode cX2_leastLeft 175 = .ok (.iload 9, 2) := by decide +kernel
theorem dX2_leastLeft_177 : decode cX2_leastLeft 177 = .ok (.iconst (-1), 1) := by decide +kernel
theorem dX2_leastLeft_178 : decode cX2_leastLeft 178 = .ok (.ixor, 1) := by decide +kernel
theorem dX2_leastLeft_179 : decode cX2_leastLeft 179 = .ok (.iand, 1) := by decide +kernel
theorem dX2_leastLeft_180 : decode cX2_leastLeft 180 = .ok (.iload 10, 2) := by decide +kernel
theorem dX2_leastLeft_182 : decode cX2_leastLeft 182 = .ok (.iload 11, 2) := by decide +kernel
theorem dX2_leastLeft_184 : decode cX2_leastLeft 184 = .ok (.iload 4, 2) := by decide +kernel
theorem dX2_leastLeft_186 : decode cX2_leastLeft 186 = .ok (.iconst 1, 1) := by decide +kernel
theorem dX2_leastLeft_187 : decode cX2_leastLeft 187 = .ok (.iadd, 1) := by decide +kernel
theorem dX2_leastLeft_188 : decode cX2_leastLeft 188 = .ok (.invokevirtual 47, 3) := by decide +kernel
theorem dX2_leastLeft_191 : decode cX2_leastLeft 191 = .ok (.istore 13, 2) := by decide +kernel
theorem dX2_leastLeft_193 : decode cX2_leastLeft 193 = .ok (.iload 8, 2) := by decide +kernel
theorem dX2_leastLeft_195 : decode cX2_leastLeft 195 = .ok (.aload_n 0, 1) := by decide +kernel
theorem dX2_leastLeft_196 : decode cX2_leastLeft 196 = .ok (.getfield 15, 3) := by decide +kernel
theorem dX2_leastLeft_199 : decode cX2_leastLeft 199 = .ok (.iload 12, 2) := by decide +kernel
theorem dX2_leastLeft_201 : decode cX2_leastLeft 201 = .ok (.iload 13, 2) := by decide +kernel
theorem dX2_leastLeft_203 : decode cX2_leastLeft 203 = .ok (.invokestatic 71, 3) := by decide +kernel
theorem dX2_leastLeft_206 : decode cX2_leastLeft 206 = .ok (.invokestatic 114, 3) := by decide +kernel
theorem dX2_leastLeft_209 : decode cX2_leastLeft 209 = .ok (.istore 8, 2) := by decide +kernel
theorem dX2_leastLeft_211 : decode cX2_leastLeft 211 = .ok (.iload 9, 2) := by decide +kernel
theorem dX2_leastLeft_213 : decode cX2_leastLeft 213 = .ok (.iconst 1, 1) := by decide +kernel
theorem dX2_leastLeft_214 : decode cX2_leastLeft 214 = .ok (.isub, 1) := by decide +kernel
theorem dX2_leastLeft_215 : decode cX2_leastLeft 215 = .ok (.iload_n 1, 1) := by decide +kernel
theorem dX2_leastLeft_216 : decode cX2_leastLeft 216 = .ok (.iand, 1) := by decide +kernel
theorem dX2_leastLeft_217 : decode cX2_leastLeft 217 = .ok (.istore 9, 2) := by decide +kernel
theorem dX2_leastLeft_219 : decode cX2_leastLeft 219 = .ok (.goto (-100), 3) := by decide +kernel
theorem dX2_leastLeft_222 : decode cX2_leastLeft 222 = .ok (.aload_n 0, 1) := by decide +kernel
theorem dX2_leastLeft_223 : decode cX2_leastLeft 223 = .ok (.iload 6, 2) := by decide +kernel
theorem dX2_leastLeft_225 : decode cX2_leastLeft 225 = .ok (.iload 8, 2) := by decide +kernel
theorem dX2_leastLeft_227 : decode cX2_leastLeft 227 = .ok (.invokevirtual 119, 3) := by decide +kernel
theorem dX2_leastLeft_230 : decode cX2_leastLeft 230 = .ok (.iload 8, 2) := by decide +kernel
theorem dX2_leastLeft_232 : decode cX2_leastLeft 232 = .ok (.ireturn, 1) := by decide +kernel
theorem dX2_part_0 : decode cX2_part 0 = .ok (.aload_n 0, 1) := by decide +kernel
theorem dX2_part_1 : decode cX2_part 1 = .ok (.getfield 15, 3) := by decide +kernel
theorem dX2_part_4 : decode cX2_part 4 = .ok (.lookupswitch 34 #[(2, 28), (3, 32)], 28) := by decide +kernel
theorem dX2_part_32 : decode cX2_part 32 = .ok (.iload_n 3, 1) := by decide +kernel
theorem dX2_part_33 : decode cX2_part 33 = .ok (.iload_n 2, 1) := by decide +kernel
theorem dX2_part_34 : decode cX2_part 34 = .ok (.isub, 1) := by decide +kernel
theorem dX2_part_35 : decode cX2_part 35 = .ok (.ireturn, 1) := by decide +kernel
theorem dX2_part_36 : decode cX2_part 36 = .ok (.iconst 1, 1) := by decide +kernel
theorem dX2_part_37 : decode cX2_part 37 = .ok (.ireturn, 1) := by decide +kernel
theorem dX2_part_38 : decode cX2_part 38 = .ok (.aload_n 0, 1) := by decide +kernel
theorem dX2_part_39 : decode cX2_part 39 = .ok (.getfield 11, 3) := by decide +kernel
theorem dX2_part_42 : decode cX2_part 42 = .ok (.aload_n 0, 1) := by decide +kernel
theorem dX2_part_43 : decode cX2_part 43 = .ok (.getfield 15, 3) := by decide +kernel
theorem dX2_part_46 : decode cX2_part 46 = .ok (.iload_n 1, 1) := by decide +kernel
theorem dX2_part_47 : decode cX2_part 47 = .ok (.iload_n 3, 1) := by decide +kernel
theorem dX2_part_48 : decode cX2_part 48 = .ok (.invokevirtual 122, 3) := by decide +kernel
theorem dX2_part_51 : decode cX2_part 51 = .ok (.ireturn, 1) := by decide +kernel
theorem dX2_slotOf_0 : decode cX2_slotOf 0 = .ok (.iload_n 1, 1) := by decide +kernel
theorem dX2_slotOf_1 : decode cX2_slotOf 1 = .ok (.ldc 125, 2) := by decide +kernel
theorem dX2_slotOf_3 : decode cX2_slotOf 3 = .ok (.imul, 1) := by decide +kernel
theorem dX2_slotOf_4 : decode cX2_slotOf 4 = .ok (.bipush 21, 2) := by decide +kernel
theorem dX2_slotOf_6 : decode cX2_slotOf 6 = .ok (.iushr, 1) := by decide +kernel
theorem dX2_slotOf_7 : decode cX2_slotOf 7 = .ok (.istore_n 2, 1) := by decide +kernel
theorem dX2_slotOf_8 : decode cX2_slotOf 8 = .ok (.iconst 0, 1) := by decide +kernel
theorem dX2_slotOf_9 : decode cX2_slotOf 9 = .ok (.istore_n 3, 1) := by decide +kernel
theorem dX2_slotOf_10 : decode cX2_slotOf 10 = .ok (.iload_n 3, 1) := by decide +kernel
theorem dX2_slotOf_11 : decode cX2_slotOf 11 = .ok (.bipush 32, 2) := by decide +kernel
theorem dX2_slotOf_13 : decode cX2_slotOf 13 = .ok (.if_icmp .ge 49, 3) := by decide +kernel
theorem dX2_slotOf_16 : decode cX2_slotOf 16 = .ok (.iload_n 2, 1) := by decide +kernel
theorem dX2_slotOf_17 : decode cX2_slotOf 17 = .ok (.iload_n 3, 1) := by decide +kernel
theorem dX2_slotOf_18 : decode cX2_slotOf 18 = .ok (.iadd, 1) := by decide +kernel
theorem dX2_slotOf_19 : decode cX2_slotOf 19 = .ok (.sipush 2047, 3) := by decide +kernel
theorem dX2_slotOf_22 : decode cX2_slotOf 22 = .ok (.iand, 1) := by decide +kernel
theorem dX2_slotOf_23 : decode cX2_slotOf 23 = .ok (.istore 4, 2) := by decide +kernel
theorem dX2_slotOf_25 : decode cX2_slotOf 25 = .ok (.aload_n 0, 1) := by decide +kernel
theorem dX2_slotOf_26 : decode cX2_slotOf 26 = .ok (.getfield 29, 3) := by decide +kernel
theorem dX2_slotOf_29 : decode cX2_slotOf 29 = .ok (.iload 4, 2) := by decide +kernel
theorem dX2_slotOf_31 : decode cX2_slotOf 31 = .ok (.iaload, 1) := by decide +kernel
theorem dX2_slotOf_32 : decode cX2_slotOf 32 = .ok (.iload_n 1, 1) := by decide +kernel
theorem dX2_slotOf_33 : decode cX2_slotOf 33 = .ok (.if_icmp .eq 20, 3) := by decide +kernel
theorem dX2_slotOf_36 : decode cX2_slotOf 36 = .ok (.aload_n 0, 1) := by decide +kernel
theorem dX2_slotOf_37 : decode cX2_slotOf 37 = .ok (.getfield 29, 3) := by decide +kernel
theorem dX2_slotOf_40 : decode cX2_slotOf 40 = .ok (.iload 4, 2) := by decide +kernel
theorem dX2_slotOf_42 : decode cX2_slotOf 42 = .ok (.iaload, 1) := by decide +kernel
theorem dX2_slotOf_43 : decode cX2_slotOf 43 = .ok (.bipush 18, 2) := by decide +kernel
theorem dX2_slotOf_45 : decode cX2_slotOf 45 = .ok (.ishr, 1) := by decide +kernel
theorem dX2_slotOf_46 : decode cX2_slotOf 46 = .ok (.aload_n 0, 1) := by decide +kernel
theorem dX2_slotOf_47 : decode cX2_slotOf 47 = .ok (.getfield 26, 3) := by decide +kernel
theorem dX2_slotOf_50 : decode cX2_slotOf 50 = .ok (.if_icmp .eq 6, 3) := by decide +kernel
theorem dX2_slotOf_53 : decode cX2_slotOf 53 = .ok (.iload 4, 2) := by decide +kernel
theorem dX2_slotOf_55 : decode cX2_slotOf 55 = .ok (.ireturn, 1) := by decide +kernel
theorem dX2_slotOf_56 : decode cX2_slotOf 56 = .ok (.iinc 3 1, 3) := by decide +kernel
theorem dX2_slotOf_59 : decode cX2_slotOf 59 = .ok (.goto (-49), 3) := by decide +kernel
theorem dX2_slotOf_62 : decode cX2_slotOf 62 = .ok (.iload_n 2, 1) := by decide +kernel
theorem dX2_slotOf_63 : decode cX2_slotOf 63 = .ok (.ireturn, 1) := by decide +kernel
theorem dX2_keep_0 : decode cX2_keep 0 = .ok (.aload_n 0, 1) := by decide +kernel
theorem dX2_keep_1 : decode cX2_keep 1 = .ok (.iload_n 1, 1) := by decide +kernel
theorem dX2_keep_2 : decode cX2_keep 2 = .ok (.invokevirtual 110, 3) := by decide +kernel
theorem dX2_keep_5 : decode cX2_keep 5 = .ok (.istore_n 3, 1) := by decide +kernel
theorem dX2_keep_6 : decode cX2_keep 6 = .ok (.aload_n 0, 1) := by decide +kernel
theorem dX2_keep_7 : decode cX2_keep 7 = .ok (.getfield 29, 3) := by decide +kernel
theorem dX2_keep_10 : decode cX2_keep 10 = .ok (.iload_n 3, 1) := by decide +kernel
theorem dX2_keep_11 : decode cX2_keep 11 = .ok (.iload_n 1, 1) := by decide +kernel
theorem dX2_keep_12 : decode cX2_keep 12 = .ok (.iastore, 1) := by decide +kernel
theorem dX2_keep_13 : decode cX2_keep 13 = .ok (.aload_n 0, 1) := by decide +kernel
theorem dX2_keep_14 : decode cX2_keep 14 = .ok (.getfield 32, 3) := by decide +kernel
theorem dX2_keep_17 : decode cX2_keep 17 = .ok (.iload_n 3, 1) := by decide +kernel
theorem dX2_keep_18 : decode cX2_keep 18 = .ok (.iload_n 2, 1) := by decide +kernel
theorem dX2_keep_19 : decode cX2_keep 19 = .ok (.iastore, 1) := by decide +kernel
theorem dX2_keep_20 : decode cX2_keep 20 = .ok (.return_, 1) := by decide +kernel
theorem dX3_init_0 : decode cX3_init 0 = .ok (.aload_n 0, 1) := by decide +kernel
theorem dX3_init_1 : decode cX3_init 1 = .ok (.invokespecial 3, 3) := by decide +kernel
theorem dX3_init_4 : decode cX3_init 4 = .ok (.aload_n 0, 1) := by decide +kernel
theorem dX3_init_5 : decode cX3_init 5 = .ok (.iconst 4, 1) := by decide +kernel
theorem dX3_init_6 : decode cX3_init 6 = .ok (.newarray .int, 2) := by decide +kernel
theorem dX3_init_8 : decode cX3_init 8 = .ok (.dup, 1) := by decide +kernel
theorem dX3_init_9 : decode cX3_init 9 = .ok (.iconst 0, 1) := by decide +kernel
theorem dX3_init_10 : decode cX3_init 10 = .ok (.iconst 3, 1) := by decide +kernel
theorem dX3_init_11 : decode cX3_init 11 = .ok (.iastore, 1) := by decide +kernel
theorem dX3_init_12 : decode cX3_init 12 = .ok (.dup, 1) := by decide +kernel
theorem dX3_init_13 : decode cX3_init 13 = .ok (.iconst 1, 1) := by decide +kernel
theorem dX3_init_14 : decode cX3_init 14 = .ok (.bipush 6, 2) := by decide +kernel
theorem dX3_init_16 : decode cX3_init 16 = .ok (.iastore, 1) := by decide +kernel
theorem dX3_init_17 : decode cX3_init 17 = .ok (.dup, 1) := by decide +kernel
theorem dX3_init_18 : decode cX3_init 18 = .ok (.iconst 2, 1) := by decide +kernel
theorem dX3_init_19 : decode cX3_init 19 = .ok (.bipush 9, 2) := by decide +kernel
theorem dX3_init_21 : decode cX3_init 21 = .ok (.iastore, 1) := by decide +kernel
theorem dX3_init_22 : decode cX3_init 22 = .ok (.dup, 1) := by decide +kernel
theorem dX3_init_23 : decode cX3_init 23 = .ok (.iconst 3, 1) := by decide +kernel
theorem dX3_init_24 : decode cX3_init 24 = .ok (.iconst 0, 1) := by decide +kernel
theorem dX3_init_25 : decode cX3_init 25 = .ok (.iastore, 1) := by decide +kernel
theorem dX3_init_26 : decode cX3_init 26 = .ok (.putfield 9, 3) := by decide +kernel
theorem dX3_init_29 : decode cX3_init 29 = .ok (.aload_n 0, 1) := by decide +kernel
theorem dX3_init_30 : decode cX3_init 30 = .ok (.iconst 4, 1) := by decide +kernel
theorem dX3_init_31 : decode cX3_init 31 = .ok (.newarray .int, 2) := by decide +kernel
theorem dX3_init_33 : decode cX3_init 33 = .ok (.dup, 1) := by decide +kernel
theorem dX3_init_34 : decode cX3_init 34 = .ok (.iconst 0, 1) := by decide +kernel
theorem dX3_init_35 : decode cX3_init 35 = .ok (.iconst 5, 1) := by decide +kernel
theorem dX3_init_36 : decode cX3_init 36 = .ok (.iastore, 1) := by decide +kernel
theorem dX3_init_37 : decode cX3_init 37 = .ok (.dup, 1) := by decide +kernel
theorem dX3_init_38 : decode cX3_init 38 = .ok (.iconst 1, 1) := by decide +kernel
theorem dX3_init_39 : decode cX3_init 39 = .ok (.iconst 5, 1) := by decide +kernel
theorem dX3_init_40 : decode cX3_init 40 = .ok (.iastore, 1) := by decide +kernel
theorem dX3_init_41 : decode cX3_init 41 = .ok (.dup, 1) := by decide +kernel
theorem dX3_init_42 : decode cX3_init 42 = .ok (.iconst 2, 1) := by decide +kernel
theorem dX3_init_43 : decode cX3_init 43 = .ok (.iconst 5, 1) := by decide +kernel
theorem dX3_init_44 : decode cX3_init 44 = .ok (.iastore, 1) := by decide +kernel
theorem dX3_init_45 : decode cX3_init 45 = .ok (.dup, 1) := by decide +kernel
theorem dX3_init_46 : decode cX3_init 46 = .ok (.iconst 3, 1) := by decide +kernel
theorem dX3_init_47 : decode cX3_init 47 = .ok (.iconst 0, 1) := by decide +kernel
theorem dX3_init_48 : decode cX3_init 48 = .ok (.iastore, 1) := by decide +kernel
theorem dX3_init_49 : decode cX3_init 49 = .ok (.putfield 15, 3) := by decide +kernel
theorem dX3_init_52 : decode cX3_init 52 = .ok (.aload_n 0, 1) := by decide +kernel
theorem dX3_init_53 : decode cX3_init 53 = .ok (.bipush 10, 2) := by decide +kernel
theorem dX3_init_55 : decode cX3_init 55 = .ok (.putfield 18, 3) := by decide +kernel
theorem dX3_init_58 : decode cX3_init 58 = .ok (.aload_n 0, 1) := by decide +kernel
theorem dX3_init_59 : decode cX3_init 59 = .ok (.iconst 1, 1) := by decide +kernel
theorem dX3_init_60 : decode cX3_init 60 = .ok (.putfield 22, 3) := by decide +kernel
theorem dX3_init_63 : decode cX3_init 63 = .ok (.aload_n 0, 1) := by decide +kernel
theorem dX3_init_64 : decode cX3_init 64 = .ok (.iconst 1, 1) := by decide +kernel
theorem dX3_init_65 : decode cX3_init 65 = .ok (.putfield 25, 3) := by decide +kernel
theorem dX3_init_68 : decode cX3_init 68 = .ok (.aload_n 0, 1) := by decide +kernel
theorem dX3_init_69 : decode cX3_init 69 = .ok (.iconst 0, 1) := by decide +kernel
theorem dX3_init_70 : decode cX3_init 70 = .ok (.putfield 28, 3) := by decide +kernel
theorem dX3_init_73 : decode cX3_init 73 = .ok (.aload_n 0, 1) := by decide +kernel
theorem dX3_init_74 : decode cX3_init 74 = .ok (.bipush 7, 2) := by decide +kernel
theorem dX3_init_76 : decode cX3_init 76 = .ok (.newarray .int, 2) := by decide +kernel
theorem dX3_init_78 : decode cX3_init 78 = .ok (.putfield 31, 3) := by decide +kernel
theorem dX3_init_81 : decode cX3_init 81 = .ok (.aload_n 0, 1) := by decide +kernel
theorem dX3_init_82 : decode cX3_init 82 = .ok (.bipush 7, 2) := by decide +kernel
theorem dX3_init_84 : decode cX3_init 84 = .ok (.newarray .int, 2) := by decide +kernel
theorem dX3_init_86 : decode cX3_init 86 = .ok (.putfield 34, 3) := by decide +kernel
theorem dX3_init_89 : decode cX3_init 89 = .ok (.aload_n 0, 1) := by decide +kernel
theorem dX3_init_90 : decode cX3_init 90 = .ok (.bipush 7, 2) := by decide +kernel
theorem dX3_init_92 : decode cX3_init 92 = .ok (.newarray .int, 2) := by decide +kernel
theorem dX3_init_94 : decode cX3_init 94 = .ok (.putfield 37, 3) := by decide +kernel
theorem dX3_init_97 : decode cX3_init 97 = .ok (.return_, 1) := by decide +kernel
theorem dX3_become_0 : decode cX3_become 0 = .ok (.aload_n 1, 1) := by decide +kernel
theorem dX3_become_1 : decode cX3_become 1 = .ok (.getfield 9, 3) := by decide +kernel
theorem dX3_become_4 : decode cX3_become 4 = .ok (.iconst 0, 1) := by decide +kernel
theorem dX3_become_5 : decode cX3_become 5 = .ok (.aload_n 0, 1) := by decide +kernel
theorem dX3_become_6 : decode cX3_become 6 = .ok (.getfield 9, 3) := by decide +kernel
theorem dX3_become_9 : decode cX3_become 9 = .ok (.iconst 0, 1) := by decide +kernel
theorem dX3_become_10 : decode cX3_become 10 = .ok (.iconst 3, 1) := by decide +kernel
theorem dX3_become_11 : decode cX3_become 11 = .ok (.invokestatic 40, 3) := by decide +kernel
theorem dX3_become_14 : decode cX3_become 14 = .ok (.aload_n 1, 1) := by decide +kernel
theorem dX3_become_15 : decode cX3_become 15 = .ok (.getfield 15, 3) := by decide +kernel
theorem dX3_become_18 : decode cX3_become 18 = .ok (.iconst 0, 1) := by decide +kernel
theorem dX3_become_19 : decode cX3_become 19 = .ok (.aload_n 0, 1) := by decide +kernel
theorem dX3_become_20 : decode cX3_become 20 = .ok (.getfield 15, 3) := by decide +kernel
theorem dX3_become_23 : decode cX3_become 23 = .ok (.iconst 0, 1) := by decide +kernel
theorem dX3_become_24 : decode cX3_become 24 = .ok (.iconst 3, 1) := by decide +kernel
theorem dX3_become_25 : decode cX3_become 25 = .ok (.invokestatic 40, 3) := by decide +kernel
theorem dX3_become_28 : decode cX3_become 28 = .ok (.aload_n 0, 1) := by decide +kernel
theorem dX3_become_29 : decode cX3_become 29 = .ok (.aload_n 1, 1) := by decide +kernel
theorem dX3_become_30 : decode cX3_become 30 = .ok (.getfield 18, 3) := by decide +kernel
theorem dX3_become_33 : decode cX3_become 33 = .ok (.putfield 18, 3) := by decide +kernel
theorem dX3_become_36 : decode cX3_become 36 = .ok (.aload_n 0, 1) := by decide +kernel
theorem dX3_become_37 : decode cX3_become 37 = .ok (.aload_n 1, 1) := by decide +kernel
theorem dX3_become_38 : decode cX3_become 38 = .ok (.getfield 22, 3) := by decide +kernel
theorem dX3_become_41 : decode cX3_become 41 = .ok (.putfield 22, 3) := by decide +kernel
theorem dX3_become_44 : decode cX3_become 44 = .ok (.aload_n 0, 1) := by decide +kernel
theorem dX3_become_45 : decode cX3_become 45 = .ok (.aload_n 1, 1) := by decide +kernel
theorem dX3_become_46 : decode cX3_become 46 = .ok (.getfield 25, 3) := by decide +kernel
theorem dX3_become_49 : decode cX3_become 49 = .ok (.putfield 25, 3) := by decide +kernel
theorem dX3_become_52 : decode cX3_become 52 = .ok (.aload_n 0, 1) := by decide +kernel
theorem dX3_become_53 : decode cX3_become 53 = .ok (.aload_n 1, 1) := by decide +kernel
theorem dX3_become_54 : decode cX3_become 54 = .ok (.getfield 28, 3) := by decide +kernel
theorem dX3_become_57 : decode cX3_become 57 = .ok (.putfield 28, 3) := by decide +kernel
theorem dX3_become_60 : decode cX3_become 60 = .ok (.aload_n 1, 1) := by decide +kernel
theorem dX3_become_61 : decode cX3_become 61 = .ok (.getfield 31, 3) := by decide +kernel
theorem dX3_become_64 : decode cX3_become 64 = .ok (.iconst 0, 1) := by decide +kernel
theorem dX3_become_65 : decode cX3_become 65 = .ok (.aload_n 0, 1) := by decide +kernel
theorem dX3_become_66 : decode cX3_become 66 = .ok (.getfield 31, 3) := by decide +kernel
theorem dX3_become_69 : decode cX3_become 69 = .ok (.iconst 0, 1) := by decide +kernel
theorem dX3_become_70 : decode cX3_become 70 = .ok (.bipush 7, 2) := by decide +kernel
theorem dX3_become_72 : decode cX3_become 72 = .ok (.invokestatic 40, 3) := by decide +kernel
theorem dX3_become_75 : decode cX3_become 75 = .ok (.aload_n 1, 1) := by decide +kernel
theorem dX3_become_76 : decode cX3_become 76 = .ok (.getfield 34, 3) := by decide +kernel
theorem dX3_become_79 : decode cX3_become 79 = .ok (.iconst 0, 1) := by decide +kernel
theorem dX3_become_80 : decode cX3_become 80 = .ok (.aload_n 0, 1) := by decide +kernel
theorem dX3_become_81 : decode cX3_become 81 = .ok (.getfield 34, 3) := by decide +kernel
theorem dX3_become_84 : decode cX3_become 84 = .ok (.iconst 0, 1) := by decide +kernel
theorem dX3_become_85 : decode cX3_become 85 = .ok (.bipush 7, 2) := by decide +kernel
theorem dX3_become_87 : decode cX3_become 87 = .ok (.invokestatic 40, 3) := by decide +kernel
theorem dX3_become_90 : decode cX3_become 90 = .ok (.aload_n 1, 1) := by decide +kernel
theorem dX3_become_91 : decode cX3_become 91 = .ok (.getfield 37, 3) := by decide +kernel
theorem dX3_become_94 : decode cX3_become 94 = .ok (.iconst 0, 1) := by decide +kernel
theorem dX3_become_95 : decode cX3_become 95 = .ok (.aload_n 0, 1) := by decide +kernel
theorem dX3_become_96 : decode cX3_become 96 = .ok (.getfield 37, 3) := by decide +kernel
theorem dX3_become_99 : decode cX3_become 99 = .ok (.iconst 0, 1) := by decide +kernel
theorem dX3_become_100 : decode cX3_become 100 = .ok (.bipush 7, 2) := by decide +kernel
theorem dX3_become_102 : decode cX3_become 102 = .ok (.invokestatic 40, 3) := by decide +kernel
theorem dX3_become_105 : decode cX3_become 105 = .ok (.return_, 1) := by decide +kernel
theorem dX3_take_0 : decode cX3_take 0 = .ok (.aload_n 0, 1) := by decide +kernel
theorem dX3_take_1 : decode cX3_take 1 = .ok (.getfield 28, 3) := by decide +kernel
theorem dX3_take_4 : decode cX3_take 4 = .ok (.istore 4, 2) := by decide +kernel
theorem dX3_take_6 : decode cX3_take 6 = .ok (.aload_n 0, 1) := by decide +kernel
theorem dX3_take_7 : decode cX3_take 7 = .ok (.getfield 31, 3) := by decide +kernel
theorem dX3_take_10 : decode cX3_take 10 = .ok (.iload 4, 2) := by decide +kernel
theorem dX3_take_12 : decode cX3_take 12 = .ok (.iload_n 1, 1) := by decide +kernel
theorem dX3_take_13 : decode cX3_take 13 = .ok (.iastore, 1) := by decide +kernel
theorem dX3_take_14 : decode cX3_take 14 = .ok (.aload_n 0, 1) := by decide +kernel
theorem dX3_take_15 : decode cX3_take 15 = .ok (.getfield 34, 3) := by decide +kernel
theorem dX3_take_18 : decode cX3_take 18 = .ok (.iload 4, 2) := by decide +kernel
theorem dX3_take_20 : decode cX3_take 20 = .ok (.iload_n 2, 1) := by decide +kernel
theorem dX3_take_21 : decode cX3_take 21 = .ok (.iastore, 1) := by decide +kernel
theorem dX3_take_22 : decode cX3_take 22 = .ok (.aload_n 0, 1) := by decide +kernel
theorem dX3_take_23 : decode cX3_take 23 = .ok (.getfield 37, 3) := by decide +kernel
theorem dX3_take_26 : decode cX3_take 26 = .ok (.iload 4, 2) := by decide +kernel
theorem dX3_take_28 : decode cX3_take 28 = .ok (.iload_n 3, 1) := by decide +kernel
theorem dX3_take_29 : decode cX3_take 29 = .ok (.iastore, 1) := by decide +kernel
theorem dX3_take_30 : decode cX3_take 30 = .ok (.aload_n 0, 1) := by decide +kernel
theorem dX3_take_31 : decode cX3_take 31 = .ok (.dup, 1) := by decide +kernel
theorem dX3_take_32 : decode cX3_take 32 = .ok (.getfield 28, 3) := by decide +kernel
theorem dX3_take_35 : decode cX3_take 35 = .ok (.iconst 1, 1) := by decide +kernel
theorem dX3_take_36 : decode cX3_take 36 = .ok (.iadd, 1) := by decide +kernel
theorem dX3_take_37 : decode cX3_take 37 = .ok (.putfield 28, 3) := by decide +kernel
theorem dX3_take_40 : decode cX3_take 40 = .ok (.iload 4, 2) := by decide +kernel
theorem dX3_take_42 : decode cX3_take 42 = .ok (.ireturn, 1) := by decide +kernel
theorem dX3_remove_0 : decode cX3_remove 0 = .ok (.iload_n 1, 1) := by decide +kernel
theorem dX3_remove_1 : decode cX3_remove 1 = .ok (.istore_n 2, 1) := by decide +kernel
theorem dX3_remove_2 : decode cX3_remove 2 = .ok (.iload_n 2, 1) := by decide +kernel
theorem dX3_remove_3 : decode cX3_remove 3 = .ok (.aload_n 0, 1) := by decide +kernel
theorem dX3_remove_4 : decode cX3_remove 4 = .ok (.getfield 28, 3) := by decide +kernel
theorem dX3_remove_7 : decode cX3_remove 7 = .ok (.iconst 1, 1) := by decide +kernel
theorem dX3_remove_8 : decode cX3_remove 8 = .ok (.isub, 1) := by decide +kernel
theorem dX3_remove_9 : decode cX3_remove 9 = .ok (.if_icmp .ge 51, 3) := by decide +kernel
theorem dX3_remove_12 : decode cX3_remove 12 = .ok (.aload_n 0, 1) := by decide +kernel
theorem dX3_remove_13 : decode cX3_remove 13 = .ok (.getfield 31, 3) := by decide +kernel
theorem dX3_remove_16 : decode cX3_remove 16 = .ok (.iload_n 2, 1) := by decide +kernel
theorem dX3_remove_17 : decode cX3_remove 17 = .ok (.aload_n 0, 1) := by decide +kernel
theorem dX3_remove_18 : decode cX3_remove 18 = .ok (.getfield 31, 3) := by decide +kernel
theorem dX3_remove_21 : decode cX3_remove 21 = .ok (.iload_n 2, 1) := by decide +kernel
theorem dX3_remove_22 : decode cX3_remove 22 = .ok (.iconst 1, 1) := by decide +kernel
theorem dX3_remove_23 : decode cX3_remove 23 = .ok (.iadd, 1) := by decide +kernel
theorem dX3_remove_24 : decode cX3_remove 24 = .ok (.iaload, 1) := by decide +kernel
theorem dX3_remove_25 : decode cX3_remove 25 = .ok (.iastore, 1) := by decide +kernel
theorem dX3_remove_26 : decode cX3_remove 26 = .ok (.aload_n 0, 1) := by decide +kernel
theorem dX3_remove_27 : decode cX3_remove 27 = .ok (.getfield 34, 3) := by decide +kernel
theorem dX3_remove_30 : decode cX3_remove 30 = .ok (.iload_n 2, 1) := by decide +kernel
theorem dX3_remove_31 : decode cX3_remove 31 = .ok (.aload_n 0, 1) := by decide +kernel
theorem dX3_remove_32 : decode cX3_remove 32 = .ok (.getfield 34, 3) := by decide +kernel
theorem dX3_remove_35 : decode cX3_remove 35 = .ok (.iload_n 2, 1) := by decide +kernel
theorem dX3_remove_36 : decode cX3_remove 36 = .ok (.iconst 1, 1) := by decide +kernel
theorem dX3_remove_37 : decode cX3_remove 37 = .ok (.iadd, 1) := by decide +kernel
theorem dX3_remove_38 : decode cX3_remove 38 = .ok (.iaload, 1) := by decide +kernel
theorem dX3_remove_39 : decode cX3_remove 39 = .ok (.iastore, 1) := by decide +kernel
theorem dX3_remove_40 : decode cX3_remove 40 = .ok (.aload_n 0, 1) := by decide +kernel
theorem dX3_remove_41 : decode cX3_remove 41 = .ok (.getfield 37, 3) := by decide +kernel
theorem dX3_remove_44 : decode cX3_remove 44 = .ok (.iload_n 2, 1) := by decide +kernel
theorem dX3_remove_45 : decode cX3_remove 45 = .ok (.aload_n 0, 1) := by decide +kernel
theorem dX3_remove_46 : decode cX3_remove 46 = .ok (.getfield 37, 3) := by decide +kernel
theorem dX3_remove_49 : decode cX3_remove 49 = .ok (.iload_n 2, 1) := by decide +kernel
theorem dX3_remove_50 : decode cX3_remove 50 = .ok (.iconst 1, 1) := by decide +kernel
theorem dX3_remove_51 : decode cX3_remove 51 = .ok (.iadd, 1) := by decide +kernel
theorem dX3_remove_52 : decode cX3_remove 52 = .ok (.iaload, 1) := by decide +kernel
theorem dX3_remove_53 : decode cX3_remove 53 = .ok (.iastore, 1) := by decide +kernel
theorem dX3_remove_54 : decode cX3_remove 54 = .ok (.iinc 2 1, 3) := by decide +kernel
theorem dX3_remove_57 : decode cX3_remove 57 = .ok (.goto (-55), 3) := by decide +kernel
theorem dX3_remove_60 : decode cX3_remove 60 = .ok (.aload_n 0, 1) := by decide +kernel
theorem dX3_remove_61 : decode cX3_remove 61 = .ok (.dup, 1) := by decide +kernel
theorem dX3_remove_62 : decode cX3_remove 62 = .ok (.getfield 28, 3) := by decide +kernel
theorem dX3_remove_65 : decode cX3_remove 65 = .ok (.iconst 1, 1) := by decide +kernel
theorem dX3_remove_66 : decode cX3_remove 66 = .ok (.isub, 1) := by decide +kernel
theorem dX3_remove_67 : decode cX3_remove 67 = .ok (.putfield 28, 3) := by decide +kernel
theorem dX3_remove_70 : decode cX3_remove 70 = .ok (.return_, 1) := by decide +kernel
theorem dX3_tight_0 : decode cX3_tight 0 = .ok (.iconst 1, 1) := by decide +kernel
theorem dX3_tight_1 : decode cX3_tight 1 = .ok (.aload_n 0, 1) := by decide +kernel
theorem dX3_tight_2 : decode cX3_tight 2 = .ok (.getfield 34, 3) := by decide +kernel
theorem dX3_tight_5 : decode cX3_tight 5 = .ok (.iload_n 1, 1) := by decide +kernel
theorem dX3_tight_6 : decode cX3_tight 6 = .ok (.iaload, 1) := by decide +kernel
theorem dX3_tight_7 : decode cX3_tight 7 = .ok (.invokestatic 46, 3) := by decide +kernel
theorem dX3_tight_10 : decode cX3_tight 10 = .ok (.istore_n 2, 1) := by decide +kernel
theorem dX3_tight_11 : decode cX3_tight 11 = .ok (.aload_n 0, 1) := by decide +kernel
theorem dX3_tight_12 : decode cX3_tight 12 = .ok (.getfield 37, 3) := by decide +kernel
theorem dX3_tight_15 : decode cX3_tight 15 = .ok (.iload_n 1, 1) := by decide +kernel
theorem dX3_tight_16 : decode cX3_tight 16 = .ok (.iaload, 1) := by decide +kernel
theorem dX3_tight_17 : decode cX3_tight 17 = .ok (.aload_n 0, 1) := by decide +kernel
theorem dX3_tight_18 : decode cX3_tight 18 = .ok (.getfield 15, 3) := by decide +kernel
theorem dX3_tight_21 : decode cX3_tight 21 = .ok (.aload_n 0, 1) := by decide +kernel
theorem dX3_tight_22 : decode cX3_tight 22 = .ok (.getfield 31, 3) := by decide +kernel
theorem dX3_tight_25 : decode cX3_tight 25 = .ok (.iload_n 1, 1) := by decide +kernel
theorem dX3_tight_26 : decode cX3_tight 26 = .ok (.iaload, 1) := by decide +kernel
theorem dX3_tight_27 : decode cX3_tight 27 = .ok (.iaload, 1) := by decide +kernel
theorem dX3_tight_28 : decode cX3_tight 28 = .ok (.isub, 1) := by decide +kernel
theorem dX3_tight_29 : decode cX3_tight 29 = .ok (.iload_n 2, 1) := by decide +kernel
theorem dX3_tight_30 : decode cX3_tight 30 = .ok (.invokestatic 52, 3) := by decide +kernel
theorem dX3_tight_33 : decode cX3_tight 33 = .ok (.ireturn, 1) := by decide +kernel
theorem dX3_everyJob_0 : decode cX3_everyJob 0 = .ok (.iconst 1, 1) := by decide +kernel
theorem dX3_everyJob_1 : decode cX3_everyJob 1 = .ok (.aload_n 0, 1) := by decide +kernel
theorem dX3_everyJob_2 : decode cX3_everyJob 2 = .ok (.getfield 28, 3) := by decide +kernel
theorem dX3_everyJob_5 : decode cX3_everyJob 5 = .ok (.ishl, 1) := by decide +kernel
theorem dX3_everyJob_6 : decode cX3_everyJob 6 = .ok (.iconst 1, 1) := by decide +kernel
theorem dX3_everyJob_7 : decode cX3_everyJob 7 = .ok (.isub, 1) := by decide +kernel
theorem dX3_everyJob_8 : decode cX3_everyJob 8 = .ok (.ireturn, 1) := by decide +kernel
theorem dX3_membersOf_0 : decode cX3_membersOf 0 = .ok (.iconst 0, 1) := by decide +kernel
theorem dX3_membersOf_1 : decode cX3_membersOf 1 = .ok (.istore_n 2, 1) := by decide +kernel
theorem dX3_membersOf_2 : decode cX3_membersOf 2 = .ok (.iconst 0, 1) := by decide +kernel
theorem dX3_membersOf_3 : decode cX3_membersOf 3 = .ok (.istore_n 3, 1) := by decide +kernel
theorem dX3_membersOf_4 : decode cX3_membersOf 4 = .ok (.iload_n 3, 1) := by decide +kernel
theorem dX3_membersOf_5 : decode cX3_membersOf 5 = .ok (.aload_n 0, 1) := by decide +kernel
theorem dX3_membersOf_6 : decode cX3_membersOf 6 = .ok (.getfield 28, 3) := by decide +kernel
theorem dX3_membersOf_9 : decode cX3_membersOf 9 = .ok (.if_icmp .ge 25, 3) := by decide +kernel
theorem dX3_membersOf_12 : decode cX3_membersOf 12 = .ok (.aload_n 0, 1) := by decide +kernel
theorem dX3_membersOf_13 : decode cX3_membersOf 13 = .ok (.getfield 31, 3) := by decide +kernel
theorem dX3_membersOf_16 : decode cX3_membersOf 16 = .ok (.iload_n 3, 1) := by decide +kernel
theorem dX3_membersOf_17 : decode cX3_membersOf 17 = .ok (.iaload, 1) := by decide +kernel
theorem dX3_membersOf_18 : decode cX3_membersOf 18 = .ok (.iload_n 1, 1) := by decide +kernel
theorem dX3_membersOf_19 : decode cX3_membersOf 19 = .ok (.if_icmp .ne 9, 3) := by decide +kernel
theorem dX3_membersOf_22 : decode cX3_membersOf 22 = .ok (.iload_n 2, 1) := by decide +kernel
theorem dX3_membersOf_23 : decode cX3_membersOf 23 = .ok (.iconst 1, 1) := by decide +kernel
theorem dX3_membersOf_24 : decode cX3_membersOf 24 = .ok (.iload_n 3, 1) := by decide +kernel
theorem dX3_membersOf_25 : decode cX3_membersOf 25 = .ok (.ishl, 1) := by decide +kernel
theorem dX3_membersOf_26 : decode cX3_membersOf 26 = .ok (.ior, 1) := by decide +kernel
theorem dX3_membersOf_27 : decode cX3_membersOf 27 = .ok (.istore_n 2, 1) := by decide +kernel
theorem dX3_membersOf_28 : decode cX3_membersOf 28 = .ok (.iinc 3 1, 3) := by decide +kernel
theorem dX3_membersOf_31 : decode cX3_membersOf 31 = .ok (.goto (-27), 3) := by decide +kernel
theorem dX3_membersOf_34 : decode cX3_membersOf 34 = .ok (.iload_n 2, 1) := by decide +kernel
theorem dX3_membersOf_35 : decode cX3_membersOf 35 = .ok (.ireturn, 1) := by decide +kernel
theorem dX3_familiesUsed_0 : decode cX3_familiesUsed 0 = .ok (.iconst 0, 1) := by decide +kernel
theorem dX3_familiesUsed_1 : decode cX3_familiesUsed 1 = .ok (.istore_n 1, 1) := by decide +kernel
theorem dX3_familiesUsed_2 : decode cX3_familiesUsed 2 = .ok (.iconst 0, 1) := by decide +kernel
theorem dX3_familiesUsed_3 : decode cX3_familiesUsed 3 = .ok (.istore_n 2, 1) := by decide +kernel
theorem dX3_familiesUsed_4 : decode cX3_familiesUsed 4 = .ok (.iload_n 2, 1) := by decide +kernel
theorem dX3_familiesUsed_5 : decode cX3_familiesUsed 5 = .ok (.iconst 3, 1) := by decide +kernel
theorem dX3_familiesUsed_6 : decode cX3_familiesUsed 6 = .ok (.if_icmp .ge 20, 3) := by decide +kernel
theorem dX3_familiesUsed_9 : decode cX3_familiesUsed 9 = .ok (.aload_n 0, 1) := by decide +kernel
theorem dX3_familiesUsed_10 : decode cX3_familiesUsed 10 = .ok (.iload_n 2, 1) := by decide +kernel
theorem dX3_familiesUsed_11 : decode cX3_familiesUsed 11 = .ok (.invokevirtual 55, 3) := by decide +kernel
theorem dX3_familiesUsed_14 : decode cX3_familiesUsed 14 = .ok (.ifCond .eq 6, 3) := by decide +kernel
theorem dX3_familiesUsed_17 : decode cX3_familiesUsed 17 = .ok (.iinc 1 1, 3) := by decide +kernel
theorem dX3_familiesUsed_20 : decode cX3_familiesUsed 20 = .ok (.iinc 2 1, 3) := by decide +kernel
theorem dX3_familiesUsed_23 : decode cX3_familiesUsed 23 = .ok (.goto (-19), 3) := by decide +kernel
theorem dX3_familiesUsed_26 : decode cX3_familiesUsed 26 = .ok (.iload_n 1, 1) := by decide +kernel
theorem dX3_familiesUsed_27 : decode cX3_familiesUsed 27 = .ok (.ireturn, 1) := by decide +kernel
theorem dX3_allVolumes_0 : decode cX3_allVolumes 0 = .ok (.aload_n 0, 1) := by decide +kernel
theorem dX3_allVolumes_1 : decode cX3_allVolumes 1 = .ok (.aload_n 0, 1) := by decide +kernel
theorem dX3_allVolumes_2 : decode cX3_allVolumes 2 = .ok (.invokevirtual 59, 3) := by decide +kernel
theorem dX3_allVolumes_5 : decode cX3_allVolumes 5 = .ok (.invokevirtual 63, 3) := by decide +kernel
theorem dX3_allVolumes_8 : decode cX3_allVolumes 8 = .ok (.ireturn, 1) := by decide +kernel
theorem dX3_volumeOfSet_0 : decode cX3_volumeOfSet 0 = .ok (.iconst 0, 1) := by decide +kernel
theorem dX3_volumeOfSet_1 : decode cX3_volumeOfSet 1 = .ok (.istore_n 2, 1) := by decide +kernel
theorem dX3_volumeOfSet_2 : decode cX3_volumeOfSet 2 = .ok (.iconst 0, 1) := by decide +kernel
theorem dX3_volumeOfSet_3 : decode cX3_volumeOfSet 3 = .ok (.istore_n 3, 1) := by decide +kernel
theorem dX3_volumeOfSet_4 : decode cX3_volumeOfSet 4 = .ok (.iload_n 3, 1) := by decide +kernel
theorem dX3_volumeOfSet_5 : decode cX3_volumeOfSet 5 = .ok (.aload_n 0, 1) := by decide +kernel
theorem dX3_volumeOfSet_6 : decode cX3_volumeOfSet 6 = .ok (.getfield 28, 3) := by decide +kernel
theorem dX3_volumeOfSet_9 : decode cX3_volumeOfSet 9 = .ok (.if_icmp .ge 26, 3) := by decide +kernel
theorem dX3_volumeOfSet_12 : decode cX3_volumeOfSet 12 = .ok (.iload_n 1, 1) := by decide +kernel
theorem dX3_volumeOfSet_13 : decode cX3_volumeOfSet 13 = .ok (.iload_n 3, 1) := by decide +kernel
theorem dX3_volumeOfSet_14 : decode cX3_volumeOfSet 14 = .ok (.invokestatic 66, 3) := by decide +kernel
theorem dX3_volumeOfSet_17 : decode cX3_volumeOfSet 17 = .ok (.ifCond .eq 12, 3) := by decide +kernel
theorem dX3_volumeOfSet_20 : decode cX3_volumeOfSet 20 = .ok (.iload_n 2, 1) := by decide +kernel
theorem dX3_volumeOfSet_21 : decode cX3_volumeOfSet 21 = .ok (.aload_n 0, 1) := by decide +kernel
theorem dX3_volumeOfSet_22 : decode cX3_volumeOfSet 22 = .ok (.getfield 34, 3) := by decide +kernel
theorem dX3_volumeOfSet_25 : decode cX3_volumeOfSet 25 = .ok (.iload_n 3, 1) := by decide +kernel
theorem dX3_volumeOfSet_26 : decode cX3_volumeOfSet 26 = .ok (.iaload, 1) := by decide +kernel
theorem dX3_volumeOfSet_27 : decode cX3_volumeOfSet 27 = .ok (.iadd, 1) := by decide +kernel
theorem dX3_volumeOfSet_28 : decode cX3_volumeOfSet 28 = .ok (.istore_n 2, 1) := by decide +kernel
theorem dX3_volumeOfSet_29 : decode cX3_volumeOfSet 29 = .ok (.iinc 3 1, 3) := by decide +kernel
theorem dX3_volumeOfSet_32 : decode cX3_volumeOfSet 32 = .ok (.goto (-28), 3) := by decide +kernel
theorem dX3_volumeOfSet_35 : decode cX3_volumeOfSet 35 = .ok (.iload_n 2, 1) := by decide +kernel
theorem dX3_volumeOfSet_36 : decode cX3_volumeOfSet 36 = .ok (.ireturn, 1) := by decide +kernel
theorem dX3_fits_0 : decode cX3_fits 0 = .ok (.aload_n 0, 1) := by decide +kernel
theorem dX3_fits_1 : decode cX3_fits 1 = .ok (.getfield 31, 3) := by decide +kernel
theorem dX3_fits_4 : decode cX3_fits 4 = .ok (.iload_n 1, 1) := by decide +kernel
theorem dX3_fits_5 : decode cX3_fits 5 = .ok (.iaload, 1) := by decide +kernel
theorem dX3_fits_6 : decode cX3_fits 6 = .ok (.aload_n 0, 1) := by decide +kernel
theorem dX3_fits_7 : decode cX3_fits 7 = .ok (.iload_n 2, 1) := by decide +kernel
theorem dX3_fits_8 : decode cX3_fits 8 = .ok (.invokevirtual 70, 3) := by decide +kernel
theorem dX3_fits_11 : decode cX3_fits 11 = .ok (.if_icmp .ne 26, 3) := by decide +kernel
theorem dX3_fits_14 : decode cX3_fits 14 = .ok (.aload_n 0, 1) := by decide +kernel
theorem dX3_fits_15 : decode cX3_fits 15 = .ok (.iload_n 2, 1) := by decide +kernel
theorem dX3_fits_16 : decode cX3_fits 16 = .ok (.invokevirtual 63, 3) := by decide +kernel
theorem dX3_fits_19 : decode cX3_fits 19 = .ok (.aload_n 0, 1) := by decide +kernel
theorem dX3_fits_20 : decode cX3_fits 20 = .ok (.getfield 34, 3) := by decide +kernel
theorem dX3_fits_23 : decode cX3_fits 23 = .ok (.iload_n 1, 1) := by decide +kernel
theorem dX3_fits_24 : decode cX3_fits 24 = .ok (.iaload, 1) := by decide +kernel
theorem dX3_fits_25 : decode cX3_fits 25 = .ok (.iadd, 1) := by decide +kernel
theorem dX3_fits_26 : decode cX3_fits 26 = .ok (.aload_n 0, 1) := by decide +kernel
theorem dX3_fits_27 : decode cX3_fits 27 = .ok (.getfield 18, 3) := by decide +kernel
theorem dX3_fits_30 : decode cX3_fits 30 = .ok (.if_icmp .gt 7, 3) := by decide +kernel
theorem dX3_fits_33 : decode cX3_fits 33 = .ok (.iconst 1, 1) := by decide +kernel
theorem dX3_fits_34 : decode cX3_fits 34 = .ok (.goto 4, 3) := by decide +kernel
theorem dX3_fits_37 : decode cX3_fits 37 = .ok (.iconst 0, 1) := by decide +kernel
theorem dX3_fits_38 : decode cX3_fits 38 = .ok (.ireturn, 1) := by decide +kernel
theorem dX3_familyOfSet_0 : decode cX3_familyOfSet 0 = .ok (.iconst 0, 1) := by decide +kernel
theorem dX3_familyOfSet_1 : decode cX3_familyOfSet 1 = .ok (.istore_n 2, 1) := by decide +kernel
theorem dX3_familyOfSet_2 : decode cX3_familyOfSet 2 = .ok (.iload_n 2, 1) := by decide +kernel
theorem dX3_familyOfSet_3 : decode cX3_familyOfSet 3 = .ok (.aload_n 0, 1) := by decide +kernel
theorem dX3_familyOfSet_4 : decode cX3_familyOfSet 4 = .ok (.getfield 28, 3) := by decide +kernel
theorem dX3_familyOfSet_7 : decode cX3_familyOfSet 7 = .ok (.if_icmp .ge 24, 3) := by decide +kernel
theorem dX3_familyOfSet_10 : decode cX3_familyOfSet 10 = .ok (.iload_n 1, 1) := by decide +kernel
theorem dX3_familyOfSet_11 : decode cX3_familyOfSet 11 = .ok (.iload_n 2, 1) := by decide +kernel
theorem dX3_familyOfSet_12 : decode cX3_familyOfSet 12 = .ok (.invokestatic 66, 3) := by decide +kernel
theorem dX3_familyOfSet_15 : decode cX3_familyOfSet 15 = .ok (.ifCond .eq 10, 3) := by decide +kernel
theorem dX3_familyOfSet_18 : decode cX3_familyOfSet 18 = .ok (.aload_n 0, 1) := by decide +kernel
theorem dX3_familyOfSet_19 : decode cX3_familyOfSet 19 = .ok (.getfield 31, 3) := by decide +kernel
theorem dX3_familyOfSet_22 : decode cX3_familyOfSet 22 = .ok (.iload_n 2, 1) := by decide +kernel
theorem dX3_familyOfSet_23 : decode cX3_familyOfSet 23 = .ok (.iaload, 1) := by decide +kernel
theorem dX3_familyOfSet_24 : decode cX3_familyOfSet 24 = .ok (.ireturn, 1) := by decide +kernel
theorem dX3_familyOfSet_25 : decode cX3_familyOfSet 25 = .ok (.iinc 2 1, 3) := by decide +kernel
theorem dX3_familyOfSet_28 : decode cX3_familyOfSet 28 = .ok (.goto (-26), 3) := by decide +kernel
theorem dX3_familyOfSet_31 : decode cX3_familyOfSet 31 = .ok (.iconst 3, 1) := by decide +kernel
theorem dX3_familyOfSet_32 : decode cX3_familyOfSet 32 = .ok (.ireturn, 1) := by decide +kernel
theorem dX3_takes_0 : decode cX3_takes 0 = .ok (.aload_n 0, 1) := by decide +kernel
theorem dX3_takes_1 : decode cX3_takes 1 = .ok (.getfield 9, 3) := by decide +kernel
theorem dX3_takes_4 : decode cX3_takes 4 = .ok (.iload_n 2, 1) := by decide +kernel
theorem dX3_takes_5 : decode cX3_takes 5 = .ok (.iaload, 1) := by decide +kernel
theorem dX3_takes_6 : decode cX3_takes 6 = .ok (.aload_n 0, 1) := by decide +kernel
theorem dX3_takes_7 : decode cX3_takes 7 = .ok (.getfield 9, 3) := by decide +kernel
theorem dX3_takes_10 : decode cX3_takes 10 = .ok (.iload_n 1, 1) := by decide +kernel
theorem dX3_takes_11 : decode cX3_takes 11 = .ok (.iaload, 1) := by decide +kernel
theorem dX3_takes_12 : decode cX3_takes 12 = .ok (.isub, 1) := by decide +kernel
theorem dX3_takes_13 : decode cX3_takes 13 = .ok (.istore_n 3, 1) := by decide +kernel
theorem dX3_takes_14 : decode cX3_takes 14 = .ok (.iload_n 3, 1) := by decide +kernel
theorem dX3_takes_15 : decode cX3_takes 15 = .ok (.ifCond .le 12, 3) := by decide +kernel
theorem dX3_takes_18 : decode cX3_takes 18 = .ok (.aload_n 0, 1) := by decide +kernel
theorem dX3_takes_19 : decode cX3_takes 19 = .ok (.getfield 22, 3) := by decide +kernel
theorem dX3_takes_22 : decode cX3_takes 22 = .ok (.iload_n 3, 1) := by decide +kernel
theorem dX3_takes_23 : decode cX3_takes 23 = .ok (.imul, 1) := by decide +kernel
theorem dX3_takes_24 : decode cX3_takes 24 = .ok (.goto 10, 3) := by decide +kernel
theorem dX3_takes_27 : decode cX3_takes 27 = .ok (.aload_n 0, 1) := by decide +kernel
theorem dX3_takes_28 : decode cX3_takes 28 = .ok (.getfield 25, 3) := by decide +kernel
theorem dX3_takes_31 : decode cX3_takes 31 = .ok (.ineg, 1) := by decide +kernel
theorem dX3_takes_32 : decode cX3_takes 32 = .ok (.iload_n 3, 1) := by decide +kernel
theorem dX3_takes_33 : decode cX3_takes 33 = .ok (.imul, 1) := by decide +kernel
theorem dX3_takes_34 : decode cX3_takes 34 = .ok (.aload_n 0, 1) := by decide +kernel
theorem dX3_takes_35 : decode cX3_takes 35 = .ok (.getfield 15, 3) := by decide +kernel
theorem dX3_takes_38 : decode cX3_takes 38 = .ok (.iload_n 2, 1) := by decide +kernel
theorem dX3_takes_39 : decode cX3_takes 39 = .ok (.iaload, 1) := by decide +kernel
theorem dX3_takes_40 : decode cX3_takes 40 = .ok (.iadd, 1) := by decide +kernel
theorem dX3_takes_41 : decode cX3_takes 41 = .ok (.ireturn, 1) := by decide +kernel
theorem dX3_late_0 : decode cX3_late 0 = .ok (.iconst 0, 1) := by decide +kernel
theorem dX3_late_1 : decode cX3_late 1 = .ok (.istore 4, 2) := by decide +kernel
theorem dX3_late_3 : decode cX3_late 3 = .ok (.iconst 0, 1) := by decide +kernel
theorem dX3_late_4 : decode cX3_late 4 = .ok (.istore 5, 2) := by decide +kernel
theorem dX3_late_6 : decode cX3_late 6 = .ok (.iload 5, 2) := by decide +kernel
theorem dX3_late_8 : decode cX3_late 8 = .ok (.aload_n 0, 1) := by decide +kernel
theorem dX3_late_9 : decode cX3_late 9 = .ok (.getfield 28, 3) := by decide +kernel
theorem dX3_late_12 : decode cX3_late 12 = .ok (.if_icmp .ge 55, 3) := by decide +kernel
theorem dX3_late_15 : decode cX3_late 15 = .ok (.iload_n 3, 1) := by decide +kernel
theorem dX3_late_16 : decode cX3_late 16 = .ok (.aload_n 0, 1) := by decide +kernel
theorem dX3_late_17 : decode cX3_late 17 = .ok (.getfield 37, 3) := by decide +kernel
theorem dX3_late_20 : decode cX3_late 20 = .ok (.iload 5, 2) := by decide +kernel
theorem dX3_late_22 : decode cX3_late 22 = .ok (.iaload, 1) := by decide +kernel
theorem dX3_late_23 : decode cX3_late 23 = .ok (.isub, 1) := by decide +kernel
theorem dX3_late_24 : decode cX3_late 24 = .ok (.istore 6, 2) := by decide +kernel
theorem dX3_late_26 : decode cX3_late 26 = .ok (.iload 6, 2) := by decide +kernel
theorem dX3_late_28 : decode cX3_late 28 = .ok (.ifCond .le 33, 3) := by decide +kernel
theorem dX3_late_31 : decode cX3_late 31 = .ok (.iload_n 2, 1) := by decide +kernel
theorem dX3_late_32 : decode cX3_late 32 = .ok (.iload 5, 2) := by decide +kernel
theorem dX3_late_34 : decode cX3_late 34 = .ok (.invokestatic 66, 3) := by decide +kernel
theorem dX3_late_37 : decode cX3_late 37 = .ok (.ifCond .eq 24, 3) := by decide +kernel
theorem dX3_late_40 : decode cX3_late 40 = .ok (.iload_n 1, 1) := by decide +kernel
theorem dX3_late_41 : decode cX3_late 41 = .ok (.ifCond .ne 13, 3) := by decide +kernel
theorem dX3_late_44 : decode cX3_late 44 = .ok (.iload 4, 2) := by decide +kernel
theorem dX3_late_46 : decode cX3_late 46 = .ok (.iload 6, 2) := by decide +kernel
theorem dX3_late_48 : decode cX3_late 48 = .ok (.invokestatic 46, 3) := by decide +kernel
theorem dX3_late_51 : decode cX3_late 51 = .ok (.goto 8, 3) := by decide +kernel
theorem dX3_late_54 : decode cX3_late 54 = .ok (.iload 4, 2) := by decide +kernel
theorem dX3_late_56 : decode cX3_late 56 = .ok (.iload 6, 2) := by decide +kernel
theorem dX3_late_58 : decode cX3_late 58 = .ok (.iadd, 1) := by decide +kernel
theorem dX3_late_59 : decode cX3_late 59 = .ok (.istore 4, 2) := by decide +kernel
theorem dX3_late_61 : decode cX3_late 61 = .ok (.iinc 5 1, 3) := by decide +kernel
theorem dX3_late_64 : decode cX3_late 64 = .ok (.goto (-58), 3) := by decide +kernel
theorem dX3_late_67 : decode cX3_late 67 = .ok (.iload 4, 2) := by decide +kernel
theorem dX3_late_69 : decode cX3_late 69 = .ok (.ireturn, 1) := by decide +kernel
theorem dX4_init_0 : decode cX4_init 0 = .ok (.aload_n 0, 1) := by decide +kernel
theorem dX4_init_1 : decode cX4_init 1 = .ok (.invokespecial 1, 3) := by decide +kernel
theorem dX4_init_4 : decode cX4_init 4 = .ok (.aload_n 0, 1) := by decide +kernel
theorem dX4_init_5 : decode cX4_init 5 = .ok (.new 7, 3) := by decide +kernel
theorem dX4_init_8 : decode cX4_init 8 = .ok (.dup, 1) := by decide +kernel
theorem dX4_init_9 : decode cX4_init 9 = .ok (.invokespecial 9, 3) := by decide +kernel
theorem dX4_init_12 : decode cX4_init 12 = .ok (.putfield 10, 3) := by decide +kernel
theorem dX4_init_15 : decode cX4_init 15 = .ok (.aload_n 0, 1) := by decide +kernel
theorem dX4_init_16 : decode cX4_init 16 = .ok (.new 7, 3) := by decide +kernel
theorem dX4_init_19 : decode cX4_init 19 = .ok (.dup, 1) := by decide +kernel
theorem dX4_init_20 : decode cX4_init 20 = .ok (.invokespecial 9, 3) := by decide +kernel
theorem dX4_init_23 : decode cX4_init 23 = .ok (.putfield 16, 3) := by decide +kernel
theorem dX4_init_26 : decode cX4_init 26 = .ok (.aload_n 0, 1) := by decide +kernel
theorem dX4_init_27 : decode cX4_init 27 = .ok (.iconst 2, 1) := by decide +kernel
theorem dX4_init_28 : decode cX4_init 28 = .ok (.anewarray 7, 3) := by decide +kernel
theorem dX4_init_31 : decode cX4_init 31 = .ok (.putfield 19, 3) := by decide +kernel
theorem dX4_init_34 : decode cX4_init 34 = .ok (.aload_n 0, 1) := by decide +kernel
theorem dX4_init_35 : decode cX4_init 35 = .ok (.iconst 0, 1) := by decide +kernel
theorem dX4_init_36 : decode cX4_init 36 = .ok (.putfield 23, 3) := by decide +kernel
theorem dX4_init_39 : decode cX4_init 39 = .ok (.aload_n 0, 1) := by decide +kernel
theorem dX4_init_40 : decode cX4_init 40 = .ok (.new 27, 3) := by decide +kernel
theorem dX4_init_43 : decode cX4_init 43 = .ok (.dup, 1) := by decide +kernel
theorem dX4_init_44 : decode cX4_init 44 = .ok (.invokespecial 29, 3) := by decide +kernel
theorem dX4_init_47 : decode cX4_init 47 = .ok (.putfield 30, 3) := by decide +kernel
theorem dX4_init_50 : decode cX4_init 50 = .ok (.aload_n 0, 1) := by decide +kernel
theorem dX4_init_51 : decode cX4_init 51 = .ok (.new 34, 3) := by decide +kernel
theorem dX4_init_54 : decode cX4_init 54 = .ok (.dup, 1) := by decide +kernel
theorem dX4_init_55 : decode cX4_init 55 = .ok (.invokespecial 36, 3) := by decide +kernel
theorem dX4_init_58 : decode cX4_init 58 = .ok (.putfield 37, 3) := by decide +kernel
theorem dX4_init_61 : decode cX4_init 61 = .ok (.aload_n 0, 1) := by decide +kernel
theorem dX4_init_62 : decode cX4_init 62 = .ok (.new 34, 3) := by decide +kernel
theorem dX4_init_65 : decode cX4_init 65 = .ok (.dup, 1) := by decide +kernel
theorem dX4_init_66 : decode cX4_init 66 = .ok (.invokespecial 36, 3) := by decide +kernel
theorem dX4_init_69 : decode cX4_init 69 = .ok (.putfield 41, 3) := by decide +kernel
theorem dX4_init_72 : decode cX4_init 72 = .ok (.aload_n 0, 1) := by decide +kernel
theorem dX4_init_73 : decode cX4_init 73 = .ok (.new 34, 3) := by decide +kernel
theorem dX4_init_76 : decode cX4_init 76 = .ok (.dup, 1) := by decide +kernel
theorem dX4_init_77 : decode cX4_init 77 = .ok (.invokespecial 36, 3) := by decide +kernel
theorem dX4_init_80 : decode cX4_init 80 = .ok (.putfield 44, 3) := by decide +kernel
theorem dX4_init_83 : decode cX4_init 83 = .ok (.aload_n 0, 1) := by decide +kernel
theorem dX4_init_84 : decode cX4_init 84 = .ok (.iconst 4, 1) := by decide +kernel
theorem dX4_init_85 : decode cX4_init 85 = .ok (.anewarray 34, 3) := by decide +kernel
theorem dX4_init_88 : decode cX4_init 88 = .ok (.putfield 47, 3) := by decide +kernel
theorem dX4_init_91 : decode cX4_init 91 = .ok (.aload_n 0, 1) := by decide +kernel
theorem dX4_init_92 : decode cX4_init 92 = .ok (.iconst 4, 1) := by decide +kernel
theorem dX4_init_93 : decode cX4_init 93 = .ok (.newarray .int, 2) := by decide +kernel
theorem dX4_init_95 : decode cX4_init 95 = .ok (.putfield 51, 3) := by decide +kernel
theorem dX4_init_98 : decode cX4_init 98 = .ok (.aload_n 0, 1) := by decide +kernel
theorem dX4_init_99 : decode cX4_init 99 = .ok (.iconst 4, 1) := by decide +kernel
theorem dX4_init_100 : decode cX4_init 100 = .ok (.newarray .boolean, 2) := by decide +kernel
theorem dX4_init_102 : decode cX4_init 102 = .ok (.putfield 55, 3) := by decide +kernel
theorem dX4_init_105 : decode cX4_init 105 = .ok (.aload_n 0, 1) := by decide +kernel
theorem dX4_init_106 : decode cX4_init 106 = .ok (.new 59, 3) := by decide +kernel
theorem dX4_init_109 : decode cX4_init 109 = .ok (.dup, 1) := by decide +kernel
theorem dX4_init_110 : decode cX4_init 110 = .ok (.invokespecial 61, 3) := by decide +kernel
theorem dX4_init_113 : decode cX4_init 113 = .ok (.putfield 62, 3) := by decide +kernel
theorem dX4_init_116 : decode cX4_init 116 = .ok (.iconst 0, 1) := by decide +kernel
theorem dX4_init_117 : decode cX4_init 117 = .ok (.istore_n 1, 1) := by decide +kernel
theorem dX4_init_118 : decode cX4_init 118 = .ok (.iload_n 1, 1) := by decide +kernel
theorem dX4_init_119 : decode cX4_init 119 = .ok (.iconst 2, 1) := by decide +kernel
theorem dX4_init_120 : decode cX4_init 120 = .ok (.if_icmp .ge 22, 3) := by decide +kernel
theorem dX4_init_123 : decode cX4_init 123 = .ok (.aload_n 0, 1) := by decide +kernel
theorem dX4_init_124 : decode cX4_init 124 = .ok (.getfield 19, 3) := by decide +kernel
theorem dX4_init_127 : decode cX4_init 127 = .ok (.iload_n 1, 1) := by decide +kernel
theorem dX4_init_128 : decode cX4_init 128 = .ok (.new 7, 3) := by decide +kernel
theorem dX4_init_131 : decode cX4_init 131 = .ok (.dup, 1) := by decide +kernel
theorem dX4_init_132 : decode cX4_init 132 = .ok (.invokespecial 9, 3) := by decide +kernel
theorem dX4_init_135 : decode cX4_init 135 = .ok (.aastore, 1) := by decide +kernel
theorem dX4_init_136 : decode cX4_init 136 = .ok (.iinc 1 1, 3) := by decide +kernel
theorem dX4_init_139 : decode cX4_init 139 = .ok (.goto (-21), 3) := by decide +kernel
theorem dX4_init_142 : decode cX4_init 142 = .ok (.iconst 0, 1) := by decide +kernel
theorem dX4_init_143 : decode cX4_init 143 = .ok (.istore_n 1, 1) := by decide +kernel
theorem dX4_init_144 : decode cX4_init 144 = .ok (.iload_n 1, 1) := by decide +kernel
theorem dX4_init_145 : decode cX4_init 145 = .ok (.iconst 4, 1) := by decide +kernel
theorem dX4_init_146 : decode cX4_init 146 = .ok (.if_icmp .ge 22, 3) := by decide +kernel
theorem dX4_init_149 : decode cX4_init 149 = .ok (.aload_n 0, 1) := by decide +kernel
theorem dX4_init_150 : decode cX4_init 150 = .ok (.getfield 47, 3) := by decide +kernel
theorem dX4_init_153 : decode cX4_init 153 = .ok (.iload_n 1, 1) := by decide +kernel
theorem dX4_init_154 : decode cX4_init 154 = .ok (.new 34, 3) := by decide +kernel
theorem dX4_init_157 : decode cX4_init 157 = .ok (.dup, 1) := by decide +kernel
theorem dX4_init_158 : decode cX4_init 158 = .ok (.invokespecial 36, 3) := by decide +kernel
theorem dX4_init_161 : decode cX4_init 161 = .ok (.aastore, 1) := by decide +kernel
theorem dX4_init_162 : decode cX4_init 162 = .ok (.iinc 1 1, 3) := by decide +kernel
theorem dX4_init_165 : decode cX4_init 165 = .ok (.goto (-21), 3) := by decide +kernel
theorem dX4_init_168 : decode cX4_init 168 = .ok (.return_, 1) := by decide +kernel
theorem dX4_family_0 : decode cX4_family 0 = .ok (.iload_n 1, 1) := by decide +kernel
theorem dX4_family_1 : decode cX4_family 1 = .ok (.invokestatic 66, 3) := by decide +kernel
theorem dX4_family_4 : decode cX4_family 4 = .ok (.ifCond .ne 5, 3) := by decide +kernel
theorem dX4_family_7 : decode cX4_family 7 = .ok (.iconst (-1), 1) := by decide +kernel
theorem dX4_family_8 : decode cX4_family 8 = .ok (.ireturn, 1) := by decide +kernel
theorem dX4_family_9 : decode cX4_family 9 = .ok (.iload_n 2, 1) := by decide +kernel
theorem dX4_family_10 : decode cX4_family 10 = .ok (.ifCond .ne 41, 3) := by decide +kernel
theorem dX4_family_13 : decode cX4_family 13 = .ok (.iload_n 3, 1) := by decide +kernel
theorem dX4_family_14 : decode cX4_family 14 = .ok (.iconst 0, 1) := by decide +kernel
theorem dX4_family_15 : decode cX4_family 15 = .ok (.bipush 9, 2) := by decide +kernel
theorem dX4_family_17 : decode cX4_family 17 = .ok (.invokestatic 70, 3) := by decide +kernel
theorem dX4_family_20 : decode cX4_family 20 = .ok (.ifCond .eq 31, 3) := by decide +kernel
theorem dX4_family_23 : decode cX4_family 23 = .ok (.aload_n 0, 1) := by decide +kernel
theorem dX4_family_24 : decode cX4_family 24 = .ok (.getfield 10, 3) := by decide +kernel
theorem dX4_family_27 : decode cX4_family 27 = .ok (.getfield 74, 3) := by decide +kernel
theorem dX4_family_30 : decode cX4_family 30 = .ok (.iload_n 1, 1) := by decide +kernel
theorem dX4_family_31 : decode cX4_family 31 = .ok (.iaload, 1) := by decide +kernel
theorem dX4_family_32 : decode cX4_family 32 = .ok (.istore 4, 2) := by decide +kernel
theorem dX4_family_34 : decode cX4_family 34 = .ok (.aload_n 0, 1) := by decide +kernel
theorem dX4_family_35 : decode cX4_family 35 = .ok (.getfield 10, 3) := by decide +kernel
theorem dX4_family_38 : decode cX4_family 38 = .ok (.getfield 74, 3) := by decide +kernel
theorem dX4_family_41 : decode cX4_family 41 = .ok (.iload_n 1, 1) := by decide +kernel
theorem dX4_family_42 : decode cX4_family 42 = .ok (.iload_n 3, 1) := by decide +kernel
theorem dX4_family_43 : decode cX4_family 43 = .ok (.iastore, 1) := by decide +kernel
theorem dX4_family_44 : decode cX4_family 44 = .ok (.aload_n 0, 1) := by decide +kernel
theorem dX4_family_45 : decode cX4_family 45 = .ok (.invokevirtual 77, 3) := by decide +kernel
theorem dX4_family_48 : decode cX4_family 48 = .ok (.iload 4, 2) := by decide +kernel
theorem dX4_family_50 : decode cX4_family 50 = .ok (.ireturn, 1) := by decide +kernel
theorem dX4_family_51 : decode cX4_family 51 = .ok (.iload_n 2, 1) := by decide +kernel
theorem dX4_family_52 : decode cX4_family 52 = .ok (.iconst 1, 1) := by decide +kernel
theorem dX4_family_53 : decode cX4_family 53 = .ok (.if_icmp .ne 41, 3) := by decide +kernel
theorem dX4_family_56 : decode cX4_family 56 = .ok (.iload_n 3, 1) := by decide +kernel
theorem dX4_family_57 : decode cX4_family 57 = .ok (.iconst 1, 1) := by decide +kernel
theorem dX4_family_58 : decode cX4_family 58 = .ok (.bipush 20, 2) := by decide +kernel
theorem dX4_family_60 : decode cX4_family 60 = .ok (.invokestatic 70, 3) := by decide +kernel
theorem dX4_family_63 : decode cX4_family 63 = .ok (.ifCond .eq 31, 3) := by decide +kernel
theorem dX4_family_66 : decode cX4_family 66 = .ok (.aload_n 0, 1) := by decide +kernel
theorem dX4_family_67 : decode cX4_family 67 = .ok (.getfield 10, 3) := by decide +kernel
theorem dX4_family_70 : decode cX4_family 70 = .ok (.getfield 80, 3) := by decide +kernel
theorem dX4_family_73 : decode cX4_family 73 = .ok (.iload_n 1, 1) := by decide +kernel
theorem dX4_family_74 : decode cX4_family 74 = .ok (.iaload, 1) := by decide +kernel
theorem dX4_family_75 : decode cX4_family 75 = .ok (.istore 4, 2) := by decide +kernel
theorem dX4_family_77 : decode cX4_family 77 = .ok (.aload_n 0, 1) := by decide +kernel
theorem dX4_family_78 : decode cX4_family 78 = .ok (.getfield 10, 3) := by decide +kernel
theorem dX4_family_81 : decode cX4_family 81 = .ok (.getfield 80, 3) := by decide +kernel
theorem dX4_family_84 : decode cX4_family 84 = .ok (.iload_n 1, 1) := by decide +kernel
theorem dX4_family_85 : decode cX4_family 85 = .ok (.iload_n 3, 1) := by decide +kernel
theorem dX4_family_86 : decode cX4_family 86 = .ok (.iastore, 1) := by decide +kernel
theorem dX4_family_87 : decode cX4_family 87 = .ok (.aload_n 0, 1) := by decide +kernel
theorem dX4_family_88 : decode cX4_family 88 = .ok (.invokevirtual 77, 3) := by decide +kernel
theorem dX4_family_91 : decode cX4_family 91 = .ok (.iload 4, 2) := by decide +kernel
theorem dX4_family_93 : decode cX4_family 93 = .ok (.ireturn, 1) := by decide +kernel
theorem dX4_family_94 : decode cX4_family 94 = .ok (.bipush (-2), 2) := by decide +kernel
theorem dX4_family_96 : decode cX4_family 96 = .ok (.ireturn, 1) := by decide +kernel
theorem dX4_set_0 : decode cX4_set 0 = .ok (.bipush (-2), 2) := by decide +kernel
theorem dX4_set_2 : decode cX4_set 2 = .ok (.istore_n 3, 1) := by decide +kernel
theorem dX4_set_3 : decode cX4_set 3 = .ok (.iload_n 1, 1) := by decide +kernel
theorem dX4_set_4 : decode cX4_set 4 = .ok (.ifCond .ne 33, 3) := by decide +kernel
theorem dX4_set_7 : decode cX4_set 7 = .ok (.iload_n 2, 1) := by decide +kernel
theorem dX4_set_8 : decode cX4_set 8 = .ok (.bipush 9, 2) := by decide +kernel
theorem dX4_set_10 : decode cX4_set 10 = .ok (.bipush 20, 2) := by decide +kernel
theorem dX4_set_12 : decode cX4_set 12 = .ok (.invokestatic 70, 3) := by decide +kernel
theorem dX4_set_15 : decode cX4_set 15 = .ok (.ifCond .eq 22, 3) := by decide +kernel
theorem dX4_set_18 : decode cX4_set 18 = .ok (.aload_n 0, 1) := by decide +kernel
theorem dX4_set_19 : decode cX4_set 19 = .ok (.getfield 10, 3) := by decide +kernel
theorem dX4_set_22 : decode cX4_set 22 = .ok (.getfield 83, 3) := by decide +kernel
theorem dX4_set_25 : decode cX4_set 25 = .ok (.istore_n 3, 1) := by decide +kernel
theorem dX4_set_26 : decode cX4_set 26 = .ok (.aload_n 0, 1) := by decide +kernel
theorem dX4_set_27 : decode cX4_set 27 = .ok (.getfield 10, 3) := by decide +kernel
theorem dX4_set_30 : decode cX4_set 30 = .ok (.iload_n 2, 1) := by decide +kernel
theorem dX4_set_31 : decode cX4_set 31 = .ok (.putfield 83, 3) := by decide +kernel
theorem dX4_set_34 : decode cX4_set 34 = .ok (.goto 66, 3) := by decide +kernel
theorem dX4_set_37 : decode cX4_set 37 = .ok (.iload_n 1, 1) := by decide +kernel
theorem dX4_set_38 : decode cX4_set 38 = .ok (.iconst 1, 1) := by decide +kernel
theorem dX4_set_39 : decode cX4_set 39 = .ok (.if_icmp .ne 31, 3) := by decide +kernel
theorem dX4_set_42 : decode cX4_set 42 = .ok (.iload_n 2, 1) := by decide +kernel
theorem dX4_set_43 : decode cX4_set 43 = .ok (.iconst 0, 1) := by decide +kernel
theorem dX4_set_44 : decode cX4_set 44 = .ok (.iconst 3, 1) := by decide +kernel
theorem dX4_set_45 : decode cX4_set 45 = .ok (.invokestatic 70, 3) := by decide +kernel
theorem dX4_set_48 : decode cX4_set 48 = .ok (.ifCond .eq 22, 3) := by decide +kernel
theorem dX4_set_51 : decode cX4_set 51 = .ok (.aload_n 0, 1) := by decide +kernel
theorem dX4_set_52 : decode cX4_set 52 = .ok (.getfield 10, 3) := by decide +kernel
theorem dX4_set_55 : decode cX4_set 55 = .ok (.getfield 86, 3) := by decide +kernel
theorem dX4_set_58 : decode cX4_set 58 = .ok (.istore_n 3, 1) := by decide +kernel
theorem dX4_set_59 : decode cX4_set 59 = .ok (.aload_n 0, 1) := by decide +kernel
theorem dX4_set_60 : decode cX4_set 60 = .ok (.getfield 10, 3) := by decide +kernel
theorem dX4_set_63 : decode cX4_set 63 = .ok (.iload_n 2, 1) := by decide +kernel
theorem dX4_set_64 : decode cX4_set 64 = .ok (.putfield 86, 3) := by decide +kernel
theorem dX4_set_67 : decode cX4_set 67 = .ok (.goto 33, 3) := by decide +kernel
theorem dX4_set_70 : decode cX4_set 70 = .ok (.iload_n 1, 1) := by decide +kernel
theorem dX4_set_71 : decode cX4_set 71 = .ok (.iconst 2, 1) := by decide +kernel
theorem dX4_set_72 : decode cX4_set 72 = .ok (.if_icmp .ne 28, 3) := by decide +kernel
theorem dX4_set_75 : decode cX4_set 75 = .ok (.iload_n 2, 1) := by decide +kernel
theorem dX4_set_76 : decode cX4_set 76 = .ok (.iconst 0, 1) := by decide +kernel
theorem dX4_set_77 : decode cX4_set 77 = .ok (.iconst 3, 1) := by decide +kernel
theorem dX4_set_78 : decode cX4_set 78 = .ok (.invokestatic 70, 3) := by decide +kernel
theorem dX4_set_81 : decode cX4_set 81 = .ok (.ifCond .eq 19, 3) := by decide +kernel
theorem dX4_set_84 : decode cX4_set 84 = .ok (.aload_n 0, 1) := by decide +kernel
theorem dX4_set_85 : decode cX4_set 85 = .ok (.getfield 10, 3) := by decide +kernel
theorem dX4_set_88 : decode cX4_set 88 = .ok (.getfield 89, 3) := by decide +kernel
theorem dX4_set_91 : decode cX4_set 91 = .ok (.istore_n 3, 1) := by decide +kernel
theorem dX4_set_92 : decode cX4_set 92 = .ok (.aload_n 0, 1) := by decide +kernel
theorem dX4_set_93 : decode cX4_set 93 = .ok (.getfield 10, 3) := by decide +kernel
theorem dX4_set_96 : decode cX4_set 96 = .ok (.iload_n 2, 1) := by decide +kernel
theorem dX4_set_97 : decode cX4_set 97 = .ok (.putfield 89, 3) := by decide +kernel
theorem dX4_set_100 : decode cX4_set 100 = .ok (.iload_n 3, 1) := by decide +kernel
theorem dX4_set_101 : decode cX4_set 101 = .ok (.bipush (-2), 2) := by decide +kernel
theorem dX4_set_103 : decode cX4_set 103 = .ok (.if_icmp .eq 7, 3) := by decide +kernel
theorem dX4_set_106 : decode cX4_set 106 = .ok (.aload_n 0, 1) := by decide +kernel
theorem dX4_set_107 : decode cX4_set 107 = .ok (.invokevirtual 77, 3) := by decide +kernel
theorem dX4_set_110 : decode cX4_set 110 = .ok (.iload_n 3, 1) := by decide +kernel
theorem dX4_set_111 : decode cX4_set 111 = .ok (.ireturn, 1) := by decide +kernel
theorem dX4_job_0 : decode cX4_job 0 = .ok (.iload_n 1, 1) := by decide +kernel
theorem dX4_job_1 : decode cX4_job 1 = .ok (.invokestatic 66, 3) := by decide +kernel
theorem dX4_job_4 : decode cX4_job 4 = .ok (.ifCond .ne 5, 3) := by decide +kernel
theorem dX4_job_7 : decode cX4_job 7 = .ok (.iconst (-1), 1) := by decide +kernel
theorem dX4_job_8 : decode cX4_job 8 = .ok (.ireturn, 1) := by decide +kernel
theorem dX4_job_9 : decode cX4_job 9 = .ok (.iload_n 2, 1) := by decide +kernel
theorem dX4_job_10 : decode cX4_job 10 = .ok (.iconst 1, 1) := by decide +kernel
theorem dX4_job_11 : decode cX4_job 11 = .ok (.bipush 9, 2) := by decide +kernel
theorem dX4_job_13 : decode cX4_job 13 = .ok (.invokestatic 70, 3) := by decide +kernel
theorem dX4_job_16 : decode cX4_job 16 = .ok (.ifCond .eq 13, 3) := by decide +kernel
theorem dX4_job_19 : decode cX4_job 19 = .ok (.iload_n 3, 1) := by decide +kernel
theorem dX4_job_20 : decode cX4_job 20 = .ok (.iconst 0, 1) := by decide +kernel
theorem dX4_job_21 : decode cX4_job 21 = .ok (.bipush 99, 2) := by decide +kernel
theorem dX4_job_23 : decode cX4_job 23 = .ok (.invokestatic 70, 3) := by decide +kernel
theorem dX4_job_26 : decode cX4_job 26 = .ok (.ifCond .ne 6, 3) := by decide +kernel
theorem dX4_job_29 : decode cX4_job 29 = .ok (.bipush (-2), 2) := by decide +kernel
theorem dX4_job_31 : decode cX4_job 31 = .ok (.ireturn, 1) := by decide +kernel
theorem dX4_job_32 : decode cX4_job 32 = .ok (.aload_n 0, 1) := by decide +kernel
theorem dX4_job_33 : decode cX4_job 33 = .ok (.getfield 10, 3) := by decide +kernel
theorem dX4_job_36 : decode cX4_job 36 = .ok (.getfield 92, 3) := by decide +kernel
theorem dX4_job_39 : decode cX4_job 39 = .ok (.bipush 7, 2) := by decide +kernel
theorem dX4_job_41 : decode cX4_job 41 = .ok (.if_icmp .lt 6, 3) := by decide +kernel
theorem dX4_job_44 : decode cX4_job 44 = .ok (.bipush (-4), 2) := by decide +kernel
theorem dX4_job_46 : decode cX4_job 46 = .ok (.ireturn, 1) := by decide +kernel
theorem dX4_job_47 : decode cX4_job 47 = .ok (.aload_n 0, 1) := by decide +kernel
theorem dX4_job_48 : decode cX4_job 48 = .ok (.invokevirtual 77, 3) := by decide +kernel
theorem dX4_job_51 : decode cX4_job 51 = .ok (.aload_n 0, 1) := by decide +kernel
theorem dX4_job_52 : decode cX4_job 52 = .ok (.getfield 10, 3) := by decide +kernel
theorem dX4_job_55 : decode cX4_job 55 = .ok (.iload_n 1, 1) := by decide +kernel
theorem dX4_job_56 : decode cX4_job 56 = .ok (.iload_n 2, 1) := by decide +kernel
theorem dX4_job_57 : decode cX4_job 57 = .ok (.iload_n 3, 1) := by decide +kernel
theorem dX4_job_58 : decode cX4_job 58 = .ok (.invokevirtual 95, 3) := by decide +kernel
theorem dX4_job_61 : decode cX4_job 61 = .ok (.ireturn, 1) := by decide +kernel
theorem dX4_drop_0 : decode cX4_drop 0 = .ok (.aload_n 0, 1) := by decide +kernel
theorem dX4_drop_1 : decode cX4_drop 1 = .ok (.iload_n 1, 1) := by decide +kernel
theorem dX4_drop_2 : decode cX4_drop 2 = .ok (.invokevirtual 99, 3) := by decide +kernel
theorem dX4_drop_5 : decode cX4_drop 5 = .ok (.ifCond .ne 5, 3) := by decide +kernel
theorem dX4_drop_8 : decode cX4_drop 8 = .ok (.iconst (-1), 1) := by decide +kernel
theorem dX4_drop_9 : decode cX4_drop 9 = .ok (.ireturn, 1) := by decide +kernel
theorem dX4_drop_10 : decode cX4_drop 10 = .ok (.aload_n 0, 1) := by decide +kernel
theorem dX4_drop_11 : decode cX4_drop 11 = .ok (.invokevirtual 77, 3) := by decide +kernel
theorem dX4_drop_14 : decode cX4_drop 14 = .ok (.aload_n 0, 1) := by decide +kernel
theorem dX4_drop_15 : decode cX4_drop 15 = .ok (.getfield 10, 3) := by decide +kernel
theorem dX4_drop_18 : decode cX4_drop 18 = .ok (.iload_n 1, 1) := by decide +kernel
theorem dX4_drop_19 : decode cX4_drop 19 = .ok (.invokevirtual 102, 3) := by decide +kernel
theorem dX4_drop_22 : decode cX4_drop 22 = .ok (.aload_n 0, 1) := by decide +kernel
theorem dX4_drop_23 : decode cX4_drop 23 = .ok (.getfield 10, 3) := by decide +kernel
theorem dX4_drop_26 : decode cX4_drop 26 = .ok (.getfield 92, 3) := by decide +kernel
theorem dX4_drop_29 : decode cX4_drop 29 = .ok (.ireturn, 1) := by decide +kernel
theorem dX4_due_0 : decode cX4_due 0 = .ok (.aload_n 0, 1) := by decide +kernel
theorem dX4_due_1 : decode cX4_due 1 = .ok (.iload_n 1, 1) := by decide +kernel
theorem dX4_due_2 : decode cX4_due 2 = .ok (.invokevirtual 99, 3) := by decide +kernel
theorem dX4_due_5 : decode cX4_due 5 = .ok (.ifCond .ne 5, 3) := by decide +kernel
theorem dX4_due_8 : decode cX4_due 8 = .ok (.iconst (-1), 1) := by decide +kernel
theorem dX4_due_9 : decode cX4_due 9 = .ok (.ireturn, 1) := by decide +kernel
theorem dX4_due_10 : decode cX4_due 10 = .ok (.iload_n 2, 1) := by decide +kernel
theorem dX4_due_11 : decode cX4_due 11 = .ok (.iconst 0, 1) := by decide +kernel
theorem dX4_due_12 : decode cX4_due 12 = .ok (.bipush 99, 2) := by decide +kernel
theorem dX4_due_14 : decode cX4_due 14 = .ok (.invokestatic 70, 3) := by decide +kernel
theorem dX4_due_17 : decode cX4_due 17 = .ok (.ifCond .ne 6, 3) := by decide +kernel
theorem dX4_due_20 : decode cX4_due 20 = .ok (.bipush (-2), 2) := by decide +kernel
theorem dX4_due_22 : decode cX4_due 22 = .ok (.ireturn, 1) := by decide +kernel
theorem dX4_due_23 : decode cX4_due 23 = .ok (.aload_n 0, 1) := by decide +kernel
theorem dX4_due_24 : decode cX4_due 24 = .ok (.getfield 10, 3) := by decide +kernel
theorem dX4_due_27 : decode cX4_due 27 = .ok (.getfield 106, 3) := by decide +kernel
theorem dX4_due_30 : decode cX4_due 30 = .ok (.iload_n 1, 1) := by decide +kernel
theorem dX4_due_31 : decode cX4_due 31 = .ok (.iaload, 1) := by decide +kernel
theorem dX4_due_32 : decode cX4_due 32 = .ok (.istore_n 3, 1) := by decide +kernel
theorem dX4_due_33 : decode cX4_due 33 = .ok (.aload_n 0, 1) := by decide +kernel
theorem dX4_due_34 : decode cX4_due 34 = .ok (.getfield 10, 3) := by decide +kernel
theorem dX4_due_37 : decode cX4_due 37 = .ok (.getfield 106, 3) := by decide +kernel
theorem dX4_due_40 : decode cX4_due 40 = .ok (.iload_n 1, 1) := by decide +kernel
theorem dX4_due_41 : decode cX4_due 41 = .ok (.iload_n 2, 1) := by decide +kernel
theorem dX4_due_42 : decode cX4_due 42 = .ok (.iastore, 1) := by decide +kernel
theorem dX4_due_43 : decode cX4_due 43 = .ok (.aload_n 0, 1) := by decide +kernel
theorem dX4_due_44 : decode cX4_due 44 = .ok (.invokevirtual 77, 3) := by decide +kernel
theorem dX4_due_47 : decode cX4_due 47 = .ok (.iload_n 3, 1) := by decide +kernel
theorem dX4_due_48 : decode cX4_due 48 = .ok (.ireturn, 1) := by decide +kernel
theorem dX4_of_0 : decode cX4_of 0 = .ok (.aload_n 0, 1) := by decide +kernel
theorem dX4_of_1 : decode cX4_of 1 = .ok (.iload_n 1, 1) := by decide +kernel
theorem dX4_of_2 : decode cX4_of 2 = .ok (.invokevirtual 99, 3) := by decide +kernel
theorem dX4_of_5 : decode cX4_of 5 = .ok (.ifCond .ne 5, 3) := by decide +kernel
theorem dX4_of_8 : decode cX4_of 8 = .ok (.iconst (-1), 1) := by decide +kernel
theorem dX4_of_9 : decode cX4_of 9 = .ok (.ireturn, 1) := by decide +kernel
theorem dX4_of_10 : decode cX4_of 10 = .ok (.iload_n 2, 1) := by decide +kernel
theorem dX4_of_11 : decode cX4_of 11 = .ok (.tableswitch 71 0 3 #[29, 39, 49, 59], 29) := by decide +kernel
theorem dX4_of_40 : decode cX4_of 40 = .ok (.aload_n 0, 1) := by decide +kernel
theorem dX4_of_41 : decode cX4_of 41 = .ok (.getfield 10, 3) := by decide +kernel
theorem dX4_of_44 : decode cX4_of 44 = .ok (.getfield 109, 3) := by decide +kernel
theorem dX4_of_47 : decode cX4_of 47 = .ok (.iload_n 1, 1) := by decide +kernel
theorem dX4_of_48 : decode cX4_of 48 = .ok (.iaload, 1) := by decide +kernel
theorem dX4_of_49 : decode cX4_of 49 = .ok (.ireturn, 1) := by decide +kernel
theorem dX4_of_50 : decode cX4_of 50 = .ok (.aload_n 0, 1) := by decide +kernel
theorem dX4_of_51 : decode cX4_of 51 = .ok (.getfield 10, 3) := by decide +kernel
theorem dX4_of_54 : decode cX4_of 54 = .ok (.getfield 112, 3) := by decide +kernel
theorem dX4_of_57 : decode cX4_of 57 = .ok (.iload_n 1, 1) := by decide +kernel
theorem dX4_of_58 : decode cX4_of 58 = .ok (.iaload, 1) := by decide +kernel
theorem dX4_of_59 : decode cX4_of 59 = .ok (.ireturn, 1) := by decide +kernel
theorem dX4_of_60 : decode cX4_of 60 = .ok (.aload_n 0, 1) := by decide +kernel
theorem dX4_of_61 : decode cX4_of 61 = .ok (.getfield 10, 3) := by decide +kernel
theorem dX4_of_64 : decode cX4_of 64 = .ok (.getfield 106, 3) := by decide +kernel
theorem dX4_of_67 : decode cX4_of 67 = .ok (.iload_n 1, 1) := by decide +kernel
theorem dX4_of_68 : decode cX4_of 68 = .ok (.iaload, 1) := by decide +kernel
theorem dX4_of_69 : decode cX4_of 69 = .ok (.ireturn, 1) := by decide +kernel
theorem dX4_of_70 : decode cX4_of 70 = .ok (.aload_n 0, 1) := by decide +kernel
theorem dX4_of_71 : decode cX4_of 71 = .ok (.getfield 10, 3) := by decide +kernel
theorem dX4_of_74 : decode cX4_of 74 = .ok (.iload_n 1, 1) := by decide +kernel
theorem dX4_of_75 : decode cX4_of 75 = .ok (.invokevirtual 115, 3) := by decide +kernel
theorem dX4_of_78 : decode cX4_of 78 = .ok (.bipush 100, 2) := by decide +kernel
theorem dX4_of_80 : decode cX4_of 80 = .ok (.iadd, 1) := by decide +kernel
theorem dX4_of_81 : decode cX4_of 81 = .ok (.ireturn, 1) := by decide +kernel
theorem dX4_of_82 : decode cX4_of 82 = .ok (.bipush (-2), 2) := by decide +kernel
theorem dX4_of_84 : decode cX4_of 84 = .ok (.ireturn, 1) := by decide +kernel
theorem dX4_best_0 : decode cX4_best 0 = .ok (.iload_n 1, 1) := by decide +kernel
theorem dX4_best_1 : decode cX4_best 1 = .ok (.invokestatic 119, 3) := by decide +kernel
theorem dX4_best_4 : decode cX4_best 4 = .ok (.ifCond .ne 6, 3) := by decide +kernel
theorem dX4_best_7 : decode cX4_best 7 = .ok (.bipush (-2), 2) := by decide +kernel
theorem dX4_best_9 : decode cX4_best 9 = .ok (.ireturn, 1) := by decide +kernel
theorem dX4_best_10 : decode cX4_best 10 = .ok (.aload_n 0, 1) := by decide +kernel
theorem dX4_best_11 : decode cX4_best 11 = .ok (.iload_n 1, 1) := by decide +kernel
theorem dX4_best_12 : decode cX4_best 12 = .ok (.invokevirtual 122, 3) := by decide +kernel
theorem dX4_best_15 : decode cX4_best 15 = .ok (.aload_n 0, 1) := by decide +kernel
theorem dX4_best_16 : decode cX4_best 16 = .ok (.getfield 51, 3) := by decide +kernel
theorem dX4_best_19 : decode cX4_best 19 = .ok (.iload_n 1, 1) := by decide +kernel
theorem dX4_best_20 : decode cX4_best 20 = .ok (.iaload, 1) := by decide +kernel
theorem dX4_best_21 : decode cX4_best 21 = .ok (.ireturn, 1) := by decide +kernel
theorem dX4_plan_0 : decode cX4_plan 0 = .ok (.iload_n 1, 1) := by decide +kernel
theorem dX4_plan_1 : decode cX4_plan 1 = .ok (.invokestatic 119, 3) := by decide +kernel
theorem dX4_plan_4 : decode cX4_plan 4 = .ok (.ifCond .eq 8, 3) := by decide +kernel
theorem dX4_plan_7 : decode cX4_plan 7 = .ok (.iload_n 2, 1) := by decide +kernel
theorem dX4_plan_8 : decode cX4_plan 8 = .ok (.iconst (-1), 1) := by decide +kernel
theorem dX4_plan_9 : decode cX4_plan 9 = .ok (.if_icmp .ge 6, 3) := by decide +kernel
theorem dX4_plan_12 : decode cX4_plan 12 = .ok (.bipush (-2), 2) := by decide +kernel
theorem dX4_plan_14 : decode cX4_plan 14 = .ok (.ireturn, 1) := by decide +kernel
theorem dX4_plan_15 : decode cX4_plan 15 = .ok (.aload_n 0, 1) := by decide +kernel
theorem dX4_plan_16 : decode cX4_plan 16 = .ok (.iload_n 1, 1) := by decide +kernel
theorem dX4_plan_17 : decode cX4_plan 17 = .ok (.invokevirtual 122, 3) := by decide +kernel
theorem dX4_plan_20 : decode cX4_plan 20 = .ok (.aload_n 0, 1) := by decide +kernel
theorem dX4_plan_21 : decode cX4_plan 21 = .ok (.getfield 47, 3) := by decide +kernel
theorem dX4_plan_24 : decode cX4_plan 24 = .ok (.iload_n 1, 1) := by decide +kernel
theorem dX4_plan_25 : decode cX4_plan 25 = .ok (.aaload, 1) := by decide +kernel
theorem dX4_plan_26 : decode cX4_plan 26 = .ok (.iload_n 2, 1) := by decide +kernel
theorem dX4_plan_27 : decode cX4_plan 27 = .ok (.invokevirtual 125, 3) := by decide +kernel
theorem dX4_plan_30 : decode cX4_plan 30 = .ok (.ireturn, 1) := by decide +kernel
theorem dX4_end_0 : decode cX4_end 0 = .ok (.aload_n 0, 1) := by decide +kernel
theorem dX4_end_1 : decode cX4_end 1 = .ok (.iload_n 1, 1) := by decide +kernel
theorem dX4_end_2 : decode cX4_end 2 = .ok (.invokevirtual 99, 3) := by decide +kernel
theorem dX4_end_5 : decode cX4_end 5 = .ok (.ifCond .ne 5, 3) := by decide +kernel
theorem dX4_end_8 : decode cX4_end 8 = .ok (.iconst (-1), 1) := by decide +kernel
theorem dX4_end_9 : decode cX4_end 9 = .ok (.ireturn, 1) := by decide +kernel
theorem dX4_end_10 : decode cX4_end 10 = .ok (.iload_n 2, 1) := by decide +kernel
theorem dX4_end_11 : decode cX4_end 11 = .ok (.invokestatic 119, 3) := by decide +kernel
theorem dX4_end_14 : decode cX4_end 14 = .ok (.ifCond .ne 6, 3) := by decide +kernel
theorem dX4_end_17 : decode cX4_end 17 = .ok (.bipush (-2), 2) := by decide +kernel
theorem dX4_end_19 : decode cX4_end 19 = .ok (.ireturn, 1) := by decide +kernel
theorem dX4_end_20 : decode cX4_end 20 = .ok (.aload_n 0, 1) := by decide +kernel
theorem dX4_end_21 : decode cX4_end 21 = .ok (.iload_n 2, 1) := by decide +kernel
theorem dX4_end_22 : decode cX4_end 22 = .ok (.invokevirtual 122, 3) := by decide +kernel
theorem dX4_end_25 : decode cX4_end 25 = .ok (.aload_n 0, 1) := by decide +kernel
theorem dX4_end_26 : decode cX4_end 26 = .ok (.getfield 47, 3) := by decide +kernel
theorem dX4_end_29 : decode cX4_end 29 = .ok (.iload_n 2, 1) := by decide +kernel
theorem dX4_end_30 : decode cX4_end 30 = .ok (.aaload, 1) := by decide +kernel
theorem dX4_end_31 : decode cX4_end 31 = .ok (.iload_n 1, 1) := by decide +kernel
theorem dX4_end_32 : decode cX4_end 32 = .ok (.invokevirtual 128, 3) := by decide +kernel
theorem dX4_end_35 : decode cX4_end 35 = .ok (.ireturn, 1) := by decide +kernel
theorem dX4_slack_0 : decode cX4_slack 0 = .ok (.aload_n 0, 1) := by decide +kernel
theorem dX4_slack_1 : decode cX4_slack 1 = .ok (.iload_n 1, 1) := by decide +kernel
theorem dX4_slack_2 : decode cX4_slack 2 = .ok (.invokevirtual 99, 3) := by decide +kernel
theorem dX4_slack_5 : decode cX4_slack 5 = .ok (.ifCond .ne 5, 3) := by decide +kernel
theorem dX4_slack_8 : decode cX4_slack 8 = .ok (.iconst (-1), 1) := by decide +kernel
theorem dX4_slack_9 : decode cX4_slack 9 = .ok (.ireturn, 1) := by decide +kernel
theorem dX4_slack_10 : decode cX4_slack 10 = .ok (.iload_n 2, 1) := by decide +kernel
theorem dX4_slack_11 : decode cX4_slack 11 = .ok (.invokestatic 119, 3) := by decide +kernel
theorem dX4_slack_14 : decode cX4_slack 14 = .ok (.ifCond .ne 6, 3) := by decide +kernel
theorem dX4_slack_17 : decode cX4_slack 17 = .ok (.bipush (-2), 2) := by decide +kernel
theorem dX4_slack_19 : decode cX4_slack 19 = .ok (.ireturn, 1) := by decide +kernel
theorem dX4_slack_20 : decode cX4_slack 20 = .ok (.aload_n 0, 1) := by decide +kernel
theorem dX4_slack_21 : decode cX4_slack 21 = .ok (.iload_n 2, 1) := by decide +kernel
theorem dX4_slack_22 : decode cX4_slack 22 = .ok (.invokevirtual 122, 3) := by decide +kernel
theorem dX4_slack_25 : decode cX4_slack 25 = .ok (.aload_n 0, 1) := by decide +kernel
theorem dX4_slack_26 : decode cX4_slack 26 = .ok (.getfield 10, 3) := by decide +kernel
theorem dX4_slack_29 : decode cX4_slack 29 = .ok (.getfield 106, 3) := by decide +kernel
theorem dX4_slack_32 : decode cX4_slack 32 = .ok (.iload_n 1, 1) := by decide +kernel
theorem dX4_slack_33 : decode cX4_slack 33 = .ok (.iaload, 1) := by decide +kernel
theorem dX4_slack_34 : decode cX4_slack 34 = .ok (.aload_n 0, 1) := by decide +kernel
theorem dX4_slack_35 : decode cX4_slack 35 = .ok (.iload_n 1, 1) := by decide +kernel
theorem dX4_slack_36 : decode cX4_slack 36 = .ok (.iload_n 2, 1) := by decide +kernel
theorem dX4_slack_37 : decode cX4_slack 37 = .ok (.invokevirtual 131, 3) := by decide +kernel
theorem dX4_slack_40 : decode cX4_slack 40 = .ok (.isub, 1) := by decide +kernel
theorem dX4_slack_41 : decode cX4_slack 41 = .ok (.ireturn, 1) := by decide +kernel
theorem dX4_rule_0 : decode cX4_rule 0 = .ok (.iload_n 1, 1) := by decide +kernel
theorem dX4_rule_1 : decode cX4_rule 1 = .ok (.iconst (-1), 1) := by decide +kernel
theorem dX4_rule_2 : decode cX4_rule 2 = .ok (.if_icmp .ge 6, 3) := by decide +kernel
theorem dX4_rule_5 : decode cX4_rule 5 = .ok (.bipush (-2), 2) := by decide +kernel
theorem dX4_rule_7 : decode cX4_rule 7 = .ok (.ireturn, 1) := by decide +kernel
theorem dX4_rule_8 : decode cX4_rule 8 = .ok (.aload_n 0, 1) := by decide +kernel
theorem dX4_rule_9 : decode cX4_rule 9 = .ok (.invokevirtual 135, 3) := by decide +kernel
theorem dX4_rule_12 : decode cX4_rule 12 = .ok (.aload_n 0, 1) := by decide +kernel
theorem dX4_rule_13 : decode cX4_rule 13 = .ok (.getfield 44, 3) := by decide +kernel
theorem dX4_rule_16 : decode cX4_rule 16 = .ok (.iload_n 1, 1) := by decide +kernel
theorem dX4_rule_17 : decode cX4_rule 17 = .ok (.invokevirtual 125, 3) := by decide +kernel
theorem dX4_rule_20 : decode cX4_rule 20 = .ok (.ireturn, 1) := by decide +kernel
theorem dX4_ruled_0 : decode cX4_ruled 0 = .ok (.iload_n 1, 1) := by decide +kernel
theorem dX4_ruled_1 : decode cX4_ruled 1 = .ok (.invokestatic 119, 3) := by decide +kernel
theorem dX4_ruled_4 : decode cX4_ruled 4 = .ok (.ifCond .ne 6, 3) := by decide +kernel
theorem dX4_ruled_7 : decode cX4_ruled 7 = .ok (.bipush (-2), 2) := by decide +kernel
theorem dX4_ruled_9 : decode cX4_ruled 9 = .ok (.ireturn, 1) := by decide +kernel
theorem dX4_ruled_10 : decode cX4_ruled 10 = .ok (.aload_n 0, 1) := by decide +kernel
theorem dX4_ruled_11 : decode cX4_ruled 11 = .ok (.invokevirtual 135, 3) := by decide +kernel
theorem dX4_ruled_14 : decode cX4_ruled 14 = .ok (.aload_n 0, 1) := by decide +kernel
theorem dX4_ruled_15 : decode cX4_ruled 15 = .ok (.getfield 44, 3) := by decide +kernel
theorem dX4_ruled_18 : decode cX4_ruled 18 = .ok (.aload_n 0, 1) := by decide +kernel
theorem dX4_ruled_19 : decode cX4_ruled 19 = .ok (.getfield 10, 3) := by decide +kernel
theorem dX4_ruled_22 : decode cX4_ruled 22 = .ok (.iload_n 1, 1) := by decide +kernel
theorem dX4_ruled_23 : decode cX4_ruled 23 = .ok (.invokevirtual 138, 3) := by decide +kernel
theorem dX4_ruled_26 : decode cX4_ruled 26 = .ok (.ireturn, 1) := by decide +kernel
theorem dX4_say_0 : decode cX4_say 0 = .ok (.iload_n 1, 1) := by decide +kernel
theorem dX4_say_1 : decode cX4_say 1 = .ok (.bipush 33, 2) := by decide +kernel
theorem dX4_say_3 : decode cX4_say 3 = .ok (.bipush 126, 2) := by decide +kernel
theorem dX4_say_5 : decode cX4_say 5 = .ok (.invokestatic 70, 3) := by decide +kernel
theorem dX4_say_8 : decode cX4_say 8 = .ok (.ifCond .ne 6, 3) := by decide +kernel
theorem dX4_say_11 : decode cX4_say 11 = .ok (.bipush (-2), 2) := by decide +kernel
theorem dX4_say_13 : decode cX4_say 13 = .ok (.ireturn, 1) := by decide +kernel
theorem dX4_say_14 : decode cX4_say 14 = .ok (.aload_n 0, 1) := by decide +kernel
theorem dX4_say_15 : decode cX4_say 15 = .ok (.getfield 30, 3) := by decide +kernel
theorem dX4_say_18 : decode cX4_say 18 = .ok (.getfield 142, 3) := by decide +kernel
theorem dX4_say_21 : decode cX4_say 21 = .ok (.bipush 14, 2) := by decide +kernel
theorem dX4_say_23 : decode cX4_say 23 = .ok (.if_icmp .lt 6, 3) := by decide +kernel
theorem dX4_say_26 : decode cX4_say 26 = .ok (.bipush (-4), 2) := by decide +kernel
theorem dX4_say_28 : decode cX4_say 28 = .ok (.ireturn, 1) := by decide +kernel
theorem dX4_say_29 : decode cX4_say 29 = .ok (.aload_n 0, 1) := by decide +kernel
theorem dX4_say_30 : decode cX4_say 30 = .ok (.getfield 30, 3) := by decide +kernel
theorem dX4_say_33 : decode cX4_say 33 = .ok (.iload_n 1, 1) := by decide +kernel
theorem dX4_say_34 : decode cX4_say 34 = .ok (.invokevirtual 145, 3) := by decide +kernel
theorem dX4_say_37 : decode cX4_say 37 = .ok (.aload_n 0, 1) := by decide +kernel
theorem dX4_say_38 : decode cX4_say 38 = .ok (.getfield 30, 3) := by decide +kernel
theorem dX4_say_41 : decode cX4_say 41 = .ok (.getfield 142, 3) := by decide +kernel
theorem dX4_say_44 : decode cX4_say 44 = .ok (.ireturn, 1) := by decide +kernel
theorem dX4_wipe_0 : decode cX4_wipe 0 = .ok (.aload_n 0, 1) := by decide +kernel
theorem dX4_wipe_1 : decode cX4_wipe 1 = .ok (.getfield 30, 3) := by decide +kernel
theorem dX4_wipe_4 : decode cX4_wipe 4 = .ok (.getfield 142, 3) := by decide +kernel
theorem dX4_wipe_7 : decode cX4_wipe 7 = .ok (.istore_n 1, 1) := by decide +kernel
theorem dX4_wipe_8 : decode cX4_wipe 8 = .ok (.aload_n 0, 1) := by decide +kernel
theorem dX4_wipe_9 : decode cX4_wipe 9 = .ok (.getfield 30, 3) := by decide +kernel
theorem dX4_wipe_12 : decode cX4_wipe 12 = .ok (.iconst 0, 1) := by decide +kernel
theorem dX4_wipe_13 : decode cX4_wipe 13 = .ok (.putfield 142, 3) := by decide +kernel
theorem dX4_wipe_16 : decode cX4_wipe 16 = .ok (.iload_n 1, 1) := by decide +kernel
theorem dX4_wipe_17 : decode cX4_wipe 17 = .ok (.ireturn, 1) := by decide +kernel
theorem dX4_fault_0 : decode cX4_fault 0 = .ok (.aload_n 0, 1) := by decide +kernel
theorem dX4_fault_1 : decode cX4_fault 1 = .ok (.getfield 30, 3) := by decide +kernel
theorem dX4_fault_4 : decode cX4_fault 4 = .ok (.aload_n 0, 1) := by decide +kernel
theorem dX4_fault_5 : decode cX4_fault 5 = .ok (.getfield 10, 3) := by decide +kernel
theorem dX4_fault_8 : decode cX4_fault 8 = .ok (.aload_n 0, 1) := by decide +kernel
theorem dX4_fault_9 : decode cX4_fault 9 = .ok (.getfield 37, 3) := by decide +kernel
theorem dX4_fault_12 : decode cX4_fault 12 = .ok (.invokevirtual 148, 3) := by decide +kernel
theorem dX4_fault_15 : decode cX4_fault 15 = .ok (.ireturn, 1) := by decide +kernel
theorem dX4_row_0 : decode cX4_row 0 = .ok (.iload_n 1, 1) := by decide +kernel
theorem dX4_row_1 : decode cX4_row 1 = .ok (.iconst 0, 1) := by decide +kernel
theorem dX4_row_2 : decode cX4_row 2 = .ok (.iconst 4, 1) := by decide +kernel
theorem dX4_row_3 : decode cX4_row 3 = .ok (.invokestatic 70, 3) := by decide +kernel
theorem dX4_row_6 : decode cX4_row 6 = .ok (.ifCond .ne 6, 3) := by decide +kernel
theorem dX4_row_9 : decode cX4_row 9 = .ok (.bipush (-2), 2) := by decide +kernel
theorem dX4_row_11 : decode cX4_row 11 = .ok (.ireturn, 1) := by decide +kernel
theorem dX4_row_12 : decode cX4_row 12 = .ok (.aload_n 0, 1) := by decide +kernel
theorem dX4_row_13 : decode cX4_row 13 = .ok (.getfield 30, 3) := by decide +kernel
theorem dX4_row_16 : decode cX4_row 16 = .ok (.aload_n 0, 1) := by decide +kernel
theorem dX4_row_17 : decode cX4_row 17 = .ok (.getfield 10, 3) := by decide +kernel
theorem dX4_row_20 : decode cX4_row 20 = .ok (.aload_n 0, 1) := by decide +kernel
theorem dX4_row_21 : decode cX4_row 21 = .ok (.getfield 37, 3) := by decide +kernel
theorem dX4_row_24 : decode cX4_row 24 = .ok (.invokevirtual 148, 3) := by decide +kernel
theorem dX4_row_27 : decode cX4_row 27 = .ok (.bipush (-6), 2) := by decide +kernel
theorem dX4_row_29 : decode cX4_row 29 = .ok (.if_icmp .eq 6, 3) := by decide +kernel
theorem dX4_row_32 : decode cX4_row 32 = .ok (.bipush (-7), 2) := by decide +kernel
theorem dX4_row_34 : decode cX4_row 34 = .ok (.ireturn, 1) := by decide +kernel
theorem dX4_row_35 : decode cX4_row 35 = .ok (.iload_n 1, 1) := by decide +kernel
theorem dX4_row_36 : decode cX4_row 36 = .ok (.iconst 4, 1) := by decide +kernel
theorem dX4_row_37 : decode cX4_row 37 = .ok (.if_icmp .ne 13, 3) := by decide +kernel
theorem dX4_row_40 : decode cX4_row 40 = .ok (.aload_n 0, 1) := by decide +kernel
theorem dX4_row_41 : decode cX4_row 41 = .ok (.getfield 37, 3) := by decide +kernel
theorem dX4_row_44 : decode cX4_row 44 = .ok (.invokevirtual 152, 3) := by decide +kernel
theorem dX4_row_47 : decode cX4_row 47 = .ok (.goto 15, 3) := by decide +kernel
theorem dX4_row_50 : decode cX4_row 50 = .ok (.aload_n 0, 1) := by decide +kernel
theorem dX4_row_51 : decode cX4_row 51 = .ok (.getfield 37, 3) := by decide +kernel
theorem dX4_row_54 : decode cX4_row 54 = .ok (.aload_n 0, 1) := by decide +kernel
theorem dX4_row_55 : decode cX4_row 55 = .ok (.getfield 10, 3) := by decide +kernel
theorem dX4_row_58 : decode cX4_row 58 = .ok (.iload_n 1, 1) := by decide +kernel
theorem dX4_row_59 : decode cX4_row 59 = .ok (.invokevirtual 138, 3) := by decide +kernel
theorem dX4_row_62 : decode cX4_row 62 = .ok (.ireturn, 1) := by decide +kernel
theorem dX4_at_0 : decode cX4_at 0 = .ok (.aload_n 0, 1) := by decide +kernel
theorem dX4_at_1 : decode cX4_at 1 = .ok (.iload_n 1, 1) := by decide +kernel
theorem dX4_at_2 : decode cX4_at 2 = .ok (.invokevirtual 99, 3) := by decide +kernel
theorem dX4_at_5 : decode cX4_at 5 = .ok (.ifCond .ne 5, 3) := by decide +kernel
theorem dX4_at_8 : decode cX4_at 8 = .ok (.iconst (-1), 1) := by decide +kernel
theorem dX4_at_9 : decode cX4_at 9 = .ok (.ireturn, 1) := by decide +kernel
theorem dX4_at_10 : decode cX4_at 10 = .ok (.aload_n 0, 1) := by decide +kernel
theorem dX4_at_11 : decode cX4_at 11 = .ok (.getfield 30, 3) := by decide +kernel
theorem dX4_at_14 : decode cX4_at 14 = .ok (.aload_n 0, 1) := by decide +kernel
theorem dX4_at_15 : decode cX4_at 15 = .ok (.getfield 10, 3) := by decide +kernel
theorem dX4_at_18 : decode cX4_at 18 = .ok (.aload_n 0, 1) := by decide +kernel
theorem dX4_at_19 : decode cX4_at 19 = .ok (.getfield 37, 3) := by decide +kernel
theorem dX4_at_22 : decode cX4_at 22 = .ok (.invokevirtual 148, 3) := by decide +kernel
theorem dX4_at_25 : decode cX4_at 25 = .ok (.bipush (-6), 2) := by decide +kernel
theorem dX4_at_27 : decode cX4_at 27 = .ok (.if_icmp .eq 6, 3) := by decide +kernel
theorem dX4_at_30 : decode cX4_at 30 = .ok (.bipush (-7), 2) := by decide +kernel
theorem dX4_at_32 : decode cX4_at 32 = .ok (.ireturn, 1) := by decide +kernel
theorem dX4_at_33 : decode cX4_at 33 = .ok (.aload_n 0, 1) := by decide +kernel
theorem dX4_at_34 : decode cX4_at 34 = .ok (.getfield 37, 3) := by decide +kernel
theorem dX4_at_37 : decode cX4_at 37 = .ok (.iload_n 1, 1) := by decide +kernel
theorem dX4_at_38 : decode cX4_at 38 = .ok (.invokevirtual 128, 3) := by decide +kernel
theorem dX4_at_41 : decode cX4_at 41 = .ok (.ireturn, 1) := by decide +kernel
theorem dX4_put_0 : decode cX4_put 0 = .ok (.aload_n 0, 1) := by decide +kernel
theorem dX4_put_1 : decode cX4_put 1 = .ok (.iload_n 1, 1) := by decide +kernel
theorem dX4_put_2 : decode cX4_put 2 = .ok (.invokevirtual 99, 3) := by decide +kernel
theorem dX4_put_5 : decode cX4_put 5 = .ok (.ifCond .ne 5, 3) := by decide +kernel
theorem dX4_put_8 : decode cX4_put 8 = .ok (.iconst (-1), 1) := by decide +kernel
theorem dX4_put_9 : decode cX4_put 9 = .ok (.ireturn, 1) := by decide +kernel
theorem dX4_put_10 : decode cX4_put 10 = .ok (.iload_n 2, 1) := by decide +kernel
theorem dX4_put_11 : decode cX4_put 11 = .ok (.iconst 0, 1) := by decide +kernel
theorem dX4_put_12 : decode cX4_put 12 = .ok (.iconst 1, 1) := by decide +kernel
theorem dX4_put_13 : decode cX4_put 13 = .ok (.invokestatic 70, 3) := by decide +kernel
theorem dX4_put_16 : decode cX4_put 16 = .ok (.ifCond .ne 6, 3) := by decide +kernel
theorem dX4_put_19 : decode cX4_put 19 = .ok (.bipush (-2), 2) := by decide +kernel
theorem dX4_put_21 : decode cX4_put 21 = .ok (.ireturn, 1) := by decide +kernel
theorem dX4_put_22 : decode cX4_put 22 = .ok (.aload_n 0, 1) := by decide +kernel
theorem dX4_put_23 : decode cX4_put 23 = .ok (.getfield 30, 3) := by decide +kernel
theorem dX4_put_26 : decode cX4_put 26 = .ok (.aload_n 0, 1) := by decide +kernel
theorem dX4_put_27 : decode cX4_put 27 = .ok (.getfield 10, 3) := by decide +kernel
theorem dX4_put_30 : decode cX4_put 30 = .ok (.aload_n 0, 1) := by decide +kernel
theorem dX4_put_31 : decode cX4_put 31 = .ok (.getfield 37, 3) := by decide +kernel
theorem dX4_put_34 : decode cX4_put 34 = .ok (.invokevirtual 148, 3) := by decide +kernel
theorem dX4_put_37 : decode cX4_put 37 = .ok (.bipush (-6), 2) := by decide +kernel
theorem dX4_put_39 : decode cX4_put 39 = .ok (.if_icmp .eq 6, 3) := by decide +kernel
theorem dX4_put_42 : decode cX4_put 42 = .ok (.bipush (-7), 2) := by decide +kernel
theorem dX4_put_44 : decode cX4_put 44 = .ok (.ireturn, 1) := by decide +kernel
theorem dX4_put_45 : decode cX4_put 45 = .ok (.aload_n 0, 1) := by decide +kernel
theorem dX4_put_46 : decode cX4_put 46 = .ok (.getfield 37, 3) := by decide +kernel
theorem dX4_put_49 : decode cX4_put 49 = .ok (.invokevirtual 152, 3) := by decide +kernel
theorem dX4_put_52 : decode cX4_put 52 = .ok (.iload_n 1, 1) := by decide +kernel
theorem dX4_put_53 : decode cX4_put 53 = .ok (.invokestatic 156, 3) := by decide +kernel
theorem dX4_put_56 : decode cX4_put 56 = .ok (.ifCond .eq 6, 3) := by decide +kernel
theorem dX4_put_59 : decode cX4_put 59 = .ok (.bipush (-3), 2) := by decide +kernel
theorem dX4_put_61 : decode cX4_put 61 = .ok (.ireturn, 1) := by decide +kernel
theorem dX4_put_62 : decode cX4_put 62 = .ok (.aload_n 0, 1) := by decide +kernel
theorem dX4_put_63 : decode cX4_put 63 = .ok (.iload_n 1, 1) := by decide +kernel
theorem dX4_put_64 : decode cX4_put 64 = .ok (.iload_n 2, 1) := by decide +kernel
theorem dX4_put_65 : decode cX4_put 65 = .ok (.iconst 1, 1) := by decide +kernel
theorem dX4_put_66 : decode cX4_put 66 = .ok (.if_icmp .ne 7, 3) := by decide +kernel
theorem dX4_put_69 : decode cX4_put 69 = .ok (.iconst 1, 1) := by decide +kernel
theorem dX4_put_70 : decode cX4_put 70 = .ok (.goto 4, 3) := by decide +kernel
theorem dX4_put_73 : decode cX4_put 73 = .ok (.iconst 0, 1) := by decide +kernel
theorem dX4_put_74 : decode cX4_put 74 = .ok (.invokevirtual 160, 3) := by decide +kernel
theorem dX4_put_77 : decode cX4_put 77 = .ok (.ireturn, 1) := by decide +kernel
theorem dX4_image_0 : decode cX4_image 0 = .ok (.iload_n 1, 1) := by decide +kernel
theorem dX4_image_1 : decode cX4_image 1 = .ok (.iconst 0, 1) := by decide +kernel
theorem dX4_image_2 : decode cX4_image 2 = .ok (.iconst 1, 1) := by decide +kernel
theorem dX4_image_3 : decode cX4_image 3 = .ok (.invokestatic 70, 3) := by decide +kernel
theorem dX4_image_6 : decode cX4_image 6 = .ok (.ifCond .ne 6, 3) := by decide +kernel
theorem dX4_image_9 : decode cX4_image 9 = .ok (.bipush (-2), 2) := by decide +kernel
theorem dX4_image_11 : decode cX4_image 11 = .ok (.ireturn, 1) := by decide +kernel
theorem dX4_image_12 : decode cX4_image 12 = .ok (.aload_n 0, 1) := by decide +kernel
theorem dX4_image_13 : decode cX4_image 13 = .ok (.getfield 19, 3) := by decide +kernel
theorem dX4_image_16 : decode cX4_image 16 = .ok (.iload_n 1, 1) := by decide +kernel
theorem dX4_image_17 : decode cX4_image 17 = .ok (.aaload, 1) := by decide +kernel
theorem dX4_image_18 : decode cX4_image 18 = .ok (.aload_n 0, 1) := by decide +kernel
theorem dX4_image_19 : decode cX4_image 19 = .ok (.getfield 10, 3) := by decide +kernel
theorem dX4_image_22 : decode cX4_image 22 = .ok (.invokevirtual 164, 3) := by decide +kernel
theorem dX4_image_25 : decode cX4_image 25 = .ok (.aload_n 0, 1) := by decide +kernel
theorem dX4_image_26 : decode cX4_image 26 = .ok (.dup, 1) := by decide +kernel
theorem dX4_image_27 : decode cX4_image 27 = .ok (.getfield 23, 3) := by decide +kernel
theorem dX4_image_30 : decode cX4_image 30 = .ok (.iconst 1, 1) := by decide +kernel
theorem dX4_image_31 : decode cX4_image 31 = .ok (.iload_n 1, 1) := by decide +kernel
theorem dX4_image_32 : decode cX4_image 32 = .ok (.ishl, 1) := by decide +kernel
theorem dX4_image_33 : decode cX4_image 33 = .ok (.ior, 1) := by decide +kernel
theorem dX4_image_34 : decode cX4_image 34 = .ok (.putfield 23, 3) := by decide +kernel
theorem dX4_image_37 : decode cX4_image 37 = .ok (.iconst 1, 1) := by decide +kernel
theorem dX4_image_38 : decode cX4_image 38 = .ok (.ireturn, 1) := by decide +kernel
theorem dX4_restore_0 : decode cX4_restore 0 = .ok (.iload_n 1, 1) := by decide +kernel
theorem dX4_restore_1 : decode cX4_restore 1 = .ok (.iconst 0, 1) := by decide +kernel
theorem dX4_restore_2 : decode cX4_restore 2 = .ok (.iconst 1, 1) := by decide +kernel
theorem dX4_restore_3 : decode cX4_restore 3 = .ok (.invokestatic 70, 3) := by decide +kernel
theorem dX4_restore_6 : decode cX4_restore 6 = .ok (.ifCond .ne 6, 3) := by decide +kernel
theorem dX4_restore_9 : decode cX4_restore 9 = .ok (.bipush (-2), 2) := by decide +kernel
theorem dX4_restore_11 : decode cX4_restore 11 = .ok (.ireturn, 1) := by decide +kernel
theorem dX4_restore_12 : decode cX4_restore 12 = .ok (.aload_n 0, 1) := by decide +kernel
theorem dX4_restore_13 : decode cX4_restore 13 = .ok (.getfield 23, 3) := by decide +kernel
theorem dX4_restore_16 : decode cX4_restore 16 = .ok (.iload_n 1, 1) := by decide +kernel
theorem dX4_restore_17 : decode cX4_restore 17 = .ok (.invokestatic 156, 3) := by decide +kernel
theorem dX4_restore_20 : decode cX4_restore 20 = .ok (.ifCond .ne 6, 3) := by decide +kernel
theorem dX4_restore_23 : decode cX4_restore 23 = .ok (.bipush (-3), 2) := by decide +kernel
theorem dX4_restore_25 : decode cX4_restore 25 = .ok (.ireturn, 1) := by decide +kernel
theorem dX4_restore_26 : decode cX4_restore 26 = .ok (.aload_n 0, 1) := by decide +kernel
theorem dX4_restore_27 : decode cX4_restore 27 = .ok (.getfield 10, 3) := by decide +kernel
theorem dX4_restore_30 : decode cX4_restore 30 = .ok (.aload_n 0, 1) := by decide +kernel
theorem dX4_restore_31 : decode cX4_restore 31 = .ok (.getfield 19, 3) := by decide +kernel
theorem dX4_restore_34 : decode cX4_restore 34 = .ok (.iload_n 1, 1) := by decide +kernel
theorem dX4_restore_35 : decode cX4_restore 35 = .ok (.aaload, 1) := by decide +kernel
theorem dX4_restore_36 : decode cX4_restore 36 = .ok (.invokevirtual 164, 3) := by decide +kernel
theorem dX4_restore_39 : decode cX4_restore 39 = .ok (.aload_n 0, 1) := by decide +kernel
theorem dX4_restore_40 : decode cX4_restore 40 = .ok (.invokevirtual 77, 3) := by decide +kernel
theorem dX4_restore_43 : decode cX4_restore 43 = .ok (.iconst 1, 1) := by decide +kernel
theorem dX4_restore_44 : decode cX4_restore 44 = .ok (.ireturn, 1) := by decide +kernel
theorem dX4_count_0 : decode cX4_count 0 = .ok (.iload_n 1, 1) := by decide +kernel
theorem dX4_count_1 : decode cX4_count 1 = .ok (.tableswitch 108 0 7 #[47, 55, 63, 71, 79, 87, 95, 103], 47) := by decide +kernel
theorem dX4_count_48 : decode cX4_count 48 = .ok (.aload_n 0, 1) := by decide +kernel
theorem dX4_count_49 : decode cX4_count 49 = .ok (.getfield 10, 3) := by decide +kernel
theorem dX4_count_52 : decode cX4_count 52 = .ok (.getfield 92, 3) := by decide +kernel
theorem dX4_count_55 : decode cX4_count 55 = .ok (.ireturn, 1) := by decide +kernel
theorem dX4_count_56 : decode cX4_count 56 = .ok (.aload_n 0, 1) := by decide +kernel
theorem dX4_count_57 : decode cX4_count 57 = .ok (.getfield 10, 3) := by decide +kernel
theorem dX4_count_60 : decode cX4_count 60 = .ok (.invokevirtual 168, 3) := by decide +kernel
theorem dX4_count_63 : decode cX4_count 63 = .ok (.ireturn, 1) := by decide +kernel
theorem dX4_count_64 : decode cX4_count 64 = .ok (.aload_n 0, 1) := by decide +kernel
theorem dX4_count_65 : decode cX4_count 65 = .ok (.getfield 10, 3) := by decide +kernel
theorem dX4_count_68 : decode cX4_count 68 = .ok (.getfield 83, 3) := by decide +kernel
theorem dX4_count_71 : decode cX4_count 71 = .ok (.ireturn, 1) := by decide +kernel
theorem dX4_count_72 : decode cX4_count 72 = .ok (.aload_n 0, 1) := by decide +kernel
theorem dX4_count_73 : decode cX4_count 73 = .ok (.getfield 10, 3) := by decide +kernel
theorem dX4_count_76 : decode cX4_count 76 = .ok (.getfield 86, 3) := by decide +kernel
theorem dX4_count_79 : decode cX4_count 79 = .ok (.ireturn, 1) := by decide +kernel
theorem dX4_count_80 : decode cX4_count 80 = .ok (.aload_n 0, 1) := by decide +kernel
theorem dX4_count_81 : decode cX4_count 81 = .ok (.getfield 10, 3) := by decide +kernel
theorem dX4_count_84 : decode cX4_count 84 = .ok (.getfield 89, 3) := by decide +kernel
theorem dX4_count_87 : decode cX4_count 87 = .ok (.ireturn, 1) := by decide +kernel
theorem dX4_count_88 : decode cX4_count 88 = .ok (.aload_n 0, 1) := by decide +kernel
theorem dX4_count_89 : decode cX4_count 89 = .ok (.getfield 30, 3) := by decide +kernel
theorem dX4_count_92 : decode cX4_count 92 = .ok (.getfield 142, 3) := by decide +kernel
theorem dX4_count_95 : decode cX4_count 95 = .ok (.ireturn, 1) := by decide +kernel
theorem dX4_count_96 : decode cX4_count 96 = .ok (.aload_n 0, 1) := by decide +kernel
theorem dX4_count_97 : decode cX4_count 97 = .ok (.getfield 10, 3) := by decide +kernel
theorem dX4_count_100 : decode cX4_count 100 = .ok (.invokevirtual 171, 3) := by decide +kernel
theorem dX4_count_103 : decode cX4_count 103 = .ok (.ireturn, 1) := by decide +kernel
theorem dX4_count_104 : decode cX4_count 104 = .ok (.aload_n 0, 1) := by decide +kernel
theorem dX4_count_105 : decode cX4_count 105 = .ok (.getfield 23, 3) := by decide +kernel
theorem dX4_count_108 : decode cX4_count 108 = .ok (.ireturn, 1) := by decide +kernel
theorem dX4_count_109 : decode cX4_count 109 = .ok (.iload_n 1, 1) := by decide +kernel
theorem dX4_count_110 : decode cX4_count 110 = .ok (.bipush 10, 2) := by decide +kernel
theorem dX4_count_112 : decode cX4_count 112 = .ok (.bipush 12, 2) := by decide +kernel
theorem dX4_count_114 : decode cX4_count 114 = .ok (.invokestatic 70, 3) := by decide +kernel
theorem dX4_count_117 : decode cX4_count 117 = .ok (.ifCond .eq 16, 3) := by decide +kernel
theorem dX4_count_120 : decode cX4_count 120 = .ok (.aload_n 0, 1) := by decide +kernel
theorem dX4_count_121 : decode cX4_count 121 = .ok (.getfield 10, 3) := by decide +kernel
theorem dX4_count_124 : decode cX4_count 124 = .ok (.getfield 74, 3) := by decide +kernel
theorem dX4_count_127 : decode cX4_count 127 = .ok (.iload_n 1, 1) := by decide +kernel
theorem dX4_count_128 : decode cX4_count 128 = .ok (.bipush 10, 2) := by decide +kernel
theorem dX4_count_130 : decode cX4_count 130 = .ok (.isub, 1) := by decide +kernel
theorem dX4_count_131 : decode cX4_count 131 = .ok (.iaload, 1) := by decide +kernel
theorem dX4_count_132 : decode cX4_count 132 = .ok (.ireturn, 1) := by decide +kernel
theorem dX4_count_133 : decode cX4_count 133 = .ok (.iload_n 1, 1) := by decide +kernel
theorem dX4_count_134 : decode cX4_count 134 = .ok (.bipush 20, 2) := by decide +kernel
theorem dX4_count_136 : decode cX4_count 136 = .ok (.bipush 22, 2) := by decide +kernel
theorem dX4_count_138 : decode cX4_count 138 = .ok (.invokestatic 70, 3) := by decide +kernel
theorem dX4_count_141 : decode cX4_count 141 = .ok (.ifCond .eq 16, 3) := by decide +kernel
theorem dX4_count_144 : decode cX4_count 144 = .ok (.aload_n 0, 1) := by decide +kernel
theorem dX4_count_145 : decode cX4_count 145 = .ok (.getfield 10, 3) := by decide +kernel
theorem dX4_count_148 : decode cX4_count 148 = .ok (.getfield 80, 3) := by decide +kernel
theorem dX4_count_151 : decode cX4_count 151 = .ok (.iload_n 1, 1) := by decide +kernel
theorem dX4_count_152 : decode cX4_count 152 = .ok (.bipush 20, 2) := by decide +kernel
theorem dX4_count_154 : decode cX4_count 154 = .ok (.isub, 1) := by decide +kernel
theorem dX4_count_155 : decode cX4_count 155 = .ok (.iaload, 1) := by decide +kernel
theorem dX4_count_156 : decode cX4_count 156 = .ok (.ireturn, 1) := by decide +kernel
theorem dX4_count_157 : decode cX4_count 157 = .ok (.bipush (-2), 2) := by decide +kernel
theorem dX4_count_159 : decode cX4_count 159 = .ok (.ireturn, 1) := by decide +kernel
theorem dX4_isWithin_0 : decode cX4_isWithin 0 = .ok (.iload_n 0, 1) := by decide +kernel
theorem dX4_isWithin_1 : decode cX4_isWithin 1 = .ok (.iload_n 1, 1) := by decide +kernel
theorem dX4_isWithin_2 : decode cX4_isWithin 2 = .ok (.if_icmp .lt 12, 3) := by decide +kernel
theorem dX4_isWithin_5 : decode cX4_isWithin 5 = .ok (.iload_n 0, 1) := by decide +kernel
theorem dX4_isWithin_6 : decode cX4_isWithin 6 = .ok (.iload_n 2, 1) := by decide +kernel
theorem dX4_isWithin_7 : decode cX4_isWithin 7 = .ok (.if_icmp .gt 7, 3) := by decide +kernel
theorem dX4_isWithin_10 : decode cX4_isWithin 10 = .ok (.iconst 1, 1) := by decide +kernel
theorem dX4_isWithin_11 : decode cX4_isWithin 11 = .ok (.goto 4, 3) := by decide +kernel
theorem dX4_isWithin_14 : decode cX4_isWithin 14 = .ok (.iconst 0, 1) := by decide +kernel
theorem dX4_isWithin_15 : decode cX4_isWithin 15 = .ok (.ireturn, 1) := by decide +kernel
theorem dX4_isFamily_0 : decode cX4_isFamily 0 = .ok (.iload_n 0, 1) := by decide +kernel
theorem dX4_isFamily_1 : decode cX4_isFamily 1 = .ok (.iconst 0, 1) := by decide +kernel
theorem dX4_isFamily_2 : decode cX4_isFamily 2 = .ok (.iconst 2, 1) := by decide +kernel
theorem dX4_isFamily_3 : decode cX4_isFamily 3 = .ok (.invokestatic 70, 3) := by decide +kernel
theorem dX4_isFamily_6 : decode cX4_isFamily 6 = .ok (.ireturn, 1) := by decide +kernel
theorem dX4_isMeasure_0 : decode cX4_isMeasure 0 = .ok (.iload_n 0, 1) := by decide +kernel
theorem dX4_isMeasure_1 : decode cX4_isMeasure 1 = .ok (.iconst 0, 1) := by decide +kernel
theorem dX4_isMeasure_2 : decode cX4_isMeasure 2 = .ok (.iconst 3, 1) := by decide +kernel
theorem dX4_isMeasure_3 : decode cX4_isMeasure 3 = .ok (.invokestatic 70, 3) := by decide +kernel
theorem dX4_isMeasure_6 : decode cX4_isMeasure 6 = .ok (.ireturn, 1) := by decide +kernel
theorem dX4_isOfDues_0 : decode cX4_isOfDues 0 = .ok (.iload_n 0, 1) := by decide +kernel
theorem dX4_isOfDues_1 : decode cX4_isOfDues 1 = .ok (.ifCond .eq 8, 3) := by decide +kernel
theorem dX4_isOfDues_4 : decode cX4_isOfDues 4 = .ok (.iload_n 0, 1) := by decide +kernel
theorem dX4_isOfDues_5 : decode cX4_isOfDues 5 = .ok (.iconst 1, 1) := by decide +kernel
theorem dX4_isOfDues_6 : decode cX4_isOfDues 6 = .ok (.if_icmp .ne 7, 3) := by decide +kernel
theorem dX4_isOfDues_9 : decode cX4_isOfDues 9 = .ok (.iconst 1, 1) := by decide +kernel
theorem dX4_isOfDues_10 : decode cX4_isOfDues 10 = .ok (.goto 4, 3) := by decide +kernel
theorem dX4_isOfDues_13 : decode cX4_isOfDues 13 = .ok (.iconst 0, 1) := by decide +kernel
theorem dX4_isOfDues_14 : decode cX4_isOfDues 14 = .ok (.ireturn, 1) := by decide +kernel
theorem dX4_isJob_0 : decode cX4_isJob 0 = .ok (.iload_n 1, 1) := by decide +kernel
theorem dX4_isJob_1 : decode cX4_isJob 1 = .ok (.iconst 0, 1) := by decide +kernel
theorem dX4_isJob_2 : decode cX4_isJob 2 = .ok (.aload_n 0, 1) := by decide +kernel
theorem dX4_isJob_3 : decode cX4_isJob 3 = .ok (.getfield 10, 3) := by decide +kernel
theorem dX4_isJob_6 : decode cX4_isJob 6 = .ok (.getfield 92, 3) := by decide +kernel
theorem dX4_isJob_9 : decode cX4_isJob 9 = .ok (.iconst 1, 1) := by decide +kernel
theorem dX4_isJob_10 : decode cX4_isJob 10 = .ok (.isub, 1) := by decide +kernel
theorem dX4_isJob_11 : decode cX4_isJob 11 = .ok (.invokestatic 70, 3) := by decide +kernel
theorem dX4_isJob_14 : decode cX4_isJob 14 = .ok (.ireturn, 1) := by decide +kernel
theorem dX4_contains_0 : decode cX4_contains 0 = .ok (.iload_n 0, 1) := by decide +kernel
theorem dX4_contains_1 : decode cX4_contains 1 = .ok (.iload_n 1, 1) := by decide +kernel
theorem dX4_contains_2 : decode cX4_contains 2 = .ok (.ishr, 1) := by decide +kernel
theorem dX4_contains_3 : decode cX4_contains 3 = .ok (.iconst 1, 1) := by decide +kernel
theorem dX4_contains_4 : decode cX4_contains 4 = .ok (.iand, 1) := by decide +kernel
theorem dX4_contains_5 : decode cX4_contains 5 = .ok (.iconst 1, 1) := by decide +kernel
theorem dX4_contains_6 : decode cX4_contains 6 = .ok (.if_icmp .ne 7, 3) := by decide +kernel
theorem dX4_contains_9 : decode cX4_contains 9 = .ok (.iconst 1, 1) := by decide +kernel
theorem dX4_contains_10 : decode cX4_contains 10 = .ok (.goto 4, 3) := by decide +kernel
theorem dX4_contains_13 : decode cX4_contains 13 = .ok (.iconst 0, 1) := by decide +kernel
theorem dX4_contains_14 : decode cX4_contains 14 = .ok (.ireturn, 1) := by decide +kernel
theorem dX4_joined_0 : decode cX4_joined 0 = .ok (.iload_n 0, 1) := by decide +kernel
theorem dX4_joined_1 : decode cX4_joined 1 = .ok (.ifCond .ne 11, 3) := by decide +kernel
theorem dX4_joined_4 : decode cX4_joined 4 = .ok (.iload_n 1, 1) := by decide +kernel
theorem dX4_joined_5 : decode cX4_joined 5 = .ok (.iload_n 2, 1) := by decide +kernel
theorem dX4_joined_6 : decode cX4_joined 6 = .ok (.invokestatic 174, 3) := by decide +kernel
theorem dX4_joined_9 : decode cX4_joined 9 = .ok (.goto 6, 3) := by decide +kernel
theorem dX4_joined_12 : decode cX4_joined 12 = .ok (.iload_n 1, 1) := by decide +kernel
theorem dX4_joined_13 : decode cX4_joined 13 = .ok (.iload_n 2, 1) := by decide +kernel
theorem dX4_joined_14 : decode cX4_joined 14 = .ok (.iadd, 1) := by decide +kernel
theorem dX4_joined_15 : decode cX4_joined 15 = .ok (.ireturn, 1) := by decide +kernel
theorem dX4_forgetBest_0 : decode cX4_forgetBest 0 = .ok (.iconst 0, 1) := by decide +kernel
theorem dX4_forgetBest_1 : decode cX4_forgetBest 1 = .ok (.istore_n 1, 1) := by decide +kernel
theorem dX4_forgetBest_2 : decode cX4_forgetBest 2 = .ok (.iload_n 1, 1) := by decide +kernel
theorem dX4_forgetBest_3 : decode cX4_forgetBest 3 = .ok (.iconst 4, 1) := by decide +kernel
theorem dX4_forgetBest_4 : decode cX4_forgetBest 4 = .ok (.if_icmp .ge 16, 3) := by decide +kernel
theorem dX4_forgetBest_7 : decode cX4_forgetBest 7 = .ok (.aload_n 0, 1) := by decide +kernel
theorem dX4_forgetBest_8 : decode cX4_forgetBest 8 = .ok (.getfield 55, 3) := by decide +kernel
theorem dX4_forgetBest_11 : decode cX4_forgetBest 11 = .ok (.iload_n 1, 1) := by decide +kernel
theorem dX4_forgetBest_12 : decode cX4_forgetBest 12 = .ok (.iconst 0, 1) := by decide +kernel
theorem dX4_forgetBest_13 : decode cX4_forgetBest 13 = .ok (.bastore, 1) := by decide +kernel
theorem dX4_forgetBest_14 : decode cX4_forgetBest 14 = .ok (.iinc 1 1, 3) := by decide +kernel
theorem dX4_forgetBest_17 : decode cX4_forgetBest 17 = .ok (.goto (-15), 3) := by decide +kernel
theorem dX4_forgetBest_20 : decode cX4_forgetBest 20 = .ok (.return_, 1) := by decide +kernel
theorem dX4_findBest_0 : decode cX4_findBest 0 = .ok (.aload_n 0, 1) := by decide +kernel
theorem dX4_findBest_1 : decode cX4_findBest 1 = .ok (.getfield 55, 3) := by decide +kernel
theorem dX4_findBest_4 : decode cX4_findBest 4 = .ok (.iload_n 1, 1) := by decide +kernel
theorem dX4_findBest_5 : decode cX4_findBest 5 = .ok (.baload, 1) := by decide +kernel
theorem dX4_findBest_6 : decode cX4_findBest 6 = .ok (.ifCond .eq 4, 3) := by decide +kernel
theorem dX4_findBest_9 : decode cX4_findBest 9 = .ok (.return_, 1) := by decide +kernel
theorem dX4_findBest_10 : decode cX4_findBest 10 = .ok (.aload_n 0, 1) := by decide +kernel
theorem dX4_findBest_11 : decode cX4_findBest 11 = .ok (.getfield 51, 3) := by decide +kernel
theorem dX4_findBest_14 : decode cX4_findBest 14 = .ok (.iload_n 1, 1) := by decide +kernel
theorem dX4_findBest_15 : decode cX4_findBest 15 = .ok (.aload_n 0, 1) := by decide +kernel
theorem dX4_findBest_16 : decode cX4_findBest 16 = .ok (.getfield 62, 3) := by decide +kernel
theorem dX4_findBest_19 : decode cX4_findBest 19 = .ok (.aload_n 0, 1) := by decide +kernel
theorem dX4_findBest_20 : decode cX4_findBest 20 = .ok (.getfield 10, 3) := by decide +kernel
theorem dX4_findBest_23 : decode cX4_findBest 23 = .ok (.iload_n 1, 1) := by decide +kernel
theorem dX4_findBest_24 : decode cX4_findBest 24 = .ok (.invokevirtual 179, 3) := by decide +kernel
theorem dX4_findBest_27 : decode cX4_findBest 27 = .ok (.iastore, 1) := by decide +kernel
theorem dX4_findBest_28 : decode cX4_findBest 28 = .ok (.aload_n 0, 1) := by decide +kernel
theorem dX4_findBest_29 : decode cX4_findBest 29 = .ok (.getfield 62, 3) := by decide +kernel
theorem dX4_findBest_32 : decode cX4_findBest 32 = .ok (.aload_n 0, 1) := by decide +kernel
theorem dX4_findBest_33 : decode cX4_findBest 33 = .ok (.getfield 51, 3) := by decide +kernel
theorem dX4_findBest_36 : decode cX4_findBest 36 = .ok (.iload_n 1, 1) := by decide +kernel
theorem dX4_findBest_37 : decode cX4_findBest 37 = .ok (.iaload, 1) := by decide +kernel
theorem dX4_findBest_38 : decode cX4_findBest 38 = .ok (.aload_n 0, 1) := by decide +kernel
theorem dX4_findBest_39 : decode cX4_findBest 39 = .ok (.getfield 47, 3) := by decide +kernel
theorem dX4_findBest_42 : decode cX4_findBest 42 = .ok (.iload_n 1, 1) := by decide +kernel
theorem dX4_findBest_43 : decode cX4_findBest 43 = .ok (.aaload, 1) := by decide +kernel
theorem dX4_findBest_44 : decode cX4_findBest 44 = .ok (.invokevirtual 182, 3) := by decide +kernel
theorem dX4_findBest_47 : decode cX4_findBest 47 = .ok (.aload_n 0, 1) := by decide +kernel
theorem dX4_findBest_48 : decode cX4_findBest 48 = .ok (.getfield 55, 3) := by decide +kernel
theorem dX4_findBest_51 : decode cX4_findBest 51 = .ok (.iload_n 1, 1) := by decide +kernel
theorem dX4_findBest_52 : decode cX4_findBest 52 = .ok (.iconst 1, 1) := by decide +kernel
theorem dX4_findBest_53 : decode cX4_findBest 53 = .ok (.bastore, 1) := by decide +kernel
theorem dX4_findBest_54 : decode cX4_findBest 54 = .ok (.return_, 1) := by decide +kernel
theorem dX4_earliestDue_0 : decode cX4_earliestDue 0 = .ok (.iload_n 2, 1) := by decide +kernel
theorem dX4_earliestDue_1 : decode cX4_earliestDue 1 = .ok (.invokestatic 186, 3) := by decide +kernel
theorem dX4_earliestDue_4 : decode cX4_earliestDue 4 = .ok (.ifCond .ne 5, 3) := by decide +kernel
theorem dX4_earliestDue_7 : decode cX4_earliestDue 7 = .ok (.iconst 0, 1) := by decide +kernel
theorem dX4_earliestDue_8 : decode cX4_earliestDue 8 = .ok (.ireturn, 1) := by decide +kernel
theorem dX4_earliestDue_9 : decode cX4_earliestDue 9 = .ok (.iconst 0, 1) := by decide +kernel
theorem dX4_earliestDue_10 : decode cX4_earliestDue 10 = .ok (.istore_n 3, 1) := by decide +kernel
theorem dX4_earliestDue_11 : decode cX4_earliestDue 11 = .ok (.aload_n 0, 1) := by decide +kernel
theorem dX4_earliestDue_12 : decode cX4_earliestDue 12 = .ok (.getfield 10, 3) := by decide +kernel
theorem dX4_earliestDue_15 : decode cX4_earliestDue 15 = .ok (.getfield 106, 3) := by decide +kernel
theorem dX4_earliestDue_18 : decode cX4_earliestDue 18 = .ok (.iload_n 1, 1) := by decide +kernel
theorem dX4_earliestDue_19 : decode cX4_earliestDue 19 = .ok (.iaload, 1) := by decide +kernel
theorem dX4_earliestDue_20 : decode cX4_earliestDue 20 = .ok (.istore 4, 2) := by decide +kernel
theorem dX4_earliestDue_22 : decode cX4_earliestDue 22 = .ok (.aload_n 0, 1) := by decide +kernel
theorem dX4_earliestDue_23 : decode cX4_earliestDue 23 = .ok (.getfield 16, 3) := by decide +kernel
theorem dX4_earliestDue_26 : decode cX4_earliestDue 26 = .ok (.aload_n 0, 1) := by decide +kernel
theorem dX4_earliestDue_27 : decode cX4_earliestDue 27 = .ok (.getfield 10, 3) := by decide +kernel
theorem dX4_earliestDue_30 : decode cX4_earliestDue 30 = .ok (.invokevirtual 164, 3) := by decide +kernel
theorem dX4_earliestDue_33 : decode cX4_earliestDue 33 = .ok (.iconst 0, 1) := by decide +kernel
theorem dX4_earliestDue_34 : decode cX4_earliestDue 34 = .ok (.istore 5, 2) := by decide +kernel
theorem dX4_earliestDue_36 : decode cX4_earliestDue 36 = .ok (.iload 5, 2) := by decide +kernel
theorem dX4_earliestDue_38 : decode cX4_earliestDue 38 = .ok (.bipush 99, 2) := by decide +kernel
theorem dX4_earliestDue_40 : decode cX4_earliestDue 40 = .ok (.if_icmp .gt 73, 3) := by decide +kernel
theorem dX4_earliestDue_43 : decode cX4_earliestDue 43 = .ok (.iload_n 3, 1) := by decide +kernel
theorem dX4_earliestDue_44 : decode cX4_earliestDue 44 = .ok (.iload 4, 2) := by decide +kernel
theorem dX4_earliestDue_46 : decode cX4_earliestDue 46 = .ok (.if_icmp .ge 67, 3) := by decide +kernel
theorem dX4_earliestDue_49 : decode cX4_earliestDue 49 = .ok (.iload_n 3, 1) := by decide +kernel
theorem dX4_earliestDue_50 : decode cX4_earliestDue 50 = .ok (.iload 4, 2) := by decide +kernel
theorem dX4_earliestDue_52 : decode cX4_earliestDue 52 = .ok (.iadd, 1) := by decide +kernel
theorem dX4_earliestDue_53 : decode cX4_earliestDue 53 = .ok (.iconst 2, 1) := by decide +kernel
theorem dX4_earliestDue_54 : decode cX4_earliestDue 54 = .ok (.idiv, 1) := by decide +kernel
theorem dX4_earliestDue_55 : decode cX4_earliestDue 55 = .ok (.istore 6, 2) := by decide +kernel
theorem dX4_earliestDue_57 : decode cX4_earliestDue 57 = .ok (.aload_n 0, 1) := by decide +kernel
theorem dX4_earliestDue_58 : decode cX4_earliestDue 58 = .ok (.getfield 16, 3) := by decide +kernel
theorem dX4_earliestDue_61 : decode cX4_earliestDue 61 = .ok (.getfield 106, 3) := by decide +kernel
theorem dX4_earliestDue_64 : decode cX4_earliestDue 64 = .ok (.iload_n 1, 1) := by decide +kernel
theorem dX4_earliestDue_65 : decode cX4_earliestDue 65 = .ok (.iload 6, 2) := by decide +kernel
theorem dX4_earliestDue_67 : decode cX4_earliestDue 67 = .ok (.iastore, 1) := by decide +kernel
theorem dX4_earliestDue_68 : decode cX4_earliestDue 68 = .ok (.aload_n 0, 1) := by decide +kernel
theorem dX4_earliestDue_69 : decode cX4_earliestDue 69 = .ok (.getfield 62, 3) := by decide +kernel
theorem dX4_earliestDue_72 : decode cX4_earliestDue 72 = .ok (.aload_n 0, 1) := by decide +kernel
theorem dX4_earliestDue_73 : decode cX4_earliestDue 73 = .ok (.getfield 16, 3) := by decide +kernel
theorem dX4_earliestDue_76 : decode cX4_earliestDue 76 = .ok (.iload_n 2, 1) := by decide +kernel
theorem dX4_earliestDue_77 : decode cX4_earliestDue 77 = .ok (.invokevirtual 179, 3) := by decide +kernel
theorem dX4_earliestDue_80 : decode cX4_earliestDue 80 = .ok (.aload_n 0, 1) := by decide +kernel
theorem dX4_earliestDue_81 : decode cX4_earliestDue 81 = .ok (.getfield 51, 3) := by decide +kernel
theorem dX4_earliestDue_84 : decode cX4_earliestDue 84 = .ok (.iload_n 2, 1) := by decide +kernel
theorem dX4_earliestDue_85 : decode cX4_earliestDue 85 = .ok (.iaload, 1) := by decide +kernel
theorem dX4_earliestDue_86 : decode cX4_earliestDue 86 = .ok (.isub, 1) := by decide +kernel
theorem dX4_earliestDue_87 : decode cX4_earliestDue 87 = .ok (.istore 7, 2) := by decide +kernel
theorem dX4_earliestDue_89 : decode cX4_earliestDue 89 = .ok (.iload 7, 2) := by decide +kernel
theorem dX4_earliestDue_91 : decode cX4_earliestDue 91 = .ok (.ifCond .gt 10, 3) := by decide +kernel
theorem dX4_earliestDue_94 : decode cX4_earliestDue 94 = .ok (.iload 6, 2) := by decide +kernel
theorem dX4_earliestDue_96 : decode cX4_earliestDue 96 = .ok (.istore 4, 2) := by decide +kernel
theorem dX4_earliestDue_98 : decode cX4_earliestDue 98 = .ok (.goto 9, 3) := by decide +kernel
theorem dX4_earliestDue_101 : decode cX4_earliestDue 101 = .ok (.iload 6, 2) := by decide +kernel
theorem dX4_earliestDue_103 : decode cX4_earliestDue 103 = .ok (.iload 7, 2) := by decide +kernel
theorem dX4_earliestDue_105 : decode cX4_earliestDue 105 = .ok (.iadd, 1) := by decide +kernel
theorem dX4_earliestDue_106 : decode cX4_earliestDue 106 = .ok (.istore_n 3, 1) := by decide +kernel
theorem dX4_earliestDue_107 : decode cX4_earliestDue 107 = .ok (.iinc 5 1, 3) := by decide +kernel
theorem dX4_earliestDue_110 : decode cX4_earliestDue 110 = .ok (.goto (-74), 3) := by decide +kernel
theorem dX4_earliestDue_113 : decode cX4_earliestDue 113 = .ok (.iload 4, 2) := by decide +kernel
theorem dX4_earliestDue_115 : decode cX4_earliestDue 115 = .ok (.ireturn, 1) := by decide +kernel
theorem dX4_layRule_0 : decode cX4_layRule 0 = .ok (.aload_n 0, 1) := by decide +kernel
theorem dX4_layRule_1 : decode cX4_layRule 1 = .ok (.getfield 44, 3) := by decide +kernel
theorem dX4_layRule_4 : decode cX4_layRule 4 = .ok (.invokevirtual 189, 3) := by decide +kernel
theorem dX4_layRule_7 : decode cX4_layRule 7 = .ok (.aload_n 0, 1) := by decide +kernel
theorem dX4_layRule_8 : decode cX4_layRule 8 = .ok (.getfield 10, 3) := by decide +kernel
theorem dX4_layRule_11 : decode cX4_layRule 11 = .ok (.invokevirtual 192, 3) := by decide +kernel
theorem dX4_layRule_14 : decode cX4_layRule 14 = .ok (.istore_n 1, 1) := by decide +kernel
theorem dX4_layRule_15 : decode cX4_layRule 15 = .ok (.iconst 0, 1) := by decide +kernel
theorem dX4_layRule_16 : decode cX4_layRule 16 = .ok (.istore_n 2, 1) := by decide +kernel
theorem dX4_layRule_17 : decode cX4_layRule 17 = .ok (.iload_n 2, 1) := by decide +kernel
theorem dX4_layRule_18 : decode cX4_layRule 18 = .ok (.bipush 7, 2) := by decide +kernel
theorem dX4_layRule_20 : decode cX4_layRule 20 = .ok (.if_icmp .ge 37, 3) := by decide +kernel
theorem dX4_layRule_23 : decode cX4_layRule 23 = .ok (.iload_n 1, 1) := by decide +kernel
theorem dX4_layRule_24 : decode cX4_layRule 24 = .ok (.ifCond .eq 33, 3) := by decide +kernel
theorem dX4_layRule_27 : decode cX4_layRule 27 = .ok (.aload_n 0, 1) := by decide +kernel
theorem dX4_layRule_28 : decode cX4_layRule 28 = .ok (.iload_n 1, 1) := by decide +kernel
theorem dX4_layRule_29 : decode cX4_layRule 29 = .ok (.invokevirtual 195, 3) := by decide +kernel
theorem dX4_layRule_32 : decode cX4_layRule 32 = .ok (.istore_n 3, 1) := by decide +kernel
theorem dX4_layRule_33 : decode cX4_layRule 33 = .ok (.aload_n 0, 1) := by decide +kernel
theorem dX4_layRule_34 : decode cX4_layRule 34 = .ok (.getfield 44, 3) := by decide +kernel
theorem dX4_layRule_37 : decode cX4_layRule 37 = .ok (.aload_n 0, 1) := by decide +kernel
theorem dX4_layRule_38 : decode cX4_layRule 38 = .ok (.getfield 10, 3) := by decide +kernel
theorem dX4_layRule_41 : decode cX4_layRule 41 = .ok (.iload_n 3, 1) := by decide +kernel
theorem dX4_layRule_42 : decode cX4_layRule 42 = .ok (.invokevirtual 198, 3) := by decide +kernel
theorem dX4_layRule_45 : decode cX4_layRule 45 = .ok (.iload_n 1, 1) := by decide +kernel
theorem dX4_layRule_46 : decode cX4_layRule 46 = .ok (.iload_n 3, 1) := by decide +kernel
theorem dX4_layRule_47 : decode cX4_layRule 47 = .ok (.iconst (-1), 1) := by decide +kernel
theorem dX4_layRule_48 : decode cX4_layRule 48 = .ok (.ixor, 1) := by decide +kernel
theorem dX4_layRule_49 : decode cX4_layRule 49 = .ok (.iand, 1) := by decide +kernel
theorem dX4_layRule_50 : decode cX4_layRule 50 = .ok (.istore_n 1, 1) := by decide +kernel
theorem dX4_layRule_51 : decode cX4_layRule 51 = .ok (.iinc 2 1, 3) := by decide +kernel
theorem dX4_layRule_54 : decode cX4_layRule 54 = .ok (.goto (-37), 3) := by decide +kernel
theorem dX4_layRule_57 : decode cX4_layRule 57 = .ok (.return_, 1) := by decide +kernel
theorem dX4_ruleBatch_0 : decode cX4_ruleBatch 0 = .ok (.aload_n 0, 1) := by decide +kernel
theorem dX4_ruleBatch_1 : decode cX4_ruleBatch 1 = .ok (.iload_n 1, 1) := by decide +kernel
theorem dX4_ruleBatch_2 : decode cX4_ruleBatch 2 = .ok (.invokevirtual 202, 3) := by decide +kernel
theorem dX4_ruleBatch_5 : decode cX4_ruleBatch 5 = .ok (.istore_n 2, 1) := by decide +kernel
theorem dX4_ruleBatch_6 : decode cX4_ruleBatch 6 = .ok (.iconst 1, 1) := by decide +kernel
theorem dX4_ruleBatch_7 : decode cX4_ruleBatch 7 = .ok (.iload_n 2, 1) := by decide +kernel
theorem dX4_ruleBatch_8 : decode cX4_ruleBatch 8 = .ok (.ishl, 1) := by decide +kernel
theorem dX4_ruleBatch_9 : decode cX4_ruleBatch 9 = .ok (.istore_n 3, 1) := by decide +kernel
theorem dX4_ruleBatch_10 : decode cX4_ruleBatch 10 = .ok (.aload_n 0, 1) := by decide +kernel
theorem dX4_ruleBatch_11 : decode cX4_ruleBatch 11 = .ok (.getfield 10, 3) := by decide +kernel
theorem dX4_ruleBatch_14 : decode cX4_ruleBatch 14 = .ok (.getfield 112, 3) := by decide +kernel
theorem dX4_ruleBatch_17 : decode cX4_ruleBatch 17 = .ok (.iload_n 2, 1) := by decide +kernel
theorem dX4_ruleBatch_18 : decode cX4_ruleBatch 18 = .ok (.iaload, 1) := by decide +kernel
theorem dX4_ruleBatch_19 : decode cX4_ruleBatch 19 = .ok (.istore 4, 2) := by decide +kernel
theorem dX4_ruleBatch_21 : decode cX4_ruleBatch 21 = .ok (.iload_n 1, 1) := by decide +kernel
theorem dX4_ruleBatch_22 : decode cX4_ruleBatch 22 = .ok (.aload_n 0, 1) := by decide +kernel
theorem dX4_ruleBatch_23 : decode cX4_ruleBatch 23 = .ok (.getfield 10, 3) := by decide +kernel
theorem dX4_ruleBatch_26 : decode cX4_ruleBatch 26 = .ok (.aload_n 0, 1) := by decide +kernel
theorem dX4_ruleBatch_27 : decode cX4_ruleBatch 27 = .ok (.getfield 10, 3) := by decide +kernel
theorem dX4_ruleBatch_30 : decode cX4_ruleBatch 30 = .ok (.getfield 109, 3) := by decide +kernel
theorem dX4_ruleBatch_33 : decode cX4_ruleBatch 33 = .ok (.iload_n 2, 1) := by decide +kernel
theorem dX4_ruleBatch_34 : decode cX4_ruleBatch 34 = .ok (.iaload, 1) := by decide +kernel
theorem dX4_ruleBatch_35 : decode cX4_ruleBatch 35 = .ok (.invokevirtual 205, 3) := by decide +kernel
theorem dX4_ruleBatch_38 : decode cX4_ruleBatch 38 = .ok (.iand, 1) := by decide +kernel
theorem dX4_ruleBatch_39 : decode cX4_ruleBatch 39 = .ok (.iload_n 3, 1) := by decide +kernel
theorem dX4_ruleBatch_40 : decode cX4_ruleBatch 40 = .ok (.iconst (-1), 1) := by decide +kernel
theorem dX4_ruleBatch_41 : decode cX4_ruleBatch 41 = .ok (.ixor, 1) := by decide +kernel
theorem dX4_ruleBatch_42 : decode cX4_ruleBatch 42 = .ok (.iand, 1) := by decide +kernel
theorem dX4_ruleBatch_43 : decode cX4_ruleBatch 43 = .ok (.istore 5, 2) := by decide +kernel
theorem dX4_ruleBatch_45 : decode cX4_ruleBatch 45 = .ok (.iconst 0, 1) := by decide +kernel
theorem dX4_ruleBatch_46 : decode cX4_ruleBatch 46 = .ok (.istore 6, 2) := by decide +kernel
theorem dX4_ruleBatch_48 : decode cX4_ruleBatch 48 = .ok (.iload 6, 2) := by decide +kernel
theorem dX4_ruleBatch_50 : decode cX4_ruleBatch 50 = .ok (.bipush 7, 2) := by decide +kernel
theorem dX4_ruleBatch_52 : decode cX4_ruleBatch 52 = .ok (.if_icmp .ge 78, 3) := by decide +kernel
theorem dX4_ruleBatch_55 : decode cX4_ruleBatch 55 = .ok (.iload 5, 2) := by decide +kernel
theorem dX4_ruleBatch_57 : decode cX4_ruleBatch 57 = .ok (.ifCond .eq 73, 3) := by decide +kernel
theorem dX4_ruleBatch_60 : decode cX4_ruleBatch 60 = .ok (.aload_n 0, 1) := by decide +kernel
theorem dX4_ruleBatch_61 : decode cX4_ruleBatch 61 = .ok (.iload 5, 2) := by decide +kernel
theorem dX4_ruleBatch_63 : decode cX4_ruleBatch 63 = .ok (.invokevirtual 202, 3) := by decide +kernel
theorem dX4_ruleBatch_66 : decode cX4_ruleBatch 66 = .ok (.istore 7, 2) := by decide +kernel
theorem dX4_ruleBatch_68 : decode cX4_ruleBatch 68 = .ok (.iload 5, 2) := by decide +kernel
theorem dX4_ruleBatch_70 : decode cX4_ruleBatch 70 = .ok (.iconst 1, 1) := by decide +kernel
theorem dX4_ruleBatch_71 : decode cX4_ruleBatch 71 = .ok (.iload 7, 2) := by decide +kernel
theorem dX4_ruleBatch_73 : decode cX4_ruleBatch 73 = .ok (.ishl, 1) := by decide +kernel
theorem dX4_ruleBatch_74 : decode cX4_ruleBatch 74 = .ok (.iconst (-1), 1) := by decide +kernel
theorem dX4_ruleBatch_75 : decode cX4_ruleBatch 75 = .ok (.ixor, 1) := by decide +kernel
theorem dX4_ruleBatch_76 : decode cX4_ruleBatch 76 = .ok (.iand, 1) := by decide +kernel
theorem dX4_ruleBatch_77 : decode cX4_ruleBatch 77 = .ok (.istore 5, 2) := by decide +kernel
theorem dX4_ruleBatch_79 : decode cX4_ruleBatch 79 = .ok (.iload 4, 2) := by decide +kernel
theorem dX4_ruleBatch_81 : decode cX4_ruleBatch 81 = .ok (.aload_n 0, 1) := by decide +kernel
theorem dX4_ruleBatch_82 : decode cX4_ruleBatch 82 = .ok (.getfield 10, 3) := by decide +kernel
theorem dX4_ruleBatch_85 : decode cX4_ruleBatch 85 = .ok (.getfield 112, 3) := by decide +kernel
theorem dX4_ruleBatch_88 : decode cX4_ruleBatch 88 = .ok (.iload 7, 2) := by decide +kernel
theorem dX4_ruleBatch_90 : decode cX4_ruleBatch 90 = .ok (.iaload, 1) := by decide +kernel
theorem dX4_ruleBatch_91 : decode cX4_ruleBatch 91 = .ok (.iadd, 1) := by decide +kernel
theorem dX4_ruleBatch_92 : decode cX4_ruleBatch 92 = .ok (.aload_n 0, 1) := by decide +kernel
theorem dX4_ruleBatch_93 : decode cX4_ruleBatch 93 = .ok (.getfield 10, 3) := by decide +kernel
theorem dX4_ruleBatch_96 : decode cX4_ruleBatch 96 = .ok (.getfield 83, 3) := by decide +kernel
theorem dX4_ruleBatch_99 : decode cX4_ruleBatch 99 = .ok (.if_icmp .gt 25, 3) := by decide +kernel
theorem dX4_ruleBatch_102 : decode cX4_ruleBatch 102 = .ok (.iload 4, 2) := by decide +kernel
theorem dX4_ruleBatch_104 : decode cX4_ruleBatch 104 = .ok (.aload_n 0, 1) := by decide +kernel
theorem dX4_ruleBatch_105 : decode cX4_ruleBatch 105 = .ok (.getfield 10, 3) := by decide +kernel
theorem dX4_ruleBatch_108 : decode cX4_ruleBatch 108 = .ok (.getfield 112, 3) := by decide +kernel
theorem dX4_ruleBatch_111 : decode cX4_ruleBatch 111 = .ok (.iload 7, 2) := by decide +kernel
theorem dX4_ruleBatch_113 : decode cX4_ruleBatch 113 = .ok (.iaload, 1) := by decide +kernel
theorem dX4_ruleBatch_114 : decode cX4_ruleBatch 114 = .ok (.iadd, 1) := by decide +kernel
theorem dX4_ruleBatch_115 : decode cX4_ruleBatch 115 = .ok (.istore 4, 2) := by decide +kernel
theorem dX4_ruleBatch_117 : decode cX4_ruleBatch 117 = .ok (.iload_n 3, 1) := by decide +kernel
theorem dX4_ruleBatch_118 : decode cX4_ruleBatch 118 = .ok (.iconst 1, 1) := by decide +kernel
theorem dX4_ruleBatch_119 : decode cX4_ruleBatch 119 = .ok (.iload 7, 2) := by decide +kernel
theorem dX4_ruleBatch_121 : decode cX4_ruleBatch 121 = .ok (.ishl, 1) := by decide +kernel
theorem dX4_ruleBatch_122 : decode cX4_ruleBatch 122 = .ok (.ior, 1) := by decide +kernel
theorem dX4_ruleBatch_123 : decode cX4_ruleBatch 123 = .ok (.istore_n 3, 1) := by decide +kernel
theorem dX4_ruleBatch_124 : decode cX4_ruleBatch 124 = .ok (.iinc 6 1, 3) := by decide +kernel
theorem dX4_ruleBatch_127 : decode cX4_ruleBatch 127 = .ok (.goto (-79), 3) := by decide +kernel
theorem dX4_ruleBatch_130 : decode cX4_ruleBatch 130 = .ok (.iload_n 3, 1) := by decide +kernel
theorem dX4_ruleBatch_131 : decode cX4_ruleBatch 131 = .ok (.ireturn, 1) := by decide +kernel
theorem dX4_tightest_0 : decode cX4_tightest 0 = .ok (.iconst 0, 1) := by decide +kernel
theorem dX4_tightest_1 : decode cX4_tightest 1 = .ok (.istore_n 2, 1) := by decide +kernel
theorem dX4_tightest_2 : decode cX4_tightest 2 = .ok (.ldc 210, 2) := by decide +kernel
theorem dX4_tightest_4 : decode cX4_tightest 4 = .ok (.istore_n 3, 1) := by decide +kernel
theorem dX4_tightest_5 : decode cX4_tightest 5 = .ok (.iconst 0, 1) := by decide +kernel
theorem dX4_tightest_6 : decode cX4_tightest 6 = .ok (.istore 4, 2) := by decide +kernel
theorem dX4_tightest_8 : decode cX4_tightest 8 = .ok (.iload 4, 2) := by decide +kernel
theorem dX4_tightest_10 : decode cX4_tightest 10 = .ok (.aload_n 0, 1) := by decide +kernel
theorem dX4_tightest_11 : decode cX4_tightest 11 = .ok (.getfield 10, 3) := by decide +kernel
theorem dX4_tightest_14 : decode cX4_tightest 14 = .ok (.getfield 92, 3) := by decide +kernel
theorem dX4_tightest_17 : decode cX4_tightest 17 = .ok (.if_icmp .ge 44, 3) := by decide +kernel
theorem dX4_tightest_20 : decode cX4_tightest 20 = .ok (.iload_n 1, 1) := by decide +kernel
theorem dX4_tightest_21 : decode cX4_tightest 21 = .ok (.iload 4, 2) := by decide +kernel
theorem dX4_tightest_23 : decode cX4_tightest 23 = .ok (.invokestatic 156, 3) := by decide +kernel
theorem dX4_tightest_26 : decode cX4_tightest 26 = .ok (.ifCond .eq 29, 3) := by decide +kernel
theorem dX4_tightest_29 : decode cX4_tightest 29 = .ok (.aload_n 0, 1) := by decide +kernel
theorem dX4_tightest_30 : decode cX4_tightest 30 = .ok (.getfield 10, 3) := by decide +kernel
theorem dX4_tightest_33 : decode cX4_tightest 33 = .ok (.iload 4, 2) := by decide +kernel
theorem dX4_tightest_35 : decode cX4_tightest 35 = .ok (.invokevirtual 115, 3) := by decide +kernel
theorem dX4_tightest_38 : decode cX4_tightest 38 = .ok (.iload_n 3, 1) := by decide +kernel
theorem dX4_tightest_39 : decode cX4_tightest 39 = .ok (.if_icmp .ge 16, 3) := by decide +kernel
theorem dX4_tightest_42 : decode cX4_tightest 42 = .ok (.iload 4, 2) := by decide +kernel
theorem dX4_tightest_44 : decode cX4_tightest 44 = .ok (.istore_n 2, 1) := by decide +kernel
theorem dX4_tightest_45 : decode cX4_tightest 45 = .ok (.aload_n 0, 1) := by decide +kernel
theorem dX4_tightest_46 : decode cX4_tightest 46 = .ok (.getfield 10, 3) := by decide +kernel
theorem dX4_tightest_49 : decode cX4_tightest 49 = .ok (.iload 4, 2) := by decide +kernel
theorem dX4_tightest_51 : decode cX4_tightest 51 = .ok (.invokevirtual 115, 3) := by decide +kernel
theorem dX4_tightest_54 : decode cX4_tightest 54 = .ok (.istore_n 3, 1) := by decide +kernel
theorem dX4_tightest_55 : decode cX4_tightest 55 = .ok (.iinc 4 1, 3) := by decide +kernel
theorem dX4_tightest_58 : decode cX4_tightest 58 = .ok (.goto (-50), 3) := by decide +kernel
theorem dX4_tightest_61 : decode cX4_tightest 61 = .ok (.iload_n 2, 1) := by decide +kernel
theorem dX4_tightest_62 : decode cX4_tightest 62 = .ok (.ireturn, 1) := by decide +kernel
theorem dX4_putIn_0 : decode cX4_putIn 0 = .ok (.ldc 210, 2) := by decide +kernel
theorem dX4_putIn_2 : decode cX4_putIn 2 = .ok (.istore_n 3, 1) := by decide +kernel
theorem dX4_putIn_3 : decode cX4_putIn 3 = .ok (.iconst 0, 1) := by decide +kernel
theorem dX4_putIn_4 : decode cX4_putIn 4 = .ok (.istore 4, 2) := by decide +kernel
theorem dX4_putIn_6 : decode cX4_putIn 6 = .ok (.iconst 0, 1) := by decide +kernel
theorem dX4_putIn_7 : decode cX4_putIn 7 = .ok (.istore 5, 2) := by decide +kernel
theorem dX4_putIn_9 : decode cX4_putIn 9 = .ok (.iload 5, 2) := by decide +kernel
theorem dX4_putIn_11 : decode cX4_putIn 11 = .ok (.iconst 2, 1) := by decide +kernel
theorem dX4_putIn_12 : decode cX4_putIn 12 = .ok (.aload_n 0, 1) := by decide +kernel
theorem dX4_putIn_13 : decode cX4_putIn 13 = .ok (.getfield 37, 3) := by decide +kernel
theorem dX4_putIn_16 : decode cX4_putIn 16 = .ok (.getfield 211, 3) := by decide +kernel
theorem dX4_putIn_19 : decode cX4_putIn 19 = .ok (.imul, 1) := by decide +kernel
theorem dX4_putIn_20 : decode cX4_putIn 20 = .ok (.if_icmp .gt 57, 3) := by decide +kernel
theorem dX4_putIn_23 : decode cX4_putIn 23 = .ok (.aload_n 0, 1) := by decide +kernel
theorem dX4_putIn_24 : decode cX4_putIn 24 = .ok (.getfield 41, 3) := by decide +kernel
theorem dX4_putIn_27 : decode cX4_putIn 27 = .ok (.aload_n 0, 1) := by decide +kernel
theorem dX4_putIn_28 : decode cX4_putIn 28 = .ok (.getfield 10, 3) := by decide +kernel
theorem dX4_putIn_31 : decode cX4_putIn 31 = .ok (.aload_n 0, 1) := by decide +kernel
theorem dX4_putIn_32 : decode cX4_putIn 32 = .ok (.getfield 37, 3) := by decide +kernel
theorem dX4_putIn_35 : decode cX4_putIn 35 = .ok (.iload_n 1, 1) := by decide +kernel
theorem dX4_putIn_36 : decode cX4_putIn 36 = .ok (.iload 5, 2) := by decide +kernel
theorem dX4_putIn_38 : decode cX4_putIn 38 = .ok (.invokevirtual 214, 3) := by decide +kernel
theorem dX4_putIn_41 : decode cX4_putIn 41 = .ok (.ifCond .eq 30, 3) := by decide +kernel
theorem dX4_putIn_44 : decode cX4_putIn 44 = .ok (.aload_n 0, 1) := by decide +kernel
theorem dX4_putIn_45 : decode cX4_putIn 45 = .ok (.getfield 41, 3) := by decide +kernel
theorem dX4_putIn_48 : decode cX4_putIn 48 = .ok (.aload_n 0, 1) := by decide +kernel
theorem dX4_putIn_49 : decode cX4_putIn 49 = .ok (.getfield 10, 3) := by decide +kernel
theorem dX4_putIn_52 : decode cX4_putIn 52 = .ok (.iconst 1, 1) := by decide +kernel
theorem dX4_putIn_53 : decode cX4_putIn 53 = .ok (.invokevirtual 138, 3) := by decide +kernel
theorem dX4_putIn_56 : decode cX4_putIn 56 = .ok (.istore 6, 2) := by decide +kernel
theorem dX4_putIn_58 : decode cX4_putIn 58 = .ok (.iload 6, 2) := by decide +kernel
theorem dX4_putIn_60 : decode cX4_putIn 60 = .ok (.iload_n 3, 1) := by decide +kernel
theorem dX4_putIn_61 : decode cX4_putIn 61 = .ok (.if_icmp .ge 10, 3) := by decide +kernel
theorem dX4_putIn_64 : decode cX4_putIn 64 = .ok (.iload 6, 2) := by decide +kernel
theorem dX4_putIn_66 : decode cX4_putIn 66 = .ok (.istore_n 3, 1) := by decide +kernel
theorem dX4_putIn_67 : decode cX4_putIn 67 = .ok (.iload 5, 2) := by decide +kernel
theorem dX4_putIn_69 : decode cX4_putIn 69 = .ok (.istore 4, 2) := by decide +kernel
theorem dX4_putIn_71 : decode cX4_putIn 71 = .ok (.iinc 5 1, 3) := by decide +kernel
theorem dX4_putIn_74 : decode cX4_putIn 74 = .ok (.goto (-65), 3) := by decide +kernel
theorem dX4_putIn_77 : decode cX4_putIn 77 = .ok (.iload_n 2, 1) := by decide +kernel
theorem dX4_putIn_78 : decode cX4_putIn 78 = .ok (.ifCond .eq 8, 3) := by decide +kernel
theorem dX4_putIn_81 : decode cX4_putIn 81 = .ok (.iload 4, 2) := by decide +kernel
theorem dX4_putIn_83 : decode cX4_putIn 83 = .ok (.goto 4, 3) := by decide +kernel
theorem dX4_putIn_86 : decode cX4_putIn 86 = .ok (.iload_n 3, 1) := by decide +kernel
theorem dX4_putIn_87 : decode cX4_putIn 87 = .ok (.ireturn, 1) := by decide +kernel
theorem dX5_init_0 : decode cX5_init 0 = .ok (.aload_n 0, 1) := by decide +kernel
theorem dX5_init_1 : decode cX5_init 1 = .ok (.invokespecial 1, 3) := by decide +kernel
theorem dX5_init_4 : decode cX5_init 4 = .ok (.aload_n 0, 1) := by decide +kernel
theorem dX5_init_5 : decode cX5_init 5 = .ok (.bipush 31, 2) := by decide +kernel
theorem dX5_init_7 : decode cX5_init 7 = .ok (.newarray .int, 2) := by decide +kernel
theorem dX5_init_9 : decode cX5_init 9 = .ok (.putfield 7, 3) := by decide +kernel
theorem dX5_init_12 : decode cX5_init 12 = .ok (.aload_n 0, 1) := by decide +kernel
theorem dX5_init_13 : decode cX5_init 13 = .ok (.bipush 62, 2) := by decide +kernel
theorem dX5_init_15 : decode cX5_init 15 = .ok (.newarray .int, 2) := by decide +kernel
theorem dX5_init_17 : decode cX5_init 17 = .ok (.putfield 13, 3) := by decide +kernel
theorem dX5_init_20 : decode cX5_init 20 = .ok (.aload_n 0, 1) := by decide +kernel
theorem dX5_init_21 : decode cX5_init 21 = .ok (.iconst 2, 1) := by decide +kernel
theorem dX5_init_22 : decode cX5_init 22 = .ok (.newarray .boolean, 2) := by decide +kernel
theorem dX5_init_24 : decode cX5_init 24 = .ok (.putfield 16, 3) := by decide +kernel
theorem dX5_init_27 : decode cX5_init 27 = .ok (.aload_n 0, 1) := by decide +kernel
theorem dX5_init_28 : decode cX5_init 28 = .ok (.bipush 14, 2) := by decide +kernel
theorem dX5_init_30 : decode cX5_init 30 = .ok (.newarray .int, 2) := by decide +kernel
theorem dX5_init_32 : decode cX5_init 32 = .ok (.putfield 20, 3) := by decide +kernel
theorem dX5_init_35 : decode cX5_init 35 = .ok (.aload_n 0, 1) := by decide +kernel
theorem dX5_init_36 : decode cX5_init 36 = .ok (.bipush 15, 2) := by decide +kernel
theorem dX5_init_38 : decode cX5_init 38 = .ok (.newarray .int, 2) := by decide +kernel
theorem dX5_init_40 : decode cX5_init 40 = .ok (.putfield 23, 3) := by decide +kernel
theorem dX5_init_43 : decode cX5_init 43 = .ok (.aload_n 0, 1) := by decide +kernel
theorem dX5_init_44 : decode cX5_init 44 = .ok (.bipush 15, 2) := by decide +kernel
theorem dX5_init_46 : decode cX5_init 46 = .ok (.newarray .int, 2) := by decide +kernel
theorem dX5_init_48 : decode cX5_init 48 = .ok (.putfield 26, 3) := by decide +kernel
theorem dX5_init_51 : decode cX5_init 51 = .ok (.aload_n 0, 1) := by decide +kernel
theorem dX5_init_52 : decode cX5_init 52 = .ok (.sipush 128, 3) := by decide +kernel
theorem dX5_init_55 : decode cX5_init 55 = .ok (.newarray .int, 2) := by decide +kernel
theorem dX5_init_57 : decode cX5_init 57 = .ok (.putfield 29, 3) := by decide +kernel
theorem dX5_init_60 : decode cX5_init 60 = .ok (.aload_n 0, 1) := by decide +kernel
theorem dX5_init_61 : decode cX5_init 61 = .ok (.ldc 32, 2) := by decide +kernel
theorem dX5_init_63 : decode cX5_init 63 = .ok (.newarray .boolean, 2) := by decide +kernel
theorem dX5_init_65 : decode cX5_init 65 = .ok (.putfield 33, 3) := by decide +kernel
theorem dX5_init_68 : decode cX5_init 68 = .ok (.aload_n 0, 1) := by decide +kernel
theorem dX5_init_69 : decode cX5_init 69 = .ok (.ldc 32, 2) := by decide +kernel
theorem dX5_init_71 : decode cX5_init 71 = .ok (.newarray .int, 2) := by decide +kernel
theorem dX5_init_73 : decode cX5_init 73 = .ok (.putfield 36, 3) := by decide +kernel
theorem dX5_init_76 : decode cX5_init 76 = .ok (.iconst 0, 1) := by decide +kernel
theorem dX5_init_77 : decode cX5_init 77 = .ok (.istore_n 1, 1) := by decide +kernel
theorem dX5_init_78 : decode cX5_init 78 = .ok (.iload_n 1, 1) := by decide +kernel
theorem dX5_init_79 : decode cX5_init 79 = .ok (.iconst 3, 1) := by decide +kernel
theorem dX5_init_80 : decode cX5_init 80 = .ok (.if_icmp .ge 31, 3) := by decide +kernel
theorem dX5_init_83 : decode cX5_init 83 = .ok (.aload_n 0, 1) := by decide +kernel
theorem dX5_init_84 : decode cX5_init 84 = .ok (.getfield 7, 3) := by decide +kernel
theorem dX5_init_87 : decode cX5_init 87 = .ok (.iconst 0, 1) := by decide +kernel
theorem dX5_init_88 : decode cX5_init 88 = .ok (.iload_n 1, 1) := by decide +kernel
theorem dX5_init_89 : decode cX5_init 89 = .ok (.iadd, 1) := by decide +kernel
theorem dX5_init_90 : decode cX5_init 90 = .ok (.iconst 3, 1) := by decide +kernel
theorem dX5_init_91 : decode cX5_init 91 = .ok (.iload_n 1, 1) := by decide +kernel
theorem dX5_init_92 : decode cX5_init 92 = .ok (.imul, 1) := by decide +kernel
theorem dX5_init_93 : decode cX5_init 93 = .ok (.iconst 3, 1) := by decide +kernel
theorem dX5_init_94 : decode cX5_init 94 = .ok (.iadd, 1) := by decide +kernel
theorem dX5_init_95 : decode cX5_init 95 = .ok (.iastore, 1) := by decide +kernel
theorem dX5_init_96 : decode cX5_init 96 = .ok (.aload_n 0, 1) := by decide +kernel
theorem dX5_init_97 : decode cX5_init 97 = .ok (.getfield 7, 3) := by decide +kernel
theorem dX5_init_100 : decode cX5_init 100 = .ok (.iconst 3, 1) := by decide +kernel
theorem dX5_init_101 : decode cX5_init 101 = .ok (.iload_n 1, 1) := by decide +kernel
theorem dX5_init_102 : decode cX5_init 102 = .ok (.iadd, 1) := by decide +kernel
theorem dX5_init_103 : decode cX5_init 103 = .ok (.iconst 5, 1) := by decide +kernel
theorem dX5_init_104 : decode cX5_init 104 = .ok (.iastore, 1) := by decide +kernel
theorem dX5_init_105 : decode cX5_init 105 = .ok (.iinc 1 1, 3) := by decide +kernel
theorem dX5_init_108 : decode cX5_init 108 = .ok (.goto (-30), 3) := by decide +kernel
theorem dX5_init_111 : decode cX5_init 111 = .ok (.aload_n 0, 1) := by decide +kernel
theorem dX5_init_112 : decode cX5_init 112 = .ok (.getfield 7, 3) := by decide +kernel
theorem dX5_init_115 : decode cX5_init 115 = .ok (.bipush 6, 2) := by decide +kernel
theorem dX5_init_117 : decode cX5_init 117 = .ok (.bipush 10, 2) := by decide +kernel
theorem dX5_init_119 : decode cX5_init 119 = .ok (.iastore, 1) := by decide +kernel
theorem dX5_init_120 : decode cX5_init 120 = .ok (.aload_n 0, 1) := by decide +kernel
theorem dX5_init_121 : decode cX5_init 121 = .ok (.getfield 7, 3) := by decide +kernel
theorem dX5_init_124 : decode cX5_init 124 = .ok (.bipush 7, 2) := by decide +kernel
theorem dX5_init_126 : decode cX5_init 126 = .ok (.iconst 1, 1) := by decide +kernel
theorem dX5_init_127 : decode cX5_init 127 = .ok (.iastore, 1) := by decide +kernel
theorem dX5_init_128 : decode cX5_init 128 = .ok (.aload_n 0, 1) := by decide +kernel
theorem dX5_init_129 : decode cX5_init 129 = .ok (.getfield 7, 3) := by decide +kernel
theorem dX5_init_132 : decode cX5_init 132 = .ok (.bipush 8, 2) := by decide +kernel
theorem dX5_init_134 : decode cX5_init 134 = .ok (.iconst 1, 1) := by decide +kernel
theorem dX5_init_135 : decode cX5_init 135 = .ok (.iastore, 1) := by decide +kernel
theorem dX5_init_136 : decode cX5_init 136 = .ok (.return_, 1) := by decide +kernel
theorem dX5_in_0 : decode cX5_in 0 = .ok (.iload_n 0, 1) := by decide +kernel
theorem dX5_in_1 : decode cX5_in 1 = .ok (.iload_n 1, 1) := by decide +kernel
theorem dX5_in_2 : decode cX5_in 2 = .ok (.if_icmp .lt 12, 3) := by decide +kernel
theorem dX5_in_5 : decode cX5_in 5 = .ok (.iload_n 0, 1) := by decide +kernel
theorem dX5_in_6 : decode cX5_in 6 = .ok (.iload_n 2, 1) := by decide +kernel
theorem dX5_in_7 : decode cX5_in 7 = .ok (.if_icmp .gt 7, 3) := by decide +kernel
theorem dX5_in_10 : decode cX5_in 10 = .ok (.iconst 1, 1) := by decide +kernel
theorem dX5_in_11 : decode cX5_in 11 = .ok (.goto 4, 3) := by decide +kernel
theorem dX5_in_14 : decode cX5_in 14 = .ok (.iconst 0, 1) := by decide +kernel
theorem dX5_in_15 : decode cX5_in 15 = .ok (.ireturn, 1) := by decide +kernel
theorem dX5_isFamily_0 : decode cX5_isFamily 0 = .ok (.iload_n 0, 1) := by decide +kernel
theorem dX5_isFamily_1 : decode cX5_isFamily 1 = .ok (.iconst 0, 1) := by decide +kernel
theorem dX5_isFamily_2 : decode cX5_isFamily 2 = .ok (.iconst 2, 1) := by decide +kernel
theorem dX5_isFamily_3 : decode cX5_isFamily 3 = .ok (.invokestatic 39, 3) := by decide +kernel
theorem dX5_isFamily_6 : decode cX5_isFamily 6 = .ok (.ireturn, 1) := by decide +kernel
theorem dX5_many_0 : decode cX5_many 0 = .ok (.aload_n 0, 1) := by decide +kernel
theorem dX5_many_1 : decode cX5_many 1 = .ok (.getfield 7, 3) := by decide +kernel
theorem dX5_many_4 : decode cX5_many 4 = .ok (.bipush 9, 2) := by decide +kernel
theorem dX5_many_6 : decode cX5_many 6 = .ok (.iaload, 1) := by decide +kernel
theorem dX5_many_7 : decode cX5_many 7 = .ok (.ireturn, 1) := by decide +kernel
theorem dX5_isJob_0 : decode cX5_isJob 0 = .ok (.iload_n 1, 1) := by decide +kernel
theorem dX5_isJob_1 : decode cX5_isJob 1 = .ok (.iconst 0, 1) := by decide +kernel
theorem dX5_isJob_2 : decode cX5_isJob 2 = .ok (.aload_n 0, 1) := by decide +kernel
theorem dX5_isJob_3 : decode cX5_isJob 3 = .ok (.invokevirtual 43, 3) := by decide +kernel
theorem dX5_isJob_6 : decode cX5_isJob 6 = .ok (.iconst 1, 1) := by decide +kernel
theorem dX5_isJob_7 : decode cX5_isJob 7 = .ok (.isub, 1) := by decide +kernel
theorem dX5_isJob_8 : decode cX5_isJob 8 = .ok (.invokestatic 39, 3) := by decide +kernel
theorem dX5_isJob_11 : decode cX5_isJob 11 = .ok (.ireturn, 1) := by decide +kernel
theorem dX5_isMeasure_0 : decode cX5_isMeasure 0 = .ok (.iload_n 0, 1) := by decide +kernel
theorem dX5_isMeasure_1 : decode cX5_isMeasure 1 = .ok (.iconst 0, 1) := by decide +kernel
theorem dX5_isMeasure_2 : decode cX5_isMeasure 2 = .ok (.iconst 3, 1) := by decide +kernel
theorem dX5_isMeasure_3 : decode cX5_isMeasure 3 = .ok (.invokestatic 39, 3) := by decide +kernel
theorem dX5_isMeasure_6 : decode cX5_isMeasure 6 = .ok (.ireturn, 1) := by decide +kernel
theorem dX5_family_0 : decode cX5_family 0 = .ok (.iload_n 1, 1) := by decide +kernel
theorem dX5_family_1 : decode cX5_family 1 = .ok (.invokestatic 47, 3) := by decide +kernel
theorem dX5_family_4 : decode cX5_family 4 = .ok (.ifCond .ne 5, 3) := by decide +kernel
theorem dX5_family_7 : decode cX5_family 7 = .ok (.iconst (-1), 1) := by decide +kernel
theorem dX5_family_8 : decode cX5_family 8 = .ok (.ireturn, 1) := by decide +kernel
theorem dX5_family_9 : decode cX5_family 9 = .ok (.iload_n 2, 1) := by decide +kernel
theorem dX5_family_10 : decode cX5_family 10 = .ok (.iconst 0, 1) := by decide +kernel
theorem dX5_family_11 : decode cX5_family 11 = .ok (.iconst 1, 1) := by decide +kernel
theorem dX5_family_12 : decode cX5_family 12 = .ok (.invokestatic 39, 3) := by decide +kernel
theorem dX5_family_15 : decode cX5_family 15 = .ok (.ifCond .eq 22, 3) := by decide +kernel
theorem dX5_family_18 : decode cX5_family 18 = .ok (.iload_n 3, 1) := by decide +kernel
theorem dX5_family_19 : decode cX5_family 19 = .ok (.iload_n 2, 1) := by decide +kernel
theorem dX5_family_20 : decode cX5_family 20 = .ok (.iload_n 2, 1) := by decide +kernel
theorem dX5_family_21 : decode cX5_family 21 = .ok (.ifCond .ne 8, 3) := by decide +kernel
theorem dX5_family_24 : decode cX5_family 24 = .ok (.bipush 9, 2) := by decide +kernel
theorem dX5_family_26 : decode cX5_family 26 = .ok (.goto 5, 3) := by decide +kernel
theorem dX5_family_29 : decode cX5_family 29 = .ok (.bipush 20, 2) := by decide +kernel
theorem dX5_family_31 : decode cX5_family 31 = .ok (.invokestatic 39, 3) := by decide +kernel
theorem dX5_family_34 : decode cX5_family 34 = .ok (.ifCond .ne 6, 3) := by decide +kernel
theorem dX5_family_37 : decode cX5_family 37 = .ok (.bipush (-2), 2) := by decide +kernel
theorem dX5_family_39 : decode cX5_family 39 = .ok (.ireturn, 1) := by decide +kernel
theorem dX5_family_40 : decode cX5_family 40 = .ok (.aload_n 0, 1) := by decide +kernel
theorem dX5_family_41 : decode cX5_family 41 = .ok (.getfield 7, 3) := by decide +kernel
theorem dX5_family_44 : decode cX5_family 44 = .ok (.iconst 3, 1) := by decide +kernel
theorem dX5_family_45 : decode cX5_family 45 = .ok (.iload_n 2, 1) := by decide +kernel
theorem dX5_family_46 : decode cX5_family 46 = .ok (.imul, 1) := by decide +kernel
theorem dX5_family_47 : decode cX5_family 47 = .ok (.iload_n 1, 1) := by decide +kernel
theorem dX5_family_48 : decode cX5_family 48 = .ok (.iadd, 1) := by decide +kernel
theorem dX5_family_49 : decode cX5_family 49 = .ok (.iaload, 1) := by decide +kernel
theorem dX5_family_50 : decode cX5_family 50 = .ok (.istore 4, 2) := by decide +kernel
theorem dX5_family_52 : decode cX5_family 52 = .ok (.aload_n 0, 1) := by decide +kernel
theorem dX5_family_53 : decode cX5_family 53 = .ok (.getfield 7, 3) := by decide +kernel
theorem dX5_family_56 : decode cX5_family 56 = .ok (.iconst 3, 1) := by decide +kernel
theorem dX5_family_57 : decode cX5_family 57 = .ok (.iload_n 2, 1) := by decide +kernel
theorem dX5_family_58 : decode cX5_family 58 = .ok (.imul, 1) := by decide +kernel
theorem dX5_family_59 : decode cX5_family 59 = .ok (.iload_n 1, 1) := by decide +kernel
theorem dX5_family_60 : decode cX5_family 60 = .ok (.iadd, 1) := by decide +kernel
theorem dX5_family_61 : decode cX5_family 61 = .ok (.iload_n 3, 1) := by decide +kernel
theorem dX5_family_62 : decode cX5_family 62 = .ok (.iastore, 1) := by decide +kernel
theorem dX5_family_63 : decode cX5_family 63 = .ok (.iload 4, 2) := by decide +kernel
theorem dX5_family_65 : decode cX5_family 65 = .ok (.ireturn, 1) := by decide +kernel
theorem dX5_set_0 : decode cX5_set 0 = .ok (.iload_n 1, 1) := by decide +kernel
theorem dX5_set_1 : decode cX5_set 1 = .ok (.iconst 0, 1) := by decide +kernel
theorem dX5_set_2 : decode cX5_set 2 = .ok (.iconst 2, 1) := by decide +kernel
theorem dX5_set_3 : decode cX5_set 3 = .ok (.invokestatic 39, 3) := by decide +kernel
theorem dX5_set_6 : decode cX5_set 6 = .ok (.ifCond .eq 30, 3) := by decide +kernel
theorem dX5_set_9 : decode cX5_set 9 = .ok (.iload_n 2, 1) := by decide +kernel
theorem dX5_set_10 : decode cX5_set 10 = .ok (.iload_n 1, 1) := by decide +kernel
theorem dX5_set_11 : decode cX5_set 11 = .ok (.ifCond .ne 8, 3) := by decide +kernel
theorem dX5_set_14 : decode cX5_set 14 = .ok (.bipush 9, 2) := by decide +kernel
theorem dX5_set_16 : decode cX5_set 16 = .ok (.goto 4, 3) := by decide +kernel
theorem dX5_set_19 : decode cX5_set 19 = .ok (.iconst 0, 1) := by decide +kernel
theorem dX5_set_20 : decode cX5_set 20 = .ok (.iload_n 1, 1) := by decide +kernel
theorem dX5_set_21 : decode cX5_set 21 = .ok (.ifCond .ne 8, 3) := by decide +kernel
theorem dX5_set_24 : decode cX5_set 24 = .ok (.bipush 20, 2) := by decide +kernel
theorem dX5_set_26 : decode cX5_set 26 = .ok (.goto 4, 3) := by decide +kernel
theorem dX5_set_29 : decode cX5_set 29 = .ok (.iconst 3, 1) := by decide +kernel
theorem dX5_set_30 : decode cX5_set 30 = .ok (.invokestatic 39, 3) := by decide +kernel
theorem dX5_set_33 : decode cX5_set 33 = .ok (.ifCond .ne 6, 3) := by decide +kernel
theorem dX5_set_36 : decode cX5_set 36 = .ok (.bipush (-2), 2) := by decide +kernel
theorem dX5_set_38 : decode cX5_set 38 = .ok (.ireturn, 1) := by decide +kernel
theorem dX5_set_39 : decode cX5_set 39 = .ok (.aload_n 0, 1) := by decide +kernel
theorem dX5_set_40 : decode cX5_set 40 = .ok (.getfield 7, 3) := by decide +kernel
theorem dX5_set_43 : decode cX5_set 43 = .ok (.bipush 6, 2) := by decide +kernel
end
section
theorem dX5_set_45 : decode cX5_set 45 = .ok (.iload_n 1, 1) := by decide +kernel
theorem dX5_set_46 : decode cX5_set 46 = .ok (.iadd, 1) := by decide +kernel
theorem dX5_set_47 : decode cX5_set 47 = .ok (.iaload, 1) := by decide +kernel
theorem dX5_set_48 : decode cX5_set 48 = .ok (.istore_n 3, 1) := by decide +kernel
theorem dX5_set_49 : decode cX5_set 49 = .ok (.aload_n 0, 1) := by decide +kernel
theorem dX5_set_50 : decode cX5_set 50 = .ok (.getfield 7, 3) := by decide +kernel
theorem dX5_set_53 : decode cX5_set 53 = .ok (.bipush 6, 2) := by decide +kernel
theorem dX5_set_55 : decode cX5_set 55 = .ok (.iload_n 1, 1) := by decide +kernel
theorem dX5_set_56 : decode cX5_set 56 = .ok (.iadd, 1) := by decide +kernel
theorem dX5_set_57 : decode cX5_set 57 = .ok (.iload_n 2, 1) := by decide +kernel
theorem dX5_set_58 : decode cX5_set 58 = .ok (.iastore, 1) := by decide +kernel
theorem dX5_set_59 : decode cX5_set 59 = .ok (.iload_n 3, 1) := by decide +kernel
theorem dX5_set_60 : decode cX5_set 60 = .ok (.ireturn, 1) := by decide +kernel
theorem dX5_job_0 : decode cX5_job 0 = .ok (.iload_n 1, 1) := by decide +kernel
theorem dX5_job_1 : decode cX5_job 1 = .ok (.invokestatic 47, 3) := by decide +kernel
theorem dX5_job_4 : decode cX5_job 4 = .ok (.ifCond .ne 5, 3) := by decide +kernel
theorem dX5_job_7 : decode cX5_job 7 = .ok (.iconst (-1), 1) := by decide +kernel
theorem dX5_job_8 : decode cX5_job 8 = .ok (.ireturn, 1) := by decide +kernel
theorem dX5_job_9 : decode cX5_job 9 = .ok (.iload_n 2, 1) := by decide +kernel
theorem dX5_job_10 : decode cX5_job 10 = .ok (.iconst 1, 1) := by decide +kernel
theorem dX5_job_11 : decode cX5_job 11 = .ok (.bipush 9, 2) := by decide +kernel
theorem dX5_job_13 : decode cX5_job 13 = .ok (.invokestatic 39, 3) := by decide +kernel
theorem dX5_job_16 : decode cX5_job 16 = .ok (.ifCond .eq 13, 3) := by decide +kernel
theorem dX5_job_19 : decode cX5_job 19 = .ok (.iload_n 3, 1) := by decide +kernel
theorem dX5_job_20 : decode cX5_job 20 = .ok (.iconst 0, 1) := by decide +kernel
theorem dX5_job_21 : decode cX5_job 21 = .ok (.bipush 99, 2) := by decide +kernel
theorem dX5_job_23 : decode cX5_job 23 = .ok (.invokestatic 39, 3) := by decide +kernel
theorem dX5_job_26 : decode cX5_job 26 = .ok (.ifCond .ne 6, 3) := by decide +kernel
theorem dX5_job_29 : decode cX5_job 29 = .ok (.bipush (-2), 2) := by decide +kernel
theorem dX5_job_31 : decode cX5_job 31 = .ok (.ireturn, 1) := by decide +kernel
theorem dX5_job_32 : decode cX5_job 32 = .ok (.aload_n 0, 1) := by decide +kernel
theorem dX5_job_33 : decode cX5_job 33 = .ok (.invokevirtual 43, 3) := by decide +kernel
theorem dX5_job_36 : decode cX5_job 36 = .ok (.istore 4, 2) := by decide +kernel
theorem dX5_job_38 : decode cX5_job 38 = .ok (.iload 4, 2) := by decide +kernel
theorem dX5_job_40 : decode cX5_job 40 = .ok (.bipush 7, 2) := by decide +kernel
theorem dX5_job_42 : decode cX5_job 42 = .ok (.if_icmp .ne 6, 3) := by decide +kernel
theorem dX5_job_45 : decode cX5_job 45 = .ok (.bipush (-4), 2) := by decide +kernel
theorem dX5_job_47 : decode cX5_job 47 = .ok (.ireturn, 1) := by decide +kernel
theorem dX5_job_48 : decode cX5_job 48 = .ok (.aload_n 0, 1) := by decide +kernel
theorem dX5_job_49 : decode cX5_job 49 = .ok (.getfield 7, 3) := by decide +kernel
theorem dX5_job_52 : decode cX5_job 52 = .ok (.bipush 10, 2) := by decide +kernel
theorem dX5_job_54 : decode cX5_job 54 = .ok (.iload 4, 2) := by decide +kernel
theorem dX5_job_56 : decode cX5_job 56 = .ok (.iadd, 1) := by decide +kernel
theorem dX5_job_57 : decode cX5_job 57 = .ok (.iload_n 1, 1) := by decide +kernel
theorem dX5_job_58 : decode cX5_job 58 = .ok (.iastore, 1) := by decide +kernel
theorem dX5_job_59 : decode cX5_job 59 = .ok (.aload_n 0, 1) := by decide +kernel
theorem dX5_job_60 : decode cX5_job 60 = .ok (.getfield 7, 3) := by decide +kernel
theorem dX5_job_63 : decode cX5_job 63 = .ok (.bipush 17, 2) := by decide +kernel
theorem dX5_job_65 : decode cX5_job 65 = .ok (.iload 4, 2) := by decide +kernel
theorem dX5_job_67 : decode cX5_job 67 = .ok (.iadd, 1) := by decide +kernel
theorem dX5_job_68 : decode cX5_job 68 = .ok (.iload_n 2, 1) := by decide +kernel
theorem dX5_job_69 : decode cX5_job 69 = .ok (.iastore, 1) := by decide +kernel
theorem dX5_job_70 : decode cX5_job 70 = .ok (.aload_n 0, 1) := by decide +kernel
theorem dX5_job_71 : decode cX5_job 71 = .ok (.getfield 7, 3) := by decide +kernel
theorem dX5_job_74 : decode cX5_job 74 = .ok (.bipush 24, 2) := by decide +kernel
theorem dX5_job_76 : decode cX5_job 76 = .ok (.iload 4, 2) := by decide +kernel
theorem dX5_job_78 : decode cX5_job 78 = .ok (.iadd, 1) := by decide +kernel
theorem dX5_job_79 : decode cX5_job 79 = .ok (.iload_n 3, 1) := by decide +kernel
theorem dX5_job_80 : decode cX5_job 80 = .ok (.iastore, 1) := by decide +kernel
theorem dX5_job_81 : decode cX5_job 81 = .ok (.aload_n 0, 1) := by decide +kernel
theorem dX5_job_82 : decode cX5_job 82 = .ok (.getfield 7, 3) := by decide +kernel
theorem dX5_job_85 : decode cX5_job 85 = .ok (.bipush 9, 2) := by decide +kernel
theorem dX5_job_87 : decode cX5_job 87 = .ok (.dup2, 1) := by decide +kernel
theorem dX5_job_88 : decode cX5_job 88 = .ok (.iaload, 1) := by decide +kernel
theorem dX5_job_89 : decode cX5_job 89 = .ok (.iconst 1, 1) := by decide +kernel
theorem dX5_job_90 : decode cX5_job 90 = .ok (.iadd, 1) := by decide +kernel
theorem dX5_job_91 : decode cX5_job 91 = .ok (.iastore, 1) := by decide +kernel
theorem dX5_job_92 : decode cX5_job 92 = .ok (.iload 4, 2) := by decide +kernel
theorem dX5_job_94 : decode cX5_job 94 = .ok (.ireturn, 1) := by decide +kernel
theorem dX5_drop_0 : decode cX5_drop 0 = .ok (.aload_n 0, 1) := by decide +kernel
theorem dX5_drop_1 : decode cX5_drop 1 = .ok (.iload_n 1, 1) := by decide +kernel
theorem dX5_drop_2 : decode cX5_drop 2 = .ok (.invokevirtual 51, 3) := by decide +kernel
theorem dX5_drop_5 : decode cX5_drop 5 = .ok (.ifCond .ne 5, 3) := by decide +kernel
theorem dX5_drop_8 : decode cX5_drop 8 = .ok (.iconst (-1), 1) := by decide +kernel
theorem dX5_drop_9 : decode cX5_drop 9 = .ok (.ireturn, 1) := by decide +kernel
theorem dX5_drop_10 : decode cX5_drop 10 = .ok (.iload_n 1, 1) := by decide +kernel
theorem dX5_drop_11 : decode cX5_drop 11 = .ok (.istore_n 2, 1) := by decide +kernel
theorem dX5_drop_12 : decode cX5_drop 12 = .ok (.iload_n 2, 1) := by decide +kernel
theorem dX5_drop_13 : decode cX5_drop 13 = .ok (.iconst 1, 1) := by decide +kernel
theorem dX5_drop_14 : decode cX5_drop 14 = .ok (.iadd, 1) := by decide +kernel
theorem dX5_drop_15 : decode cX5_drop 15 = .ok (.aload_n 0, 1) := by decide +kernel
theorem dX5_drop_16 : decode cX5_drop 16 = .ok (.invokevirtual 43, 3) := by decide +kernel
theorem dX5_drop_19 : decode cX5_drop 19 = .ok (.if_icmp .ge 69, 3) := by decide +kernel
theorem dX5_drop_22 : decode cX5_drop 22 = .ok (.aload_n 0, 1) := by decide +kernel
theorem dX5_drop_23 : decode cX5_drop 23 = .ok (.getfield 7, 3) := by decide +kernel
theorem dX5_drop_26 : decode cX5_drop 26 = .ok (.bipush 10, 2) := by decide +kernel
theorem dX5_drop_28 : decode cX5_drop 28 = .ok (.iload_n 2, 1) := by decide +kernel
theorem dX5_drop_29 : decode cX5_drop 29 = .ok (.iadd, 1) := by decide +kernel
theorem dX5_drop_30 : decode cX5_drop 30 = .ok (.aload_n 0, 1) := by decide +kernel
theorem dX5_drop_31 : decode cX5_drop 31 = .ok (.getfield 7, 3) := by decide +kernel
theorem dX5_drop_34 : decode cX5_drop 34 = .ok (.bipush 10, 2) := by decide +kernel
theorem dX5_drop_36 : decode cX5_drop 36 = .ok (.iload_n 2, 1) := by decide +kernel
theorem dX5_drop_37 : decode cX5_drop 37 = .ok (.iadd, 1) := by decide +kernel
theorem dX5_drop_38 : decode cX5_drop 38 = .ok (.iconst 1, 1) := by decide +kernel
theorem dX5_drop_39 : decode cX5_drop 39 = .ok (.iadd, 1) := by decide +kernel
theorem dX5_drop_40 : decode cX5_drop 40 = .ok (.iaload, 1) := by decide +kernel
theorem dX5_drop_41 : decode cX5_drop 41 = .ok (.iastore, 1) := by decide +kernel
theorem dX5_drop_42 : decode cX5_drop 42 = .ok (.aload_n 0, 1) := by decide +kernel
theorem dX5_drop_43 : decode cX5_drop 43 = .ok (.getfield 7, 3) := by decide +kernel
theorem dX5_drop_46 : decode cX5_drop 46 = .ok (.bipush 17, 2) := by decide +kernel
theorem dX5_drop_48 : decode cX5_drop 48 = .ok (.iload_n 2, 1) := by decide +kernel
theorem dX5_drop_49 : decode cX5_drop 49 = .ok (.iadd, 1) := by decide +kernel
theorem dX5_drop_50 : decode cX5_drop 50 = .ok (.aload_n 0, 1) := by decide +kernel
theorem dX5_drop_51 : decode cX5_drop 51 = .ok (.getfield 7, 3) := by decide +kernel
theorem dX5_drop_54 : decode cX5_drop 54 = .ok (.bipush 17, 2) := by decide +kernel
theorem dX5_drop_56 : decode cX5_drop 56 = .ok (.iload_n 2, 1) := by decide +kernel
theorem dX5_drop_57 : decode cX5_drop 57 = .ok (.iadd, 1) := by decide +kernel
theorem dX5_drop_58 : decode cX5_drop 58 = .ok (.iconst 1, 1) := by decide +kernel
theorem dX5_drop_59 : decode cX5_drop 59 = .ok (.iadd, 1) := by decide +kernel
theorem dX5_drop_60 : decode cX5_drop 60 = .ok (.iaload, 1) := by decide +kernel
theorem dX5_drop_61 : decode cX5_drop 61 = .ok (.iastore, 1) := by decide +kernel
theorem dX5_drop_62 : decode cX5_drop 62 = .ok (.aload_n 0, 1) := by decide +kernel
theorem dX5_drop_63 : decode cX5_drop 63 = .ok (.getfield 7, 3) := by decide +kernel
theorem dX5_drop_66 : decode cX5_drop 66 = .ok (.bipush 24, 2) := by decide +kernel
theorem dX5_drop_68 : decode cX5_drop 68 = .ok (.iload_n 2, 1) := by decide +kernel
theorem dX5_drop_69 : decode cX5_drop 69 = .ok (.iadd, 1) := by decide +kernel
theorem dX5_drop_70 : decode cX5_drop 70 = .ok (.aload_n 0, 1) := by decide +kernel
theorem dX5_drop_71 : decode cX5_drop 71 = .ok (.getfield 7, 3) := by decide +kernel
theorem dX5_drop_74 : decode cX5_drop 74 = .ok (.bipush 24, 2) := by decide +kernel
theorem dX5_drop_76 : decode cX5_drop 76 = .ok (.iload_n 2, 1) := by decide +kernel
theorem dX5_drop_77 : decode cX5_drop 77 = .ok (.iadd, 1) := by decide +kernel
theorem dX5_drop_78 : decode cX5_drop 78 = .ok (.iconst 1, 1) := by decide +kernel
theorem dX5_drop_79 : decode cX5_drop 79 = .ok (.iadd, 1) := by decide +kernel
theorem dX5_drop_80 : decode cX5_drop 80 = .ok (.iaload, 1) := by decide +kernel
theorem dX5_drop_81 : decode cX5_drop 81 = .ok (.iastore, 1) := by decide +kernel
theorem dX5_drop_82 : decode cX5_drop 82 = .ok (.iinc 2 1, 3) := by decide +kernel
theorem dX5_drop_85 : decode cX5_drop 85 = .ok (.goto (-73), 3) := by decide +kernel
theorem dX5_drop_88 : decode cX5_drop 88 = .ok (.aload_n 0, 1) := by decide +kernel
theorem dX5_drop_89 : decode cX5_drop 89 = .ok (.getfield 7, 3) := by decide +kernel
theorem dX5_drop_92 : decode cX5_drop 92 = .ok (.bipush 9, 2) := by decide +kernel
theorem dX5_drop_94 : decode cX5_drop 94 = .ok (.dup2, 1) := by decide +kernel
theorem dX5_drop_95 : decode cX5_drop 95 = .ok (.iaload, 1) := by decide +kernel
theorem dX5_drop_96 : decode cX5_drop 96 = .ok (.iconst 1, 1) := by decide +kernel
theorem dX5_drop_97 : decode cX5_drop 97 = .ok (.isub, 1) := by decide +kernel
theorem dX5_drop_98 : decode cX5_drop 98 = .ok (.iastore, 1) := by decide +kernel
theorem dX5_drop_99 : decode cX5_drop 99 = .ok (.aload_n 0, 1) := by decide +kernel
theorem dX5_drop_100 : decode cX5_drop 100 = .ok (.invokevirtual 43, 3) := by decide +kernel
theorem dX5_drop_103 : decode cX5_drop 103 = .ok (.ireturn, 1) := by decide +kernel
theorem dX5_due_0 : decode cX5_due 0 = .ok (.aload_n 0, 1) := by decide +kernel
theorem dX5_due_1 : decode cX5_due 1 = .ok (.iload_n 1, 1) := by decide +kernel
theorem dX5_due_2 : decode cX5_due 2 = .ok (.invokevirtual 51, 3) := by decide +kernel
theorem dX5_due_5 : decode cX5_due 5 = .ok (.ifCond .ne 5, 3) := by decide +kernel
theorem dX5_due_8 : decode cX5_due 8 = .ok (.iconst (-1), 1) := by decide +kernel
theorem dX5_due_9 : decode cX5_due 9 = .ok (.ireturn, 1) := by decide +kernel
theorem dX5_due_10 : decode cX5_due 10 = .ok (.iload_n 2, 1) := by decide +kernel
theorem dX5_due_11 : decode cX5_due 11 = .ok (.iconst 0, 1) := by decide +kernel
theorem dX5_due_12 : decode cX5_due 12 = .ok (.bipush 99, 2) := by decide +kernel
theorem dX5_due_14 : decode cX5_due 14 = .ok (.invokestatic 39, 3) := by decide +kernel
theorem dX5_due_17 : decode cX5_due 17 = .ok (.ifCond .ne 6, 3) := by decide +kernel
theorem dX5_due_20 : decode cX5_due 20 = .ok (.bipush (-2), 2) := by decide +kernel
theorem dX5_due_22 : decode cX5_due 22 = .ok (.ireturn, 1) := by decide +kernel
theorem dX5_due_23 : decode cX5_due 23 = .ok (.aload_n 0, 1) := by decide +kernel
theorem dX5_due_24 : decode cX5_due 24 = .ok (.getfield 7, 3) := by decide +kernel
theorem dX5_due_27 : decode cX5_due 27 = .ok (.bipush 24, 2) := by decide +kernel
theorem dX5_due_29 : decode cX5_due 29 = .ok (.iload_n 1, 1) := by decide +kernel
theorem dX5_due_30 : decode cX5_due 30 = .ok (.iadd, 1) := by decide +kernel
theorem dX5_due_31 : decode cX5_due 31 = .ok (.iaload, 1) := by decide +kernel
theorem dX5_due_32 : decode cX5_due 32 = .ok (.istore_n 3, 1) := by decide +kernel
theorem dX5_due_33 : decode cX5_due 33 = .ok (.aload_n 0, 1) := by decide +kernel
theorem dX5_due_34 : decode cX5_due 34 = .ok (.getfield 7, 3) := by decide +kernel
theorem dX5_due_37 : decode cX5_due 37 = .ok (.bipush 24, 2) := by decide +kernel
theorem dX5_due_39 : decode cX5_due 39 = .ok (.iload_n 1, 1) := by decide +kernel
theorem dX5_due_40 : decode cX5_due 40 = .ok (.iadd, 1) := by decide +kernel
theorem dX5_due_41 : decode cX5_due 41 = .ok (.iload_n 2, 1) := by decide +kernel
theorem dX5_due_42 : decode cX5_due 42 = .ok (.iastore, 1) := by decide +kernel
theorem dX5_due_43 : decode cX5_due 43 = .ok (.iload_n 3, 1) := by decide +kernel
theorem dX5_due_44 : decode cX5_due 44 = .ok (.ireturn, 1) := by decide +kernel
theorem dX5_down_0 : decode cX5_down 0 = .ok (.iload_n 0, 1) := by decide +kernel
theorem dX5_down_1 : decode cX5_down 1 = .ok (.iload_n 1, 1) := by decide +kernel
theorem dX5_down_2 : decode cX5_down 2 = .ok (.idiv, 1) := by decide +kernel
theorem dX5_down_3 : decode cX5_down 3 = .ok (.istore_n 2, 1) := by decide +kernel
theorem dX5_down_4 : decode cX5_down 4 = .ok (.iload_n 0, 1) := by decide +kernel
theorem dX5_down_5 : decode cX5_down 5 = .ok (.ifCond .ge 16, 3) := by decide +kernel
theorem dX5_down_8 : decode cX5_down 8 = .ok (.iload_n 2, 1) := by decide +kernel
theorem dX5_down_9 : decode cX5_down 9 = .ok (.iload_n 1, 1) := by decide +kernel
theorem dX5_down_10 : decode cX5_down 10 = .ok (.imul, 1) := by decide +kernel
theorem dX5_down_11 : decode cX5_down 11 = .ok (.iload_n 0, 1) := by decide +kernel
theorem dX5_down_12 : decode cX5_down 12 = .ok (.if_icmp .eq 9, 3) := by decide +kernel
theorem dX5_down_15 : decode cX5_down 15 = .ok (.iload_n 2, 1) := by decide +kernel
theorem dX5_down_16 : decode cX5_down 16 = .ok (.iconst 1, 1) := by decide +kernel
theorem dX5_down_17 : decode cX5_down 17 = .ok (.isub, 1) := by decide +kernel
theorem dX5_down_18 : decode cX5_down 18 = .ok (.goto 4, 3) := by decide +kernel
theorem dX5_down_21 : decode cX5_down 21 = .ok (.iload_n 2, 1) := by decide +kernel
theorem dX5_down_22 : decode cX5_down 22 = .ok (.ireturn, 1) := by decide +kernel
theorem dX5_tight_0 : decode cX5_tight 0 = .ok (.aload_n 0, 1) := by decide +kernel
theorem dX5_tight_1 : decode cX5_tight 1 = .ok (.getfield 7, 3) := by decide +kernel
theorem dX5_tight_4 : decode cX5_tight 4 = .ok (.bipush 24, 2) := by decide +kernel
theorem dX5_tight_6 : decode cX5_tight 6 = .ok (.iload_n 1, 1) := by decide +kernel
theorem dX5_tight_7 : decode cX5_tight 7 = .ok (.iadd, 1) := by decide +kernel
theorem dX5_tight_8 : decode cX5_tight 8 = .ok (.iaload, 1) := by decide +kernel
theorem dX5_tight_9 : decode cX5_tight 9 = .ok (.aload_n 0, 1) := by decide +kernel
theorem dX5_tight_10 : decode cX5_tight 10 = .ok (.getfield 7, 3) := by decide +kernel
theorem dX5_tight_13 : decode cX5_tight 13 = .ok (.iconst 3, 1) := by decide +kernel
theorem dX5_tight_14 : decode cX5_tight 14 = .ok (.aload_n 0, 1) := by decide +kernel
theorem dX5_tight_15 : decode cX5_tight 15 = .ok (.getfield 7, 3) := by decide +kernel
theorem dX5_tight_18 : decode cX5_tight 18 = .ok (.bipush 10, 2) := by decide +kernel
theorem dX5_tight_20 : decode cX5_tight 20 = .ok (.iload_n 1, 1) := by decide +kernel
theorem dX5_tight_21 : decode cX5_tight 21 = .ok (.iadd, 1) := by decide +kernel
theorem dX5_tight_22 : decode cX5_tight 22 = .ok (.iaload, 1) := by decide +kernel
theorem dX5_tight_23 : decode cX5_tight 23 = .ok (.iadd, 1) := by decide +kernel
theorem dX5_tight_24 : decode cX5_tight 24 = .ok (.iaload, 1) := by decide +kernel
theorem dX5_tight_25 : decode cX5_tight 25 = .ok (.isub, 1) := by decide +kernel
theorem dX5_tight_26 : decode cX5_tight 26 = .ok (.aload_n 0, 1) := by decide +kernel
theorem dX5_tight_27 : decode cX5_tight 27 = .ok (.getfield 7, 3) := by decide +kernel
theorem dX5_tight_30 : decode cX5_tight 30 = .ok (.bipush 17, 2) := by decide +kernel
theorem dX5_tight_32 : decode cX5_tight 32 = .ok (.iload_n 1, 1) := by decide +kernel
theorem dX5_tight_33 : decode cX5_tight 33 = .ok (.iadd, 1) := by decide +kernel
theorem dX5_tight_34 : decode cX5_tight 34 = .ok (.iaload, 1) := by decide +kernel
theorem dX5_tight_35 : decode cX5_tight 35 = .ok (.invokestatic 54, 3) := by decide +kernel
theorem dX5_tight_38 : decode cX5_tight 38 = .ok (.ireturn, 1) := by decide +kernel
theorem dX5_of_0 : decode cX5_of 0 = .ok (.aload_n 0, 1) := by decide +kernel
theorem dX5_of_1 : decode cX5_of 1 = .ok (.iload_n 1, 1) := by decide +kernel
theorem dX5_of_2 : decode cX5_of 2 = .ok (.invokevirtual 51, 3) := by decide +kernel
theorem dX5_of_5 : decode cX5_of 5 = .ok (.ifCond .ne 5, 3) := by decide +kernel
theorem dX5_of_8 : decode cX5_of 8 = .ok (.iconst (-1), 1) := by decide +kernel
theorem dX5_of_9 : decode cX5_of 9 = .ok (.ireturn, 1) := by decide +kernel
theorem dX5_of_10 : decode cX5_of 10 = .ok (.iload_n 2, 1) := by decide +kernel
theorem dX5_of_11 : decode cX5_of 11 = .ok (.tableswitch 68 0 3 #[29, 39, 49, 59], 29) := by decide +kernel
theorem dX5_of_40 : decode cX5_of 40 = .ok (.aload_n 0, 1) := by decide +kernel
theorem dX5_of_41 : decode cX5_of 41 = .ok (.getfield 7, 3) := by decide +kernel
theorem dX5_of_44 : decode cX5_of 44 = .ok (.bipush 10, 2) := by decide +kernel
theorem dX5_of_46 : decode cX5_of 46 = .ok (.iload_n 1, 1) := by decide +kernel
theorem dX5_of_47 : decode cX5_of 47 = .ok (.iadd, 1) := by decide +kernel
theorem dX5_of_48 : decode cX5_of 48 = .ok (.iaload, 1) := by decide +kernel
theorem dX5_of_49 : decode cX5_of 49 = .ok (.ireturn, 1) := by decide +kernel
theorem dX5_of_50 : decode cX5_of 50 = .ok (.aload_n 0, 1) := by decide +kernel
theorem dX5_of_51 : decode cX5_of 51 = .ok (.getfield 7, 3) := by decide +kernel
theorem dX5_of_54 : decode cX5_of 54 = .ok (.bipush 17, 2) := by decide +kernel
theorem dX5_of_56 : decode cX5_of 56 = .ok (.iload_n 1, 1) := by decide +kernel
theorem dX5_of_57 : decode cX5_of 57 = .ok (.iadd, 1) := by decide +kernel
theorem dX5_of_58 : decode cX5_of 58 = .ok (.iaload, 1) := by decide +kernel
theorem dX5_of_59 : decode cX5_of 59 = .ok (.ireturn, 1) := by decide +kernel
theorem dX5_of_60 : decode cX5_of 60 = .ok (.aload_n 0, 1) := by decide +kernel
theorem dX5_of_61 : decode cX5_of 61 = .ok (.getfield 7, 3) := by decide +kernel
theorem dX5_of_64 : decode cX5_of 64 = .ok (.bipush 24, 2) := by decide +kernel
theorem dX5_of_66 : decode cX5_of 66 = .ok (.iload_n 1, 1) := by decide +kernel
theorem dX5_of_67 : decode cX5_of 67 = .ok (.iadd, 1) := by decide +kernel
theorem dX5_of_68 : decode cX5_of 68 = .ok (.iaload, 1) := by decide +kernel
theorem dX5_of_69 : decode cX5_of 69 = .ok (.ireturn, 1) := by decide +kernel
theorem dX5_of_70 : decode cX5_of 70 = .ok (.aload_n 0, 1) := by decide +kernel
theorem dX5_of_71 : decode cX5_of 71 = .ok (.iload_n 1, 1) := by decide +kernel
theorem dX5_of_72 : decode cX5_of 72 = .ok (.invokevirtual 58, 3) := by decide +kernel
theorem dX5_of_75 : decode cX5_of 75 = .ok (.bipush 100, 2) := by decide +kernel
theorem dX5_of_77 : decode cX5_of 77 = .ok (.iadd, 1) := by decide +kernel
theorem dX5_of_78 : decode cX5_of 78 = .ok (.ireturn, 1) := by decide +kernel
theorem dX5_of_79 : decode cX5_of 79 = .ok (.bipush (-2), 2) := by decide +kernel
theorem dX5_of_81 : decode cX5_of 81 = .ok (.ireturn, 1) := by decide +kernel
theorem dX5_has_0 : decode cX5_has 0 = .ok (.iload_n 0, 1) := by decide +kernel
theorem dX5_has_1 : decode cX5_has 1 = .ok (.iload_n 1, 1) := by decide +kernel
theorem dX5_has_2 : decode cX5_has 2 = .ok (.ishr, 1) := by decide +kernel
theorem dX5_has_3 : decode cX5_has 3 = .ok (.iconst 1, 1) := by decide +kernel
theorem dX5_has_4 : decode cX5_has 4 = .ok (.iand, 1) := by decide +kernel
theorem dX5_has_5 : decode cX5_has 5 = .ok (.iconst 1, 1) := by decide +kernel
theorem dX5_has_6 : decode cX5_has 6 = .ok (.if_icmp .ne 7, 3) := by decide +kernel
theorem dX5_has_9 : decode cX5_has 9 = .ok (.iconst 1, 1) := by decide +kernel
theorem dX5_has_10 : decode cX5_has 10 = .ok (.goto 4, 3) := by decide +kernel
theorem dX5_has_13 : decode cX5_has 13 = .ok (.iconst 0, 1) := by decide +kernel
theorem dX5_has_14 : decode cX5_has 14 = .ok (.ireturn, 1) := by decide +kernel
theorem dX5_volumeOf_0 : decode cX5_volumeOf 0 = .ok (.iconst 0, 1) := by decide +kernel
theorem dX5_volumeOf_1 : decode cX5_volumeOf 1 = .ok (.istore_n 2, 1) := by decide +kernel
theorem dX5_volumeOf_2 : decode cX5_volumeOf 2 = .ok (.iconst 0, 1) := by decide +kernel
theorem dX5_volumeOf_3 : decode cX5_volumeOf 3 = .ok (.istore_n 3, 1) := by decide +kernel
theorem dX5_volumeOf_4 : decode cX5_volumeOf 4 = .ok (.iload_n 3, 1) := by decide +kernel
theorem dX5_volumeOf_5 : decode cX5_volumeOf 5 = .ok (.aload_n 0, 1) := by decide +kernel
theorem dX5_volumeOf_6 : decode cX5_volumeOf 6 = .ok (.invokevirtual 43, 3) := by decide +kernel
theorem dX5_volumeOf_9 : decode cX5_volumeOf 9 = .ok (.if_icmp .ge 33, 3) := by decide +kernel
theorem dX5_volumeOf_12 : decode cX5_volumeOf 12 = .ok (.iload_n 2, 1) := by decide +kernel
theorem dX5_volumeOf_13 : decode cX5_volumeOf 13 = .ok (.iload_n 1, 1) := by decide +kernel
theorem dX5_volumeOf_14 : decode cX5_volumeOf 14 = .ok (.iload_n 3, 1) := by decide +kernel
theorem dX5_volumeOf_15 : decode cX5_volumeOf 15 = .ok (.invokestatic 62, 3) := by decide +kernel
theorem dX5_volumeOf_18 : decode cX5_volumeOf 18 = .ok (.ifCond .eq 15, 3) := by decide +kernel
theorem dX5_volumeOf_21 : decode cX5_volumeOf 21 = .ok (.aload_n 0, 1) := by decide +kernel
theorem dX5_volumeOf_22 : decode cX5_volumeOf 22 = .ok (.getfield 7, 3) := by decide +kernel
theorem dX5_volumeOf_25 : decode cX5_volumeOf 25 = .ok (.bipush 17, 2) := by decide +kernel
theorem dX5_volumeOf_27 : decode cX5_volumeOf 27 = .ok (.iload_n 3, 1) := by decide +kernel
theorem dX5_volumeOf_28 : decode cX5_volumeOf 28 = .ok (.iadd, 1) := by decide +kernel
theorem dX5_volumeOf_29 : decode cX5_volumeOf 29 = .ok (.iaload, 1) := by decide +kernel
theorem dX5_volumeOf_30 : decode cX5_volumeOf 30 = .ok (.goto 4, 3) := by decide +kernel
theorem dX5_volumeOf_33 : decode cX5_volumeOf 33 = .ok (.iconst 0, 1) := by decide +kernel
theorem dX5_volumeOf_34 : decode cX5_volumeOf 34 = .ok (.iadd, 1) := by decide +kernel
theorem dX5_volumeOf_35 : decode cX5_volumeOf 35 = .ok (.istore_n 2, 1) := by decide +kernel
theorem dX5_volumeOf_36 : decode cX5_volumeOf 36 = .ok (.iinc 3 1, 3) := by decide +kernel
theorem dX5_volumeOf_39 : decode cX5_volumeOf 39 = .ok (.goto (-35), 3) := by decide +kernel
theorem dX5_volumeOf_42 : decode cX5_volumeOf 42 = .ok (.iload_n 2, 1) := by decide +kernel
theorem dX5_volumeOf_43 : decode cX5_volumeOf 43 = .ok (.ireturn, 1) := by decide +kernel
theorem dX5_familyOf_0 : decode cX5_familyOf 0 = .ok (.bipush (-6), 2) := by decide +kernel
theorem dX5_familyOf_2 : decode cX5_familyOf 2 = .ok (.istore_n 2, 1) := by decide +kernel
theorem dX5_familyOf_3 : decode cX5_familyOf 3 = .ok (.iconst 0, 1) := by decide +kernel
theorem dX5_familyOf_4 : decode cX5_familyOf 4 = .ok (.istore_n 3, 1) := by decide +kernel
theorem dX5_familyOf_5 : decode cX5_familyOf 5 = .ok (.iload_n 3, 1) := by decide +kernel
theorem dX5_familyOf_6 : decode cX5_familyOf 6 = .ok (.aload_n 0, 1) := by decide +kernel
theorem dX5_familyOf_7 : decode cX5_familyOf 7 = .ok (.invokevirtual 43, 3) := by decide +kernel
theorem dX5_familyOf_10 : decode cX5_familyOf 10 = .ok (.if_icmp .ge 47, 3) := by decide +kernel
theorem dX5_familyOf_13 : decode cX5_familyOf 13 = .ok (.iload_n 1, 1) := by decide +kernel
theorem dX5_familyOf_14 : decode cX5_familyOf 14 = .ok (.iload_n 3, 1) := by decide +kernel
theorem dX5_familyOf_15 : decode cX5_familyOf 15 = .ok (.invokestatic 62, 3) := by decide +kernel
theorem dX5_familyOf_18 : decode cX5_familyOf 18 = .ok (.ifCond .eq 33, 3) := by decide +kernel
theorem dX5_familyOf_21 : decode cX5_familyOf 21 = .ok (.iload_n 2, 1) := by decide +kernel
theorem dX5_familyOf_22 : decode cX5_familyOf 22 = .ok (.ifCond .lt 19, 3) := by decide +kernel
theorem dX5_familyOf_25 : decode cX5_familyOf 25 = .ok (.iload_n 2, 1) := by decide +kernel
theorem dX5_familyOf_26 : decode cX5_familyOf 26 = .ok (.aload_n 0, 1) := by decide +kernel
theorem dX5_familyOf_27 : decode cX5_familyOf 27 = .ok (.getfield 7, 3) := by decide +kernel
theorem dX5_familyOf_30 : decode cX5_familyOf 30 = .ok (.bipush 10, 2) := by decide +kernel
theorem dX5_familyOf_32 : decode cX5_familyOf 32 = .ok (.iload_n 3, 1) := by decide +kernel
theorem dX5_familyOf_33 : decode cX5_familyOf 33 = .ok (.iadd, 1) := by decide +kernel
theorem dX5_familyOf_34 : decode cX5_familyOf 34 = .ok (.iaload, 1) := by decide +kernel
theorem dX5_familyOf_35 : decode cX5_familyOf 35 = .ok (.if_icmp .eq 6, 3) := by decide +kernel
theorem dX5_familyOf_38 : decode cX5_familyOf 38 = .ok (.bipush (-6), 2) := by decide +kernel
theorem dX5_familyOf_40 : decode cX5_familyOf 40 = .ok (.ireturn, 1) := by decide +kernel
theorem dX5_familyOf_41 : decode cX5_familyOf 41 = .ok (.aload_n 0, 1) := by decide +kernel
theorem dX5_familyOf_42 : decode cX5_familyOf 42 = .ok (.getfield 7, 3) := by decide +kernel
theorem dX5_familyOf_45 : decode cX5_familyOf 45 = .ok (.bipush 10, 2) := by decide +kernel
theorem dX5_familyOf_47 : decode cX5_familyOf 47 = .ok (.iload_n 3, 1) := by decide +kernel
theorem dX5_familyOf_48 : decode cX5_familyOf 48 = .ok (.iadd, 1) := by decide +kernel
theorem dX5_familyOf_49 : decode cX5_familyOf 49 = .ok (.iaload, 1) := by decide +kernel
theorem dX5_familyOf_50 : decode cX5_familyOf 50 = .ok (.istore_n 2, 1) := by decide +kernel
theorem dX5_familyOf_51 : decode cX5_familyOf 51 = .ok (.iinc 3 1, 3) := by decide +kernel
theorem dX5_familyOf_54 : decode cX5_familyOf 54 = .ok (.goto (-49), 3) := by decide +kernel
theorem dX5_familyOf_57 : decode cX5_familyOf 57 = .ok (.iload_n 2, 1) := by decide +kernel
theorem dX5_familyOf_58 : decode cX5_familyOf 58 = .ok (.ireturn, 1) := by decide +kernel
theorem dX5_changeOf_0 : decode cX5_changeOf 0 = .ok (.iload_n 2, 1) := by decide +kernel
theorem dX5_changeOf_1 : decode cX5_changeOf 1 = .ok (.iload_n 1, 1) := by decide +kernel
theorem dX5_changeOf_2 : decode cX5_changeOf 2 = .ok (.if_icmp .le 17, 3) := by decide +kernel
theorem dX5_changeOf_5 : decode cX5_changeOf 5 = .ok (.aload_n 0, 1) := by decide +kernel
theorem dX5_changeOf_6 : decode cX5_changeOf 6 = .ok (.getfield 7, 3) := by decide +kernel
theorem dX5_changeOf_9 : decode cX5_changeOf 9 = .ok (.bipush 7, 2) := by decide +kernel
theorem dX5_changeOf_11 : decode cX5_changeOf 11 = .ok (.iaload, 1) := by decide +kernel
theorem dX5_changeOf_12 : decode cX5_changeOf 12 = .ok (.iload_n 2, 1) := by decide +kernel
theorem dX5_changeOf_13 : decode cX5_changeOf 13 = .ok (.iload_n 1, 1) := by decide +kernel
theorem dX5_changeOf_14 : decode cX5_changeOf 14 = .ok (.isub, 1) := by decide +kernel
theorem dX5_changeOf_15 : decode cX5_changeOf 15 = .ok (.imul, 1) := by decide +kernel
theorem dX5_changeOf_16 : decode cX5_changeOf 16 = .ok (.goto 14, 3) := by decide +kernel
theorem dX5_changeOf_19 : decode cX5_changeOf 19 = .ok (.aload_n 0, 1) := by decide +kernel
theorem dX5_changeOf_20 : decode cX5_changeOf 20 = .ok (.getfield 7, 3) := by decide +kernel
theorem dX5_changeOf_23 : decode cX5_changeOf 23 = .ok (.bipush 8, 2) := by decide +kernel
theorem dX5_changeOf_25 : decode cX5_changeOf 25 = .ok (.iaload, 1) := by decide +kernel
theorem dX5_changeOf_26 : decode cX5_changeOf 26 = .ok (.iload_n 1, 1) := by decide +kernel
theorem dX5_changeOf_27 : decode cX5_changeOf 27 = .ok (.iload_n 2, 1) := by decide +kernel
theorem dX5_changeOf_28 : decode cX5_changeOf 28 = .ok (.isub, 1) := by decide +kernel
theorem dX5_changeOf_29 : decode cX5_changeOf 29 = .ok (.imul, 1) := by decide +kernel
theorem dX5_changeOf_30 : decode cX5_changeOf 30 = .ok (.ireturn, 1) := by decide +kernel
theorem dX5_endOf_0 : decode cX5_endOf 0 = .ok (.iload_n 2, 1) := by decide +kernel
theorem dX5_endOf_1 : decode cX5_endOf 1 = .ok (.iconst 3, 1) := by decide +kernel
theorem dX5_endOf_2 : decode cX5_endOf 2 = .ok (.if_icmp .ne 7, 3) := by decide +kernel
theorem dX5_endOf_5 : decode cX5_endOf 5 = .ok (.iconst 0, 1) := by decide +kernel
theorem dX5_endOf_6 : decode cX5_endOf 6 = .ok (.goto 11, 3) := by decide +kernel
theorem dX5_endOf_9 : decode cX5_endOf 9 = .ok (.aload_n 0, 1) := by decide +kernel
theorem dX5_endOf_10 : decode cX5_endOf 10 = .ok (.getfield 7, 3) := by decide +kernel
theorem dX5_endOf_13 : decode cX5_endOf 13 = .ok (.iconst 0, 1) := by decide +kernel
theorem dX5_endOf_14 : decode cX5_endOf 14 = .ok (.iload_n 2, 1) := by decide +kernel
theorem dX5_endOf_15 : decode cX5_endOf 15 = .ok (.iadd, 1) := by decide +kernel
theorem dX5_endOf_16 : decode cX5_endOf 16 = .ok (.iaload, 1) := by decide +kernel
theorem dX5_endOf_17 : decode cX5_endOf 17 = .ok (.istore 4, 2) := by decide +kernel
theorem dX5_endOf_19 : decode cX5_endOf 19 = .ok (.iload_n 1, 1) := by decide +kernel
theorem dX5_endOf_20 : decode cX5_endOf 20 = .ok (.aload_n 0, 1) := by decide +kernel
theorem dX5_endOf_21 : decode cX5_endOf 21 = .ok (.iload 4, 2) := by decide +kernel
theorem dX5_endOf_23 : decode cX5_endOf 23 = .ok (.aload_n 0, 1) := by decide +kernel
theorem dX5_endOf_24 : decode cX5_endOf 24 = .ok (.getfield 7, 3) := by decide +kernel
theorem dX5_endOf_27 : decode cX5_endOf 27 = .ok (.iconst 0, 1) := by decide +kernel
theorem dX5_endOf_28 : decode cX5_endOf 28 = .ok (.iload_n 3, 1) := by decide +kernel
theorem dX5_endOf_29 : decode cX5_endOf 29 = .ok (.iadd, 1) := by decide +kernel
theorem dX5_endOf_30 : decode cX5_endOf 30 = .ok (.iaload, 1) := by decide +kernel
theorem dX5_endOf_31 : decode cX5_endOf 31 = .ok (.invokevirtual 66, 3) := by decide +kernel
theorem dX5_endOf_34 : decode cX5_endOf 34 = .ok (.iadd, 1) := by decide +kernel
theorem dX5_endOf_35 : decode cX5_endOf 35 = .ok (.aload_n 0, 1) := by decide +kernel
theorem dX5_endOf_36 : decode cX5_endOf 36 = .ok (.getfield 7, 3) := by decide +kernel
theorem dX5_endOf_39 : decode cX5_endOf 39 = .ok (.iconst 3, 1) := by decide +kernel
theorem dX5_endOf_40 : decode cX5_endOf 40 = .ok (.iload_n 3, 1) := by decide +kernel
theorem dX5_endOf_41 : decode cX5_endOf 41 = .ok (.iadd, 1) := by decide +kernel
theorem dX5_endOf_42 : decode cX5_endOf 42 = .ok (.iaload, 1) := by decide +kernel
theorem dX5_endOf_43 : decode cX5_endOf 43 = .ok (.iadd, 1) := by decide +kernel
theorem dX5_endOf_44 : decode cX5_endOf 44 = .ok (.ireturn, 1) := by decide +kernel
theorem dX5_worstOf_0 : decode cX5_worstOf 0 = .ok (.iconst 0, 1) := by decide +kernel
theorem dX5_worstOf_1 : decode cX5_worstOf 1 = .ok (.istore_n 3, 1) := by decide +kernel
theorem dX5_worstOf_2 : decode cX5_worstOf 2 = .ok (.iconst 0, 1) := by decide +kernel
theorem dX5_worstOf_3 : decode cX5_worstOf 3 = .ok (.istore 4, 2) := by decide +kernel
theorem dX5_worstOf_5 : decode cX5_worstOf 5 = .ok (.iload 4, 2) := by decide +kernel
theorem dX5_worstOf_7 : decode cX5_worstOf 7 = .ok (.aload_n 0, 1) := by decide +kernel
theorem dX5_worstOf_8 : decode cX5_worstOf 8 = .ok (.invokevirtual 43, 3) := by decide +kernel
theorem dX5_worstOf_11 : decode cX5_worstOf 11 = .ok (.if_icmp .ge 49, 3) := by decide +kernel
theorem dX5_worstOf_14 : decode cX5_worstOf 14 = .ok (.iload_n 1, 1) := by decide +kernel
theorem dX5_worstOf_15 : decode cX5_worstOf 15 = .ok (.iload 4, 2) := by decide +kernel
theorem dX5_worstOf_17 : decode cX5_worstOf 17 = .ok (.invokestatic 62, 3) := by decide +kernel
theorem dX5_worstOf_20 : decode cX5_worstOf 20 = .ok (.ifCond .eq 18, 3) := by decide +kernel
theorem dX5_worstOf_23 : decode cX5_worstOf 23 = .ok (.iload_n 2, 1) := by decide +kernel
theorem dX5_worstOf_24 : decode cX5_worstOf 24 = .ok (.aload_n 0, 1) := by decide +kernel
theorem dX5_worstOf_25 : decode cX5_worstOf 25 = .ok (.getfield 7, 3) := by decide +kernel
theorem dX5_worstOf_28 : decode cX5_worstOf 28 = .ok (.bipush 24, 2) := by decide +kernel
theorem dX5_worstOf_30 : decode cX5_worstOf 30 = .ok (.iload 4, 2) := by decide +kernel
theorem dX5_worstOf_32 : decode cX5_worstOf 32 = .ok (.iadd, 1) := by decide +kernel
theorem dX5_worstOf_33 : decode cX5_worstOf 33 = .ok (.iaload, 1) := by decide +kernel
theorem dX5_worstOf_34 : decode cX5_worstOf 34 = .ok (.isub, 1) := by decide +kernel
theorem dX5_worstOf_35 : decode cX5_worstOf 35 = .ok (.goto 4, 3) := by decide +kernel
theorem dX5_worstOf_38 : decode cX5_worstOf 38 = .ok (.iconst 0, 1) := by decide +kernel
theorem dX5_worstOf_39 : decode cX5_worstOf 39 = .ok (.istore 5, 2) := by decide +kernel
theorem dX5_worstOf_41 : decode cX5_worstOf 41 = .ok (.iload 5, 2) := by decide +kernel
theorem dX5_worstOf_43 : decode cX5_worstOf 43 = .ok (.iload_n 3, 1) := by decide +kernel
theorem dX5_worstOf_44 : decode cX5_worstOf 44 = .ok (.if_icmp .le 8, 3) := by decide +kernel
theorem dX5_worstOf_47 : decode cX5_worstOf 47 = .ok (.iload 5, 2) := by decide +kernel
theorem dX5_worstOf_49 : decode cX5_worstOf 49 = .ok (.goto 4, 3) := by decide +kernel
theorem dX5_worstOf_52 : decode cX5_worstOf 52 = .ok (.iload_n 3, 1) := by decide +kernel
theorem dX5_worstOf_53 : decode cX5_worstOf 53 = .ok (.istore_n 3, 1) := by decide +kernel
theorem dX5_worstOf_54 : decode cX5_worstOf 54 = .ok (.iinc 4 1, 3) := by decide +kernel
theorem dX5_worstOf_57 : decode cX5_worstOf 57 = .ok (.goto (-52), 3) := by decide +kernel
theorem dX5_worstOf_60 : decode cX5_worstOf 60 = .ok (.iload_n 3, 1) := by decide +kernel
theorem dX5_worstOf_61 : decode cX5_worstOf 61 = .ok (.ireturn, 1) := by decide +kernel
theorem dX5_sumOf_0 : decode cX5_sumOf 0 = .ok (.iconst 0, 1) := by decide +kernel
theorem dX5_sumOf_1 : decode cX5_sumOf 1 = .ok (.istore_n 3, 1) := by decide +kernel
theorem dX5_sumOf_2 : decode cX5_sumOf 2 = .ok (.iconst 0, 1) := by decide +kernel
theorem dX5_sumOf_3 : decode cX5_sumOf 3 = .ok (.istore 4, 2) := by decide +kernel
theorem dX5_sumOf_5 : decode cX5_sumOf 5 = .ok (.iload 4, 2) := by decide +kernel
theorem dX5_sumOf_7 : decode cX5_sumOf 7 = .ok (.aload_n 0, 1) := by decide +kernel
theorem dX5_sumOf_8 : decode cX5_sumOf 8 = .ok (.invokevirtual 43, 3) := by decide +kernel
theorem dX5_sumOf_11 : decode cX5_sumOf 11 = .ok (.if_icmp .ge 50, 3) := by decide +kernel
theorem dX5_sumOf_14 : decode cX5_sumOf 14 = .ok (.iload_n 1, 1) := by decide +kernel
theorem dX5_sumOf_15 : decode cX5_sumOf 15 = .ok (.iload 4, 2) := by decide +kernel
theorem dX5_sumOf_17 : decode cX5_sumOf 17 = .ok (.invokestatic 62, 3) := by decide +kernel
theorem dX5_sumOf_20 : decode cX5_sumOf 20 = .ok (.ifCond .eq 18, 3) := by decide +kernel
theorem dX5_sumOf_23 : decode cX5_sumOf 23 = .ok (.iload_n 2, 1) := by decide +kernel
theorem dX5_sumOf_24 : decode cX5_sumOf 24 = .ok (.aload_n 0, 1) := by decide +kernel
theorem dX5_sumOf_25 : decode cX5_sumOf 25 = .ok (.getfield 7, 3) := by decide +kernel
theorem dX5_sumOf_28 : decode cX5_sumOf 28 = .ok (.bipush 24, 2) := by decide +kernel
theorem dX5_sumOf_30 : decode cX5_sumOf 30 = .ok (.iload 4, 2) := by decide +kernel
theorem dX5_sumOf_32 : decode cX5_sumOf 32 = .ok (.iadd, 1) := by decide +kernel
theorem dX5_sumOf_33 : decode cX5_sumOf 33 = .ok (.iaload, 1) := by decide +kernel
theorem dX5_sumOf_34 : decode cX5_sumOf 34 = .ok (.isub, 1) := by decide +kernel
theorem dX5_sumOf_35 : decode cX5_sumOf 35 = .ok (.goto 4, 3) := by decide +kernel
theorem dX5_sumOf_38 : decode cX5_sumOf 38 = .ok (.iconst 0, 1) := by decide +kernel
theorem dX5_sumOf_39 : decode cX5_sumOf 39 = .ok (.istore 5, 2) := by decide +kernel
theorem dX5_sumOf_41 : decode cX5_sumOf 41 = .ok (.iload_n 3, 1) := by decide +kernel
theorem dX5_sumOf_42 : decode cX5_sumOf 42 = .ok (.iload 5, 2) := by decide +kernel
theorem dX5_sumOf_44 : decode cX5_sumOf 44 = .ok (.ifCond .le 8, 3) := by decide +kernel
theorem dX5_sumOf_47 : decode cX5_sumOf 47 = .ok (.iload 5, 2) := by decide +kernel
theorem dX5_sumOf_49 : decode cX5_sumOf 49 = .ok (.goto 4, 3) := by decide +kernel
theorem dX5_sumOf_52 : decode cX5_sumOf 52 = .ok (.iconst 0, 1) := by decide +kernel
theorem dX5_sumOf_53 : decode cX5_sumOf 53 = .ok (.iadd, 1) := by decide +kernel
theorem dX5_sumOf_54 : decode cX5_sumOf 54 = .ok (.istore_n 3, 1) := by decide +kernel
theorem dX5_sumOf_55 : decode cX5_sumOf 55 = .ok (.iinc 4 1, 3) := by decide +kernel
theorem dX5_sumOf_58 : decode cX5_sumOf 58 = .ok (.goto (-53), 3) := by decide +kernel
theorem dX5_sumOf_61 : decode cX5_sumOf 61 = .ok (.iload_n 3, 1) := by decide +kernel
theorem dX5_sumOf_62 : decode cX5_sumOf 62 = .ok (.ireturn, 1) := by decide +kernel
theorem dX5_layEnds_0 : decode cX5_layEnds 0 = .ok (.iconst 0, 1) := by decide +kernel
theorem dX5_layEnds_1 : decode cX5_layEnds 1 = .ok (.istore_n 1, 1) := by decide +kernel
theorem dX5_layEnds_2 : decode cX5_layEnds 2 = .ok (.iconst 3, 1) := by decide +kernel
theorem dX5_layEnds_3 : decode cX5_layEnds 3 = .ok (.istore_n 2, 1) := by decide +kernel
theorem dX5_layEnds_4 : decode cX5_layEnds 4 = .ok (.iconst 0, 1) := by decide +kernel
theorem dX5_layEnds_5 : decode cX5_layEnds 5 = .ok (.istore_n 3, 1) := by decide +kernel
theorem dX5_layEnds_6 : decode cX5_layEnds 6 = .ok (.iload_n 3, 1) := by decide +kernel
theorem dX5_layEnds_7 : decode cX5_layEnds 7 = .ok (.aload_n 0, 1) := by decide +kernel
theorem dX5_layEnds_8 : decode cX5_layEnds 8 = .ok (.getfield 69, 3) := by decide +kernel
theorem dX5_layEnds_11 : decode cX5_layEnds 11 = .ok (.if_icmp .ge 40, 3) := by decide +kernel
theorem dX5_layEnds_14 : decode cX5_layEnds 14 = .ok (.aload_n 0, 1) := by decide +kernel
theorem dX5_layEnds_15 : decode cX5_layEnds 15 = .ok (.aload_n 0, 1) := by decide +kernel
theorem dX5_layEnds_16 : decode cX5_layEnds 16 = .ok (.getfield 23, 3) := by decide +kernel
theorem dX5_layEnds_19 : decode cX5_layEnds 19 = .ok (.iload_n 3, 1) := by decide +kernel
theorem dX5_layEnds_20 : decode cX5_layEnds 20 = .ok (.iaload, 1) := by decide +kernel
theorem dX5_layEnds_21 : decode cX5_layEnds 21 = .ok (.invokevirtual 73, 3) := by decide +kernel
theorem dX5_layEnds_24 : decode cX5_layEnds 24 = .ok (.istore 4, 2) := by decide +kernel
theorem dX5_layEnds_26 : decode cX5_layEnds 26 = .ok (.aload_n 0, 1) := by decide +kernel
theorem dX5_layEnds_27 : decode cX5_layEnds 27 = .ok (.iload_n 1, 1) := by decide +kernel
theorem dX5_layEnds_28 : decode cX5_layEnds 28 = .ok (.iload_n 2, 1) := by decide +kernel
theorem dX5_layEnds_29 : decode cX5_layEnds 29 = .ok (.iload 4, 2) := by decide +kernel
theorem dX5_layEnds_31 : decode cX5_layEnds 31 = .ok (.invokevirtual 76, 3) := by decide +kernel
theorem dX5_layEnds_34 : decode cX5_layEnds 34 = .ok (.istore_n 1, 1) := by decide +kernel
theorem dX5_layEnds_35 : decode cX5_layEnds 35 = .ok (.iload 4, 2) := by decide +kernel
theorem dX5_layEnds_37 : decode cX5_layEnds 37 = .ok (.istore_n 2, 1) := by decide +kernel
theorem dX5_layEnds_38 : decode cX5_layEnds 38 = .ok (.aload_n 0, 1) := by decide +kernel
theorem dX5_layEnds_39 : decode cX5_layEnds 39 = .ok (.getfield 26, 3) := by decide +kernel
theorem dX5_layEnds_42 : decode cX5_layEnds 42 = .ok (.iload_n 3, 1) := by decide +kernel
theorem dX5_layEnds_43 : decode cX5_layEnds 43 = .ok (.iload_n 1, 1) := by decide +kernel
theorem dX5_layEnds_44 : decode cX5_layEnds 44 = .ok (.iastore, 1) := by decide +kernel
theorem dX5_layEnds_45 : decode cX5_layEnds 45 = .ok (.iinc 3 1, 3) := by decide +kernel
theorem dX5_layEnds_48 : decode cX5_layEnds 48 = .ok (.goto (-42), 3) := by decide +kernel
theorem dX5_layEnds_51 : decode cX5_layEnds 51 = .ok (.return_, 1) := by decide +kernel
theorem dX5_measureOf_0 : decode cX5_measureOf 0 = .ok (.aload_n 0, 1) := by decide +kernel
theorem dX5_measureOf_1 : decode cX5_measureOf 1 = .ok (.invokevirtual 80, 3) := by decide +kernel
theorem dX5_measureOf_4 : decode cX5_measureOf 4 = .ok (.iconst 0, 1) := by decide +kernel
theorem dX5_measureOf_5 : decode cX5_measureOf 5 = .ok (.istore_n 2, 1) := by decide +kernel
theorem dX5_measureOf_6 : decode cX5_measureOf 6 = .ok (.iconst 0, 1) := by decide +kernel
theorem dX5_measureOf_7 : decode cX5_measureOf 7 = .ok (.istore_n 3, 1) := by decide +kernel
theorem dX5_measureOf_8 : decode cX5_measureOf 8 = .ok (.iconst 0, 1) := by decide +kernel
theorem dX5_measureOf_9 : decode cX5_measureOf 9 = .ok (.istore 4, 2) := by decide +kernel
theorem dX5_measureOf_11 : decode cX5_measureOf 11 = .ok (.iload 4, 2) := by decide +kernel
theorem dX5_measureOf_13 : decode cX5_measureOf 13 = .ok (.aload_n 0, 1) := by decide +kernel
theorem dX5_measureOf_14 : decode cX5_measureOf 14 = .ok (.getfield 69, 3) := by decide +kernel
theorem dX5_measureOf_17 : decode cX5_measureOf 17 = .ok (.if_icmp .ge 63, 3) := by decide +kernel
theorem dX5_measureOf_20 : decode cX5_measureOf 20 = .ok (.aload_n 0, 1) := by decide +kernel
theorem dX5_measureOf_21 : decode cX5_measureOf 21 = .ok (.aload_n 0, 1) := by decide +kernel
theorem dX5_measureOf_22 : decode cX5_measureOf 22 = .ok (.getfield 23, 3) := by decide +kernel
theorem dX5_measureOf_25 : decode cX5_measureOf 25 = .ok (.iload 4, 2) := by decide +kernel
theorem dX5_measureOf_27 : decode cX5_measureOf 27 = .ok (.iaload, 1) := by decide +kernel
theorem dX5_measureOf_28 : decode cX5_measureOf 28 = .ok (.aload_n 0, 1) := by decide +kernel
theorem dX5_measureOf_29 : decode cX5_measureOf 29 = .ok (.getfield 26, 3) := by decide +kernel
theorem dX5_measureOf_32 : decode cX5_measureOf 32 = .ok (.iload 4, 2) := by decide +kernel
theorem dX5_measureOf_34 : decode cX5_measureOf 34 = .ok (.iaload, 1) := by decide +kernel
theorem dX5_measureOf_35 : decode cX5_measureOf 35 = .ok (.invokevirtual 83, 3) := by decide +kernel
theorem dX5_measureOf_38 : decode cX5_measureOf 38 = .ok (.istore 5, 2) := by decide +kernel
theorem dX5_measureOf_40 : decode cX5_measureOf 40 = .ok (.iload 5, 2) := by decide +kernel
theorem dX5_measureOf_42 : decode cX5_measureOf 42 = .ok (.iload_n 2, 1) := by decide +kernel
theorem dX5_measureOf_43 : decode cX5_measureOf 43 = .ok (.if_icmp .le 8, 3) := by decide +kernel
theorem dX5_measureOf_46 : decode cX5_measureOf 46 = .ok (.iload 5, 2) := by decide +kernel
theorem dX5_measureOf_48 : decode cX5_measureOf 48 = .ok (.goto 4, 3) := by decide +kernel
theorem dX5_measureOf_51 : decode cX5_measureOf 51 = .ok (.iload_n 2, 1) := by decide +kernel
theorem dX5_measureOf_52 : decode cX5_measureOf 52 = .ok (.istore_n 2, 1) := by decide +kernel
theorem dX5_measureOf_53 : decode cX5_measureOf 53 = .ok (.iload_n 3, 1) := by decide +kernel
theorem dX5_measureOf_54 : decode cX5_measureOf 54 = .ok (.aload_n 0, 1) := by decide +kernel
theorem dX5_measureOf_55 : decode cX5_measureOf 55 = .ok (.aload_n 0, 1) := by decide +kernel
theorem dX5_measureOf_56 : decode cX5_measureOf 56 = .ok (.getfield 23, 3) := by decide +kernel
theorem dX5_measureOf_59 : decode cX5_measureOf 59 = .ok (.iload 4, 2) := by decide +kernel
theorem dX5_measureOf_61 : decode cX5_measureOf 61 = .ok (.iaload, 1) := by decide +kernel
theorem dX5_measureOf_62 : decode cX5_measureOf 62 = .ok (.aload_n 0, 1) := by decide +kernel
theorem dX5_measureOf_63 : decode cX5_measureOf 63 = .ok (.getfield 26, 3) := by decide +kernel
theorem dX5_measureOf_66 : decode cX5_measureOf 66 = .ok (.iload 4, 2) := by decide +kernel
theorem dX5_measureOf_68 : decode cX5_measureOf 68 = .ok (.iaload, 1) := by decide +kernel
theorem dX5_measureOf_69 : decode cX5_measureOf 69 = .ok (.invokevirtual 86, 3) := by decide +kernel
theorem dX5_measureOf_72 : decode cX5_measureOf 72 = .ok (.iadd, 1) := by decide +kernel
theorem dX5_measureOf_73 : decode cX5_measureOf 73 = .ok (.istore_n 3, 1) := by decide +kernel
theorem dX5_measureOf_74 : decode cX5_measureOf 74 = .ok (.iinc 4 1, 3) := by decide +kernel
theorem dX5_measureOf_77 : decode cX5_measureOf 77 = .ok (.goto (-66), 3) := by decide +kernel
theorem dX5_measureOf_80 : decode cX5_measureOf 80 = .ok (.iload_n 1, 1) := by decide +kernel
theorem dX5_measureOf_81 : decode cX5_measureOf 81 = .ok (.ifCond .ne 7, 3) := by decide +kernel
theorem dX5_measureOf_84 : decode cX5_measureOf 84 = .ok (.iload_n 2, 1) := by decide +kernel
theorem dX5_measureOf_85 : decode cX5_measureOf 85 = .ok (.goto 46, 3) := by decide +kernel
theorem dX5_measureOf_88 : decode cX5_measureOf 88 = .ok (.iload_n 1, 1) := by decide +kernel
theorem dX5_measureOf_89 : decode cX5_measureOf 89 = .ok (.iconst 1, 1) := by decide +kernel
theorem dX5_measureOf_90 : decode cX5_measureOf 90 = .ok (.if_icmp .ne 7, 3) := by decide +kernel
theorem dX5_measureOf_93 : decode cX5_measureOf 93 = .ok (.iload_n 3, 1) := by decide +kernel
theorem dX5_measureOf_94 : decode cX5_measureOf 94 = .ok (.goto 37, 3) := by decide +kernel
theorem dX5_measureOf_97 : decode cX5_measureOf 97 = .ok (.iload_n 1, 1) := by decide +kernel
theorem dX5_measureOf_98 : decode cX5_measureOf 98 = .ok (.iconst 3, 1) := by decide +kernel
theorem dX5_measureOf_99 : decode cX5_measureOf 99 = .ok (.if_icmp .ne 10, 3) := by decide +kernel
theorem dX5_measureOf_102 : decode cX5_measureOf 102 = .ok (.aload_n 0, 1) := by decide +kernel
theorem dX5_measureOf_103 : decode cX5_measureOf 103 = .ok (.getfield 69, 3) := by decide +kernel
theorem dX5_measureOf_106 : decode cX5_measureOf 106 = .ok (.goto 25, 3) := by decide +kernel
theorem dX5_measureOf_109 : decode cX5_measureOf 109 = .ok (.aload_n 0, 1) := by decide +kernel
theorem dX5_measureOf_110 : decode cX5_measureOf 110 = .ok (.getfield 69, 3) := by decide +kernel
theorem dX5_measureOf_113 : decode cX5_measureOf 113 = .ok (.ifCond .ne 7, 3) := by decide +kernel
theorem dX5_measureOf_116 : decode cX5_measureOf 116 = .ok (.iconst 0, 1) := by decide +kernel
theorem dX5_measureOf_117 : decode cX5_measureOf 117 = .ok (.goto 14, 3) := by decide +kernel
theorem dX5_measureOf_120 : decode cX5_measureOf 120 = .ok (.aload_n 0, 1) := by decide +kernel
theorem dX5_measureOf_121 : decode cX5_measureOf 121 = .ok (.getfield 26, 3) := by decide +kernel
theorem dX5_measureOf_124 : decode cX5_measureOf 124 = .ok (.aload_n 0, 1) := by decide +kernel
theorem dX5_measureOf_125 : decode cX5_measureOf 125 = .ok (.getfield 69, 3) := by decide +kernel
theorem dX5_measureOf_128 : decode cX5_measureOf 128 = .ok (.iconst 1, 1) := by decide +kernel
theorem dX5_measureOf_129 : decode cX5_measureOf 129 = .ok (.isub, 1) := by decide +kernel
theorem dX5_measureOf_130 : decode cX5_measureOf 130 = .ok (.iaload, 1) := by decide +kernel
theorem dX5_measureOf_131 : decode cX5_measureOf 131 = .ok (.ireturn, 1) := by decide +kernel
theorem dX5_batchOf_0 : decode cX5_batchOf 0 = .ok (.bipush (-6), 2) := by decide +kernel
theorem dX5_batchOf_2 : decode cX5_batchOf 2 = .ok (.istore_n 2, 1) := by decide +kernel
theorem dX5_batchOf_3 : decode cX5_batchOf 3 = .ok (.iconst 0, 1) := by decide +kernel
theorem dX5_batchOf_4 : decode cX5_batchOf 4 = .ok (.istore_n 3, 1) := by decide +kernel
theorem dX5_batchOf_5 : decode cX5_batchOf 5 = .ok (.iload_n 3, 1) := by decide +kernel
theorem dX5_batchOf_6 : decode cX5_batchOf 6 = .ok (.aload_n 0, 1) := by decide +kernel
theorem dX5_batchOf_7 : decode cX5_batchOf 7 = .ok (.getfield 69, 3) := by decide +kernel
theorem dX5_batchOf_10 : decode cX5_batchOf 10 = .ok (.if_icmp .ge 28, 3) := by decide +kernel
theorem dX5_batchOf_13 : decode cX5_batchOf 13 = .ok (.aload_n 0, 1) := by decide +kernel
theorem dX5_batchOf_14 : decode cX5_batchOf 14 = .ok (.getfield 23, 3) := by decide +kernel
theorem dX5_batchOf_17 : decode cX5_batchOf 17 = .ok (.iload_n 3, 1) := by decide +kernel
theorem dX5_batchOf_18 : decode cX5_batchOf 18 = .ok (.iaload, 1) := by decide +kernel
theorem dX5_batchOf_19 : decode cX5_batchOf 19 = .ok (.iload_n 1, 1) := by decide +kernel
theorem dX5_batchOf_20 : decode cX5_batchOf 20 = .ok (.invokestatic 62, 3) := by decide +kernel
theorem dX5_batchOf_23 : decode cX5_batchOf 23 = .ok (.ifCond .eq 7, 3) := by decide +kernel
theorem dX5_batchOf_26 : decode cX5_batchOf 26 = .ok (.iload_n 3, 1) := by decide +kernel
theorem dX5_batchOf_27 : decode cX5_batchOf 27 = .ok (.goto 4, 3) := by decide +kernel
theorem dX5_batchOf_30 : decode cX5_batchOf 30 = .ok (.iload_n 2, 1) := by decide +kernel
theorem dX5_batchOf_31 : decode cX5_batchOf 31 = .ok (.istore_n 2, 1) := by decide +kernel
theorem dX5_batchOf_32 : decode cX5_batchOf 32 = .ok (.iinc 3 1, 3) := by decide +kernel
theorem dX5_batchOf_35 : decode cX5_batchOf 35 = .ok (.goto (-30), 3) := by decide +kernel
theorem dX5_batchOf_38 : decode cX5_batchOf 38 = .ok (.iload_n 2, 1) := by decide +kernel
theorem dX5_batchOf_39 : decode cX5_batchOf 39 = .ok (.ireturn, 1) := by decide +kernel
theorem dX5_place_0 : decode cX5_place 0 = .ok (.iload_n 0, 1) := by decide +kernel
theorem dX5_place_1 : decode cX5_place 1 = .ok (.iconst 4, 1) := by decide +kernel
theorem dX5_place_2 : decode cX5_place 2 = .ok (.imul, 1) := by decide +kernel
theorem dX5_place_3 : decode cX5_place 3 = .ok (.iload_n 1, 1) := by decide +kernel
theorem dX5_place_4 : decode cX5_place 4 = .ok (.iadd, 1) := by decide +kernel
theorem dX5_place_5 : decode cX5_place 5 = .ok (.sipush 330, 3) := by decide +kernel
theorem dX5_place_8 : decode cX5_place 8 = .ok (.imul, 1) := by decide +kernel
theorem dX5_place_9 : decode cX5_place 9 = .ok (.iload_n 2, 1) := by decide +kernel
theorem dX5_place_10 : decode cX5_place 10 = .ok (.iadd, 1) := by decide +kernel
theorem dX5_place_11 : decode cX5_place 11 = .ok (.ireturn, 1) := by decide +kernel
theorem dX5_full_0 : decode cX5_full 0 = .ok (.iconst 1, 1) := by decide +kernel
theorem dX5_full_1 : decode cX5_full 1 = .ok (.aload_n 0, 1) := by decide +kernel
theorem dX5_full_2 : decode cX5_full 2 = .ok (.invokevirtual 43, 3) := by decide +kernel
theorem dX5_full_5 : decode cX5_full 5 = .ok (.ishl, 1) := by decide +kernel
theorem dX5_full_6 : decode cX5_full 6 = .ok (.iconst 1, 1) := by decide +kernel
theorem dX5_full_7 : decode cX5_full 7 = .ok (.isub, 1) := by decide +kernel
theorem dX5_full_8 : decode cX5_full 8 = .ok (.ireturn, 1) := by decide +kernel
theorem dX5_layBatches_0 : decode cX5_layBatches 0 = .ok (.iconst 0, 1) := by decide +kernel
theorem dX5_layBatches_1 : decode cX5_layBatches 1 = .ok (.istore_n 1, 1) := by decide +kernel
theorem dX5_layBatches_2 : decode cX5_layBatches 2 = .ok (.iload_n 1, 1) := by decide +kernel
theorem dX5_layBatches_3 : decode cX5_layBatches 3 = .ok (.aload_n 0, 1) := by decide +kernel
theorem dX5_layBatches_4 : decode cX5_layBatches 4 = .ok (.invokevirtual 89, 3) := by decide +kernel
theorem dX5_layBatches_7 : decode cX5_layBatches 7 = .ok (.if_icmp .gt 40, 3) := by decide +kernel
theorem dX5_layBatches_10 : decode cX5_layBatches 10 = .ok (.aload_n 0, 1) := by decide +kernel
theorem dX5_layBatches_11 : decode cX5_layBatches 11 = .ok (.getfield 29, 3) := by decide +kernel
theorem dX5_layBatches_14 : decode cX5_layBatches 14 = .ok (.iload_n 1, 1) := by decide +kernel
theorem dX5_layBatches_15 : decode cX5_layBatches 15 = .ok (.aload_n 0, 1) := by decide +kernel
theorem dX5_layBatches_16 : decode cX5_layBatches 16 = .ok (.iload_n 1, 1) := by decide +kernel
theorem dX5_layBatches_17 : decode cX5_layBatches 17 = .ok (.invokevirtual 92, 3) := by decide +kernel
theorem dX5_layBatches_20 : decode cX5_layBatches 20 = .ok (.aload_n 0, 1) := by decide +kernel
theorem dX5_layBatches_21 : decode cX5_layBatches 21 = .ok (.getfield 7, 3) := by decide +kernel
theorem dX5_layBatches_24 : decode cX5_layBatches 24 = .ok (.bipush 6, 2) := by decide +kernel
theorem dX5_layBatches_26 : decode cX5_layBatches 26 = .ok (.iaload, 1) := by decide +kernel
theorem dX5_layBatches_27 : decode cX5_layBatches 27 = .ok (.if_icmp .gt 11, 3) := by decide +kernel
theorem dX5_layBatches_30 : decode cX5_layBatches 30 = .ok (.aload_n 0, 1) := by decide +kernel
theorem dX5_layBatches_31 : decode cX5_layBatches 31 = .ok (.iload_n 1, 1) := by decide +kernel
theorem dX5_layBatches_32 : decode cX5_layBatches 32 = .ok (.invokevirtual 73, 3) := by decide +kernel
theorem dX5_layBatches_35 : decode cX5_layBatches 35 = .ok (.goto 5, 3) := by decide +kernel
theorem dX5_layBatches_38 : decode cX5_layBatches 38 = .ok (.bipush (-6), 2) := by decide +kernel
theorem dX5_layBatches_40 : decode cX5_layBatches 40 = .ok (.iastore, 1) := by decide +kernel
theorem dX5_layBatches_41 : decode cX5_layBatches 41 = .ok (.iinc 1 1, 3) := by decide +kernel
theorem dX5_layBatches_44 : decode cX5_layBatches 44 = .ok (.goto (-42), 3) := by decide +kernel
theorem dX5_layBatches_47 : decode cX5_layBatches 47 = .ok (.return_, 1) := by decide +kernel
theorem dX5_markFrom_0 : decode cX5_markFrom 0 = .ok (.iconst 1, 1) := by decide +kernel
theorem dX5_markFrom_1 : decode cX5_markFrom 1 = .ok (.istore 4, 2) := by decide +kernel
theorem dX5_markFrom_3 : decode cX5_markFrom 3 = .ok (.iload 4, 2) := by decide +kernel
theorem dX5_markFrom_5 : decode cX5_markFrom 5 = .ok (.aload_n 0, 1) := by decide +kernel
theorem dX5_markFrom_6 : decode cX5_markFrom 6 = .ok (.invokevirtual 89, 3) := by decide +kernel
theorem dX5_markFrom_9 : decode cX5_markFrom 9 = .ok (.if_icmp .gt 59, 3) := by decide +kernel
theorem dX5_markFrom_12 : decode cX5_markFrom 12 = .ok (.iload 4, 2) := by decide +kernel
theorem dX5_markFrom_14 : decode cX5_markFrom 14 = .ok (.iload_n 1, 1) := by decide +kernel
theorem dX5_markFrom_15 : decode cX5_markFrom 15 = .ok (.iand, 1) := by decide +kernel
theorem dX5_markFrom_16 : decode cX5_markFrom 16 = .ok (.ifCond .ne 46, 3) := by decide +kernel
theorem dX5_markFrom_19 : decode cX5_markFrom 19 = .ok (.aload_n 0, 1) := by decide +kernel
theorem dX5_markFrom_20 : decode cX5_markFrom 20 = .ok (.getfield 29, 3) := by decide +kernel
theorem dX5_markFrom_23 : decode cX5_markFrom 23 = .ok (.iload 4, 2) := by decide +kernel
theorem dX5_markFrom_25 : decode cX5_markFrom 25 = .ok (.iaload, 1) := by decide +kernel
theorem dX5_markFrom_26 : decode cX5_markFrom 26 = .ok (.ifCond .lt 36, 3) := by decide +kernel
theorem dX5_markFrom_29 : decode cX5_markFrom 29 = .ok (.aload_n 0, 1) := by decide +kernel
theorem dX5_markFrom_30 : decode cX5_markFrom 30 = .ok (.getfield 33, 3) := by decide +kernel
theorem dX5_markFrom_33 : decode cX5_markFrom 33 = .ok (.iload_n 1, 1) := by decide +kernel
theorem dX5_markFrom_34 : decode cX5_markFrom 34 = .ok (.iload 4, 2) := by decide +kernel
theorem dX5_markFrom_36 : decode cX5_markFrom 36 = .ok (.ior, 1) := by decide +kernel
theorem dX5_markFrom_37 : decode cX5_markFrom 37 = .ok (.aload_n 0, 1) := by decide +kernel
theorem dX5_markFrom_38 : decode cX5_markFrom 38 = .ok (.getfield 29, 3) := by decide +kernel
theorem dX5_markFrom_41 : decode cX5_markFrom 41 = .ok (.iload 4, 2) := by decide +kernel
theorem dX5_markFrom_43 : decode cX5_markFrom 43 = .ok (.iaload, 1) := by decide +kernel
theorem dX5_markFrom_44 : decode cX5_markFrom 44 = .ok (.aload_n 0, 1) := by decide +kernel
theorem dX5_markFrom_45 : decode cX5_markFrom 45 = .ok (.iload_n 3, 1) := by decide +kernel
theorem dX5_markFrom_46 : decode cX5_markFrom 46 = .ok (.iload_n 2, 1) := by decide +kernel
theorem dX5_markFrom_47 : decode cX5_markFrom 47 = .ok (.aload_n 0, 1) := by decide +kernel
theorem dX5_markFrom_48 : decode cX5_markFrom 48 = .ok (.getfield 29, 3) := by decide +kernel
theorem dX5_markFrom_51 : decode cX5_markFrom 51 = .ok (.iload 4, 2) := by decide +kernel
theorem dX5_markFrom_53 : decode cX5_markFrom 53 = .ok (.iaload, 1) := by decide +kernel
theorem dX5_markFrom_54 : decode cX5_markFrom 54 = .ok (.invokevirtual 76, 3) := by decide +kernel
theorem dX5_markFrom_57 : decode cX5_markFrom 57 = .ok (.invokestatic 95, 3) := by decide +kernel
theorem dX5_markFrom_60 : decode cX5_markFrom 60 = .ok (.iconst 1, 1) := by decide +kernel
theorem dX5_markFrom_61 : decode cX5_markFrom 61 = .ok (.bastore, 1) := by decide +kernel
theorem dX5_markFrom_62 : decode cX5_markFrom 62 = .ok (.iinc 4 1, 3) := by decide +kernel
theorem dX5_markFrom_65 : decode cX5_markFrom 65 = .ok (.goto (-62), 3) := by decide +kernel
theorem dX5_markFrom_68 : decode cX5_markFrom 68 = .ok (.return_, 1) := by decide +kernel
theorem dX5_markAll_0 : decode cX5_markAll 0 = .ok (.iconst 0, 1) := by decide +kernel
theorem dX5_markAll_1 : decode cX5_markAll 1 = .ok (.istore_n 1, 1) := by decide +kernel
theorem dX5_markAll_2 : decode cX5_markAll 2 = .ok (.iload_n 1, 1) := by decide +kernel
theorem dX5_markAll_3 : decode cX5_markAll 3 = .ok (.aload_n 0, 1) := by decide +kernel
theorem dX5_markAll_4 : decode cX5_markAll 4 = .ok (.invokevirtual 89, 3) := by decide +kernel
theorem dX5_markAll_7 : decode cX5_markAll 7 = .ok (.iconst 1, 1) := by decide +kernel
theorem dX5_markAll_8 : decode cX5_markAll 8 = .ok (.iadd, 1) := by decide +kernel
theorem dX5_markAll_9 : decode cX5_markAll 9 = .ok (.iconst 0, 1) := by decide +kernel
theorem dX5_markAll_10 : decode cX5_markAll 10 = .ok (.iconst 0, 1) := by decide +kernel
theorem dX5_markAll_11 : decode cX5_markAll 11 = .ok (.invokestatic 95, 3) := by decide +kernel
theorem dX5_markAll_14 : decode cX5_markAll 14 = .ok (.if_icmp .ge 16, 3) := by decide +kernel
theorem dX5_markAll_17 : decode cX5_markAll 17 = .ok (.aload_n 0, 1) := by decide +kernel
theorem dX5_markAll_18 : decode cX5_markAll 18 = .ok (.getfield 33, 3) := by decide +kernel
theorem dX5_markAll_21 : decode cX5_markAll 21 = .ok (.iload_n 1, 1) := by decide +kernel
theorem dX5_markAll_22 : decode cX5_markAll 22 = .ok (.iconst 0, 1) := by decide +kernel
theorem dX5_markAll_23 : decode cX5_markAll 23 = .ok (.bastore, 1) := by decide +kernel
theorem dX5_markAll_24 : decode cX5_markAll 24 = .ok (.iinc 1 1, 3) := by decide +kernel
theorem dX5_markAll_27 : decode cX5_markAll 27 = .ok (.goto (-25), 3) := by decide +kernel
theorem dX5_markAll_30 : decode cX5_markAll 30 = .ok (.aload_n 0, 1) := by decide +kernel
theorem dX5_markAll_31 : decode cX5_markAll 31 = .ok (.getfield 33, 3) := by decide +kernel
theorem dX5_markAll_34 : decode cX5_markAll 34 = .ok (.iconst 0, 1) := by decide +kernel
theorem dX5_markAll_35 : decode cX5_markAll 35 = .ok (.iconst 3, 1) := by decide +kernel
theorem dX5_markAll_36 : decode cX5_markAll 36 = .ok (.iconst 0, 1) := by decide +kernel
theorem dX5_markAll_37 : decode cX5_markAll 37 = .ok (.invokestatic 95, 3) := by decide +kernel
theorem dX5_markAll_40 : decode cX5_markAll 40 = .ok (.iconst 1, 1) := by decide +kernel
theorem dX5_markAll_41 : decode cX5_markAll 41 = .ok (.bastore, 1) := by decide +kernel
theorem dX5_markAll_42 : decode cX5_markAll 42 = .ok (.iconst 0, 1) := by decide +kernel
theorem dX5_markAll_43 : decode cX5_markAll 43 = .ok (.istore_n 1, 1) := by decide +kernel
theorem dX5_markAll_44 : decode cX5_markAll 44 = .ok (.iload_n 1, 1) := by decide +kernel
theorem dX5_markAll_45 : decode cX5_markAll 45 = .ok (.aload_n 0, 1) := by decide +kernel
theorem dX5_markAll_46 : decode cX5_markAll 46 = .ok (.invokevirtual 89, 3) := by decide +kernel
theorem dX5_markAll_49 : decode cX5_markAll 49 = .ok (.if_icmp .ge 58, 3) := by decide +kernel
theorem dX5_markAll_52 : decode cX5_markAll 52 = .ok (.iconst 0, 1) := by decide +kernel
theorem dX5_markAll_53 : decode cX5_markAll 53 = .ok (.istore_n 2, 1) := by decide +kernel
theorem dX5_markAll_54 : decode cX5_markAll 54 = .ok (.iload_n 2, 1) := by decide +kernel
theorem dX5_markAll_55 : decode cX5_markAll 55 = .ok (.iconst 3, 1) := by decide +kernel
theorem dX5_markAll_56 : decode cX5_markAll 56 = .ok (.if_icmp .gt 45, 3) := by decide +kernel
theorem dX5_markAll_59 : decode cX5_markAll 59 = .ok (.iconst 0, 1) := by decide +kernel
theorem dX5_markAll_60 : decode cX5_markAll 60 = .ok (.istore_n 3, 1) := by decide +kernel
theorem dX5_markAll_61 : decode cX5_markAll 61 = .ok (.iload_n 3, 1) := by decide +kernel
theorem dX5_markAll_62 : decode cX5_markAll 62 = .ok (.sipush 330, 3) := by decide +kernel
theorem dX5_markAll_65 : decode cX5_markAll 65 = .ok (.if_icmp .ge 30, 3) := by decide +kernel
theorem dX5_markAll_68 : decode cX5_markAll 68 = .ok (.aload_n 0, 1) := by decide +kernel
theorem dX5_markAll_69 : decode cX5_markAll 69 = .ok (.getfield 33, 3) := by decide +kernel
theorem dX5_markAll_72 : decode cX5_markAll 72 = .ok (.iload_n 1, 1) := by decide +kernel
theorem dX5_markAll_73 : decode cX5_markAll 73 = .ok (.iload_n 2, 1) := by decide +kernel
theorem dX5_markAll_74 : decode cX5_markAll 74 = .ok (.iload_n 3, 1) := by decide +kernel
theorem dX5_markAll_75 : decode cX5_markAll 75 = .ok (.invokestatic 95, 3) := by decide +kernel
theorem dX5_markAll_78 : decode cX5_markAll 78 = .ok (.baload, 1) := by decide +kernel
theorem dX5_markAll_79 : decode cX5_markAll 79 = .ok (.ifCond .eq 10, 3) := by decide +kernel
theorem dX5_markAll_82 : decode cX5_markAll 82 = .ok (.aload_n 0, 1) := by decide +kernel
theorem dX5_markAll_83 : decode cX5_markAll 83 = .ok (.iload_n 1, 1) := by decide +kernel
theorem dX5_markAll_84 : decode cX5_markAll 84 = .ok (.iload_n 2, 1) := by decide +kernel
theorem dX5_markAll_85 : decode cX5_markAll 85 = .ok (.iload_n 3, 1) := by decide +kernel
theorem dX5_markAll_86 : decode cX5_markAll 86 = .ok (.invokevirtual 98, 3) := by decide +kernel
theorem dX5_markAll_89 : decode cX5_markAll 89 = .ok (.iinc 3 1, 3) := by decide +kernel
theorem dX5_markAll_92 : decode cX5_markAll 92 = .ok (.goto (-31), 3) := by decide +kernel
theorem dX5_markAll_95 : decode cX5_markAll 95 = .ok (.iinc 2 1, 3) := by decide +kernel
theorem dX5_markAll_98 : decode cX5_markAll 98 = .ok (.goto (-44), 3) := by decide +kernel
theorem dX5_markAll_101 : decode cX5_markAll 101 = .ok (.iinc 1 1, 3) := by decide +kernel
theorem dX5_markAll_104 : decode cX5_markAll 104 = .ok (.goto (-60), 3) := by decide +kernel
theorem dX5_markAll_107 : decode cX5_markAll 107 = .ok (.return_, 1) := by decide +kernel
theorem dX5_both_0 : decode cX5_both 0 = .ok (.iload_n 1, 1) := by decide +kernel
theorem dX5_both_1 : decode cX5_both 1 = .ok (.ifCond .ne 12, 3) := by decide +kernel
theorem dX5_both_4 : decode cX5_both 4 = .ok (.aload_n 0, 1) := by decide +kernel
theorem dX5_both_5 : decode cX5_both 5 = .ok (.iload_n 2, 1) := by decide +kernel
theorem dX5_both_6 : decode cX5_both 6 = .ok (.iload_n 3, 1) := by decide +kernel
theorem dX5_both_7 : decode cX5_both 7 = .ok (.invokevirtual 83, 3) := by decide +kernel
theorem dX5_both_10 : decode cX5_both 10 = .ok (.goto 27, 3) := by decide +kernel
theorem dX5_both_13 : decode cX5_both 13 = .ok (.iload_n 1, 1) := by decide +kernel
theorem dX5_both_14 : decode cX5_both 14 = .ok (.iconst 1, 1) := by decide +kernel
theorem dX5_both_15 : decode cX5_both 15 = .ok (.if_icmp .ne 12, 3) := by decide +kernel
theorem dX5_both_18 : decode cX5_both 18 = .ok (.aload_n 0, 1) := by decide +kernel
theorem dX5_both_19 : decode cX5_both 19 = .ok (.iload_n 2, 1) := by decide +kernel
theorem dX5_both_20 : decode cX5_both 20 = .ok (.iload_n 3, 1) := by decide +kernel
theorem dX5_both_21 : decode cX5_both 21 = .ok (.invokevirtual 86, 3) := by decide +kernel
theorem dX5_both_24 : decode cX5_both 24 = .ok (.goto 13, 3) := by decide +kernel
theorem dX5_both_27 : decode cX5_both 27 = .ok (.iload_n 1, 1) := by decide +kernel
theorem dX5_both_28 : decode cX5_both 28 = .ok (.iconst 2, 1) := by decide +kernel
theorem dX5_both_29 : decode cX5_both 29 = .ok (.if_icmp .ne 7, 3) := by decide +kernel
theorem dX5_both_32 : decode cX5_both 32 = .ok (.iconst 0, 1) := by decide +kernel
theorem dX5_both_33 : decode cX5_both 33 = .ok (.goto 4, 3) := by decide +kernel
theorem dX5_both_36 : decode cX5_both 36 = .ok (.iconst 1, 1) := by decide +kernel
theorem dX5_both_37 : decode cX5_both 37 = .ok (.ireturn, 1) := by decide +kernel
theorem dX5_together_0 : decode cX5_together 0 = .ok (.iload_n 0, 1) := by decide +kernel
theorem dX5_together_1 : decode cX5_together 1 = .ok (.ifCond .ne 16, 3) := by decide +kernel
theorem dX5_together_4 : decode cX5_together 4 = .ok (.iload_n 1, 1) := by decide +kernel
theorem dX5_together_5 : decode cX5_together 5 = .ok (.iload_n 2, 1) := by decide +kernel
theorem dX5_together_6 : decode cX5_together 6 = .ok (.if_icmp .le 7, 3) := by decide +kernel
theorem dX5_together_9 : decode cX5_together 9 = .ok (.iload_n 1, 1) := by decide +kernel
theorem dX5_together_10 : decode cX5_together 10 = .ok (.goto 10, 3) := by decide +kernel
theorem dX5_together_13 : decode cX5_together 13 = .ok (.iload_n 2, 1) := by decide +kernel
theorem dX5_together_14 : decode cX5_together 14 = .ok (.goto 6, 3) := by decide +kernel
theorem dX5_together_17 : decode cX5_together 17 = .ok (.iload_n 1, 1) := by decide +kernel
theorem dX5_together_18 : decode cX5_together 18 = .ok (.iload_n 2, 1) := by decide +kernel
theorem dX5_together_19 : decode cX5_together 19 = .ok (.iadd, 1) := by decide +kernel
theorem dX5_together_20 : decode cX5_together 20 = .ok (.ireturn, 1) := by decide +kernel
theorem dX5_leastFrom_0 : decode cX5_leastFrom 0 = .ok (.iload_n 2, 1) := by decide +kernel
theorem dX5_leastFrom_1 : decode cX5_leastFrom 1 = .ok (.aload_n 0, 1) := by decide +kernel
theorem dX5_leastFrom_2 : decode cX5_leastFrom 2 = .ok (.invokevirtual 89, 3) := by decide +kernel
theorem dX5_leastFrom_5 : decode cX5_leastFrom 5 = .ok (.if_icmp .ne 15, 3) := by decide +kernel
theorem dX5_leastFrom_8 : decode cX5_leastFrom 8 = .ok (.iload_n 1, 1) := by decide +kernel
theorem dX5_leastFrom_9 : decode cX5_leastFrom 9 = .ok (.iconst 2, 1) := by decide +kernel
theorem dX5_leastFrom_10 : decode cX5_leastFrom 10 = .ok (.if_icmp .ne 8, 3) := by decide +kernel
theorem dX5_leastFrom_13 : decode cX5_leastFrom 13 = .ok (.iload 4, 2) := by decide +kernel
theorem dX5_leastFrom_15 : decode cX5_leastFrom 15 = .ok (.goto 4, 3) := by decide +kernel
theorem dX5_leastFrom_18 : decode cX5_leastFrom 18 = .ok (.iconst 0, 1) := by decide +kernel
theorem dX5_leastFrom_19 : decode cX5_leastFrom 19 = .ok (.ireturn, 1) := by decide +kernel
theorem dX5_leastFrom_20 : decode cX5_leastFrom 20 = .ok (.ldc 102, 2) := by decide +kernel
theorem dX5_leastFrom_22 : decode cX5_leastFrom 22 = .ok (.istore 5, 2) := by decide +kernel
theorem dX5_leastFrom_24 : decode cX5_leastFrom 24 = .ok (.iconst 1, 1) := by decide +kernel
theorem dX5_leastFrom_25 : decode cX5_leastFrom 25 = .ok (.istore 6, 2) := by decide +kernel
theorem dX5_leastFrom_27 : decode cX5_leastFrom 27 = .ok (.iload 6, 2) := by decide +kernel
theorem dX5_leastFrom_29 : decode cX5_leastFrom 29 = .ok (.aload_n 0, 1) := by decide +kernel
theorem dX5_leastFrom_30 : decode cX5_leastFrom 30 = .ok (.invokevirtual 89, 3) := by decide +kernel
theorem dX5_leastFrom_33 : decode cX5_leastFrom 33 = .ok (.if_icmp .gt 94, 3) := by decide +kernel
theorem dX5_leastFrom_36 : decode cX5_leastFrom 36 = .ok (.iload 6, 2) := by decide +kernel
theorem dX5_leastFrom_38 : decode cX5_leastFrom 38 = .ok (.iload_n 2, 1) := by decide +kernel
theorem dX5_leastFrom_39 : decode cX5_leastFrom 39 = .ok (.iand, 1) := by decide +kernel
theorem dX5_leastFrom_40 : decode cX5_leastFrom 40 = .ok (.ifCond .ne 81, 3) := by decide +kernel
theorem dX5_leastFrom_43 : decode cX5_leastFrom 43 = .ok (.aload_n 0, 1) := by decide +kernel
theorem dX5_leastFrom_44 : decode cX5_leastFrom 44 = .ok (.getfield 29, 3) := by decide +kernel
theorem dX5_leastFrom_47 : decode cX5_leastFrom 47 = .ok (.iload 6, 2) := by decide +kernel
theorem dX5_leastFrom_49 : decode cX5_leastFrom 49 = .ok (.iaload, 1) := by decide +kernel
theorem dX5_leastFrom_50 : decode cX5_leastFrom 50 = .ok (.ifCond .lt 71, 3) := by decide +kernel
theorem dX5_leastFrom_53 : decode cX5_leastFrom 53 = .ok (.aload_n 0, 1) := by decide +kernel
theorem dX5_leastFrom_54 : decode cX5_leastFrom 54 = .ok (.iload 4, 2) := by decide +kernel
theorem dX5_leastFrom_56 : decode cX5_leastFrom 56 = .ok (.iload_n 3, 1) := by decide +kernel
theorem dX5_leastFrom_57 : decode cX5_leastFrom 57 = .ok (.aload_n 0, 1) := by decide +kernel
theorem dX5_leastFrom_58 : decode cX5_leastFrom 58 = .ok (.getfield 29, 3) := by decide +kernel
theorem dX5_leastFrom_61 : decode cX5_leastFrom 61 = .ok (.iload 6, 2) := by decide +kernel
theorem dX5_leastFrom_63 : decode cX5_leastFrom 63 = .ok (.iaload, 1) := by decide +kernel
theorem dX5_leastFrom_64 : decode cX5_leastFrom 64 = .ok (.invokevirtual 76, 3) := by decide +kernel
theorem dX5_leastFrom_67 : decode cX5_leastFrom 67 = .ok (.istore 7, 2) := by decide +kernel
theorem dX5_leastFrom_69 : decode cX5_leastFrom 69 = .ok (.iload_n 1, 1) := by decide +kernel
theorem dX5_leastFrom_70 : decode cX5_leastFrom 70 = .ok (.aload_n 0, 1) := by decide +kernel
theorem dX5_leastFrom_71 : decode cX5_leastFrom 71 = .ok (.iload_n 1, 1) := by decide +kernel
theorem dX5_leastFrom_72 : decode cX5_leastFrom 72 = .ok (.iload 6, 2) := by decide +kernel
theorem dX5_leastFrom_74 : decode cX5_leastFrom 74 = .ok (.iload 7, 2) := by decide +kernel
theorem dX5_leastFrom_76 : decode cX5_leastFrom 76 = .ok (.invokevirtual 103, 3) := by decide +kernel
theorem dX5_leastFrom_79 : decode cX5_leastFrom 79 = .ok (.aload_n 0, 1) := by decide +kernel
theorem dX5_leastFrom_80 : decode cX5_leastFrom 80 = .ok (.getfield 36, 3) := by decide +kernel
theorem dX5_leastFrom_83 : decode cX5_leastFrom 83 = .ok (.iload_n 2, 1) := by decide +kernel
theorem dX5_leastFrom_84 : decode cX5_leastFrom 84 = .ok (.iload 6, 2) := by decide +kernel
theorem dX5_leastFrom_86 : decode cX5_leastFrom 86 = .ok (.ior, 1) := by decide +kernel
theorem dX5_leastFrom_87 : decode cX5_leastFrom 87 = .ok (.aload_n 0, 1) := by decide +kernel
theorem dX5_leastFrom_88 : decode cX5_leastFrom 88 = .ok (.getfield 29, 3) := by decide +kernel
theorem dX5_leastFrom_91 : decode cX5_leastFrom 91 = .ok (.iload 6, 2) := by decide +kernel
theorem dX5_leastFrom_93 : decode cX5_leastFrom 93 = .ok (.iaload, 1) := by decide +kernel
theorem dX5_leastFrom_94 : decode cX5_leastFrom 94 = .ok (.iload 7, 2) := by decide +kernel
theorem dX5_leastFrom_96 : decode cX5_leastFrom 96 = .ok (.invokestatic 95, 3) := by decide +kernel
theorem dX5_leastFrom_99 : decode cX5_leastFrom 99 = .ok (.iaload, 1) := by decide +kernel
theorem dX5_leastFrom_100 : decode cX5_leastFrom 100 = .ok (.invokestatic 106, 3) := by decide +kernel
theorem dX5_leastFrom_103 : decode cX5_leastFrom 103 = .ok (.istore 8, 2) := by decide +kernel
theorem dX5_leastFrom_105 : decode cX5_leastFrom 105 = .ok (.iload 8, 2) := by decide +kernel
theorem dX5_leastFrom_107 : decode cX5_leastFrom 107 = .ok (.iload 5, 2) := by decide +kernel
theorem dX5_leastFrom_109 : decode cX5_leastFrom 109 = .ok (.if_icmp .ge 8, 3) := by decide +kernel
theorem dX5_leastFrom_112 : decode cX5_leastFrom 112 = .ok (.iload 8, 2) := by decide +kernel
theorem dX5_leastFrom_114 : decode cX5_leastFrom 114 = .ok (.goto 5, 3) := by decide +kernel
theorem dX5_leastFrom_117 : decode cX5_leastFrom 117 = .ok (.iload 5, 2) := by decide +kernel
theorem dX5_leastFrom_119 : decode cX5_leastFrom 119 = .ok (.istore 5, 2) := by decide +kernel
theorem dX5_leastFrom_121 : decode cX5_leastFrom 121 = .ok (.iinc 6 1, 3) := by decide +kernel
theorem dX5_leastFrom_124 : decode cX5_leastFrom 124 = .ok (.goto (-97), 3) := by decide +kernel
theorem dX5_leastFrom_127 : decode cX5_leastFrom 127 = .ok (.iload 5, 2) := by decide +kernel
theorem dX5_leastFrom_129 : decode cX5_leastFrom 129 = .ok (.ireturn, 1) := by decide +kernel
theorem dX5_layLeast_0 : decode cX5_layLeast 0 = .ok (.aload_n 0, 1) := by decide +kernel
theorem dX5_layLeast_1 : decode cX5_layLeast 1 = .ok (.invokevirtual 89, 3) := by decide +kernel
theorem dX5_layLeast_4 : decode cX5_layLeast 4 = .ok (.istore_n 2, 1) := by decide +kernel
theorem dX5_layLeast_5 : decode cX5_layLeast 5 = .ok (.iload_n 2, 1) := by decide +kernel
theorem dX5_layLeast_6 : decode cX5_layLeast 6 = .ok (.ifCond .lt 75, 3) := by decide +kernel
theorem dX5_layLeast_9 : decode cX5_layLeast 9 = .ok (.iconst 0, 1) := by decide +kernel
theorem dX5_layLeast_10 : decode cX5_layLeast 10 = .ok (.istore_n 3, 1) := by decide +kernel
theorem dX5_layLeast_11 : decode cX5_layLeast 11 = .ok (.iload_n 3, 1) := by decide +kernel
theorem dX5_layLeast_12 : decode cX5_layLeast 12 = .ok (.iconst 3, 1) := by decide +kernel
theorem dX5_layLeast_13 : decode cX5_layLeast 13 = .ok (.if_icmp .gt 62, 3) := by decide +kernel
theorem dX5_layLeast_16 : decode cX5_layLeast 16 = .ok (.iconst 0, 1) := by decide +kernel
theorem dX5_layLeast_17 : decode cX5_layLeast 17 = .ok (.istore 4, 2) := by decide +kernel
theorem dX5_layLeast_19 : decode cX5_layLeast 19 = .ok (.iload 4, 2) := by decide +kernel
theorem dX5_layLeast_21 : decode cX5_layLeast 21 = .ok (.sipush 330, 3) := by decide +kernel
theorem dX5_layLeast_24 : decode cX5_layLeast 24 = .ok (.if_icmp .ge 45, 3) := by decide +kernel
theorem dX5_layLeast_27 : decode cX5_layLeast 27 = .ok (.aload_n 0, 1) := by decide +kernel
theorem dX5_layLeast_28 : decode cX5_layLeast 28 = .ok (.getfield 33, 3) := by decide +kernel
theorem dX5_layLeast_31 : decode cX5_layLeast 31 = .ok (.iload_n 2, 1) := by decide +kernel
theorem dX5_layLeast_32 : decode cX5_layLeast 32 = .ok (.iload_n 3, 1) := by decide +kernel
theorem dX5_layLeast_33 : decode cX5_layLeast 33 = .ok (.iload 4, 2) := by decide +kernel
theorem dX5_layLeast_35 : decode cX5_layLeast 35 = .ok (.invokestatic 95, 3) := by decide +kernel
theorem dX5_layLeast_38 : decode cX5_layLeast 38 = .ok (.baload, 1) := by decide +kernel
theorem dX5_layLeast_39 : decode cX5_layLeast 39 = .ok (.ifCond .eq 24, 3) := by decide +kernel
theorem dX5_layLeast_42 : decode cX5_layLeast 42 = .ok (.aload_n 0, 1) := by decide +kernel
theorem dX5_layLeast_43 : decode cX5_layLeast 43 = .ok (.getfield 36, 3) := by decide +kernel
theorem dX5_layLeast_46 : decode cX5_layLeast 46 = .ok (.iload_n 2, 1) := by decide +kernel
theorem dX5_layLeast_47 : decode cX5_layLeast 47 = .ok (.iload_n 3, 1) := by decide +kernel
theorem dX5_layLeast_48 : decode cX5_layLeast 48 = .ok (.iload 4, 2) := by decide +kernel
theorem dX5_layLeast_50 : decode cX5_layLeast 50 = .ok (.invokestatic 95, 3) := by decide +kernel
theorem dX5_layLeast_53 : decode cX5_layLeast 53 = .ok (.aload_n 0, 1) := by decide +kernel
theorem dX5_layLeast_54 : decode cX5_layLeast 54 = .ok (.iload_n 1, 1) := by decide +kernel
theorem dX5_layLeast_55 : decode cX5_layLeast 55 = .ok (.iload_n 2, 1) := by decide +kernel
theorem dX5_layLeast_56 : decode cX5_layLeast 56 = .ok (.iload_n 3, 1) := by decide +kernel
theorem dX5_layLeast_57 : decode cX5_layLeast 57 = .ok (.iload 4, 2) := by decide +kernel
theorem dX5_layLeast_59 : decode cX5_layLeast 59 = .ok (.invokevirtual 109, 3) := by decide +kernel
theorem dX5_layLeast_62 : decode cX5_layLeast 62 = .ok (.iastore, 1) := by decide +kernel
theorem dX5_layLeast_63 : decode cX5_layLeast 63 = .ok (.iinc 4 1, 3) := by decide +kernel
theorem dX5_layLeast_66 : decode cX5_layLeast 66 = .ok (.goto (-47), 3) := by decide +kernel
theorem dX5_layLeast_69 : decode cX5_layLeast 69 = .ok (.iinc 3 1, 3) := by decide +kernel
theorem dX5_layLeast_72 : decode cX5_layLeast 72 = .ok (.goto (-61), 3) := by decide +kernel
theorem dX5_layLeast_75 : decode cX5_layLeast 75 = .ok (.iinc 2 (-1), 3) := by decide +kernel
theorem dX5_layLeast_78 : decode cX5_layLeast 78 = .ok (.goto (-73), 3) := by decide +kernel
theorem dX5_layLeast_81 : decode cX5_layLeast 81 = .ok (.aload_n 0, 1) := by decide +kernel
theorem dX5_layLeast_82 : decode cX5_layLeast 82 = .ok (.getfield 36, 3) := by decide +kernel
theorem dX5_layLeast_85 : decode cX5_layLeast 85 = .ok (.iconst 0, 1) := by decide +kernel
theorem dX5_layLeast_86 : decode cX5_layLeast 86 = .ok (.iconst 3, 1) := by decide +kernel
theorem dX5_layLeast_87 : decode cX5_layLeast 87 = .ok (.iconst 0, 1) := by decide +kernel
theorem dX5_layLeast_88 : decode cX5_layLeast 88 = .ok (.invokestatic 95, 3) := by decide +kernel
theorem dX5_layLeast_91 : decode cX5_layLeast 91 = .ok (.iaload, 1) := by decide +kernel
theorem dX5_layLeast_92 : decode cX5_layLeast 92 = .ok (.ireturn, 1) := by decide +kernel
theorem dX5_bestOf_0 : decode cX5_bestOf 0 = .ok (.aload_n 0, 1) := by decide +kernel
theorem dX5_bestOf_1 : decode cX5_bestOf 1 = .ok (.invokevirtual 113, 3) := by decide +kernel
theorem dX5_bestOf_4 : decode cX5_bestOf 4 = .ok (.aload_n 0, 1) := by decide +kernel
theorem dX5_bestOf_5 : decode cX5_bestOf 5 = .ok (.invokevirtual 116, 3) := by decide +kernel
theorem dX5_bestOf_8 : decode cX5_bestOf 8 = .ok (.aload_n 0, 1) := by decide +kernel
theorem dX5_bestOf_9 : decode cX5_bestOf 9 = .ok (.iload_n 1, 1) := by decide +kernel
theorem dX5_bestOf_10 : decode cX5_bestOf 10 = .ok (.invokevirtual 119, 3) := by decide +kernel
theorem dX5_bestOf_13 : decode cX5_bestOf 13 = .ok (.ireturn, 1) := by decide +kernel
theorem dX5_best_0 : decode cX5_best 0 = .ok (.iload_n 1, 1) := by decide +kernel
theorem dX5_best_1 : decode cX5_best 1 = .ok (.invokestatic 122, 3) := by decide +kernel
theorem dX5_best_4 : decode cX5_best 4 = .ok (.ifCond .eq 11, 3) := by decide +kernel
theorem dX5_best_7 : decode cX5_best 7 = .ok (.aload_n 0, 1) := by decide +kernel
theorem dX5_best_8 : decode cX5_best 8 = .ok (.iload_n 1, 1) := by decide +kernel
theorem dX5_best_9 : decode cX5_best 9 = .ok (.invokevirtual 125, 3) := by decide +kernel
theorem dX5_best_12 : decode cX5_best 12 = .ok (.goto 5, 3) := by decide +kernel
theorem dX5_best_15 : decode cX5_best 15 = .ok (.bipush (-2), 2) := by decide +kernel
theorem dX5_best_17 : decode cX5_best 17 = .ok (.ireturn, 1) := by decide +kernel
theorem dX5_layBest_0 : decode cX5_layBest 0 = .ok (.aload_n 0, 1) := by decide +kernel
theorem dX5_layBest_1 : decode cX5_layBest 1 = .ok (.iload_n 1, 1) := by decide +kernel
theorem dX5_layBest_2 : decode cX5_layBest 2 = .ok (.invokevirtual 125, 3) := by decide +kernel
theorem dX5_layBest_5 : decode cX5_layBest 5 = .ok (.istore_n 2, 1) := by decide +kernel
theorem dX5_layBest_6 : decode cX5_layBest 6 = .ok (.aload_n 0, 1) := by decide +kernel
theorem dX5_layBest_7 : decode cX5_layBest 7 = .ok (.iconst 0, 1) := by decide +kernel
theorem dX5_layBest_8 : decode cX5_layBest 8 = .ok (.putfield 69, 3) := by decide +kernel
theorem dX5_layBest_11 : decode cX5_layBest 11 = .ok (.iconst 0, 1) := by decide +kernel
theorem dX5_layBest_12 : decode cX5_layBest 12 = .ok (.istore_n 3, 1) := by decide +kernel
theorem dX5_layBest_13 : decode cX5_layBest 13 = .ok (.iconst 3, 1) := by decide +kernel
theorem dX5_layBest_14 : decode cX5_layBest 14 = .ok (.istore 4, 2) := by decide +kernel
theorem dX5_layBest_16 : decode cX5_layBest 16 = .ok (.iconst 0, 1) := by decide +kernel
theorem dX5_layBest_17 : decode cX5_layBest 17 = .ok (.istore 5, 2) := by decide +kernel
theorem dX5_layBest_19 : decode cX5_layBest 19 = .ok (.iload_n 3, 1) := by decide +kernel
theorem dX5_layBest_20 : decode cX5_layBest 20 = .ok (.aload_n 0, 1) := by decide +kernel
theorem dX5_layBest_21 : decode cX5_layBest 21 = .ok (.invokevirtual 89, 3) := by decide +kernel
theorem dX5_layBest_24 : decode cX5_layBest 24 = .ok (.if_icmp .eq 102, 3) := by decide +kernel
theorem dX5_layBest_27 : decode cX5_layBest 27 = .ok (.iconst 1, 1) := by decide +kernel
theorem dX5_layBest_28 : decode cX5_layBest 28 = .ok (.istore 6, 2) := by decide +kernel
theorem dX5_layBest_30 : decode cX5_layBest 30 = .ok (.aload_n 0, 1) := by decide +kernel
theorem dX5_layBest_31 : decode cX5_layBest 31 = .ok (.iload_n 1, 1) := by decide +kernel
theorem dX5_layBest_32 : decode cX5_layBest 32 = .ok (.iload_n 3, 1) := by decide +kernel
theorem dX5_layBest_33 : decode cX5_layBest 33 = .ok (.iload 4, 2) := by decide +kernel
theorem dX5_layBest_35 : decode cX5_layBest 35 = .ok (.iload 5, 2) := by decide +kernel
theorem dX5_layBest_37 : decode cX5_layBest 37 = .ok (.iload 6, 2) := by decide +kernel
theorem dX5_layBest_39 : decode cX5_layBest 39 = .ok (.iload_n 2, 1) := by decide +kernel
theorem dX5_layBest_40 : decode cX5_layBest 40 = .ok (.invokevirtual 128, 3) := by decide +kernel
theorem dX5_layBest_43 : decode cX5_layBest 43 = .ok (.ifCond .ne 9, 3) := by decide +kernel
theorem dX5_layBest_46 : decode cX5_layBest 46 = .ok (.iinc 6 1, 3) := by decide +kernel
theorem dX5_layBest_49 : decode cX5_layBest 49 = .ok (.goto (-19), 3) := by decide +kernel
theorem dX5_layBest_52 : decode cX5_layBest 52 = .ok (.aload_n 0, 1) := by decide +kernel
theorem dX5_layBest_53 : decode cX5_layBest 53 = .ok (.getfield 29, 3) := by decide +kernel
theorem dX5_layBest_56 : decode cX5_layBest 56 = .ok (.iload 6, 2) := by decide +kernel
theorem dX5_layBest_58 : decode cX5_layBest 58 = .ok (.iaload, 1) := by decide +kernel
theorem dX5_layBest_59 : decode cX5_layBest 59 = .ok (.istore 7, 2) := by decide +kernel
theorem dX5_layBest_61 : decode cX5_layBest 61 = .ok (.aload_n 0, 1) := by decide +kernel
theorem dX5_layBest_62 : decode cX5_layBest 62 = .ok (.iload 5, 2) := by decide +kernel
theorem dX5_layBest_64 : decode cX5_layBest 64 = .ok (.iload 4, 2) := by decide +kernel
theorem dX5_layBest_66 : decode cX5_layBest 66 = .ok (.iload 7, 2) := by decide +kernel
theorem dX5_layBest_68 : decode cX5_layBest 68 = .ok (.invokevirtual 76, 3) := by decide +kernel
theorem dX5_layBest_71 : decode cX5_layBest 71 = .ok (.istore 5, 2) := by decide +kernel
theorem dX5_layBest_73 : decode cX5_layBest 73 = .ok (.iload_n 2, 1) := by decide +kernel
theorem dX5_layBest_74 : decode cX5_layBest 74 = .ok (.iload_n 1, 1) := by decide +kernel
theorem dX5_layBest_75 : decode cX5_layBest 75 = .ok (.ifCond .ne 7, 3) := by decide +kernel
theorem dX5_layBest_78 : decode cX5_layBest 78 = .ok (.iconst 0, 1) := by decide +kernel
theorem dX5_layBest_79 : decode cX5_layBest 79 = .ok (.goto 12, 3) := by decide +kernel
theorem dX5_layBest_82 : decode cX5_layBest 82 = .ok (.aload_n 0, 1) := by decide +kernel
theorem dX5_layBest_83 : decode cX5_layBest 83 = .ok (.iload_n 1, 1) := by decide +kernel
theorem dX5_layBest_84 : decode cX5_layBest 84 = .ok (.iload 6, 2) := by decide +kernel
theorem dX5_layBest_86 : decode cX5_layBest 86 = .ok (.iload 5, 2) := by decide +kernel
theorem dX5_layBest_88 : decode cX5_layBest 88 = .ok (.invokevirtual 103, 3) := by decide +kernel
theorem dX5_layBest_91 : decode cX5_layBest 91 = .ok (.isub, 1) := by decide +kernel
theorem dX5_layBest_92 : decode cX5_layBest 92 = .ok (.istore_n 2, 1) := by decide +kernel
theorem dX5_layBest_93 : decode cX5_layBest 93 = .ok (.iload 7, 2) := by decide +kernel
theorem dX5_layBest_95 : decode cX5_layBest 95 = .ok (.istore 4, 2) := by decide +kernel
theorem dX5_layBest_97 : decode cX5_layBest 97 = .ok (.iload_n 3, 1) := by decide +kernel
theorem dX5_layBest_98 : decode cX5_layBest 98 = .ok (.iload 6, 2) := by decide +kernel
theorem dX5_layBest_100 : decode cX5_layBest 100 = .ok (.ior, 1) := by decide +kernel
theorem dX5_layBest_101 : decode cX5_layBest 101 = .ok (.istore_n 3, 1) := by decide +kernel
theorem dX5_layBest_102 : decode cX5_layBest 102 = .ok (.aload_n 0, 1) := by decide +kernel
theorem dX5_layBest_103 : decode cX5_layBest 103 = .ok (.getfield 23, 3) := by decide +kernel
theorem dX5_layBest_106 : decode cX5_layBest 106 = .ok (.aload_n 0, 1) := by decide +kernel
theorem dX5_layBest_107 : decode cX5_layBest 107 = .ok (.getfield 69, 3) := by decide +kernel
theorem dX5_layBest_110 : decode cX5_layBest 110 = .ok (.iload 6, 2) := by decide +kernel
theorem dX5_layBest_112 : decode cX5_layBest 112 = .ok (.iastore, 1) := by decide +kernel
theorem dX5_layBest_113 : decode cX5_layBest 113 = .ok (.aload_n 0, 1) := by decide +kernel
theorem dX5_layBest_114 : decode cX5_layBest 114 = .ok (.dup, 1) := by decide +kernel
theorem dX5_layBest_115 : decode cX5_layBest 115 = .ok (.getfield 69, 3) := by decide +kernel
theorem dX5_layBest_118 : decode cX5_layBest 118 = .ok (.iconst 1, 1) := by decide +kernel
theorem dX5_layBest_119 : decode cX5_layBest 119 = .ok (.iadd, 1) := by decide +kernel
theorem dX5_layBest_120 : decode cX5_layBest 120 = .ok (.putfield 69, 3) := by decide +kernel
theorem dX5_layBest_123 : decode cX5_layBest 123 = .ok (.goto (-104), 3) := by decide +kernel
theorem dX5_layBest_126 : decode cX5_layBest 126 = .ok (.return_, 1) := by decide +kernel
theorem dX5_isWithin_0 : decode cX5_isWithin 0 = .ok (.iload 5, 2) := by decide +kernel
theorem dX5_isWithin_2 : decode cX5_isWithin 2 = .ok (.iload_n 2, 1) := by decide +kernel
theorem dX5_isWithin_3 : decode cX5_isWithin 3 = .ok (.iand, 1) := by decide +kernel
theorem dX5_isWithin_4 : decode cX5_isWithin 4 = .ok (.ifCond .ne 13, 3) := by decide +kernel
theorem dX5_isWithin_7 : decode cX5_isWithin 7 = .ok (.aload_n 0, 1) := by decide +kernel
theorem dX5_isWithin_8 : decode cX5_isWithin 8 = .ok (.getfield 29, 3) := by decide +kernel
theorem dX5_isWithin_11 : decode cX5_isWithin 11 = .ok (.iload 5, 2) := by decide +kernel
theorem dX5_isWithin_13 : decode cX5_isWithin 13 = .ok (.iaload, 1) := by decide +kernel
theorem dX5_isWithin_14 : decode cX5_isWithin 14 = .ok (.ifCond .ge 5, 3) := by decide +kernel
theorem dX5_isWithin_17 : decode cX5_isWithin 17 = .ok (.iconst 0, 1) := by decide +kernel
theorem dX5_isWithin_18 : decode cX5_isWithin 18 = .ok (.ireturn, 1) := by decide +kernel
theorem dX5_isWithin_19 : decode cX5_isWithin 19 = .ok (.aload_n 0, 1) := by decide +kernel
theorem dX5_isWithin_20 : decode cX5_isWithin 20 = .ok (.iload 4, 2) := by decide +kernel
theorem dX5_isWithin_22 : decode cX5_isWithin 22 = .ok (.iload_n 3, 1) := by decide +kernel
theorem dX5_isWithin_23 : decode cX5_isWithin 23 = .ok (.aload_n 0, 1) := by decide +kernel
theorem dX5_isWithin_24 : decode cX5_isWithin 24 = .ok (.getfield 29, 3) := by decide +kernel
theorem dX5_isWithin_27 : decode cX5_isWithin 27 = .ok (.iload 5, 2) := by decide +kernel
theorem dX5_isWithin_29 : decode cX5_isWithin 29 = .ok (.iaload, 1) := by decide +kernel
theorem dX5_isWithin_30 : decode cX5_isWithin 30 = .ok (.invokevirtual 76, 3) := by decide +kernel
theorem dX5_isWithin_33 : decode cX5_isWithin 33 = .ok (.istore 7, 2) := by decide +kernel
theorem dX5_isWithin_35 : decode cX5_isWithin 35 = .ok (.iload_n 1, 1) := by decide +kernel
theorem dX5_isWithin_36 : decode cX5_isWithin 36 = .ok (.aload_n 0, 1) := by decide +kernel
theorem dX5_isWithin_37 : decode cX5_isWithin 37 = .ok (.iload_n 1, 1) := by decide +kernel
theorem dX5_isWithin_38 : decode cX5_isWithin 38 = .ok (.iload 5, 2) := by decide +kernel
theorem dX5_isWithin_40 : decode cX5_isWithin 40 = .ok (.iload 7, 2) := by decide +kernel
theorem dX5_isWithin_42 : decode cX5_isWithin 42 = .ok (.invokevirtual 103, 3) := by decide +kernel
theorem dX5_isWithin_45 : decode cX5_isWithin 45 = .ok (.aload_n 0, 1) := by decide +kernel
theorem dX5_isWithin_46 : decode cX5_isWithin 46 = .ok (.getfield 36, 3) := by decide +kernel
theorem dX5_isWithin_49 : decode cX5_isWithin 49 = .ok (.iload_n 2, 1) := by decide +kernel
theorem dX5_isWithin_50 : decode cX5_isWithin 50 = .ok (.iload 5, 2) := by decide +kernel
theorem dX5_isWithin_52 : decode cX5_isWithin 52 = .ok (.ior, 1) := by decide +kernel
theorem dX5_isWithin_53 : decode cX5_isWithin 53 = .ok (.aload_n 0, 1) := by decide +kernel
theorem dX5_isWithin_54 : decode cX5_isWithin 54 = .ok (.getfield 29, 3) := by decide +kernel
theorem dX5_isWithin_57 : decode cX5_isWithin 57 = .ok (.iload 5, 2) := by decide +kernel
theorem dX5_isWithin_59 : decode cX5_isWithin 59 = .ok (.iaload, 1) := by decide +kernel
theorem dX5_isWithin_60 : decode cX5_isWithin 60 = .ok (.iload 7, 2) := by decide +kernel
theorem dX5_isWithin_62 : decode cX5_isWithin 62 = .ok (.invokestatic 95, 3) := by decide +kernel
theorem dX5_isWithin_65 : decode cX5_isWithin 65 = .ok (.iaload, 1) := by decide +kernel
theorem dX5_isWithin_66 : decode cX5_isWithin 66 = .ok (.invokestatic 106, 3) := by decide +kernel
theorem dX5_isWithin_69 : decode cX5_isWithin 69 = .ok (.iload 6, 2) := by decide +kernel
theorem dX5_isWithin_71 : decode cX5_isWithin 71 = .ok (.if_icmp .gt 7, 3) := by decide +kernel
theorem dX5_isWithin_74 : decode cX5_isWithin 74 = .ok (.iconst 1, 1) := by decide +kernel
theorem dX5_isWithin_75 : decode cX5_isWithin 75 = .ok (.goto 4, 3) := by decide +kernel
theorem dX5_isWithin_78 : decode cX5_isWithin 78 = .ok (.iconst 0, 1) := by decide +kernel
theorem dX5_isWithin_79 : decode cX5_isWithin 79 = .ok (.ireturn, 1) := by decide +kernel
theorem dX5_told_0 : decode cX5_told 0 = .ok (.iload_n 1, 1) := by decide +kernel
theorem dX5_told_1 : decode cX5_told 1 = .ok (.iconst (-1), 1) := by decide +kernel
theorem dX5_told_2 : decode cX5_told 2 = .ok (.if_icmp .ne 10, 3) := by decide +kernel
theorem dX5_told_5 : decode cX5_told 5 = .ok (.aload_n 0, 1) := by decide +kernel
theorem dX5_told_6 : decode cX5_told 6 = .ok (.getfield 69, 3) := by decide +kernel
theorem dX5_told_9 : decode cX5_told 9 = .ok (.goto 22, 3) := by decide +kernel
theorem dX5_told_12 : decode cX5_told 12 = .ok (.iload_n 1, 1) := by decide +kernel
theorem dX5_told_13 : decode cX5_told 13 = .ok (.aload_n 0, 1) := by decide +kernel
theorem dX5_told_14 : decode cX5_told 14 = .ok (.getfield 69, 3) := by decide +kernel
theorem dX5_told_17 : decode cX5_told 17 = .ok (.if_icmp .ge 12, 3) := by decide +kernel
theorem dX5_told_20 : decode cX5_told 20 = .ok (.aload_n 0, 1) := by decide +kernel
theorem dX5_told_21 : decode cX5_told 21 = .ok (.getfield 23, 3) := by decide +kernel
theorem dX5_told_24 : decode cX5_told 24 = .ok (.iload_n 1, 1) := by decide +kernel
theorem dX5_told_25 : decode cX5_told 25 = .ok (.iaload, 1) := by decide +kernel
theorem dX5_told_26 : decode cX5_told 26 = .ok (.goto 5, 3) := by decide +kernel
theorem dX5_told_29 : decode cX5_told 29 = .ok (.bipush (-6), 2) := by decide +kernel
theorem dX5_told_31 : decode cX5_told 31 = .ok (.ireturn, 1) := by decide +kernel
theorem dX5_plan_0 : decode cX5_plan 0 = .ok (.iload_n 1, 1) := by decide +kernel
theorem dX5_plan_1 : decode cX5_plan 1 = .ok (.invokestatic 122, 3) := by decide +kernel
theorem dX5_plan_4 : decode cX5_plan 4 = .ok (.ifCond .eq 8, 3) := by decide +kernel
theorem dX5_plan_7 : decode cX5_plan 7 = .ok (.iload_n 2, 1) := by decide +kernel
theorem dX5_plan_8 : decode cX5_plan 8 = .ok (.iconst (-1), 1) := by decide +kernel
theorem dX5_plan_9 : decode cX5_plan 9 = .ok (.if_icmp .ge 6, 3) := by decide +kernel
theorem dX5_plan_12 : decode cX5_plan 12 = .ok (.bipush (-2), 2) := by decide +kernel
theorem dX5_plan_14 : decode cX5_plan 14 = .ok (.ireturn, 1) := by decide +kernel
theorem dX5_plan_15 : decode cX5_plan 15 = .ok (.aload_n 0, 1) := by decide +kernel
theorem dX5_plan_16 : decode cX5_plan 16 = .ok (.iload_n 1, 1) := by decide +kernel
theorem dX5_plan_17 : decode cX5_plan 17 = .ok (.invokevirtual 132, 3) := by decide +kernel
theorem dX5_plan_20 : decode cX5_plan 20 = .ok (.aload_n 0, 1) := by decide +kernel
theorem dX5_plan_21 : decode cX5_plan 21 = .ok (.iload_n 2, 1) := by decide +kernel
theorem dX5_plan_22 : decode cX5_plan 22 = .ok (.invokevirtual 136, 3) := by decide +kernel
theorem dX5_plan_25 : decode cX5_plan 25 = .ok (.ireturn, 1) := by decide +kernel
theorem dX5_end_0 : decode cX5_end 0 = .ok (.aload_n 0, 1) := by decide +kernel
theorem dX5_end_1 : decode cX5_end 1 = .ok (.iload_n 1, 1) := by decide +kernel
theorem dX5_end_2 : decode cX5_end 2 = .ok (.invokevirtual 51, 3) := by decide +kernel
theorem dX5_end_5 : decode cX5_end 5 = .ok (.ifCond .ne 5, 3) := by decide +kernel
theorem dX5_end_8 : decode cX5_end 8 = .ok (.iconst (-1), 1) := by decide +kernel
theorem dX5_end_9 : decode cX5_end 9 = .ok (.ireturn, 1) := by decide +kernel
theorem dX5_end_10 : decode cX5_end 10 = .ok (.iload_n 2, 1) := by decide +kernel
theorem dX5_end_11 : decode cX5_end 11 = .ok (.invokestatic 122, 3) := by decide +kernel
theorem dX5_end_14 : decode cX5_end 14 = .ok (.ifCond .ne 6, 3) := by decide +kernel
theorem dX5_end_17 : decode cX5_end 17 = .ok (.bipush (-2), 2) := by decide +kernel
theorem dX5_end_19 : decode cX5_end 19 = .ok (.ireturn, 1) := by decide +kernel
theorem dX5_end_20 : decode cX5_end 20 = .ok (.aload_n 0, 1) := by decide +kernel
theorem dX5_end_21 : decode cX5_end 21 = .ok (.iload_n 2, 1) := by decide +kernel
theorem dX5_end_22 : decode cX5_end 22 = .ok (.invokevirtual 132, 3) := by decide +kernel
theorem dX5_end_25 : decode cX5_end 25 = .ok (.aload_n 0, 1) := by decide +kernel
theorem dX5_end_26 : decode cX5_end 26 = .ok (.invokevirtual 80, 3) := by decide +kernel
theorem dX5_end_29 : decode cX5_end 29 = .ok (.aload_n 0, 1) := by decide +kernel
theorem dX5_end_30 : decode cX5_end 30 = .ok (.getfield 26, 3) := by decide +kernel
theorem dX5_end_33 : decode cX5_end 33 = .ok (.aload_n 0, 1) := by decide +kernel
theorem dX5_end_34 : decode cX5_end 34 = .ok (.iload_n 1, 1) := by decide +kernel
theorem dX5_end_35 : decode cX5_end 35 = .ok (.invokevirtual 139, 3) := by decide +kernel
theorem dX5_end_38 : decode cX5_end 38 = .ok (.iaload, 1) := by decide +kernel
theorem dX5_end_39 : decode cX5_end 39 = .ok (.ireturn, 1) := by decide +kernel
theorem dX5_isAsGood_0 : decode cX5_isAsGood 0 = .ok (.aload_n 0, 1) := by decide +kernel
theorem dX5_isAsGood_1 : decode cX5_isAsGood 1 = .ok (.getfield 7, 3) := by decide +kernel
theorem dX5_isAsGood_4 : decode cX5_isAsGood 4 = .ok (.bipush 24, 2) := by decide +kernel
theorem dX5_isAsGood_6 : decode cX5_isAsGood 6 = .ok (.iload_n 3, 1) := by decide +kernel
theorem dX5_isAsGood_7 : decode cX5_isAsGood 7 = .ok (.iadd, 1) := by decide +kernel
theorem dX5_isAsGood_8 : decode cX5_isAsGood 8 = .ok (.iaload, 1) := by decide +kernel
theorem dX5_isAsGood_9 : decode cX5_isAsGood 9 = .ok (.istore 5, 2) := by decide +kernel
theorem dX5_isAsGood_11 : decode cX5_isAsGood 11 = .ok (.aload_n 0, 1) := by decide +kernel
theorem dX5_isAsGood_12 : decode cX5_isAsGood 12 = .ok (.getfield 7, 3) := by decide +kernel
theorem dX5_isAsGood_15 : decode cX5_isAsGood 15 = .ok (.bipush 24, 2) := by decide +kernel
theorem dX5_isAsGood_17 : decode cX5_isAsGood 17 = .ok (.iload_n 3, 1) := by decide +kernel
theorem dX5_isAsGood_18 : decode cX5_isAsGood 18 = .ok (.iadd, 1) := by decide +kernel
theorem dX5_isAsGood_19 : decode cX5_isAsGood 19 = .ok (.iload 4, 2) := by decide +kernel
theorem dX5_isAsGood_21 : decode cX5_isAsGood 21 = .ok (.iastore, 1) := by decide +kernel
theorem dX5_isAsGood_22 : decode cX5_isAsGood 22 = .ok (.aload_n 0, 1) := by decide +kernel
theorem dX5_isAsGood_23 : decode cX5_isAsGood 23 = .ok (.iload_n 1, 1) := by decide +kernel
theorem dX5_isAsGood_24 : decode cX5_isAsGood 24 = .ok (.invokevirtual 119, 3) := by decide +kernel
theorem dX5_isAsGood_27 : decode cX5_isAsGood 27 = .ok (.iload_n 2, 1) := by decide +kernel
theorem dX5_isAsGood_28 : decode cX5_isAsGood 28 = .ok (.if_icmp .ne 7, 3) := by decide +kernel
theorem dX5_isAsGood_31 : decode cX5_isAsGood 31 = .ok (.iconst 1, 1) := by decide +kernel
theorem dX5_isAsGood_32 : decode cX5_isAsGood 32 = .ok (.goto 4, 3) := by decide +kernel
theorem dX5_isAsGood_35 : decode cX5_isAsGood 35 = .ok (.iconst 0, 1) := by decide +kernel
theorem dX5_isAsGood_36 : decode cX5_isAsGood 36 = .ok (.istore 6, 2) := by decide +kernel
theorem dX5_isAsGood_38 : decode cX5_isAsGood 38 = .ok (.aload_n 0, 1) := by decide +kernel
theorem dX5_isAsGood_39 : decode cX5_isAsGood 39 = .ok (.getfield 7, 3) := by decide +kernel
theorem dX5_isAsGood_42 : decode cX5_isAsGood 42 = .ok (.bipush 24, 2) := by decide +kernel
theorem dX5_isAsGood_44 : decode cX5_isAsGood 44 = .ok (.iload_n 3, 1) := by decide +kernel
theorem dX5_isAsGood_45 : decode cX5_isAsGood 45 = .ok (.iadd, 1) := by decide +kernel
theorem dX5_isAsGood_46 : decode cX5_isAsGood 46 = .ok (.iload 5, 2) := by decide +kernel
theorem dX5_isAsGood_48 : decode cX5_isAsGood 48 = .ok (.iastore, 1) := by decide +kernel
theorem dX5_isAsGood_49 : decode cX5_isAsGood 49 = .ok (.iload 6, 2) := by decide +kernel
theorem dX5_isAsGood_51 : decode cX5_isAsGood 51 = .ok (.ireturn, 1) := by decide +kernel
theorem dX5_slack_0 : decode cX5_slack 0 = .ok (.aload_n 0, 1) := by decide +kernel
theorem dX5_slack_1 : decode cX5_slack 1 = .ok (.iload_n 1, 1) := by decide +kernel
theorem dX5_slack_2 : decode cX5_slack 2 = .ok (.invokevirtual 51, 3) := by decide +kernel
theorem dX5_slack_5 : decode cX5_slack 5 = .ok (.ifCond .ne 5, 3) := by decide +kernel
theorem dX5_slack_8 : decode cX5_slack 8 = .ok (.iconst (-1), 1) := by decide +kernel
theorem dX5_slack_9 : decode cX5_slack 9 = .ok (.ireturn, 1) := by decide +kernel
theorem dX5_slack_10 : decode cX5_slack 10 = .ok (.iload_n 2, 1) := by decide +kernel
theorem dX5_slack_11 : decode cX5_slack 11 = .ok (.invokestatic 122, 3) := by decide +kernel
theorem dX5_slack_14 : decode cX5_slack 14 = .ok (.ifCond .ne 6, 3) := by decide +kernel
theorem dX5_slack_17 : decode cX5_slack 17 = .ok (.bipush (-2), 2) := by decide +kernel
theorem dX5_slack_19 : decode cX5_slack 19 = .ok (.ireturn, 1) := by decide +kernel
theorem dX5_slack_20 : decode cX5_slack 20 = .ok (.aload_n 0, 1) := by decide +kernel
theorem dX5_slack_21 : decode cX5_slack 21 = .ok (.iload_n 2, 1) := by decide +kernel
theorem dX5_slack_22 : decode cX5_slack 22 = .ok (.invokevirtual 125, 3) := by decide +kernel
theorem dX5_slack_25 : decode cX5_slack 25 = .ok (.istore_n 3, 1) := by decide +kernel
theorem dX5_slack_26 : decode cX5_slack 26 = .ok (.aload_n 0, 1) := by decide +kernel
theorem dX5_slack_27 : decode cX5_slack 27 = .ok (.getfield 7, 3) := by decide +kernel
theorem dX5_slack_30 : decode cX5_slack 30 = .ok (.bipush 24, 2) := by decide +kernel
theorem dX5_slack_32 : decode cX5_slack 32 = .ok (.iload_n 1, 1) := by decide +kernel
theorem dX5_slack_33 : decode cX5_slack 33 = .ok (.iadd, 1) := by decide +kernel
theorem dX5_slack_34 : decode cX5_slack 34 = .ok (.iaload, 1) := by decide +kernel
theorem dX5_slack_35 : decode cX5_slack 35 = .ok (.istore 4, 2) := by decide +kernel
theorem dX5_slack_37 : decode cX5_slack 37 = .ok (.iload 4, 2) := by decide +kernel
theorem dX5_slack_39 : decode cX5_slack 39 = .ok (.istore 5, 2) := by decide +kernel
theorem dX5_slack_41 : decode cX5_slack 41 = .ok (.iconst (-1), 1) := by decide +kernel
theorem dX5_slack_42 : decode cX5_slack 42 = .ok (.istore 6, 2) := by decide +kernel
theorem dX5_slack_44 : decode cX5_slack 44 = .ok (.iload 5, 2) := by decide +kernel
theorem dX5_slack_46 : decode cX5_slack 46 = .ok (.iload 6, 2) := by decide +kernel
theorem dX5_slack_48 : decode cX5_slack 48 = .ok (.isub, 1) := by decide +kernel
theorem dX5_slack_49 : decode cX5_slack 49 = .ok (.iconst 1, 1) := by decide +kernel
theorem dX5_slack_50 : decode cX5_slack 50 = .ok (.if_icmp .le 38, 3) := by decide +kernel
theorem dX5_slack_53 : decode cX5_slack 53 = .ok (.iload 5, 2) := by decide +kernel
theorem dX5_slack_55 : decode cX5_slack 55 = .ok (.iload 6, 2) := by decide +kernel
theorem dX5_slack_57 : decode cX5_slack 57 = .ok (.iadd, 1) := by decide +kernel
theorem dX5_slack_58 : decode cX5_slack 58 = .ok (.iconst 2, 1) := by decide +kernel
theorem dX5_slack_59 : decode cX5_slack 59 = .ok (.idiv, 1) := by decide +kernel
theorem dX5_slack_60 : decode cX5_slack 60 = .ok (.istore 7, 2) := by decide +kernel
theorem dX5_slack_62 : decode cX5_slack 62 = .ok (.aload_n 0, 1) := by decide +kernel
theorem dX5_slack_63 : decode cX5_slack 63 = .ok (.iload_n 2, 1) := by decide +kernel
theorem dX5_slack_64 : decode cX5_slack 64 = .ok (.iload_n 3, 1) := by decide +kernel
theorem dX5_slack_65 : decode cX5_slack 65 = .ok (.iload_n 1, 1) := by decide +kernel
theorem dX5_slack_66 : decode cX5_slack 66 = .ok (.iload 7, 2) := by decide +kernel
theorem dX5_slack_68 : decode cX5_slack 68 = .ok (.invokevirtual 142, 3) := by decide +kernel
theorem dX5_slack_71 : decode cX5_slack 71 = .ok (.ifCond .eq 10, 3) := by decide +kernel
theorem dX5_slack_74 : decode cX5_slack 74 = .ok (.iload 7, 2) := by decide +kernel
theorem dX5_slack_76 : decode cX5_slack 76 = .ok (.istore 5, 2) := by decide +kernel
theorem dX5_slack_78 : decode cX5_slack 78 = .ok (.goto 7, 3) := by decide +kernel
theorem dX5_slack_81 : decode cX5_slack 81 = .ok (.iload 7, 2) := by decide +kernel
theorem dX5_slack_83 : decode cX5_slack 83 = .ok (.istore 6, 2) := by decide +kernel
theorem dX5_slack_85 : decode cX5_slack 85 = .ok (.goto (-41), 3) := by decide +kernel
theorem dX5_slack_88 : decode cX5_slack 88 = .ok (.iload 4, 2) := by decide +kernel
theorem dX5_slack_90 : decode cX5_slack 90 = .ok (.iload 5, 2) := by decide +kernel
theorem dX5_slack_92 : decode cX5_slack 92 = .ok (.isub, 1) := by decide +kernel
theorem dX5_slack_93 : decode cX5_slack 93 = .ok (.ireturn, 1) := by decide +kernel
theorem dX5_isTighter_0 : decode cX5_isTighter 0 = .ok (.iload_n 2, 1) := by decide +kernel
theorem dX5_isTighter_1 : decode cX5_isTighter 1 = .ok (.ifCond .lt 16, 3) := by decide +kernel
theorem dX5_isTighter_4 : decode cX5_isTighter 4 = .ok (.aload_n 0, 1) := by decide +kernel
theorem dX5_isTighter_5 : decode cX5_isTighter 5 = .ok (.iload_n 1, 1) := by decide +kernel
theorem dX5_isTighter_6 : decode cX5_isTighter 6 = .ok (.invokevirtual 58, 3) := by decide +kernel
theorem dX5_isTighter_9 : decode cX5_isTighter 9 = .ok (.aload_n 0, 1) := by decide +kernel
theorem dX5_isTighter_10 : decode cX5_isTighter 10 = .ok (.iload_n 2, 1) := by decide +kernel
theorem dX5_isTighter_11 : decode cX5_isTighter 11 = .ok (.invokevirtual 58, 3) := by decide +kernel
theorem dX5_isTighter_14 : decode cX5_isTighter 14 = .ok (.if_icmp .ge 7, 3) := by decide +kernel
theorem dX5_isTighter_17 : decode cX5_isTighter 17 = .ok (.iconst 1, 1) := by decide +kernel
theorem dX5_isTighter_18 : decode cX5_isTighter 18 = .ok (.goto 4, 3) := by decide +kernel
theorem dX5_isTighter_21 : decode cX5_isTighter 21 = .ok (.iconst 0, 1) := by decide +kernel
theorem dX5_isTighter_22 : decode cX5_isTighter 22 = .ok (.ireturn, 1) := by decide +kernel
theorem dX5_tightest_0 : decode cX5_tightest 0 = .ok (.bipush (-6), 2) := by decide +kernel
theorem dX5_tightest_2 : decode cX5_tightest 2 = .ok (.istore 4, 2) := by decide +kernel
theorem dX5_tightest_4 : decode cX5_tightest 4 = .ok (.iconst 0, 1) := by decide +kernel
theorem dX5_tightest_5 : decode cX5_tightest 5 = .ok (.istore 5, 2) := by decide +kernel
theorem dX5_tightest_7 : decode cX5_tightest 7 = .ok (.iload 5, 2) := by decide +kernel
theorem dX5_tightest_9 : decode cX5_tightest 9 = .ok (.aload_n 0, 1) := by decide +kernel
theorem dX5_tightest_10 : decode cX5_tightest 10 = .ok (.invokevirtual 43, 3) := by decide +kernel
theorem dX5_tightest_13 : decode cX5_tightest 13 = .ok (.if_icmp .ge 82, 3) := by decide +kernel
theorem dX5_tightest_16 : decode cX5_tightest 16 = .ok (.iload_n 1, 1) := by decide +kernel
theorem dX5_tightest_17 : decode cX5_tightest 17 = .ok (.iload 5, 2) := by decide +kernel
theorem dX5_tightest_19 : decode cX5_tightest 19 = .ok (.invokestatic 62, 3) := by decide +kernel
theorem dX5_tightest_22 : decode cX5_tightest 22 = .ok (.ifCond .eq 39, 3) := by decide +kernel
theorem dX5_tightest_25 : decode cX5_tightest 25 = .ok (.iload_n 2, 1) := by decide +kernel
theorem dX5_tightest_26 : decode cX5_tightest 26 = .ok (.ifCond .lt 17, 3) := by decide +kernel
theorem dX5_tightest_29 : decode cX5_tightest 29 = .ok (.aload_n 0, 1) := by decide +kernel
theorem dX5_tightest_30 : decode cX5_tightest 30 = .ok (.getfield 7, 3) := by decide +kernel
theorem dX5_tightest_33 : decode cX5_tightest 33 = .ok (.bipush 10, 2) := by decide +kernel
theorem dX5_tightest_35 : decode cX5_tightest 35 = .ok (.iload 5, 2) := by decide +kernel
theorem dX5_tightest_37 : decode cX5_tightest 37 = .ok (.iadd, 1) := by decide +kernel
theorem dX5_tightest_38 : decode cX5_tightest 38 = .ok (.iaload, 1) := by decide +kernel
theorem dX5_tightest_39 : decode cX5_tightest 39 = .ok (.iload_n 2, 1) := by decide +kernel
theorem dX5_tightest_40 : decode cX5_tightest 40 = .ok (.if_icmp .ne 21, 3) := by decide +kernel
theorem dX5_tightest_43 : decode cX5_tightest 43 = .ok (.aload_n 0, 1) := by decide +kernel
theorem dX5_tightest_44 : decode cX5_tightest 44 = .ok (.getfield 7, 3) := by decide +kernel
theorem dX5_tightest_47 : decode cX5_tightest 47 = .ok (.bipush 17, 2) := by decide +kernel
theorem dX5_tightest_49 : decode cX5_tightest 49 = .ok (.iload 5, 2) := by decide +kernel
theorem dX5_tightest_51 : decode cX5_tightest 51 = .ok (.iadd, 1) := by decide +kernel
theorem dX5_tightest_52 : decode cX5_tightest 52 = .ok (.iaload, 1) := by decide +kernel
theorem dX5_tightest_53 : decode cX5_tightest 53 = .ok (.iload_n 3, 1) := by decide +kernel
theorem dX5_tightest_54 : decode cX5_tightest 54 = .ok (.if_icmp .gt 7, 3) := by decide +kernel
theorem dX5_tightest_57 : decode cX5_tightest 57 = .ok (.iconst 1, 1) := by decide +kernel
theorem dX5_tightest_58 : decode cX5_tightest 58 = .ok (.goto 4, 3) := by decide +kernel
theorem dX5_tightest_61 : decode cX5_tightest 61 = .ok (.iconst 0, 1) := by decide +kernel
theorem dX5_tightest_62 : decode cX5_tightest 62 = .ok (.istore 6, 2) := by decide +kernel
theorem dX5_tightest_64 : decode cX5_tightest 64 = .ok (.iload 6, 2) := by decide +kernel
theorem dX5_tightest_66 : decode cX5_tightest 66 = .ok (.ifCond .eq 19, 3) := by decide +kernel
theorem dX5_tightest_69 : decode cX5_tightest 69 = .ok (.aload_n 0, 1) := by decide +kernel
theorem dX5_tightest_70 : decode cX5_tightest 70 = .ok (.iload 5, 2) := by decide +kernel
theorem dX5_tightest_72 : decode cX5_tightest 72 = .ok (.iload 4, 2) := by decide +kernel
theorem dX5_tightest_74 : decode cX5_tightest 74 = .ok (.invokevirtual 146, 3) := by decide +kernel
theorem dX5_tightest_77 : decode cX5_tightest 77 = .ok (.ifCond .eq 8, 3) := by decide +kernel
theorem dX5_tightest_80 : decode cX5_tightest 80 = .ok (.iload 5, 2) := by decide +kernel
theorem dX5_tightest_82 : decode cX5_tightest 82 = .ok (.goto 5, 3) := by decide +kernel
theorem dX5_tightest_85 : decode cX5_tightest 85 = .ok (.iload 4, 2) := by decide +kernel
theorem dX5_tightest_87 : decode cX5_tightest 87 = .ok (.istore 4, 2) := by decide +kernel
theorem dX5_tightest_89 : decode cX5_tightest 89 = .ok (.iinc 5 1, 3) := by decide +kernel
theorem dX5_tightest_92 : decode cX5_tightest 92 = .ok (.goto (-85), 3) := by decide +kernel
theorem dX5_tightest_95 : decode cX5_tightest 95 = .ok (.iload 4, 2) := by decide +kernel
theorem dX5_tightest_97 : decode cX5_tightest 97 = .ok (.ireturn, 1) := by decide +kernel
theorem dX5_layRule_0 : decode cX5_layRule 0 = .ok (.aload_n 0, 1) := by decide +kernel
theorem dX5_layRule_1 : decode cX5_layRule 1 = .ok (.iconst 0, 1) := by decide +kernel
theorem dX5_layRule_2 : decode cX5_layRule 2 = .ok (.putfield 69, 3) := by decide +kernel
theorem dX5_layRule_5 : decode cX5_layRule 5 = .ok (.aload_n 0, 1) := by decide +kernel
theorem dX5_layRule_6 : decode cX5_layRule 6 = .ok (.invokevirtual 89, 3) := by decide +kernel
theorem dX5_layRule_9 : decode cX5_layRule 9 = .ok (.istore_n 1, 1) := by decide +kernel
theorem dX5_layRule_10 : decode cX5_layRule 10 = .ok (.iload_n 1, 1) := by decide +kernel
theorem dX5_layRule_11 : decode cX5_layRule 11 = .ok (.ifCond .le 118, 3) := by decide +kernel
theorem dX5_layRule_14 : decode cX5_layRule 14 = .ok (.aload_n 0, 1) := by decide +kernel
theorem dX5_layRule_15 : decode cX5_layRule 15 = .ok (.iload_n 1, 1) := by decide +kernel
theorem dX5_layRule_16 : decode cX5_layRule 16 = .ok (.bipush (-6), 2) := by decide +kernel
theorem dX5_layRule_18 : decode cX5_layRule 18 = .ok (.aload_n 0, 1) := by decide +kernel
theorem dX5_layRule_19 : decode cX5_layRule 19 = .ok (.getfield 7, 3) := by decide +kernel
theorem dX5_layRule_22 : decode cX5_layRule 22 = .ok (.bipush 6, 2) := by decide +kernel
theorem dX5_layRule_24 : decode cX5_layRule 24 = .ok (.iaload, 1) := by decide +kernel
theorem dX5_layRule_25 : decode cX5_layRule 25 = .ok (.invokevirtual 149, 3) := by decide +kernel
theorem dX5_layRule_28 : decode cX5_layRule 28 = .ok (.istore_n 2, 1) := by decide +kernel
theorem dX5_layRule_29 : decode cX5_layRule 29 = .ok (.aload_n 0, 1) := by decide +kernel
theorem dX5_layRule_30 : decode cX5_layRule 30 = .ok (.getfield 7, 3) := by decide +kernel
theorem dX5_layRule_33 : decode cX5_layRule 33 = .ok (.bipush 10, 2) := by decide +kernel
theorem dX5_layRule_35 : decode cX5_layRule 35 = .ok (.iload_n 2, 1) := by decide +kernel
theorem dX5_layRule_36 : decode cX5_layRule 36 = .ok (.iadd, 1) := by decide +kernel
theorem dX5_layRule_37 : decode cX5_layRule 37 = .ok (.iaload, 1) := by decide +kernel
theorem dX5_layRule_38 : decode cX5_layRule 38 = .ok (.istore_n 3, 1) := by decide +kernel
theorem dX5_layRule_39 : decode cX5_layRule 39 = .ok (.iconst 0, 1) := by decide +kernel
theorem dX5_layRule_40 : decode cX5_layRule 40 = .ok (.istore 4, 2) := by decide +kernel
theorem dX5_layRule_42 : decode cX5_layRule 42 = .ok (.aload_n 0, 1) := by decide +kernel
theorem dX5_layRule_43 : decode cX5_layRule 43 = .ok (.getfield 7, 3) := by decide +kernel
theorem dX5_layRule_46 : decode cX5_layRule 46 = .ok (.bipush 6, 2) := by decide +kernel
theorem dX5_layRule_48 : decode cX5_layRule 48 = .ok (.iaload, 1) := by decide +kernel
theorem dX5_layRule_49 : decode cX5_layRule 49 = .ok (.istore 5, 2) := by decide +kernel
theorem dX5_layRule_51 : decode cX5_layRule 51 = .ok (.iload_n 2, 1) := by decide +kernel
theorem dX5_layRule_52 : decode cX5_layRule 52 = .ok (.istore 6, 2) := by decide +kernel
theorem dX5_layRule_54 : decode cX5_layRule 54 = .ok (.iload 6, 2) := by decide +kernel
theorem dX5_layRule_56 : decode cX5_layRule 56 = .ok (.ifCond .lt 49, 3) := by decide +kernel
theorem dX5_layRule_59 : decode cX5_layRule 59 = .ok (.iload 4, 2) := by decide +kernel
theorem dX5_layRule_61 : decode cX5_layRule 61 = .ok (.iconst 1, 1) := by decide +kernel
theorem dX5_layRule_62 : decode cX5_layRule 62 = .ok (.iload 6, 2) := by decide +kernel
theorem dX5_layRule_64 : decode cX5_layRule 64 = .ok (.ishl, 1) := by decide +kernel
theorem dX5_layRule_65 : decode cX5_layRule 65 = .ok (.ior, 1) := by decide +kernel
theorem dX5_layRule_66 : decode cX5_layRule 66 = .ok (.istore 4, 2) := by decide +kernel
theorem dX5_layRule_68 : decode cX5_layRule 68 = .ok (.iload_n 1, 1) := by decide +kernel
theorem dX5_layRule_69 : decode cX5_layRule 69 = .ok (.iconst 1, 1) := by decide +kernel
theorem dX5_layRule_70 : decode cX5_layRule 70 = .ok (.iload 6, 2) := by decide +kernel
theorem dX5_layRule_72 : decode cX5_layRule 72 = .ok (.ishl, 1) := by decide +kernel
theorem dX5_layRule_73 : decode cX5_layRule 73 = .ok (.iconst (-1), 1) := by decide +kernel
theorem dX5_layRule_74 : decode cX5_layRule 74 = .ok (.ixor, 1) := by decide +kernel
theorem dX5_layRule_75 : decode cX5_layRule 75 = .ok (.iand, 1) := by decide +kernel
theorem dX5_layRule_76 : decode cX5_layRule 76 = .ok (.istore_n 1, 1) := by decide +kernel
theorem dX5_layRule_77 : decode cX5_layRule 77 = .ok (.iload 5, 2) := by decide +kernel
theorem dX5_layRule_79 : decode cX5_layRule 79 = .ok (.aload_n 0, 1) := by decide +kernel
theorem dX5_layRule_80 : decode cX5_layRule 80 = .ok (.getfield 7, 3) := by decide +kernel
theorem dX5_layRule_83 : decode cX5_layRule 83 = .ok (.bipush 17, 2) := by decide +kernel
theorem dX5_layRule_85 : decode cX5_layRule 85 = .ok (.iload 6, 2) := by decide +kernel
theorem dX5_layRule_87 : decode cX5_layRule 87 = .ok (.iadd, 1) := by decide +kernel
theorem dX5_layRule_88 : decode cX5_layRule 88 = .ok (.iaload, 1) := by decide +kernel
theorem dX5_layRule_89 : decode cX5_layRule 89 = .ok (.isub, 1) := by decide +kernel
theorem dX5_layRule_90 : decode cX5_layRule 90 = .ok (.istore 5, 2) := by decide +kernel
theorem dX5_layRule_92 : decode cX5_layRule 92 = .ok (.aload_n 0, 1) := by decide +kernel
theorem dX5_layRule_93 : decode cX5_layRule 93 = .ok (.iload_n 1, 1) := by decide +kernel
theorem dX5_layRule_94 : decode cX5_layRule 94 = .ok (.iload_n 3, 1) := by decide +kernel
theorem dX5_layRule_95 : decode cX5_layRule 95 = .ok (.iload 5, 2) := by decide +kernel
theorem dX5_layRule_97 : decode cX5_layRule 97 = .ok (.invokevirtual 149, 3) := by decide +kernel
theorem dX5_layRule_100 : decode cX5_layRule 100 = .ok (.istore 6, 2) := by decide +kernel
theorem dX5_layRule_102 : decode cX5_layRule 102 = .ok (.goto (-48), 3) := by decide +kernel
theorem dX5_layRule_105 : decode cX5_layRule 105 = .ok (.aload_n 0, 1) := by decide +kernel
theorem dX5_layRule_106 : decode cX5_layRule 106 = .ok (.getfield 23, 3) := by decide +kernel
theorem dX5_layRule_109 : decode cX5_layRule 109 = .ok (.aload_n 0, 1) := by decide +kernel
theorem dX5_layRule_110 : decode cX5_layRule 110 = .ok (.getfield 69, 3) := by decide +kernel
theorem dX5_layRule_113 : decode cX5_layRule 113 = .ok (.iload 4, 2) := by decide +kernel
theorem dX5_layRule_115 : decode cX5_layRule 115 = .ok (.iastore, 1) := by decide +kernel
theorem dX5_layRule_116 : decode cX5_layRule 116 = .ok (.aload_n 0, 1) := by decide +kernel
theorem dX5_layRule_117 : decode cX5_layRule 117 = .ok (.dup, 1) := by decide +kernel
theorem dX5_layRule_118 : decode cX5_layRule 118 = .ok (.getfield 69, 3) := by decide +kernel
theorem dX5_layRule_121 : decode cX5_layRule 121 = .ok (.iconst 1, 1) := by decide +kernel
theorem dX5_layRule_122 : decode cX5_layRule 122 = .ok (.iadd, 1) := by decide +kernel
theorem dX5_layRule_123 : decode cX5_layRule 123 = .ok (.putfield 69, 3) := by decide +kernel
theorem dX5_layRule_126 : decode cX5_layRule 126 = .ok (.goto (-116), 3) := by decide +kernel
theorem dX5_layRule_129 : decode cX5_layRule 129 = .ok (.return_, 1) := by decide +kernel
theorem dX5_rule_0 : decode cX5_rule 0 = .ok (.iload_n 1, 1) := by decide +kernel
theorem dX5_rule_1 : decode cX5_rule 1 = .ok (.iconst (-1), 1) := by decide +kernel
theorem dX5_rule_2 : decode cX5_rule 2 = .ok (.if_icmp .ge 6, 3) := by decide +kernel
theorem dX5_rule_5 : decode cX5_rule 5 = .ok (.bipush (-2), 2) := by decide +kernel
theorem dX5_rule_7 : decode cX5_rule 7 = .ok (.ireturn, 1) := by decide +kernel
theorem dX5_rule_8 : decode cX5_rule 8 = .ok (.aload_n 0, 1) := by decide +kernel
theorem dX5_rule_9 : decode cX5_rule 9 = .ok (.invokevirtual 152, 3) := by decide +kernel
theorem dX5_rule_12 : decode cX5_rule 12 = .ok (.aload_n 0, 1) := by decide +kernel
theorem dX5_rule_13 : decode cX5_rule 13 = .ok (.iload_n 1, 1) := by decide +kernel
theorem dX5_rule_14 : decode cX5_rule 14 = .ok (.invokevirtual 136, 3) := by decide +kernel
theorem dX5_rule_17 : decode cX5_rule 17 = .ok (.ireturn, 1) := by decide +kernel
theorem dX5_ruled_0 : decode cX5_ruled 0 = .ok (.iload_n 1, 1) := by decide +kernel
theorem dX5_ruled_1 : decode cX5_ruled 1 = .ok (.invokestatic 122, 3) := by decide +kernel
theorem dX5_ruled_4 : decode cX5_ruled 4 = .ok (.ifCond .ne 6, 3) := by decide +kernel
theorem dX5_ruled_7 : decode cX5_ruled 7 = .ok (.bipush (-2), 2) := by decide +kernel
theorem dX5_ruled_9 : decode cX5_ruled 9 = .ok (.ireturn, 1) := by decide +kernel
theorem dX5_ruled_10 : decode cX5_ruled 10 = .ok (.aload_n 0, 1) := by decide +kernel
theorem dX5_ruled_11 : decode cX5_ruled 11 = .ok (.invokevirtual 152, 3) := by decide +kernel
theorem dX5_ruled_14 : decode cX5_ruled 14 = .ok (.aload_n 0, 1) := by decide +kernel
theorem dX5_ruled_15 : decode cX5_ruled 15 = .ok (.iload_n 1, 1) := by decide +kernel
theorem dX5_ruled_16 : decode cX5_ruled 16 = .ok (.invokevirtual 155, 3) := by decide +kernel
theorem dX5_ruled_19 : decode cX5_ruled 19 = .ok (.ireturn, 1) := by decide +kernel
theorem dX5_say_0 : decode cX5_say 0 = .ok (.iload_n 1, 1) := by decide +kernel
theorem dX5_say_1 : decode cX5_say 1 = .ok (.bipush 33, 2) := by decide +kernel
theorem dX5_say_3 : decode cX5_say 3 = .ok (.bipush 126, 2) := by decide +kernel
theorem dX5_say_5 : decode cX5_say 5 = .ok (.invokestatic 39, 3) := by decide +kernel
theorem dX5_say_8 : decode cX5_say 8 = .ok (.ifCond .ne 6, 3) := by decide +kernel
theorem dX5_say_11 : decode cX5_say 11 = .ok (.bipush (-2), 2) := by decide +kernel
theorem dX5_say_13 : decode cX5_say 13 = .ok (.ireturn, 1) := by decide +kernel
theorem dX5_say_14 : decode cX5_say 14 = .ok (.aload_n 0, 1) := by decide +kernel
theorem dX5_say_15 : decode cX5_say 15 = .ok (.getfield 158, 3) := by decide +kernel
theorem dX5_say_18 : decode cX5_say 18 = .ok (.bipush 14, 2) := by decide +kernel
theorem dX5_say_20 : decode cX5_say 20 = .ok (.if_icmp .ne 6, 3) := by decide +kernel
theorem dX5_say_23 : decode cX5_say 23 = .ok (.bipush (-4), 2) := by decide +kernel
theorem dX5_say_25 : decode cX5_say 25 = .ok (.ireturn, 1) := by decide +kernel
theorem dX5_say_26 : decode cX5_say 26 = .ok (.aload_n 0, 1) := by decide +kernel
theorem dX5_say_27 : decode cX5_say 27 = .ok (.getfield 20, 3) := by decide +kernel
theorem dX5_say_30 : decode cX5_say 30 = .ok (.aload_n 0, 1) := by decide +kernel
theorem dX5_say_31 : decode cX5_say 31 = .ok (.getfield 158, 3) := by decide +kernel
theorem dX5_say_34 : decode cX5_say 34 = .ok (.iload_n 1, 1) := by decide +kernel
theorem dX5_say_35 : decode cX5_say 35 = .ok (.iastore, 1) := by decide +kernel
theorem dX5_say_36 : decode cX5_say 36 = .ok (.aload_n 0, 1) := by decide +kernel
theorem dX5_say_37 : decode cX5_say 37 = .ok (.dup, 1) := by decide +kernel
theorem dX5_say_38 : decode cX5_say 38 = .ok (.getfield 158, 3) := by decide +kernel
theorem dX5_say_41 : decode cX5_say 41 = .ok (.iconst 1, 1) := by decide +kernel
theorem dX5_say_42 : decode cX5_say 42 = .ok (.iadd, 1) := by decide +kernel
theorem dX5_say_43 : decode cX5_say 43 = .ok (.putfield 158, 3) := by decide +kernel
theorem dX5_say_46 : decode cX5_say 46 = .ok (.aload_n 0, 1) := by decide +kernel
theorem dX5_say_47 : decode cX5_say 47 = .ok (.getfield 158, 3) := by decide +kernel
theorem dX5_say_50 : decode cX5_say 50 = .ok (.ireturn, 1) := by decide +kernel
theorem dX5_wipe_0 : decode cX5_wipe 0 = .ok (.aload_n 0, 1) := by decide +kernel
theorem dX5_wipe_1 : decode cX5_wipe 1 = .ok (.getfield 158, 3) := by decide +kernel
theorem dX5_wipe_4 : decode cX5_wipe 4 = .ok (.istore_n 1, 1) := by decide +kernel
theorem dX5_wipe_5 : decode cX5_wipe 5 = .ok (.aload_n 0, 1) := by decide +kernel
theorem dX5_wipe_6 : decode cX5_wipe 6 = .ok (.iconst 0, 1) := by decide +kernel
theorem dX5_wipe_7 : decode cX5_wipe 7 = .ok (.putfield 158, 3) := by decide +kernel
theorem dX5_wipe_10 : decode cX5_wipe 10 = .ok (.iload_n 1, 1) := by decide +kernel
theorem dX5_wipe_11 : decode cX5_wipe 11 = .ok (.ireturn, 1) := by decide +kernel
theorem dX5_canStand_0 : decode cX5_canStand 0 = .ok (.iload_n 1, 1) := by decide +kernel
theorem dX5_canStand_1 : decode cX5_canStand 1 = .ok (.bipush 47, 2) := by decide +kernel
theorem dX5_canStand_3 : decode cX5_canStand 3 = .ok (.if_icmp .ne 16, 3) := by decide +kernel
theorem dX5_canStand_6 : decode cX5_canStand 6 = .ok (.aload_n 0, 1) := by decide +kernel
theorem dX5_canStand_7 : decode cX5_canStand 7 = .ok (.getfield 161, 3) := by decide +kernel
theorem dX5_canStand_10 : decode cX5_canStand 10 = .ok (.ifCond .eq 7, 3) := by decide +kernel
theorem dX5_canStand_13 : decode cX5_canStand 13 = .ok (.iconst 1, 1) := by decide +kernel
theorem dX5_canStand_14 : decode cX5_canStand 14 = .ok (.goto 4, 3) := by decide +kernel
theorem dX5_canStand_17 : decode cX5_canStand 17 = .ok (.iconst 0, 1) := by decide +kernel
theorem dX5_canStand_18 : decode cX5_canStand 18 = .ok (.ireturn, 1) := by decide +kernel
theorem dX5_canStand_19 : decode cX5_canStand 19 = .ok (.iload_n 1, 1) := by decide +kernel
theorem dX5_canStand_20 : decode cX5_canStand 20 = .ok (.bipush 48, 2) := by decide +kernel
theorem dX5_canStand_22 : decode cX5_canStand 22 = .ok (.isub, 1) := by decide +kernel
theorem dX5_canStand_23 : decode cX5_canStand 23 = .ok (.istore_n 2, 1) := by decide +kernel
theorem dX5_canStand_24 : decode cX5_canStand 24 = .ok (.iload_n 2, 1) := by decide +kernel
theorem dX5_canStand_25 : decode cX5_canStand 25 = .ok (.iconst 0, 1) := by decide +kernel
theorem dX5_canStand_26 : decode cX5_canStand 26 = .ok (.bipush 6, 2) := by decide +kernel
theorem dX5_canStand_28 : decode cX5_canStand 28 = .ok (.invokestatic 39, 3) := by decide +kernel
theorem dX5_canStand_31 : decode cX5_canStand 31 = .ok (.ifCond .eq 22, 3) := by decide +kernel
theorem dX5_canStand_34 : decode cX5_canStand 34 = .ok (.aload_n 0, 1) := by decide +kernel
theorem dX5_canStand_35 : decode cX5_canStand 35 = .ok (.iload_n 2, 1) := by decide +kernel
theorem dX5_canStand_36 : decode cX5_canStand 36 = .ok (.invokevirtual 51, 3) := by decide +kernel
theorem dX5_canStand_39 : decode cX5_canStand 39 = .ok (.ifCond .eq 14, 3) := by decide +kernel
theorem dX5_canStand_42 : decode cX5_canStand 42 = .ok (.aload_n 0, 1) := by decide +kernel
theorem dX5_canStand_43 : decode cX5_canStand 43 = .ok (.getfield 164, 3) := by decide +kernel
theorem dX5_canStand_46 : decode cX5_canStand 46 = .ok (.iload_n 2, 1) := by decide +kernel
theorem dX5_canStand_47 : decode cX5_canStand 47 = .ok (.invokestatic 62, 3) := by decide +kernel
theorem dX5_canStand_50 : decode cX5_canStand 50 = .ok (.ifCond .eq 5, 3) := by decide +kernel
theorem dX5_canStand_53 : decode cX5_canStand 53 = .ok (.iconst 0, 1) := by decide +kernel
theorem dX5_canStand_54 : decode cX5_canStand 54 = .ok (.ireturn, 1) := by decide +kernel
theorem dX5_canStand_55 : decode cX5_canStand 55 = .ok (.aload_n 0, 1) := by decide +kernel
theorem dX5_canStand_56 : decode cX5_canStand 56 = .ok (.aload_n 0, 1) := by decide +kernel
theorem dX5_canStand_57 : decode cX5_canStand 57 = .ok (.getfield 161, 3) := by decide +kernel
theorem dX5_canStand_60 : decode cX5_canStand 60 = .ok (.iconst 1, 1) := by decide +kernel
theorem dX5_canStand_61 : decode cX5_canStand 61 = .ok (.iload_n 2, 1) := by decide +kernel
theorem dX5_canStand_62 : decode cX5_canStand 62 = .ok (.ishl, 1) := by decide +kernel
theorem dX5_canStand_63 : decode cX5_canStand 63 = .ok (.ior, 1) := by decide +kernel
theorem dX5_canStand_64 : decode cX5_canStand 64 = .ok (.invokevirtual 73, 3) := by decide +kernel
theorem dX5_canStand_67 : decode cX5_canStand 67 = .ok (.ifCond .lt 29, 3) := by decide +kernel
theorem dX5_canStand_70 : decode cX5_canStand 70 = .ok (.aload_n 0, 1) := by decide +kernel
theorem dX5_canStand_71 : decode cX5_canStand 71 = .ok (.aload_n 0, 1) := by decide +kernel
theorem dX5_canStand_72 : decode cX5_canStand 72 = .ok (.getfield 161, 3) := by decide +kernel
theorem dX5_canStand_75 : decode cX5_canStand 75 = .ok (.iconst 1, 1) := by decide +kernel
theorem dX5_canStand_76 : decode cX5_canStand 76 = .ok (.iload_n 2, 1) := by decide +kernel
theorem dX5_canStand_77 : decode cX5_canStand 77 = .ok (.ishl, 1) := by decide +kernel
theorem dX5_canStand_78 : decode cX5_canStand 78 = .ok (.ior, 1) := by decide +kernel
theorem dX5_canStand_79 : decode cX5_canStand 79 = .ok (.invokevirtual 92, 3) := by decide +kernel
theorem dX5_canStand_82 : decode cX5_canStand 82 = .ok (.aload_n 0, 1) := by decide +kernel
theorem dX5_canStand_83 : decode cX5_canStand 83 = .ok (.getfield 7, 3) := by decide +kernel
theorem dX5_canStand_86 : decode cX5_canStand 86 = .ok (.bipush 6, 2) := by decide +kernel
theorem dX5_canStand_88 : decode cX5_canStand 88 = .ok (.iaload, 1) := by decide +kernel
theorem dX5_canStand_89 : decode cX5_canStand 89 = .ok (.if_icmp .gt 7, 3) := by decide +kernel
theorem dX5_canStand_92 : decode cX5_canStand 92 = .ok (.iconst 1, 1) := by decide +kernel
theorem dX5_canStand_93 : decode cX5_canStand 93 = .ok (.goto 4, 3) := by decide +kernel
theorem dX5_canStand_96 : decode cX5_canStand 96 = .ok (.iconst 0, 1) := by decide +kernel
theorem dX5_canStand_97 : decode cX5_canStand 97 = .ok (.ireturn, 1) := by decide +kernel
theorem dX5_layPad_0 : decode cX5_layPad 0 = .ok (.aload_n 0, 1) := by decide +kernel
theorem dX5_layPad_1 : decode cX5_layPad 1 = .ok (.iconst 0, 1) := by decide +kernel
theorem dX5_layPad_2 : decode cX5_layPad 2 = .ok (.putfield 164, 3) := by decide +kernel
theorem dX5_layPad_5 : decode cX5_layPad 5 = .ok (.aload_n 0, 1) := by decide +kernel
theorem dX5_layPad_6 : decode cX5_layPad 6 = .ok (.iconst 0, 1) := by decide +kernel
theorem dX5_layPad_7 : decode cX5_layPad 7 = .ok (.putfield 161, 3) := by decide +kernel
theorem dX5_layPad_10 : decode cX5_layPad 10 = .ok (.aload_n 0, 1) := by decide +kernel
theorem dX5_layPad_11 : decode cX5_layPad 11 = .ok (.iconst 0, 1) := by decide +kernel
theorem dX5_layPad_12 : decode cX5_layPad 12 = .ok (.putfield 69, 3) := by decide +kernel
theorem dX5_layPad_15 : decode cX5_layPad 15 = .ok (.iconst 0, 1) := by decide +kernel
theorem dX5_layPad_16 : decode cX5_layPad 16 = .ok (.istore_n 1, 1) := by decide +kernel
theorem dX5_layPad_17 : decode cX5_layPad 17 = .ok (.iload_n 1, 1) := by decide +kernel
theorem dX5_layPad_18 : decode cX5_layPad 18 = .ok (.aload_n 0, 1) := by decide +kernel
theorem dX5_layPad_19 : decode cX5_layPad 19 = .ok (.getfield 158, 3) := by decide +kernel
theorem dX5_layPad_22 : decode cX5_layPad 22 = .ok (.if_icmp .ge 106, 3) := by decide +kernel
theorem dX5_layPad_25 : decode cX5_layPad 25 = .ok (.aload_n 0, 1) := by decide +kernel
theorem dX5_layPad_26 : decode cX5_layPad 26 = .ok (.aload_n 0, 1) := by decide +kernel
theorem dX5_layPad_27 : decode cX5_layPad 27 = .ok (.getfield 20, 3) := by decide +kernel
theorem dX5_layPad_30 : decode cX5_layPad 30 = .ok (.iload_n 1, 1) := by decide +kernel
theorem dX5_layPad_31 : decode cX5_layPad 31 = .ok (.iaload, 1) := by decide +kernel
theorem dX5_layPad_32 : decode cX5_layPad 32 = .ok (.invokevirtual 167, 3) := by decide +kernel
theorem dX5_layPad_35 : decode cX5_layPad 35 = .ok (.ifCond .ne 5, 3) := by decide +kernel
theorem dX5_layPad_38 : decode cX5_layPad 38 = .ok (.iload_n 1, 1) := by decide +kernel
theorem dX5_layPad_39 : decode cX5_layPad 39 = .ok (.ireturn, 1) := by decide +kernel
theorem dX5_layPad_40 : decode cX5_layPad 40 = .ok (.aload_n 0, 1) := by decide +kernel
theorem dX5_layPad_41 : decode cX5_layPad 41 = .ok (.getfield 20, 3) := by decide +kernel
theorem dX5_layPad_44 : decode cX5_layPad 44 = .ok (.iload_n 1, 1) := by decide +kernel
theorem dX5_layPad_45 : decode cX5_layPad 45 = .ok (.iaload, 1) := by decide +kernel
theorem dX5_layPad_46 : decode cX5_layPad 46 = .ok (.bipush 47, 2) := by decide +kernel
theorem dX5_layPad_48 : decode cX5_layPad 48 = .ok (.if_icmp .ne 34, 3) := by decide +kernel
theorem dX5_layPad_51 : decode cX5_layPad 51 = .ok (.aload_n 0, 1) := by decide +kernel
theorem dX5_layPad_52 : decode cX5_layPad 52 = .ok (.getfield 23, 3) := by decide +kernel
theorem dX5_layPad_55 : decode cX5_layPad 55 = .ok (.aload_n 0, 1) := by decide +kernel
theorem dX5_layPad_56 : decode cX5_layPad 56 = .ok (.getfield 69, 3) := by decide +kernel
theorem dX5_layPad_59 : decode cX5_layPad 59 = .ok (.aload_n 0, 1) := by decide +kernel
theorem dX5_layPad_60 : decode cX5_layPad 60 = .ok (.getfield 161, 3) := by decide +kernel
theorem dX5_layPad_63 : decode cX5_layPad 63 = .ok (.iastore, 1) := by decide +kernel
theorem dX5_layPad_64 : decode cX5_layPad 64 = .ok (.aload_n 0, 1) := by decide +kernel
theorem dX5_layPad_65 : decode cX5_layPad 65 = .ok (.dup, 1) := by decide +kernel
theorem dX5_layPad_66 : decode cX5_layPad 66 = .ok (.getfield 69, 3) := by decide +kernel
theorem dX5_layPad_69 : decode cX5_layPad 69 = .ok (.iconst 1, 1) := by decide +kernel
theorem dX5_layPad_70 : decode cX5_layPad 70 = .ok (.iadd, 1) := by decide +kernel
theorem dX5_layPad_71 : decode cX5_layPad 71 = .ok (.putfield 69, 3) := by decide +kernel
theorem dX5_layPad_74 : decode cX5_layPad 74 = .ok (.aload_n 0, 1) := by decide +kernel
theorem dX5_layPad_75 : decode cX5_layPad 75 = .ok (.iconst 0, 1) := by decide +kernel
theorem dX5_layPad_76 : decode cX5_layPad 76 = .ok (.putfield 161, 3) := by decide +kernel
theorem dX5_layPad_79 : decode cX5_layPad 79 = .ok (.goto 43, 3) := by decide +kernel
theorem dX5_layPad_82 : decode cX5_layPad 82 = .ok (.aload_n 0, 1) := by decide +kernel
theorem dX5_layPad_83 : decode cX5_layPad 83 = .ok (.dup, 1) := by decide +kernel
theorem dX5_layPad_84 : decode cX5_layPad 84 = .ok (.getfield 161, 3) := by decide +kernel
theorem dX5_layPad_87 : decode cX5_layPad 87 = .ok (.iconst 1, 1) := by decide +kernel
theorem dX5_layPad_88 : decode cX5_layPad 88 = .ok (.aload_n 0, 1) := by decide +kernel
theorem dX5_layPad_89 : decode cX5_layPad 89 = .ok (.getfield 20, 3) := by decide +kernel
theorem dX5_layPad_92 : decode cX5_layPad 92 = .ok (.iload_n 1, 1) := by decide +kernel
theorem dX5_layPad_93 : decode cX5_layPad 93 = .ok (.iaload, 1) := by decide +kernel
theorem dX5_layPad_94 : decode cX5_layPad 94 = .ok (.bipush 48, 2) := by decide +kernel
theorem dX5_layPad_96 : decode cX5_layPad 96 = .ok (.isub, 1) := by decide +kernel
theorem dX5_layPad_97 : decode cX5_layPad 97 = .ok (.ishl, 1) := by decide +kernel
theorem dX5_layPad_98 : decode cX5_layPad 98 = .ok (.ior, 1) := by decide +kernel
theorem dX5_layPad_99 : decode cX5_layPad 99 = .ok (.putfield 161, 3) := by decide +kernel
theorem dX5_layPad_102 : decode cX5_layPad 102 = .ok (.aload_n 0, 1) := by decide +kernel
theorem dX5_layPad_103 : decode cX5_layPad 103 = .ok (.dup, 1) := by decide +kernel
theorem dX5_layPad_104 : decode cX5_layPad 104 = .ok (.getfield 164, 3) := by decide +kernel
theorem dX5_layPad_107 : decode cX5_layPad 107 = .ok (.iconst 1, 1) := by decide +kernel
theorem dX5_layPad_108 : decode cX5_layPad 108 = .ok (.aload_n 0, 1) := by decide +kernel
theorem dX5_layPad_109 : decode cX5_layPad 109 = .ok (.getfield 20, 3) := by decide +kernel
theorem dX5_layPad_112 : decode cX5_layPad 112 = .ok (.iload_n 1, 1) := by decide +kernel
theorem dX5_layPad_113 : decode cX5_layPad 113 = .ok (.iaload, 1) := by decide +kernel
theorem dX5_layPad_114 : decode cX5_layPad 114 = .ok (.bipush 48, 2) := by decide +kernel
theorem dX5_layPad_116 : decode cX5_layPad 116 = .ok (.isub, 1) := by decide +kernel
theorem dX5_layPad_117 : decode cX5_layPad 117 = .ok (.ishl, 1) := by decide +kernel
theorem dX5_layPad_118 : decode cX5_layPad 118 = .ok (.ior, 1) := by decide +kernel
theorem dX5_layPad_119 : decode cX5_layPad 119 = .ok (.putfield 164, 3) := by decide +kernel
theorem dX5_layPad_122 : decode cX5_layPad 122 = .ok (.iinc 1 1, 3) := by decide +kernel
theorem dX5_layPad_125 : decode cX5_layPad 125 = .ok (.goto (-108), 3) := by decide +kernel
theorem dX5_layPad_128 : decode cX5_layPad 128 = .ok (.aload_n 0, 1) := by decide +kernel
theorem dX5_layPad_129 : decode cX5_layPad 129 = .ok (.getfield 158, 3) := by decide +kernel
theorem dX5_layPad_132 : decode cX5_layPad 132 = .ok (.ifCond .le 15, 3) := by decide +kernel
theorem dX5_layPad_135 : decode cX5_layPad 135 = .ok (.aload_n 0, 1) := by decide +kernel
theorem dX5_layPad_136 : decode cX5_layPad 136 = .ok (.getfield 161, 3) := by decide +kernel
theorem dX5_layPad_139 : decode cX5_layPad 139 = .ok (.ifCond .ne 8, 3) := by decide +kernel
theorem dX5_layPad_142 : decode cX5_layPad 142 = .ok (.aload_n 0, 1) := by decide +kernel
theorem dX5_layPad_143 : decode cX5_layPad 143 = .ok (.getfield 158, 3) := by decide +kernel
theorem dX5_layPad_146 : decode cX5_layPad 146 = .ok (.ireturn, 1) := by decide +kernel
theorem dX5_layPad_147 : decode cX5_layPad 147 = .ok (.aload_n 0, 1) := by decide +kernel
theorem dX5_layPad_148 : decode cX5_layPad 148 = .ok (.getfield 158, 3) := by decide +kernel
theorem dX5_layPad_151 : decode cX5_layPad 151 = .ok (.ifCond .le 26, 3) := by decide +kernel
theorem dX5_layPad_154 : decode cX5_layPad 154 = .ok (.aload_n 0, 1) := by decide +kernel
theorem dX5_layPad_155 : decode cX5_layPad 155 = .ok (.getfield 23, 3) := by decide +kernel
theorem dX5_layPad_158 : decode cX5_layPad 158 = .ok (.aload_n 0, 1) := by decide +kernel
theorem dX5_layPad_159 : decode cX5_layPad 159 = .ok (.getfield 69, 3) := by decide +kernel
theorem dX5_layPad_162 : decode cX5_layPad 162 = .ok (.aload_n 0, 1) := by decide +kernel
theorem dX5_layPad_163 : decode cX5_layPad 163 = .ok (.getfield 161, 3) := by decide +kernel
theorem dX5_layPad_166 : decode cX5_layPad 166 = .ok (.iastore, 1) := by decide +kernel
theorem dX5_layPad_167 : decode cX5_layPad 167 = .ok (.aload_n 0, 1) := by decide +kernel
theorem dX5_layPad_168 : decode cX5_layPad 168 = .ok (.dup, 1) := by decide +kernel
theorem dX5_layPad_169 : decode cX5_layPad 169 = .ok (.getfield 69, 3) := by decide +kernel
theorem dX5_layPad_172 : decode cX5_layPad 172 = .ok (.iconst 1, 1) := by decide +kernel
theorem dX5_layPad_173 : decode cX5_layPad 173 = .ok (.iadd, 1) := by decide +kernel
theorem dX5_layPad_174 : decode cX5_layPad 174 = .ok (.putfield 69, 3) := by decide +kernel
theorem dX5_layPad_177 : decode cX5_layPad 177 = .ok (.bipush (-6), 2) := by decide +kernel
theorem dX5_layPad_179 : decode cX5_layPad 179 = .ok (.ireturn, 1) := by decide +kernel
theorem dX5_fault_0 : decode cX5_fault 0 = .ok (.aload_n 0, 1) := by decide +kernel
theorem dX5_fault_1 : decode cX5_fault 1 = .ok (.invokevirtual 170, 3) := by decide +kernel
theorem dX5_fault_4 : decode cX5_fault 4 = .ok (.ireturn, 1) := by decide +kernel
theorem dX5_row_0 : decode cX5_row 0 = .ok (.iload_n 1, 1) := by decide +kernel
theorem dX5_row_1 : decode cX5_row 1 = .ok (.iconst 0, 1) := by decide +kernel
theorem dX5_row_2 : decode cX5_row 2 = .ok (.iconst 4, 1) := by decide +kernel
theorem dX5_row_3 : decode cX5_row 3 = .ok (.invokestatic 39, 3) := by decide +kernel
theorem dX5_row_6 : decode cX5_row 6 = .ok (.ifCond .ne 6, 3) := by decide +kernel
theorem dX5_row_9 : decode cX5_row 9 = .ok (.bipush (-2), 2) := by decide +kernel
theorem dX5_row_11 : decode cX5_row 11 = .ok (.ireturn, 1) := by decide +kernel
theorem dX5_row_12 : decode cX5_row 12 = .ok (.aload_n 0, 1) := by decide +kernel
theorem dX5_row_13 : decode cX5_row 13 = .ok (.invokevirtual 170, 3) := by decide +kernel
theorem dX5_row_16 : decode cX5_row 16 = .ok (.ifCond .lt 6, 3) := by decide +kernel
theorem dX5_row_19 : decode cX5_row 19 = .ok (.bipush (-7), 2) := by decide +kernel
theorem dX5_row_21 : decode cX5_row 21 = .ok (.ireturn, 1) := by decide +kernel
theorem dX5_row_22 : decode cX5_row 22 = .ok (.iload_n 1, 1) := by decide +kernel
theorem dX5_row_23 : decode cX5_row 23 = .ok (.iconst 4, 1) := by decide +kernel
theorem dX5_row_24 : decode cX5_row 24 = .ok (.if_icmp .ne 10, 3) := by decide +kernel
theorem dX5_row_27 : decode cX5_row 27 = .ok (.aload_n 0, 1) := by decide +kernel
theorem dX5_row_28 : decode cX5_row 28 = .ok (.getfield 164, 3) := by decide +kernel
theorem dX5_row_31 : decode cX5_row 31 = .ok (.goto 8, 3) := by decide +kernel
theorem dX5_row_34 : decode cX5_row 34 = .ok (.aload_n 0, 1) := by decide +kernel
theorem dX5_row_35 : decode cX5_row 35 = .ok (.iload_n 1, 1) := by decide +kernel
theorem dX5_row_36 : decode cX5_row 36 = .ok (.invokevirtual 155, 3) := by decide +kernel
theorem dX5_row_39 : decode cX5_row 39 = .ok (.ireturn, 1) := by decide +kernel
theorem dX5_at_0 : decode cX5_at 0 = .ok (.aload_n 0, 1) := by decide +kernel
theorem dX5_at_1 : decode cX5_at 1 = .ok (.iload_n 1, 1) := by decide +kernel
theorem dX5_at_2 : decode cX5_at 2 = .ok (.invokevirtual 51, 3) := by decide +kernel
theorem dX5_at_5 : decode cX5_at 5 = .ok (.ifCond .ne 5, 3) := by decide +kernel
theorem dX5_at_8 : decode cX5_at 8 = .ok (.iconst (-1), 1) := by decide +kernel
theorem dX5_at_9 : decode cX5_at 9 = .ok (.ireturn, 1) := by decide +kernel
theorem dX5_at_10 : decode cX5_at 10 = .ok (.aload_n 0, 1) := by decide +kernel
theorem dX5_at_11 : decode cX5_at 11 = .ok (.invokevirtual 170, 3) := by decide +kernel
theorem dX5_at_14 : decode cX5_at 14 = .ok (.ifCond .lt 6, 3) := by decide +kernel
theorem dX5_at_17 : decode cX5_at 17 = .ok (.bipush (-7), 2) := by decide +kernel
theorem dX5_at_19 : decode cX5_at 19 = .ok (.ireturn, 1) := by decide +kernel
theorem dX5_at_20 : decode cX5_at 20 = .ok (.aload_n 0, 1) := by decide +kernel
theorem dX5_at_21 : decode cX5_at 21 = .ok (.invokevirtual 80, 3) := by decide +kernel
theorem dX5_at_24 : decode cX5_at 24 = .ok (.aload_n 0, 1) := by decide +kernel
theorem dX5_at_25 : decode cX5_at 25 = .ok (.iload_n 1, 1) := by decide +kernel
theorem dX5_at_26 : decode cX5_at 26 = .ok (.invokevirtual 139, 3) := by decide +kernel
theorem dX5_at_29 : decode cX5_at 29 = .ok (.istore_n 2, 1) := by decide +kernel
theorem dX5_at_30 : decode cX5_at 30 = .ok (.iload_n 2, 1) := by decide +kernel
theorem dX5_at_31 : decode cX5_at 31 = .ok (.ifCond .ge 8, 3) := by decide +kernel
theorem dX5_at_34 : decode cX5_at 34 = .ok (.bipush (-6), 2) := by decide +kernel
theorem dX5_at_36 : decode cX5_at 36 = .ok (.goto 9, 3) := by decide +kernel
theorem dX5_at_39 : decode cX5_at 39 = .ok (.aload_n 0, 1) := by decide +kernel
theorem dX5_at_40 : decode cX5_at 40 = .ok (.getfield 26, 3) := by decide +kernel
theorem dX5_at_43 : decode cX5_at 43 = .ok (.iload_n 2, 1) := by decide +kernel
theorem dX5_at_44 : decode cX5_at 44 = .ok (.iaload, 1) := by decide +kernel
theorem dX5_at_45 : decode cX5_at 45 = .ok (.ireturn, 1) := by decide +kernel
theorem dX5_putAhead_0 : decode cX5_putAhead 0 = .ok (.aload_n 0, 1) := by decide +kernel
theorem dX5_putAhead_1 : decode cX5_putAhead 1 = .ok (.getfield 69, 3) := by decide +kernel
theorem dX5_putAhead_4 : decode cX5_putAhead 4 = .ok (.istore_n 3, 1) := by decide +kernel
theorem dX5_putAhead_5 : decode cX5_putAhead 5 = .ok (.iload_n 3, 1) := by decide +kernel
theorem dX5_putAhead_6 : decode cX5_putAhead 6 = .ok (.iload_n 1, 1) := by decide +kernel
theorem dX5_putAhead_7 : decode cX5_putAhead 7 = .ok (.if_icmp .le 23, 3) := by decide +kernel
theorem dX5_putAhead_10 : decode cX5_putAhead 10 = .ok (.aload_n 0, 1) := by decide +kernel
theorem dX5_putAhead_11 : decode cX5_putAhead 11 = .ok (.getfield 23, 3) := by decide +kernel
theorem dX5_putAhead_14 : decode cX5_putAhead 14 = .ok (.iload_n 3, 1) := by decide +kernel
theorem dX5_putAhead_15 : decode cX5_putAhead 15 = .ok (.aload_n 0, 1) := by decide +kernel
theorem dX5_putAhead_16 : decode cX5_putAhead 16 = .ok (.getfield 23, 3) := by decide +kernel
theorem dX5_putAhead_19 : decode cX5_putAhead 19 = .ok (.iload_n 3, 1) := by decide +kernel
theorem dX5_putAhead_20 : decode cX5_putAhead 20 = .ok (.iconst 1, 1) := by decide +kernel
theorem dX5_putAhead_21 : decode cX5_putAhead 21 = .ok (.isub, 1) := by decide +kernel
theorem dX5_putAhead_22 : decode cX5_putAhead 22 = .ok (.iaload, 1) := by decide +kernel
theorem dX5_putAhead_23 : decode cX5_putAhead 23 = .ok (.iastore, 1) := by decide +kernel
theorem dX5_putAhead_24 : decode cX5_putAhead 24 = .ok (.iinc 3 (-1), 3) := by decide +kernel
theorem dX5_putAhead_27 : decode cX5_putAhead 27 = .ok (.goto (-22), 3) := by decide +kernel
theorem dX5_putAhead_30 : decode cX5_putAhead 30 = .ok (.aload_n 0, 1) := by decide +kernel
theorem dX5_putAhead_31 : decode cX5_putAhead 31 = .ok (.getfield 23, 3) := by decide +kernel
theorem dX5_putAhead_34 : decode cX5_putAhead 34 = .ok (.iload_n 1, 1) := by decide +kernel
theorem dX5_putAhead_35 : decode cX5_putAhead 35 = .ok (.iconst 1, 1) := by decide +kernel
theorem dX5_putAhead_36 : decode cX5_putAhead 36 = .ok (.iload_n 2, 1) := by decide +kernel
theorem dX5_putAhead_37 : decode cX5_putAhead 37 = .ok (.ishl, 1) := by decide +kernel
theorem dX5_putAhead_38 : decode cX5_putAhead 38 = .ok (.iastore, 1) := by decide +kernel
theorem dX5_putAhead_39 : decode cX5_putAhead 39 = .ok (.aload_n 0, 1) := by decide +kernel
theorem dX5_putAhead_40 : decode cX5_putAhead 40 = .ok (.dup, 1) := by decide +kernel
theorem dX5_putAhead_41 : decode cX5_putAhead 41 = .ok (.getfield 69, 3) := by decide +kernel
theorem dX5_putAhead_44 : decode cX5_putAhead 44 = .ok (.iconst 1, 1) := by decide +kernel
theorem dX5_putAhead_45 : decode cX5_putAhead 45 = .ok (.iadd, 1) := by decide +kernel
theorem dX5_putAhead_46 : decode cX5_putAhead 46 = .ok (.putfield 69, 3) := by decide +kernel
theorem dX5_putAhead_49 : decode cX5_putAhead 49 = .ok (.return_, 1) := by decide +kernel
theorem dX5_putAt_0 : decode cX5_putAt 0 = .ok (.aload_n 0, 1) := by decide +kernel
theorem dX5_putAt_1 : decode cX5_putAt 1 = .ok (.invokevirtual 170, 3) := by decide +kernel
theorem dX5_putAt_4 : decode cX5_putAt 4 = .ok (.pop, 1) := by decide +kernel
theorem dX5_putAt_5 : decode cX5_putAt 5 = .ok (.iload_n 1, 1) := by decide +kernel
theorem dX5_putAt_6 : decode cX5_putAt 6 = .ok (.iconst 2, 1) := by decide +kernel
theorem dX5_putAt_7 : decode cX5_putAt 7 = .ok (.idiv, 1) := by decide +kernel
theorem dX5_putAt_8 : decode cX5_putAt 8 = .ok (.istore_n 3, 1) := by decide +kernel
theorem dX5_putAt_9 : decode cX5_putAt 9 = .ok (.iload_n 1, 1) := by decide +kernel
theorem dX5_putAt_10 : decode cX5_putAt 10 = .ok (.iconst 2, 1) := by decide +kernel
theorem dX5_putAt_11 : decode cX5_putAt 11 = .ok (.irem, 1) := by decide +kernel
theorem dX5_putAt_12 : decode cX5_putAt 12 = .ok (.ifCond .ne 11, 3) := by decide +kernel
theorem dX5_putAt_15 : decode cX5_putAt 15 = .ok (.aload_n 0, 1) := by decide +kernel
theorem dX5_putAt_16 : decode cX5_putAt 16 = .ok (.iload_n 3, 1) := by decide +kernel
theorem dX5_putAt_17 : decode cX5_putAt 17 = .ok (.iload_n 2, 1) := by decide +kernel
theorem dX5_putAt_18 : decode cX5_putAt 18 = .ok (.invokevirtual 173, 3) := by decide +kernel
theorem dX5_putAt_21 : decode cX5_putAt 21 = .ok (.iconst 1, 1) := by decide +kernel
theorem dX5_putAt_22 : decode cX5_putAt 22 = .ok (.ireturn, 1) := by decide +kernel
theorem dX5_putAt_23 : decode cX5_putAt 23 = .ok (.aload_n 0, 1) := by decide +kernel
theorem dX5_putAt_24 : decode cX5_putAt 24 = .ok (.getfield 23, 3) := by decide +kernel
theorem dX5_putAt_27 : decode cX5_putAt 27 = .ok (.iload_n 3, 1) := by decide +kernel
theorem dX5_putAt_28 : decode cX5_putAt 28 = .ok (.iaload, 1) := by decide +kernel
theorem dX5_putAt_29 : decode cX5_putAt 29 = .ok (.iconst 1, 1) := by decide +kernel
theorem dX5_putAt_30 : decode cX5_putAt 30 = .ok (.iload_n 2, 1) := by decide +kernel
theorem dX5_putAt_31 : decode cX5_putAt 31 = .ok (.ishl, 1) := by decide +kernel
theorem dX5_putAt_32 : decode cX5_putAt 32 = .ok (.ior, 1) := by decide +kernel
theorem dX5_putAt_33 : decode cX5_putAt 33 = .ok (.istore 4, 2) := by decide +kernel
theorem dX5_putAt_35 : decode cX5_putAt 35 = .ok (.aload_n 0, 1) := by decide +kernel
theorem dX5_putAt_36 : decode cX5_putAt 36 = .ok (.getfield 23, 3) := by decide +kernel
theorem dX5_putAt_39 : decode cX5_putAt 39 = .ok (.iload_n 3, 1) := by decide +kernel
theorem dX5_putAt_40 : decode cX5_putAt 40 = .ok (.iload 4, 2) := by decide +kernel
theorem dX5_putAt_42 : decode cX5_putAt 42 = .ok (.iastore, 1) := by decide +kernel
theorem dX5_putAt_43 : decode cX5_putAt 43 = .ok (.aload_n 0, 1) := by decide +kernel
theorem dX5_putAt_44 : decode cX5_putAt 44 = .ok (.iload 4, 2) := by decide +kernel
theorem dX5_putAt_46 : decode cX5_putAt 46 = .ok (.invokevirtual 73, 3) := by decide +kernel
theorem dX5_putAt_49 : decode cX5_putAt 49 = .ok (.ifCond .lt 23, 3) := by decide +kernel
theorem dX5_putAt_52 : decode cX5_putAt 52 = .ok (.aload_n 0, 1) := by decide +kernel
theorem dX5_putAt_53 : decode cX5_putAt 53 = .ok (.iload 4, 2) := by decide +kernel
theorem dX5_putAt_55 : decode cX5_putAt 55 = .ok (.invokevirtual 92, 3) := by decide +kernel
theorem dX5_putAt_58 : decode cX5_putAt 58 = .ok (.aload_n 0, 1) := by decide +kernel
theorem dX5_putAt_59 : decode cX5_putAt 59 = .ok (.getfield 7, 3) := by decide +kernel
theorem dX5_putAt_62 : decode cX5_putAt 62 = .ok (.bipush 6, 2) := by decide +kernel
theorem dX5_putAt_64 : decode cX5_putAt 64 = .ok (.iaload, 1) := by decide +kernel
theorem dX5_putAt_65 : decode cX5_putAt 65 = .ok (.if_icmp .gt 7, 3) := by decide +kernel
theorem dX5_putAt_68 : decode cX5_putAt 68 = .ok (.iconst 1, 1) := by decide +kernel
theorem dX5_putAt_69 : decode cX5_putAt 69 = .ok (.goto 4, 3) := by decide +kernel
theorem dX5_putAt_72 : decode cX5_putAt 72 = .ok (.iconst 0, 1) := by decide +kernel
theorem dX5_putAt_73 : decode cX5_putAt 73 = .ok (.ireturn, 1) := by decide +kernel
theorem dX5_put_0 : decode cX5_put 0 = .ok (.aload_n 0, 1) := by decide +kernel
theorem dX5_put_1 : decode cX5_put 1 = .ok (.iload_n 1, 1) := by decide +kernel
theorem dX5_put_2 : decode cX5_put 2 = .ok (.invokevirtual 51, 3) := by decide +kernel
theorem dX5_put_5 : decode cX5_put 5 = .ok (.ifCond .ne 5, 3) := by decide +kernel
theorem dX5_put_8 : decode cX5_put 8 = .ok (.iconst (-1), 1) := by decide +kernel
theorem dX5_put_9 : decode cX5_put 9 = .ok (.ireturn, 1) := by decide +kernel
theorem dX5_put_10 : decode cX5_put 10 = .ok (.iload_n 2, 1) := by decide +kernel
theorem dX5_put_11 : decode cX5_put 11 = .ok (.iconst 0, 1) := by decide +kernel
theorem dX5_put_12 : decode cX5_put 12 = .ok (.iconst 1, 1) := by decide +kernel
theorem dX5_put_13 : decode cX5_put 13 = .ok (.invokestatic 39, 3) := by decide +kernel
theorem dX5_put_16 : decode cX5_put 16 = .ok (.ifCond .ne 6, 3) := by decide +kernel
theorem dX5_put_19 : decode cX5_put 19 = .ok (.bipush (-2), 2) := by decide +kernel
theorem dX5_put_21 : decode cX5_put 21 = .ok (.ireturn, 1) := by decide +kernel
theorem dX5_put_22 : decode cX5_put 22 = .ok (.aload_n 0, 1) := by decide +kernel
theorem dX5_put_23 : decode cX5_put 23 = .ok (.invokevirtual 170, 3) := by decide +kernel
theorem dX5_put_26 : decode cX5_put 26 = .ok (.ifCond .lt 6, 3) := by decide +kernel
theorem dX5_put_29 : decode cX5_put 29 = .ok (.bipush (-7), 2) := by decide +kernel
theorem dX5_put_31 : decode cX5_put 31 = .ok (.ireturn, 1) := by decide +kernel
theorem dX5_put_32 : decode cX5_put 32 = .ok (.aload_n 0, 1) := by decide +kernel
theorem dX5_put_33 : decode cX5_put 33 = .ok (.getfield 164, 3) := by decide +kernel
theorem dX5_put_36 : decode cX5_put 36 = .ok (.iload_n 1, 1) := by decide +kernel
theorem dX5_put_37 : decode cX5_put 37 = .ok (.invokestatic 62, 3) := by decide +kernel
theorem dX5_put_40 : decode cX5_put 40 = .ok (.ifCond .eq 6, 3) := by decide +kernel
theorem dX5_put_43 : decode cX5_put 43 = .ok (.bipush (-3), 2) := by decide +kernel
theorem dX5_put_45 : decode cX5_put 45 = .ok (.ireturn, 1) := by decide +kernel
theorem dX5_put_46 : decode cX5_put 46 = .ok (.iconst 2, 1) := by decide +kernel
theorem dX5_put_47 : decode cX5_put 47 = .ok (.aload_n 0, 1) := by decide +kernel
theorem dX5_put_48 : decode cX5_put 48 = .ok (.getfield 69, 3) := by decide +kernel
theorem dX5_put_51 : decode cX5_put 51 = .ok (.imul, 1) := by decide +kernel
theorem dX5_put_52 : decode cX5_put 52 = .ok (.iconst 1, 1) := by decide +kernel
theorem dX5_put_53 : decode cX5_put 53 = .ok (.iadd, 1) := by decide +kernel
theorem dX5_put_54 : decode cX5_put 54 = .ok (.istore_n 3, 1) := by decide +kernel
theorem dX5_put_55 : decode cX5_put 55 = .ok (.bipush (-6), 2) := by decide +kernel
theorem dX5_put_57 : decode cX5_put 57 = .ok (.istore 4, 2) := by decide +kernel
theorem dX5_put_59 : decode cX5_put 59 = .ok (.iconst 0, 1) := by decide +kernel
theorem dX5_put_60 : decode cX5_put 60 = .ok (.istore 5, 2) := by decide +kernel
theorem dX5_put_62 : decode cX5_put 62 = .ok (.iconst 0, 1) := by decide +kernel
theorem dX5_put_63 : decode cX5_put 63 = .ok (.istore 6, 2) := by decide +kernel
theorem dX5_put_65 : decode cX5_put 65 = .ok (.iload 6, 2) := by decide +kernel
theorem dX5_put_67 : decode cX5_put 67 = .ok (.iload_n 3, 1) := by decide +kernel
theorem dX5_put_68 : decode cX5_put 68 = .ok (.if_icmp .ge 46, 3) := by decide +kernel
theorem dX5_put_71 : decode cX5_put 71 = .ok (.aload_n 0, 1) := by decide +kernel
theorem dX5_put_72 : decode cX5_put 72 = .ok (.iload 6, 2) := by decide +kernel
theorem dX5_put_74 : decode cX5_put 74 = .ok (.iload_n 1, 1) := by decide +kernel
theorem dX5_put_75 : decode cX5_put 75 = .ok (.invokevirtual 177, 3) := by decide +kernel
theorem dX5_put_78 : decode cX5_put 78 = .ok (.ifCond .eq 30, 3) := by decide +kernel
theorem dX5_put_81 : decode cX5_put 81 = .ok (.aload_n 0, 1) := by decide +kernel
theorem dX5_put_82 : decode cX5_put 82 = .ok (.iconst 1, 1) := by decide +kernel
theorem dX5_put_83 : decode cX5_put 83 = .ok (.invokevirtual 155, 3) := by decide +kernel
theorem dX5_put_86 : decode cX5_put 86 = .ok (.istore 7, 2) := by decide +kernel
theorem dX5_put_88 : decode cX5_put 88 = .ok (.iload 4, 2) := by decide +kernel
theorem dX5_put_90 : decode cX5_put 90 = .ok (.ifCond .lt 10, 3) := by decide +kernel
theorem dX5_put_93 : decode cX5_put 93 = .ok (.iload 7, 2) := by decide +kernel
theorem dX5_put_95 : decode cX5_put 95 = .ok (.iload 5, 2) := by decide +kernel
theorem dX5_put_97 : decode cX5_put 97 = .ok (.if_icmp .ge 11, 3) := by decide +kernel
theorem dX5_put_100 : decode cX5_put 100 = .ok (.iload 6, 2) := by decide +kernel
theorem dX5_put_102 : decode cX5_put 102 = .ok (.istore 4, 2) := by decide +kernel
theorem dX5_put_104 : decode cX5_put 104 = .ok (.iload 7, 2) := by decide +kernel
theorem dX5_put_106 : decode cX5_put 106 = .ok (.istore 5, 2) := by decide +kernel
theorem dX5_put_108 : decode cX5_put 108 = .ok (.iinc 6 1, 3) := by decide +kernel
theorem dX5_put_111 : decode cX5_put 111 = .ok (.goto (-46), 3) := by decide +kernel
theorem dX5_put_114 : decode cX5_put 114 = .ok (.iload_n 2, 1) := by decide +kernel
theorem dX5_put_115 : decode cX5_put 115 = .ok (.ifCond .ne 8, 3) := by decide +kernel
theorem dX5_put_118 : decode cX5_put 118 = .ok (.iload 5, 2) := by decide +kernel
theorem dX5_put_120 : decode cX5_put 120 = .ok (.goto 5, 3) := by decide +kernel
theorem dX5_put_123 : decode cX5_put 123 = .ok (.iload 4, 2) := by decide +kernel
theorem dX5_put_125 : decode cX5_put 125 = .ok (.ireturn, 1) := by decide +kernel
theorem dX5_image_0 : decode cX5_image 0 = .ok (.iload_n 1, 1) := by decide +kernel
theorem dX5_image_1 : decode cX5_image 1 = .ok (.iconst 0, 1) := by decide +kernel
theorem dX5_image_2 : decode cX5_image 2 = .ok (.iconst 1, 1) := by decide +kernel
theorem dX5_image_3 : decode cX5_image 3 = .ok (.invokestatic 39, 3) := by decide +kernel
theorem dX5_image_6 : decode cX5_image 6 = .ok (.ifCond .ne 6, 3) := by decide +kernel
theorem dX5_image_9 : decode cX5_image 9 = .ok (.bipush (-2), 2) := by decide +kernel
theorem dX5_image_11 : decode cX5_image 11 = .ok (.ireturn, 1) := by decide +kernel
theorem dX5_image_12 : decode cX5_image 12 = .ok (.iconst 0, 1) := by decide +kernel
theorem dX5_image_13 : decode cX5_image 13 = .ok (.istore_n 2, 1) := by decide +kernel
theorem dX5_image_14 : decode cX5_image 14 = .ok (.iload_n 2, 1) := by decide +kernel
theorem dX5_image_15 : decode cX5_image 15 = .ok (.bipush 31, 2) := by decide +kernel
theorem dX5_image_17 : decode cX5_image 17 = .ok (.if_icmp .ge 26, 3) := by decide +kernel
theorem dX5_image_20 : decode cX5_image 20 = .ok (.aload_n 0, 1) := by decide +kernel
theorem dX5_image_21 : decode cX5_image 21 = .ok (.getfield 13, 3) := by decide +kernel
theorem dX5_image_24 : decode cX5_image 24 = .ok (.bipush 31, 2) := by decide +kernel
theorem dX5_image_26 : decode cX5_image 26 = .ok (.iload_n 1, 1) := by decide +kernel
theorem dX5_image_27 : decode cX5_image 27 = .ok (.imul, 1) := by decide +kernel
theorem dX5_image_28 : decode cX5_image 28 = .ok (.iload_n 2, 1) := by decide +kernel
theorem dX5_image_29 : decode cX5_image 29 = .ok (.iadd, 1) := by decide +kernel
theorem dX5_image_30 : decode cX5_image 30 = .ok (.aload_n 0, 1) := by decide +kernel
theorem dX5_image_31 : decode cX5_image 31 = .ok (.getfield 7, 3) := by decide +kernel
theorem dX5_image_34 : decode cX5_image 34 = .ok (.iload_n 2, 1) := by decide +kernel
theorem dX5_image_35 : decode cX5_image 35 = .ok (.iaload, 1) := by decide +kernel
theorem dX5_image_36 : decode cX5_image 36 = .ok (.iastore, 1) := by decide +kernel
theorem dX5_image_37 : decode cX5_image 37 = .ok (.iinc 2 1, 3) := by decide +kernel
theorem dX5_image_40 : decode cX5_image 40 = .ok (.goto (-26), 3) := by decide +kernel
theorem dX5_image_43 : decode cX5_image 43 = .ok (.aload_n 0, 1) := by decide +kernel
theorem dX5_image_44 : decode cX5_image 44 = .ok (.getfield 16, 3) := by decide +kernel
theorem dX5_image_47 : decode cX5_image 47 = .ok (.iload_n 1, 1) := by decide +kernel
theorem dX5_image_48 : decode cX5_image 48 = .ok (.iconst 1, 1) := by decide +kernel
theorem dX5_image_49 : decode cX5_image 49 = .ok (.bastore, 1) := by decide +kernel
theorem dX5_image_50 : decode cX5_image 50 = .ok (.iconst 1, 1) := by decide +kernel
theorem dX5_image_51 : decode cX5_image 51 = .ok (.ireturn, 1) := by decide +kernel
theorem dX5_restore_0 : decode cX5_restore 0 = .ok (.iload_n 1, 1) := by decide +kernel
theorem dX5_restore_1 : decode cX5_restore 1 = .ok (.iconst 0, 1) := by decide +kernel
theorem dX5_restore_2 : decode cX5_restore 2 = .ok (.iconst 1, 1) := by decide +kernel
theorem dX5_restore_3 : decode cX5_restore 3 = .ok (.invokestatic 39, 3) := by decide +kernel
theorem dX5_restore_6 : decode cX5_restore 6 = .ok (.ifCond .ne 6, 3) := by decide +kernel
theorem dX5_restore_9 : decode cX5_restore 9 = .ok (.bipush (-2), 2) := by decide +kernel
theorem dX5_restore_11 : decode cX5_restore 11 = .ok (.ireturn, 1) := by decide +kernel
theorem dX5_restore_12 : decode cX5_restore 12 = .ok (.aload_n 0, 1) := by decide +kernel
theorem dX5_restore_13 : decode cX5_restore 13 = .ok (.getfield 16, 3) := by decide +kernel
theorem dX5_restore_16 : decode cX5_restore 16 = .ok (.iload_n 1, 1) := by decide +kernel
theorem dX5_restore_17 : decode cX5_restore 17 = .ok (.baload, 1) := by decide +kernel
theorem dX5_restore_18 : decode cX5_restore 18 = .ok (.ifCond .ne 6, 3) := by decide +kernel
theorem dX5_restore_21 : decode cX5_restore 21 = .ok (.bipush (-3), 2) := by decide +kernel
theorem dX5_restore_23 : decode cX5_restore 23 = .ok (.ireturn, 1) := by decide +kernel
theorem dX5_restore_24 : decode cX5_restore 24 = .ok (.iconst 0, 1) := by decide +kernel
theorem dX5_restore_25 : decode cX5_restore 25 = .ok (.istore_n 2, 1) := by decide +kernel
theorem dX5_restore_26 : decode cX5_restore 26 = .ok (.iload_n 2, 1) := by decide +kernel
theorem dX5_restore_27 : decode cX5_restore 27 = .ok (.bipush 31, 2) := by decide +kernel
theorem dX5_restore_29 : decode cX5_restore 29 = .ok (.if_icmp .ge 26, 3) := by decide +kernel
theorem dX5_restore_32 : decode cX5_restore 32 = .ok (.aload_n 0, 1) := by decide +kernel
theorem dX5_restore_33 : decode cX5_restore 33 = .ok (.getfield 7, 3) := by decide +kernel
theorem dX5_restore_36 : decode cX5_restore 36 = .ok (.iload_n 2, 1) := by decide +kernel
theorem dX5_restore_37 : decode cX5_restore 37 = .ok (.aload_n 0, 1) := by decide +kernel
theorem dX5_restore_38 : decode cX5_restore 38 = .ok (.getfield 13, 3) := by decide +kernel
theorem dX5_restore_41 : decode cX5_restore 41 = .ok (.bipush 31, 2) := by decide +kernel
theorem dX5_restore_43 : decode cX5_restore 43 = .ok (.iload_n 1, 1) := by decide +kernel
theorem dX5_restore_44 : decode cX5_restore 44 = .ok (.imul, 1) := by decide +kernel
theorem dX5_restore_45 : decode cX5_restore 45 = .ok (.iload_n 2, 1) := by decide +kernel
theorem dX5_restore_46 : decode cX5_restore 46 = .ok (.iadd, 1) := by decide +kernel
theorem dX5_restore_47 : decode cX5_restore 47 = .ok (.iaload, 1) := by decide +kernel
theorem dX5_restore_48 : decode cX5_restore 48 = .ok (.iastore, 1) := by decide +kernel
theorem dX5_restore_49 : decode cX5_restore 49 = .ok (.iinc 2 1, 3) := by decide +kernel
theorem dX5_restore_52 : decode cX5_restore 52 = .ok (.goto (-26), 3) := by decide +kernel
theorem dX5_restore_55 : decode cX5_restore 55 = .ok (.iconst 1, 1) := by decide +kernel
theorem dX5_restore_56 : decode cX5_restore 56 = .ok (.ireturn, 1) := by decide +kernel
theorem dX5_familiesUsed_0 : decode cX5_familiesUsed 0 = .ok (.iconst 0, 1) := by decide +kernel
theorem dX5_familiesUsed_1 : decode cX5_familiesUsed 1 = .ok (.istore_n 1, 1) := by decide +kernel
theorem dX5_familiesUsed_2 : decode cX5_familiesUsed 2 = .ok (.iconst 0, 1) := by decide +kernel
theorem dX5_familiesUsed_3 : decode cX5_familiesUsed 3 = .ok (.istore_n 2, 1) := by decide +kernel
theorem dX5_familiesUsed_4 : decode cX5_familiesUsed 4 = .ok (.iload_n 2, 1) := by decide +kernel
theorem dX5_familiesUsed_5 : decode cX5_familiesUsed 5 = .ok (.aload_n 0, 1) := by decide +kernel
theorem dX5_familiesUsed_6 : decode cX5_familiesUsed 6 = .ok (.invokevirtual 43, 3) := by decide +kernel
theorem dX5_familiesUsed_9 : decode cX5_familiesUsed 9 = .ok (.if_icmp .ge 23, 3) := by decide +kernel
theorem dX5_familiesUsed_12 : decode cX5_familiesUsed 12 = .ok (.iload_n 1, 1) := by decide +kernel
theorem dX5_familiesUsed_13 : decode cX5_familiesUsed 13 = .ok (.iconst 1, 1) := by decide +kernel
theorem dX5_familiesUsed_14 : decode cX5_familiesUsed 14 = .ok (.aload_n 0, 1) := by decide +kernel
theorem dX5_familiesUsed_15 : decode cX5_familiesUsed 15 = .ok (.getfield 7, 3) := by decide +kernel
theorem dX5_familiesUsed_18 : decode cX5_familiesUsed 18 = .ok (.bipush 10, 2) := by decide +kernel
theorem dX5_familiesUsed_20 : decode cX5_familiesUsed 20 = .ok (.iload_n 2, 1) := by decide +kernel
theorem dX5_familiesUsed_21 : decode cX5_familiesUsed 21 = .ok (.iadd, 1) := by decide +kernel
theorem dX5_familiesUsed_22 : decode cX5_familiesUsed 22 = .ok (.iaload, 1) := by decide +kernel
theorem dX5_familiesUsed_23 : decode cX5_familiesUsed 23 = .ok (.ishl, 1) := by decide +kernel
theorem dX5_familiesUsed_24 : decode cX5_familiesUsed 24 = .ok (.ior, 1) := by decide +kernel
theorem dX5_familiesUsed_25 : decode cX5_familiesUsed 25 = .ok (.istore_n 1, 1) := by decide +kernel
theorem dX5_familiesUsed_26 : decode cX5_familiesUsed 26 = .ok (.iinc 2 1, 3) := by decide +kernel
theorem dX5_familiesUsed_29 : decode cX5_familiesUsed 29 = .ok (.goto (-25), 3) := by decide +kernel
theorem dX5_familiesUsed_32 : decode cX5_familiesUsed 32 = .ok (.iload_n 1, 1) := by decide +kernel
theorem dX5_familiesUsed_33 : decode cX5_familiesUsed 33 = .ok (.iconst 1, 1) := by decide +kernel
theorem dX5_familiesUsed_34 : decode cX5_familiesUsed 34 = .ok (.iand, 1) := by decide +kernel
theorem dX5_familiesUsed_35 : decode cX5_familiesUsed 35 = .ok (.iload_n 1, 1) := by decide +kernel
theorem dX5_familiesUsed_36 : decode cX5_familiesUsed 36 = .ok (.iconst 1, 1) := by decide +kernel
theorem dX5_familiesUsed_37 : decode cX5_familiesUsed 37 = .ok (.ishr, 1) := by decide +kernel
theorem dX5_familiesUsed_38 : decode cX5_familiesUsed 38 = .ok (.iconst 1, 1) := by decide +kernel
theorem dX5_familiesUsed_39 : decode cX5_familiesUsed 39 = .ok (.iand, 1) := by decide +kernel
theorem dX5_familiesUsed_40 : decode cX5_familiesUsed 40 = .ok (.iadd, 1) := by decide +kernel
theorem dX5_familiesUsed_41 : decode cX5_familiesUsed 41 = .ok (.iload_n 1, 1) := by decide +kernel
theorem dX5_familiesUsed_42 : decode cX5_familiesUsed 42 = .ok (.iconst 2, 1) := by decide +kernel
theorem dX5_familiesUsed_43 : decode cX5_familiesUsed 43 = .ok (.ishr, 1) := by decide +kernel
theorem dX5_familiesUsed_44 : decode cX5_familiesUsed 44 = .ok (.iconst 1, 1) := by decide +kernel
theorem dX5_familiesUsed_45 : decode cX5_familiesUsed 45 = .ok (.iand, 1) := by decide +kernel
theorem dX5_familiesUsed_46 : decode cX5_familiesUsed 46 = .ok (.iadd, 1) := by decide +kernel
theorem dX5_familiesUsed_47 : decode cX5_familiesUsed 47 = .ok (.ireturn, 1) := by decide +kernel
theorem dX5_count_0 : decode cX5_count 0 = .ok (.iload_n 1, 1) := by decide +kernel
theorem dX5_count_1 : decode cX5_count 1 = .ok (.bipush 10, 2) := by decide +kernel
theorem dX5_count_3 : decode cX5_count 3 = .ok (.bipush 12, 2) := by decide +kernel
theorem dX5_count_5 : decode cX5_count 5 = .ok (.invokestatic 39, 3) := by decide +kernel
theorem dX5_count_8 : decode cX5_count 8 = .ok (.ifCond .eq 15, 3) := by decide +kernel
theorem dX5_count_11 : decode cX5_count 11 = .ok (.aload_n 0, 1) := by decide +kernel
theorem dX5_count_12 : decode cX5_count 12 = .ok (.getfield 7, 3) := by decide +kernel
theorem dX5_count_15 : decode cX5_count 15 = .ok (.iconst 0, 1) := by decide +kernel
theorem dX5_count_16 : decode cX5_count 16 = .ok (.iload_n 1, 1) := by decide +kernel
theorem dX5_count_17 : decode cX5_count 17 = .ok (.iadd, 1) := by decide +kernel
theorem dX5_count_18 : decode cX5_count 18 = .ok (.bipush 10, 2) := by decide +kernel
theorem dX5_count_20 : decode cX5_count 20 = .ok (.isub, 1) := by decide +kernel
theorem dX5_count_21 : decode cX5_count 21 = .ok (.iaload, 1) := by decide +kernel
theorem dX5_count_22 : decode cX5_count 22 = .ok (.ireturn, 1) := by decide +kernel
theorem dX5_count_23 : decode cX5_count 23 = .ok (.iload_n 1, 1) := by decide +kernel
theorem dX5_count_24 : decode cX5_count 24 = .ok (.bipush 20, 2) := by decide +kernel
theorem dX5_count_26 : decode cX5_count 26 = .ok (.bipush 22, 2) := by decide +kernel
theorem dX5_count_28 : decode cX5_count 28 = .ok (.invokestatic 39, 3) := by decide +kernel
theorem dX5_count_31 : decode cX5_count 31 = .ok (.ifCond .eq 15, 3) := by decide +kernel
theorem dX5_count_34 : decode cX5_count 34 = .ok (.aload_n 0, 1) := by decide +kernel
theorem dX5_count_35 : decode cX5_count 35 = .ok (.getfield 7, 3) := by decide +kernel
theorem dX5_count_38 : decode cX5_count 38 = .ok (.iconst 3, 1) := by decide +kernel
theorem dX5_count_39 : decode cX5_count 39 = .ok (.iload_n 1, 1) := by decide +kernel
theorem dX5_count_40 : decode cX5_count 40 = .ok (.iadd, 1) := by decide +kernel
theorem dX5_count_41 : decode cX5_count 41 = .ok (.bipush 20, 2) := by decide +kernel
theorem dX5_count_43 : decode cX5_count 43 = .ok (.isub, 1) := by decide +kernel
theorem dX5_count_44 : decode cX5_count 44 = .ok (.iaload, 1) := by decide +kernel
theorem dX5_count_45 : decode cX5_count 45 = .ok (.ireturn, 1) := by decide +kernel
theorem dX5_count_46 : decode cX5_count 46 = .ok (.iload_n 1, 1) := by decide +kernel
theorem dX5_count_47 : decode cX5_count 47 = .ok (.tableswitch 111 0 7 #[45, 50, 59, 59, 59, 71, 76, 81], 45) := by decide +kernel
theorem dX5_count_92 : decode cX5_count 92 = .ok (.aload_n 0, 1) := by decide +kernel
theorem dX5_count_93 : decode cX5_count 93 = .ok (.invokevirtual 43, 3) := by decide +kernel
theorem dX5_count_96 : decode cX5_count 96 = .ok (.ireturn, 1) := by decide +kernel
theorem dX5_count_97 : decode cX5_count 97 = .ok (.aload_n 0, 1) := by decide +kernel
theorem dX5_count_98 : decode cX5_count 98 = .ok (.aload_n 0, 1) := by decide +kernel
theorem dX5_count_99 : decode cX5_count 99 = .ok (.invokevirtual 89, 3) := by decide +kernel
theorem dX5_count_102 : decode cX5_count 102 = .ok (.invokevirtual 92, 3) := by decide +kernel
theorem dX5_count_105 : decode cX5_count 105 = .ok (.ireturn, 1) := by decide +kernel
theorem dX5_count_106 : decode cX5_count 106 = .ok (.aload_n 0, 1) := by decide +kernel
theorem dX5_count_107 : decode cX5_count 107 = .ok (.getfield 7, 3) := by decide +kernel
theorem dX5_count_110 : decode cX5_count 110 = .ok (.bipush 6, 2) := by decide +kernel
theorem dX5_count_112 : decode cX5_count 112 = .ok (.iload_n 1, 1) := by decide +kernel
theorem dX5_count_113 : decode cX5_count 113 = .ok (.iadd, 1) := by decide +kernel
theorem dX5_count_114 : decode cX5_count 114 = .ok (.iconst 2, 1) := by decide +kernel
theorem dX5_count_115 : decode cX5_count 115 = .ok (.isub, 1) := by decide +kernel
theorem dX5_count_116 : decode cX5_count 116 = .ok (.iaload, 1) := by decide +kernel
theorem dX5_count_117 : decode cX5_count 117 = .ok (.ireturn, 1) := by decide +kernel
theorem dX5_count_118 : decode cX5_count 118 = .ok (.aload_n 0, 1) := by decide +kernel
theorem dX5_count_119 : decode cX5_count 119 = .ok (.getfield 158, 3) := by decide +kernel
theorem dX5_count_122 : decode cX5_count 122 = .ok (.ireturn, 1) := by decide +kernel
theorem dX5_count_123 : decode cX5_count 123 = .ok (.aload_n 0, 1) := by decide +kernel
theorem dX5_count_124 : decode cX5_count 124 = .ok (.invokevirtual 180, 3) := by decide +kernel
theorem dX5_count_127 : decode cX5_count 127 = .ok (.ireturn, 1) := by decide +kernel
theorem dX5_count_128 : decode cX5_count 128 = .ok (.aload_n 0, 1) := by decide +kernel
theorem dX5_count_129 : decode cX5_count 129 = .ok (.getfield 16, 3) := by decide +kernel
theorem dX5_count_132 : decode cX5_count 132 = .ok (.iconst 0, 1) := by decide +kernel
theorem dX5_count_133 : decode cX5_count 133 = .ok (.baload, 1) := by decide +kernel
theorem dX5_count_134 : decode cX5_count 134 = .ok (.ifCond .eq 7, 3) := by decide +kernel
theorem dX5_count_137 : decode cX5_count 137 = .ok (.iconst 1, 1) := by decide +kernel
theorem dX5_count_138 : decode cX5_count 138 = .ok (.goto 4, 3) := by decide +kernel
theorem dX5_count_141 : decode cX5_count 141 = .ok (.iconst 0, 1) := by decide +kernel
theorem dX5_count_142 : decode cX5_count 142 = .ok (.aload_n 0, 1) := by decide +kernel
theorem dX5_count_143 : decode cX5_count 143 = .ok (.getfield 16, 3) := by decide +kernel
theorem dX5_count_146 : decode cX5_count 146 = .ok (.iconst 1, 1) := by decide +kernel
theorem dX5_count_147 : decode cX5_count 147 = .ok (.baload, 1) := by decide +kernel
theorem dX5_count_148 : decode cX5_count 148 = .ok (.ifCond .eq 7, 3) := by decide +kernel
theorem dX5_count_151 : decode cX5_count 151 = .ok (.iconst 2, 1) := by decide +kernel
theorem dX5_count_152 : decode cX5_count 152 = .ok (.goto 4, 3) := by decide +kernel
theorem dX5_count_155 : decode cX5_count 155 = .ok (.iconst 0, 1) := by decide +kernel
theorem dX5_count_156 : decode cX5_count 156 = .ok (.iadd, 1) := by decide +kernel
theorem dX5_count_157 : decode cX5_count 157 = .ok (.ireturn, 1) := by decide +kernel
theorem dX5_count_158 : decode cX5_count 158 = .ok (.bipush (-2), 2) := by decide +kernel
theorem dX5_count_160 : decode cX5_count 160 = .ok (.ireturn, 1) := by decide +kernel
theorem dJ6_bitCount_0f7a4_0 : decode cJ6_bitCount_0f7a4 0 = .ok (.iload_n 0, 1) := by decide +kernel
theorem dJ6_bitCount_0f7a4_1 : decode cJ6_bitCount_0f7a4 1 = .ok (.iload_n 0, 1) := by decide +kernel
theorem dJ6_bitCount_0f7a4_2 : decode cJ6_bitCount_0f7a4 2 = .ok (.iconst 1, 1) := by decide +kernel
theorem dJ6_bitCount_0f7a4_3 : decode cJ6_bitCount_0f7a4 3 = .ok (.iushr, 1) := by decide +kernel
theorem dJ6_bitCount_0f7a4_4 : decode cJ6_bitCount_0f7a4 4 = .ok (.ldc_w 265, 3) := by decide +kernel
theorem dJ6_bitCount_0f7a4_7 : decode cJ6_bitCount_0f7a4 7 = .ok (.iand, 1) := by decide +kernel
theorem dJ6_bitCount_0f7a4_8 : decode cJ6_bitCount_0f7a4 8 = .ok (.isub, 1) := by decide +kernel
theorem dJ6_bitCount_0f7a4_9 : decode cJ6_bitCount_0f7a4 9 = .ok (.istore_n 0, 1) := by decide +kernel
theorem dJ6_bitCount_0f7a4_10 : decode cJ6_bitCount_0f7a4 10 = .ok (.iload_n 0, 1) := by decide +kernel
theorem dJ6_bitCount_0f7a4_11 : decode cJ6_bitCount_0f7a4 11 = .ok (.ldc_w 266, 3) := by decide +kernel
theorem dJ6_bitCount_0f7a4_14 : decode cJ6_bitCount_0f7a4 14 = .ok (.iand, 1) := by decide +kernel
theorem dJ6_bitCount_0f7a4_15 : decode cJ6_bitCount_0f7a4 15 = .ok (.iload_n 0, 1) := by decide +kernel
theorem dJ6_bitCount_0f7a4_16 : decode cJ6_bitCount_0f7a4 16 = .ok (.iconst 2, 1) := by decide +kernel
theorem dJ6_bitCount_0f7a4_17 : decode cJ6_bitCount_0f7a4 17 = .ok (.iushr, 1) := by decide +kernel
theorem dJ6_bitCount_0f7a4_18 : decode cJ6_bitCount_0f7a4 18 = .ok (.ldc_w 266, 3) := by decide +kernel
theorem dJ6_bitCount_0f7a4_21 : decode cJ6_bitCount_0f7a4 21 = .ok (.iand, 1) := by decide +kernel
theorem dJ6_bitCount_0f7a4_22 : decode cJ6_bitCount_0f7a4 22 = .ok (.iadd, 1) := by decide +kernel
theorem dJ6_bitCount_0f7a4_23 : decode cJ6_bitCount_0f7a4 23 = .ok (.istore_n 0, 1) := by decide +kernel
theorem dJ6_bitCount_0f7a4_24 : decode cJ6_bitCount_0f7a4 24 = .ok (.iload_n 0, 1) := by decide +kernel
theorem dJ6_bitCount_0f7a4_25 : decode cJ6_bitCount_0f7a4 25 = .ok (.iload_n 0, 1) := by decide +kernel
theorem dJ6_bitCount_0f7a4_26 : decode cJ6_bitCount_0f7a4 26 = .ok (.iconst 4, 1) := by decide +kernel
theorem dJ6_bitCount_0f7a4_27 : decode cJ6_bitCount_0f7a4 27 = .ok (.iushr, 1) := by decide +kernel
theorem dJ6_bitCount_0f7a4_28 : decode cJ6_bitCount_0f7a4 28 = .ok (.iadd, 1) := by decide +kernel
theorem dJ6_bitCount_0f7a4_29 : decode cJ6_bitCount_0f7a4 29 = .ok (.ldc_w 267, 3) := by decide +kernel
theorem dJ6_bitCount_0f7a4_32 : decode cJ6_bitCount_0f7a4 32 = .ok (.iand, 1) := by decide +kernel
theorem dJ6_bitCount_0f7a4_33 : decode cJ6_bitCount_0f7a4 33 = .ok (.istore_n 0, 1) := by decide +kernel
theorem dJ6_bitCount_0f7a4_34 : decode cJ6_bitCount_0f7a4 34 = .ok (.iload_n 0, 1) := by decide +kernel
theorem dJ6_bitCount_0f7a4_35 : decode cJ6_bitCount_0f7a4 35 = .ok (.iload_n 0, 1) := by decide +kernel
theorem dJ6_bitCount_0f7a4_36 : decode cJ6_bitCount_0f7a4 36 = .ok (.bipush 8, 2) := by decide +kernel
theorem dJ6_bitCount_0f7a4_38 : decode cJ6_bitCount_0f7a4 38 = .ok (.iushr, 1) := by decide +kernel
theorem dJ6_bitCount_0f7a4_39 : decode cJ6_bitCount_0f7a4 39 = .ok (.iadd, 1) := by decide +kernel
theorem dJ6_bitCount_0f7a4_40 : decode cJ6_bitCount_0f7a4 40 = .ok (.istore_n 0, 1) := by decide +kernel
theorem dJ6_bitCount_0f7a4_41 : decode cJ6_bitCount_0f7a4 41 = .ok (.iload_n 0, 1) := by decide +kernel
theorem dJ6_bitCount_0f7a4_42 : decode cJ6_bitCount_0f7a4 42 = .ok (.iload_n 0, 1) := by decide +kernel
theorem dJ6_bitCount_0f7a4_43 : decode cJ6_bitCount_0f7a4 43 = .ok (.bipush 16, 2) := by decide +kernel
theorem dJ6_bitCount_0f7a4_45 : decode cJ6_bitCount_0f7a4 45 = .ok (.iushr, 1) := by decide +kernel
theorem dJ6_bitCount_0f7a4_46 : decode cJ6_bitCount_0f7a4 46 = .ok (.iadd, 1) := by decide +kernel
theorem dJ6_bitCount_0f7a4_47 : decode cJ6_bitCount_0f7a4 47 = .ok (.istore_n 0, 1) := by decide +kernel
theorem dJ6_bitCount_0f7a4_48 : decode cJ6_bitCount_0f7a4 48 = .ok (.iload_n 0, 1) := by decide +kernel
theorem dJ6_bitCount_0f7a4_49 : decode cJ6_bitCount_0f7a4 49 = .ok (.bipush 63, 2) := by decide +kernel
theorem dJ6_bitCount_0f7a4_51 : decode cJ6_bitCount_0f7a4 51 = .ok (.iand, 1) := by decide +kernel
theorem dJ6_bitCount_0f7a4_52 : decode cJ6_bitCount_0f7a4 52 = .ok (.ireturn, 1) := by decide +kernel
theorem dJ9_floorDiv_7cf53_0 : decode cJ9_floorDiv_7cf53 0 = .ok (.iload_n 0, 1) := by decide +kernel
theorem dJ9_floorDiv_7cf53_1 : decode cJ9_floorDiv_7cf53 1 = .ok (.iload_n 1, 1) := by decide +kernel
theorem dJ9_floorDiv_7cf53_2 : decode cJ9_floorDiv_7cf53 2 = .ok (.idiv, 1) := by decide +kernel
theorem dJ9_floorDiv_7cf53_3 : decode cJ9_floorDiv_7cf53 3 = .ok (.istore_n 2, 1) := by decide +kernel
theorem dJ9_floorDiv_7cf53_4 : decode cJ9_floorDiv_7cf53 4 = .ok (.iload_n 0, 1) := by decide +kernel
theorem dJ9_floorDiv_7cf53_5 : decode cJ9_floorDiv_7cf53 5 = .ok (.iload_n 1, 1) := by decide +kernel
theorem dJ9_floorDiv_7cf53_6 : decode cJ9_floorDiv_7cf53 6 = .ok (.ixor, 1) := by decide +kernel
theorem dJ9_floorDiv_7cf53_7 : decode cJ9_floorDiv_7cf53 7 = .ok (.ifCond .ge 14, 3) := by decide +kernel
theorem dJ9_floorDiv_7cf53_10 : decode cJ9_floorDiv_7cf53 10 = .ok (.iload_n 2, 1) := by decide +kernel
theorem dJ9_floorDiv_7cf53_11 : decode cJ9_floorDiv_7cf53 11 = .ok (.iload_n 1, 1) := by decide +kernel
theorem dJ9_floorDiv_7cf53_12 : decode cJ9_floorDiv_7cf53 12 = .ok (.imul, 1) := by decide +kernel
theorem dJ9_floorDiv_7cf53_13 : decode cJ9_floorDiv_7cf53 13 = .ok (.iload_n 0, 1) := by decide +kernel
theorem dJ9_floorDiv_7cf53_14 : decode cJ9_floorDiv_7cf53 14 = .ok (.if_icmp .eq 7, 3) := by decide +kernel
theorem dJ9_floorDiv_7cf53_17 : decode cJ9_floorDiv_7cf53 17 = .ok (.iload_n 2, 1) := by decide +kernel
theorem dJ9_floorDiv_7cf53_18 : decode cJ9_floorDiv_7cf53 18 = .ok (.iconst 1, 1) := by decide +kernel
theorem dJ9_floorDiv_7cf53_19 : decode cJ9_floorDiv_7cf53 19 = .ok (.isub, 1) := by decide +kernel
theorem dJ9_floorDiv_7cf53_20 : decode cJ9_floorDiv_7cf53 20 = .ok (.ireturn, 1) := by decide +kernel
theorem dJ9_floorDiv_7cf53_21 : decode cJ9_floorDiv_7cf53 21 = .ok (.iload_n 2, 1) := by decide +kernel
theorem dJ9_floorDiv_7cf53_22 : decode cJ9_floorDiv_7cf53 22 = .ok (.ireturn, 1) := by decide +kernel
theorem dJ9_max_7cf53_0 : decode cJ9_max_7cf53 0 = .ok (.iload_n 0, 1) := by decide +kernel
theorem dJ9_max_7cf53_1 : decode cJ9_max_7cf53 1 = .ok (.iload_n 1, 1) := by decide +kernel
theorem dJ9_max_7cf53_2 : decode cJ9_max_7cf53 2 = .ok (.if_icmp .lt 7, 3) := by decide +kernel
theorem dJ9_max_7cf53_5 : decode cJ9_max_7cf53 5 = .ok (.iload_n 0, 1) := by decide +kernel
theorem dJ9_max_7cf53_6 : decode cJ9_max_7cf53 6 = .ok (.goto 4, 3) := by decide +kernel
theorem dJ9_max_7cf53_9 : decode cJ9_max_7cf53 9 = .ok (.iload_n 1, 1) := by decide +kernel
theorem dJ9_max_7cf53_10 : decode cJ9_max_7cf53 10 = .ok (.ireturn, 1) := by decide +kernel
theorem dJ9_min_7cf53_0 : decode cJ9_min_7cf53 0 = .ok (.iload_n 0, 1) := by decide +kernel
theorem dJ9_min_7cf53_1 : decode cJ9_min_7cf53 1 = .ok (.iload_n 1, 1) := by decide +kernel
theorem dJ9_min_7cf53_2 : decode cJ9_min_7cf53 2 = .ok (.if_icmp .gt 7, 3) := by decide +kernel
theorem dJ9_min_7cf53_5 : decode cJ9_min_7cf53 5 = .ok (.iload_n 0, 1) := by decide +kernel
theorem dJ9_min_7cf53_6 : decode cJ9_min_7cf53 6 = .ok (.goto 4, 3) := by decide +kernel
theorem dJ9_min_7cf53_9 : decode cJ9_min_7cf53 9 = .ok (.iload_n 1, 1) := by decide +kernel
theorem dJ9_min_7cf53_10 : decode cJ9_min_7cf53 10 = .ok (.ireturn, 1) := by decide +kernel
theorem dJ7_fill_53178_0 : decode cJ7_fill_53178 0 = .ok (.iconst 0, 1) := by decide +kernel
theorem dJ7_fill_53178_1 : decode cJ7_fill_53178 1 = .ok (.istore_n 2, 1) := by decide +kernel
theorem dJ7_fill_53178_2 : decode cJ7_fill_53178 2 = .ok (.aload_n 0, 1) := by decide +kernel
theorem dJ7_fill_53178_3 : decode cJ7_fill_53178 3 = .ok (.arraylength, 1) := by decide +kernel
theorem dJ7_fill_53178_4 : decode cJ7_fill_53178 4 = .ok (.istore_n 3, 1) := by decide +kernel
theorem dJ7_fill_53178_5 : decode cJ7_fill_53178 5 = .ok (.iload_n 2, 1) := by decide +kernel
theorem dJ7_fill_53178_6 : decode cJ7_fill_53178 6 = .ok (.iload_n 3, 1) := by decide +kernel
theorem dJ7_fill_53178_7 : decode cJ7_fill_53178 7 = .ok (.if_icmp .ge 13, 3) := by decide +kernel
theorem dJ7_fill_53178_10 : decode cJ7_fill_53178 10 = .ok (.aload_n 0, 1) := by decide +kernel
theorem dJ7_fill_53178_11 : decode cJ7_fill_53178 11 = .ok (.iload_n 2, 1) := by decide +kernel
theorem dJ7_fill_53178_12 : decode cJ7_fill_53178 12 = .ok (.iload_n 1, 1) := by decide +kernel
theorem dJ7_fill_53178_13 : decode cJ7_fill_53178 13 = .ok (.iastore, 1) := by decide +kernel
theorem dJ7_fill_53178_14 : decode cJ7_fill_53178 14 = .ok (.iinc 2 1, 3) := by decide +kernel
theorem dJ7_fill_53178_17 : decode cJ7_fill_53178 17 = .ok (.goto (-12), 3) := by decide +kernel
theorem dJ7_fill_53178_20 : decode cJ7_fill_53178 20 = .ok (.return_, 1) := by decide +kernel
theorem dL_law_0 : decode cL_law 0 = .ok (.new 7, 3) := by decide +kernel
theorem dL_law_3 : decode cL_law 3 = .ok (.dup, 1) := by decide +kernel
theorem dL_law_4 : decode cL_law 4 = .ok (.invokespecial 9, 3) := by decide +kernel
theorem dL_law_7 : decode cL_law 7 = .ok (.astore_n 1, 1) := by decide +kernel
theorem dL_law_8 : decode cL_law 8 = .ok (.new 10, 3) := by decide +kernel
theorem dL_law_11 : decode cL_law 11 = .ok (.dup, 1) := by decide +kernel
theorem dL_law_12 : decode cL_law 12 = .ok (.invokespecial 12, 3) := by decide +kernel
theorem dL_law_15 : decode cL_law 15 = .ok (.astore_n 2, 1) := by decide +kernel
theorem dL_law_16 : decode cL_law 16 = .ok (.iconst 0, 1) := by decide +kernel
theorem dL_law_17 : decode cL_law 17 = .ok (.istore_n 3, 1) := by decide +kernel
theorem dL_law_18 : decode cL_law 18 = .ok (.iload_n 3, 1) := by decide +kernel
theorem dL_law_19 : decode cL_law 19 = .ok (.aload_n 0, 1) := by decide +kernel
theorem dL_law_20 : decode cL_law 20 = .ok (.arraylength, 1) := by decide +kernel
theorem dL_law_21 : decode cL_law 21 = .ok (.iconst 4, 1) := by decide +kernel
theorem dL_law_22 : decode cL_law 22 = .ok (.isub, 1) := by decide +kernel
theorem dL_law_23 : decode cL_law 23 = .ok (.if_icmp .gt 688, 3) := by decide +kernel
theorem dL_law_26 : decode cL_law 26 = .ok (.aload_n 0, 1) := by decide +kernel
theorem dL_law_27 : decode cL_law 27 = .ok (.iload_n 3, 1) := by decide +kernel
theorem dL_law_28 : decode cL_law 28 = .ok (.iaload, 1) := by decide +kernel
theorem dL_law_29 : decode cL_law 29 = .ok (.bipush 31, 2) := by decide +kernel
theorem dL_law_31 : decode cL_law 31 = .ok (.iand, 1) := by decide +kernel
theorem dL_law_32 : decode cL_law 32 = .ok (.tableswitch 673 0 20 #[100, 143, 176, 219, 242, 275, 308, 331, 364, 397, 430, 453, 476, 499, 512, 525, 548, 571, 604, 627, 650], 100) := by decide +kernel
theorem dL_law_132 : decode cL_law 132 = .ok (.aload_n 1, 1) := by decide +kernel
theorem dL_law_133 : decode cL_law 133 = .ok (.aload_n 0, 1) := by decide +kernel
theorem dL_law_134 : decode cL_law 134 = .ok (.iload_n 3, 1) := by decide +kernel
theorem dL_law_135 : decode cL_law 135 = .ok (.iconst 1, 1) := by decide +kernel
theorem dL_law_136 : decode cL_law 136 = .ok (.iadd, 1) := by decide +kernel
theorem dL_law_137 : decode cL_law 137 = .ok (.iaload, 1) := by decide +kernel
theorem dL_law_138 : decode cL_law 138 = .ok (.aload_n 0, 1) := by decide +kernel
theorem dL_law_139 : decode cL_law 139 = .ok (.iload_n 3, 1) := by decide +kernel
theorem dL_law_140 : decode cL_law 140 = .ok (.iconst 2, 1) := by decide +kernel
theorem dL_law_141 : decode cL_law 141 = .ok (.iadd, 1) := by decide +kernel
theorem dL_law_142 : decode cL_law 142 = .ok (.iaload, 1) := by decide +kernel
theorem dL_law_143 : decode cL_law 143 = .ok (.aload_n 0, 1) := by decide +kernel
theorem dL_law_144 : decode cL_law 144 = .ok (.iload_n 3, 1) := by decide +kernel
theorem dL_law_145 : decode cL_law 145 = .ok (.iconst 3, 1) := by decide +kernel
theorem dL_law_146 : decode cL_law 146 = .ok (.iadd, 1) := by decide +kernel
theorem dL_law_147 : decode cL_law 147 = .ok (.iaload, 1) := by decide +kernel
theorem dL_law_148 : decode cL_law 148 = .ok (.invokevirtual 13, 3) := by decide +kernel
theorem dL_law_151 : decode cL_law 151 = .ok (.aload_n 2, 1) := by decide +kernel
theorem dL_law_152 : decode cL_law 152 = .ok (.aload_n 0, 1) := by decide +kernel
theorem dL_law_153 : decode cL_law 153 = .ok (.iload_n 3, 1) := by decide +kernel
theorem dL_law_154 : decode cL_law 154 = .ok (.iconst 1, 1) := by decide +kernel
theorem dL_law_155 : decode cL_law 155 = .ok (.iadd, 1) := by decide +kernel
theorem dL_law_156 : decode cL_law 156 = .ok (.iaload, 1) := by decide +kernel
theorem dL_law_157 : decode cL_law 157 = .ok (.aload_n 0, 1) := by decide +kernel
theorem dL_law_158 : decode cL_law 158 = .ok (.iload_n 3, 1) := by decide +kernel
theorem dL_law_159 : decode cL_law 159 = .ok (.iconst 2, 1) := by decide +kernel
theorem dL_law_160 : decode cL_law 160 = .ok (.iadd, 1) := by decide +kernel
theorem dL_law_161 : decode cL_law 161 = .ok (.iaload, 1) := by decide +kernel
theorem dL_law_162 : decode cL_law 162 = .ok (.aload_n 0, 1) := by decide +kernel
theorem dL_law_163 : decode cL_law 163 = .ok (.iload_n 3, 1) := by decide +kernel
theorem dL_law_164 : decode cL_law 164 = .ok (.iconst 3, 1) := by decide +kernel
theorem dL_law_165 : decode cL_law 165 = .ok (.iadd, 1) := by decide +kernel
theorem dL_law_166 : decode cL_law 166 = .ok (.iaload, 1) := by decide +kernel
theorem dL_law_167 : decode cL_law 167 = .ok (.invokevirtual 17, 3) := by decide +kernel
theorem dL_law_170 : decode cL_law 170 = .ok (.if_icmp .eq 535, 3) := by decide +kernel
theorem dL_law_173 : decode cL_law 173 = .ok (.iconst 0, 1) := by decide +kernel
theorem dL_law_174 : decode cL_law 174 = .ok (.ireturn, 1) := by decide +kernel
theorem dL_law_175 : decode cL_law 175 = .ok (.aload_n 1, 1) := by decide +kernel
theorem dL_law_176 : decode cL_law 176 = .ok (.aload_n 0, 1) := by decide +kernel
theorem dL_law_177 : decode cL_law 177 = .ok (.iload_n 3, 1) := by decide +kernel
theorem dL_law_178 : decode cL_law 178 = .ok (.iconst 1, 1) := by decide +kernel
theorem dL_law_179 : decode cL_law 179 = .ok (.iadd, 1) := by decide +kernel
theorem dL_law_180 : decode cL_law 180 = .ok (.iaload, 1) := by decide +kernel
theorem dL_law_181 : decode cL_law 181 = .ok (.aload_n 0, 1) := by decide +kernel
theorem dL_law_182 : decode cL_law 182 = .ok (.iload_n 3, 1) := by decide +kernel
theorem dL_law_183 : decode cL_law 183 = .ok (.iconst 2, 1) := by decide +kernel
theorem dL_law_184 : decode cL_law 184 = .ok (.iadd, 1) := by decide +kernel
theorem dL_law_185 : decode cL_law 185 = .ok (.iaload, 1) := by decide +kernel
theorem dL_law_186 : decode cL_law 186 = .ok (.invokevirtual 18, 3) := by decide +kernel
theorem dL_law_189 : decode cL_law 189 = .ok (.aload_n 2, 1) := by decide +kernel
theorem dL_law_190 : decode cL_law 190 = .ok (.aload_n 0, 1) := by decide +kernel
theorem dL_law_191 : decode cL_law 191 = .ok (.iload_n 3, 1) := by decide +kernel
theorem dL_law_192 : decode cL_law 192 = .ok (.iconst 1, 1) := by decide +kernel
theorem dL_law_193 : decode cL_law 193 = .ok (.iadd, 1) := by decide +kernel
theorem dL_law_194 : decode cL_law 194 = .ok (.iaload, 1) := by decide +kernel
theorem dL_law_195 : decode cL_law 195 = .ok (.aload_n 0, 1) := by decide +kernel
theorem dL_law_196 : decode cL_law 196 = .ok (.iload_n 3, 1) := by decide +kernel
theorem dL_law_197 : decode cL_law 197 = .ok (.iconst 2, 1) := by decide +kernel
theorem dL_law_198 : decode cL_law 198 = .ok (.iadd, 1) := by decide +kernel
theorem dL_law_199 : decode cL_law 199 = .ok (.iaload, 1) := by decide +kernel
theorem dL_law_200 : decode cL_law 200 = .ok (.invokevirtual 22, 3) := by decide +kernel
theorem dL_law_203 : decode cL_law 203 = .ok (.if_icmp .eq 502, 3) := by decide +kernel
theorem dL_law_206 : decode cL_law 206 = .ok (.iconst 0, 1) := by decide +kernel
theorem dL_law_207 : decode cL_law 207 = .ok (.ireturn, 1) := by decide +kernel
theorem dL_law_208 : decode cL_law 208 = .ok (.aload_n 1, 1) := by decide +kernel
theorem dL_law_209 : decode cL_law 209 = .ok (.aload_n 0, 1) := by decide +kernel
theorem dL_law_210 : decode cL_law 210 = .ok (.iload_n 3, 1) := by decide +kernel
theorem dL_law_211 : decode cL_law 211 = .ok (.iconst 1, 1) := by decide +kernel
theorem dL_law_212 : decode cL_law 212 = .ok (.iadd, 1) := by decide +kernel
theorem dL_law_213 : decode cL_law 213 = .ok (.iaload, 1) := by decide +kernel
theorem dL_law_214 : decode cL_law 214 = .ok (.aload_n 0, 1) := by decide +kernel
theorem dL_law_215 : decode cL_law 215 = .ok (.iload_n 3, 1) := by decide +kernel
theorem dL_law_216 : decode cL_law 216 = .ok (.iconst 2, 1) := by decide +kernel
theorem dL_law_217 : decode cL_law 217 = .ok (.iadd, 1) := by decide +kernel
theorem dL_law_218 : decode cL_law 218 = .ok (.iaload, 1) := by decide +kernel
theorem dL_law_219 : decode cL_law 219 = .ok (.aload_n 0, 1) := by decide +kernel
theorem dL_law_220 : decode cL_law 220 = .ok (.iload_n 3, 1) := by decide +kernel
theorem dL_law_221 : decode cL_law 221 = .ok (.iconst 3, 1) := by decide +kernel
theorem dL_law_222 : decode cL_law 222 = .ok (.iadd, 1) := by decide +kernel
theorem dL_law_223 : decode cL_law 223 = .ok (.iaload, 1) := by decide +kernel
theorem dL_law_224 : decode cL_law 224 = .ok (.invokevirtual 23, 3) := by decide +kernel
theorem dL_law_227 : decode cL_law 227 = .ok (.aload_n 2, 1) := by decide +kernel
theorem dL_law_228 : decode cL_law 228 = .ok (.aload_n 0, 1) := by decide +kernel
theorem dL_law_229 : decode cL_law 229 = .ok (.iload_n 3, 1) := by decide +kernel
theorem dL_law_230 : decode cL_law 230 = .ok (.iconst 1, 1) := by decide +kernel
theorem dL_law_231 : decode cL_law 231 = .ok (.iadd, 1) := by decide +kernel
theorem dL_law_232 : decode cL_law 232 = .ok (.iaload, 1) := by decide +kernel
theorem dL_law_233 : decode cL_law 233 = .ok (.aload_n 0, 1) := by decide +kernel
theorem dL_law_234 : decode cL_law 234 = .ok (.iload_n 3, 1) := by decide +kernel
theorem dL_law_235 : decode cL_law 235 = .ok (.iconst 2, 1) := by decide +kernel
theorem dL_law_236 : decode cL_law 236 = .ok (.iadd, 1) := by decide +kernel
theorem dL_law_237 : decode cL_law 237 = .ok (.iaload, 1) := by decide +kernel
theorem dL_law_238 : decode cL_law 238 = .ok (.aload_n 0, 1) := by decide +kernel
theorem dL_law_239 : decode cL_law 239 = .ok (.iload_n 3, 1) := by decide +kernel
theorem dL_law_240 : decode cL_law 240 = .ok (.iconst 3, 1) := by decide +kernel
theorem dL_law_241 : decode cL_law 241 = .ok (.iadd, 1) := by decide +kernel
theorem dL_law_242 : decode cL_law 242 = .ok (.iaload, 1) := by decide +kernel
theorem dL_law_243 : decode cL_law 243 = .ok (.invokevirtual 26, 3) := by decide +kernel
theorem dL_law_246 : decode cL_law 246 = .ok (.if_icmp .eq 459, 3) := by decide +kernel
theorem dL_law_249 : decode cL_law 249 = .ok (.iconst 0, 1) := by decide +kernel
theorem dL_law_250 : decode cL_law 250 = .ok (.ireturn, 1) := by decide +kernel
theorem dL_law_251 : decode cL_law 251 = .ok (.aload_n 1, 1) := by decide +kernel
theorem dL_law_252 : decode cL_law 252 = .ok (.aload_n 0, 1) := by decide +kernel
theorem dL_law_253 : decode cL_law 253 = .ok (.iload_n 3, 1) := by decide +kernel
theorem dL_law_254 : decode cL_law 254 = .ok (.iconst 1, 1) := by decide +kernel
theorem dL_law_255 : decode cL_law 255 = .ok (.iadd, 1) := by decide +kernel
theorem dL_law_256 : decode cL_law 256 = .ok (.iaload, 1) := by decide +kernel
theorem dL_law_257 : decode cL_law 257 = .ok (.invokevirtual 27, 3) := by decide +kernel
theorem dL_law_260 : decode cL_law 260 = .ok (.aload_n 2, 1) := by decide +kernel
theorem dL_law_261 : decode cL_law 261 = .ok (.aload_n 0, 1) := by decide +kernel
theorem dL_law_262 : decode cL_law 262 = .ok (.iload_n 3, 1) := by decide +kernel
theorem dL_law_263 : decode cL_law 263 = .ok (.iconst 1, 1) := by decide +kernel
theorem dL_law_264 : decode cL_law 264 = .ok (.iadd, 1) := by decide +kernel
theorem dL_law_265 : decode cL_law 265 = .ok (.iaload, 1) := by decide +kernel
theorem dL_law_266 : decode cL_law 266 = .ok (.invokevirtual 31, 3) := by decide +kernel
theorem dL_law_269 : decode cL_law 269 = .ok (.if_icmp .eq 436, 3) := by decide +kernel
theorem dL_law_272 : decode cL_law 272 = .ok (.iconst 0, 1) := by decide +kernel
theorem dL_law_273 : decode cL_law 273 = .ok (.ireturn, 1) := by decide +kernel
theorem dL_law_274 : decode cL_law 274 = .ok (.aload_n 1, 1) := by decide +kernel
theorem dL_law_275 : decode cL_law 275 = .ok (.aload_n 0, 1) := by decide +kernel
theorem dL_law_276 : decode cL_law 276 = .ok (.iload_n 3, 1) := by decide +kernel
theorem dL_law_277 : decode cL_law 277 = .ok (.iconst 1, 1) := by decide +kernel
theorem dL_law_278 : decode cL_law 278 = .ok (.iadd, 1) := by decide +kernel
theorem dL_law_279 : decode cL_law 279 = .ok (.iaload, 1) := by decide +kernel
theorem dL_law_280 : decode cL_law 280 = .ok (.aload_n 0, 1) := by decide +kernel
theorem dL_law_281 : decode cL_law 281 = .ok (.iload_n 3, 1) := by decide +kernel
theorem dL_law_282 : decode cL_law 282 = .ok (.iconst 2, 1) := by decide +kernel
theorem dL_law_283 : decode cL_law 283 = .ok (.iadd, 1) := by decide +kernel
theorem dL_law_284 : decode cL_law 284 = .ok (.iaload, 1) := by decide +kernel
theorem dL_law_285 : decode cL_law 285 = .ok (.invokevirtual 32, 3) := by decide +kernel
theorem dL_law_288 : decode cL_law 288 = .ok (.aload_n 2, 1) := by decide +kernel
theorem dL_law_289 : decode cL_law 289 = .ok (.aload_n 0, 1) := by decide +kernel
theorem dL_law_290 : decode cL_law 290 = .ok (.iload_n 3, 1) := by decide +kernel
theorem dL_law_291 : decode cL_law 291 = .ok (.iconst 1, 1) := by decide +kernel
theorem dL_law_292 : decode cL_law 292 = .ok (.iadd, 1) := by decide +kernel
theorem dL_law_293 : decode cL_law 293 = .ok (.iaload, 1) := by decide +kernel
theorem dL_law_294 : decode cL_law 294 = .ok (.aload_n 0, 1) := by decide +kernel
theorem dL_law_295 : decode cL_law 295 = .ok (.iload_n 3, 1) := by decide +kernel
theorem dL_law_296 : decode cL_law 296 = .ok (.iconst 2, 1) := by decide +kernel
theorem dL_law_297 : decode cL_law 297 = .ok (.iadd, 1) := by decide +kernel
theorem dL_law_298 : decode cL_law 298 = .ok (.iaload, 1) := by decide +kernel
theorem dL_law_299 : decode cL_law 299 = .ok (.invokevirtual 35, 3) := by decide +kernel
theorem dL_law_302 : decode cL_law 302 = .ok (.if_icmp .eq 403, 3) := by decide +kernel
theorem dL_law_305 : decode cL_law 305 = .ok (.iconst 0, 1) := by decide +kernel
theorem dL_law_306 : decode cL_law 306 = .ok (.ireturn, 1) := by decide +kernel
theorem dL_law_307 : decode cL_law 307 = .ok (.aload_n 1, 1) := by decide +kernel
theorem dL_law_308 : decode cL_law 308 = .ok (.aload_n 0, 1) := by decide +kernel
theorem dL_law_309 : decode cL_law 309 = .ok (.iload_n 3, 1) := by decide +kernel
theorem dL_law_310 : decode cL_law 310 = .ok (.iconst 1, 1) := by decide +kernel
theorem dL_law_311 : decode cL_law 311 = .ok (.iadd, 1) := by decide +kernel
theorem dL_law_312 : decode cL_law 312 = .ok (.iaload, 1) := by decide +kernel
theorem dL_law_313 : decode cL_law 313 = .ok (.aload_n 0, 1) := by decide +kernel
theorem dL_law_314 : decode cL_law 314 = .ok (.iload_n 3, 1) := by decide +kernel
theorem dL_law_315 : decode cL_law 315 = .ok (.iconst 2, 1) := by decide +kernel
theorem dL_law_316 : decode cL_law 316 = .ok (.iadd, 1) := by decide +kernel
theorem dL_law_317 : decode cL_law 317 = .ok (.iaload, 1) := by decide +kernel
theorem dL_law_318 : decode cL_law 318 = .ok (.invokevirtual 36, 3) := by decide +kernel
theorem dL_law_321 : decode cL_law 321 = .ok (.aload_n 2, 1) := by decide +kernel
theorem dL_law_322 : decode cL_law 322 = .ok (.aload_n 0, 1) := by decide +kernel
theorem dL_law_323 : decode cL_law 323 = .ok (.iload_n 3, 1) := by decide +kernel
theorem dL_law_324 : decode cL_law 324 = .ok (.iconst 1, 1) := by decide +kernel
theorem dL_law_325 : decode cL_law 325 = .ok (.iadd, 1) := by decide +kernel
theorem dL_law_326 : decode cL_law 326 = .ok (.iaload, 1) := by decide +kernel
theorem dL_law_327 : decode cL_law 327 = .ok (.aload_n 0, 1) := by decide +kernel
theorem dL_law_328 : decode cL_law 328 = .ok (.iload_n 3, 1) := by decide +kernel
theorem dL_law_329 : decode cL_law 329 = .ok (.iconst 2, 1) := by decide +kernel
theorem dL_law_330 : decode cL_law 330 = .ok (.iadd, 1) := by decide +kernel
theorem dL_law_331 : decode cL_law 331 = .ok (.iaload, 1) := by decide +kernel
theorem dL_law_332 : decode cL_law 332 = .ok (.invokevirtual 39, 3) := by decide +kernel
theorem dL_law_335 : decode cL_law 335 = .ok (.if_icmp .eq 370, 3) := by decide +kernel
theorem dL_law_338 : decode cL_law 338 = .ok (.iconst 0, 1) := by decide +kernel
theorem dL_law_339 : decode cL_law 339 = .ok (.ireturn, 1) := by decide +kernel
theorem dL_law_340 : decode cL_law 340 = .ok (.aload_n 1, 1) := by decide +kernel
theorem dL_law_341 : decode cL_law 341 = .ok (.aload_n 0, 1) := by decide +kernel
theorem dL_law_342 : decode cL_law 342 = .ok (.iload_n 3, 1) := by decide +kernel
theorem dL_law_343 : decode cL_law 343 = .ok (.iconst 1, 1) := by decide +kernel
theorem dL_law_344 : decode cL_law 344 = .ok (.iadd, 1) := by decide +kernel
theorem dL_law_345 : decode cL_law 345 = .ok (.iaload, 1) := by decide +kernel
theorem dL_law_346 : decode cL_law 346 = .ok (.invokevirtual 40, 3) := by decide +kernel
theorem dL_law_349 : decode cL_law 349 = .ok (.aload_n 2, 1) := by decide +kernel
theorem dL_law_350 : decode cL_law 350 = .ok (.aload_n 0, 1) := by decide +kernel
theorem dL_law_351 : decode cL_law 351 = .ok (.iload_n 3, 1) := by decide +kernel
theorem dL_law_352 : decode cL_law 352 = .ok (.iconst 1, 1) := by decide +kernel
theorem dL_law_353 : decode cL_law 353 = .ok (.iadd, 1) := by decide +kernel
theorem dL_law_354 : decode cL_law 354 = .ok (.iaload, 1) := by decide +kernel
theorem dL_law_355 : decode cL_law 355 = .ok (.invokevirtual 43, 3) := by decide +kernel
theorem dL_law_358 : decode cL_law 358 = .ok (.if_icmp .eq 347, 3) := by decide +kernel
theorem dL_law_361 : decode cL_law 361 = .ok (.iconst 0, 1) := by decide +kernel
theorem dL_law_362 : decode cL_law 362 = .ok (.ireturn, 1) := by decide +kernel
theorem dL_law_363 : decode cL_law 363 = .ok (.aload_n 1, 1) := by decide +kernel
theorem dL_law_364 : decode cL_law 364 = .ok (.aload_n 0, 1) := by decide +kernel
theorem dL_law_365 : decode cL_law 365 = .ok (.iload_n 3, 1) := by decide +kernel
theorem dL_law_366 : decode cL_law 366 = .ok (.iconst 1, 1) := by decide +kernel
theorem dL_law_367 : decode cL_law 367 = .ok (.iadd, 1) := by decide +kernel
theorem dL_law_368 : decode cL_law 368 = .ok (.iaload, 1) := by decide +kernel
theorem dL_law_369 : decode cL_law 369 = .ok (.aload_n 0, 1) := by decide +kernel
theorem dL_law_370 : decode cL_law 370 = .ok (.iload_n 3, 1) := by decide +kernel
theorem dL_law_371 : decode cL_law 371 = .ok (.iconst 2, 1) := by decide +kernel
theorem dL_law_372 : decode cL_law 372 = .ok (.iadd, 1) := by decide +kernel
theorem dL_law_373 : decode cL_law 373 = .ok (.iaload, 1) := by decide +kernel
theorem dL_law_374 : decode cL_law 374 = .ok (.invokevirtual 44, 3) := by decide +kernel
theorem dL_law_377 : decode cL_law 377 = .ok (.aload_n 2, 1) := by decide +kernel
theorem dL_law_378 : decode cL_law 378 = .ok (.aload_n 0, 1) := by decide +kernel
theorem dL_law_379 : decode cL_law 379 = .ok (.iload_n 3, 1) := by decide +kernel
theorem dL_law_380 : decode cL_law 380 = .ok (.iconst 1, 1) := by decide +kernel
theorem dL_law_381 : decode cL_law 381 = .ok (.iadd, 1) := by decide +kernel
theorem dL_law_382 : decode cL_law 382 = .ok (.iaload, 1) := by decide +kernel
theorem dL_law_383 : decode cL_law 383 = .ok (.aload_n 0, 1) := by decide +kernel
theorem dL_law_384 : decode cL_law 384 = .ok (.iload_n 3, 1) := by decide +kernel
theorem dL_law_385 : decode cL_law 385 = .ok (.iconst 2, 1) := by decide +kernel
theorem dL_law_386 : decode cL_law 386 = .ok (.iadd, 1) := by decide +kernel
theorem dL_law_387 : decode cL_law 387 = .ok (.iaload, 1) := by decide +kernel
theorem dL_law_388 : decode cL_law 388 = .ok (.invokevirtual 47, 3) := by decide +kernel
theorem dL_law_391 : decode cL_law 391 = .ok (.if_icmp .eq 314, 3) := by decide +kernel
theorem dL_law_394 : decode cL_law 394 = .ok (.iconst 0, 1) := by decide +kernel
theorem dL_law_395 : decode cL_law 395 = .ok (.ireturn, 1) := by decide +kernel
theorem dL_law_396 : decode cL_law 396 = .ok (.aload_n 1, 1) := by decide +kernel
theorem dL_law_397 : decode cL_law 397 = .ok (.aload_n 0, 1) := by decide +kernel
theorem dL_law_398 : decode cL_law 398 = .ok (.iload_n 3, 1) := by decide +kernel
theorem dL_law_399 : decode cL_law 399 = .ok (.iconst 1, 1) := by decide +kernel
theorem dL_law_400 : decode cL_law 400 = .ok (.iadd, 1) := by decide +kernel
theorem dL_law_401 : decode cL_law 401 = .ok (.iaload, 1) := by decide +kernel
theorem dL_law_402 : decode cL_law 402 = .ok (.aload_n 0, 1) := by decide +kernel
theorem dL_law_403 : decode cL_law 403 = .ok (.iload_n 3, 1) := by decide +kernel
theorem dL_law_404 : decode cL_law 404 = .ok (.iconst 2, 1) := by decide +kernel
theorem dL_law_405 : decode cL_law 405 = .ok (.iadd, 1) := by decide +kernel
theorem dL_law_406 : decode cL_law 406 = .ok (.iaload, 1) := by decide +kernel
theorem dL_law_407 : decode cL_law 407 = .ok (.invokevirtual 48, 3) := by decide +kernel
theorem dL_law_410 : decode cL_law 410 = .ok (.aload_n 2, 1) := by decide +kernel
theorem dL_law_411 : decode cL_law 411 = .ok (.aload_n 0, 1) := by decide +kernel
theorem dL_law_412 : decode cL_law 412 = .ok (.iload_n 3, 1) := by decide +kernel
theorem dL_law_413 : decode cL_law 413 = .ok (.iconst 1, 1) := by decide +kernel
theorem dL_law_414 : decode cL_law 414 = .ok (.iadd, 1) := by decide +kernel
theorem dL_law_415 : decode cL_law 415 = .ok (.iaload, 1) := by decide +kernel
theorem dL_law_416 : decode cL_law 416 = .ok (.aload_n 0, 1) := by decide +kernel
theorem dL_law_417 : decode cL_law 417 = .ok (.iload_n 3, 1) := by decide +kernel
theorem dL_law_418 : decode cL_law 418 = .ok (.iconst 2, 1) := by decide +kernel
theorem dL_law_419 : decode cL_law 419 = .ok (.iadd, 1) := by decide +kernel
theorem dL_law_420 : decode cL_law 420 = .ok (.iaload, 1) := by decide +kernel
theorem dL_law_421 : decode cL_law 421 = .ok (.invokevirtual 51, 3) := by decide +kernel
theorem dL_law_424 : decode cL_law 424 = .ok (.if_icmp .eq 281, 3) := by decide +kernel
theorem dL_law_427 : decode cL_law 427 = .ok (.iconst 0, 1) := by decide +kernel
theorem dL_law_428 : decode cL_law 428 = .ok (.ireturn, 1) := by decide +kernel
theorem dL_law_429 : decode cL_law 429 = .ok (.aload_n 1, 1) := by decide +kernel
theorem dL_law_430 : decode cL_law 430 = .ok (.aload_n 0, 1) := by decide +kernel
theorem dL_law_431 : decode cL_law 431 = .ok (.iload_n 3, 1) := by decide +kernel
theorem dL_law_432 : decode cL_law 432 = .ok (.iconst 1, 1) := by decide +kernel
theorem dL_law_433 : decode cL_law 433 = .ok (.iadd, 1) := by decide +kernel
theorem dL_law_434 : decode cL_law 434 = .ok (.iaload, 1) := by decide +kernel
theorem dL_law_435 : decode cL_law 435 = .ok (.aload_n 0, 1) := by decide +kernel
theorem dL_law_436 : decode cL_law 436 = .ok (.iload_n 3, 1) := by decide +kernel
theorem dL_law_437 : decode cL_law 437 = .ok (.iconst 2, 1) := by decide +kernel
theorem dL_law_438 : decode cL_law 438 = .ok (.iadd, 1) := by decide +kernel
theorem dL_law_439 : decode cL_law 439 = .ok (.iaload, 1) := by decide +kernel
theorem dL_law_440 : decode cL_law 440 = .ok (.invokevirtual 52, 3) := by decide +kernel
theorem dL_law_443 : decode cL_law 443 = .ok (.aload_n 2, 1) := by decide +kernel
theorem dL_law_444 : decode cL_law 444 = .ok (.aload_n 0, 1) := by decide +kernel
theorem dL_law_445 : decode cL_law 445 = .ok (.iload_n 3, 1) := by decide +kernel
theorem dL_law_446 : decode cL_law 446 = .ok (.iconst 1, 1) := by decide +kernel
theorem dL_law_447 : decode cL_law 447 = .ok (.iadd, 1) := by decide +kernel
theorem dL_law_448 : decode cL_law 448 = .ok (.iaload, 1) := by decide +kernel
theorem dL_law_449 : decode cL_law 449 = .ok (.aload_n 0, 1) := by decide +kernel
theorem dL_law_450 : decode cL_law 450 = .ok (.iload_n 3, 1) := by decide +kernel
theorem dL_law_451 : decode cL_law 451 = .ok (.iconst 2, 1) := by decide +kernel
theorem dL_law_452 : decode cL_law 452 = .ok (.iadd, 1) := by decide +kernel
theorem dL_law_453 : decode cL_law 453 = .ok (.iaload, 1) := by decide +kernel
theorem dL_law_454 : decode cL_law 454 = .ok (.invokevirtual 55, 3) := by decide +kernel
theorem dL_law_457 : decode cL_law 457 = .ok (.if_icmp .eq 248, 3) := by decide +kernel
theorem dL_law_460 : decode cL_law 460 = .ok (.iconst 0, 1) := by decide +kernel
theorem dL_law_461 : decode cL_law 461 = .ok (.ireturn, 1) := by decide +kernel
theorem dL_law_462 : decode cL_law 462 = .ok (.aload_n 1, 1) := by decide +kernel
theorem dL_law_463 : decode cL_law 463 = .ok (.aload_n 0, 1) := by decide +kernel
theorem dL_law_464 : decode cL_law 464 = .ok (.iload_n 3, 1) := by decide +kernel
theorem dL_law_465 : decode cL_law 465 = .ok (.iconst 1, 1) := by decide +kernel
theorem dL_law_466 : decode cL_law 466 = .ok (.iadd, 1) := by decide +kernel
theorem dL_law_467 : decode cL_law 467 = .ok (.iaload, 1) := by decide +kernel
theorem dL_law_468 : decode cL_law 468 = .ok (.invokevirtual 56, 3) := by decide +kernel
theorem dL_law_471 : decode cL_law 471 = .ok (.aload_n 2, 1) := by decide +kernel
theorem dL_law_472 : decode cL_law 472 = .ok (.aload_n 0, 1) := by decide +kernel
theorem dL_law_473 : decode cL_law 473 = .ok (.iload_n 3, 1) := by decide +kernel
theorem dL_law_474 : decode cL_law 474 = .ok (.iconst 1, 1) := by decide +kernel
theorem dL_law_475 : decode cL_law 475 = .ok (.iadd, 1) := by decide +kernel
theorem dL_law_476 : decode cL_law 476 = .ok (.iaload, 1) := by decide +kernel
theorem dL_law_477 : decode cL_law 477 = .ok (.invokevirtual 59, 3) := by decide +kernel
theorem dL_law_480 : decode cL_law 480 = .ok (.if_icmp .eq 225, 3) := by decide +kernel
theorem dL_law_483 : decode cL_law 483 = .ok (.iconst 0, 1) := by decide +kernel
theorem dL_law_484 : decode cL_law 484 = .ok (.ireturn, 1) := by decide +kernel
theorem dL_law_485 : decode cL_law 485 = .ok (.aload_n 1, 1) := by decide +kernel
theorem dL_law_486 : decode cL_law 486 = .ok (.aload_n 0, 1) := by decide +kernel
theorem dL_law_487 : decode cL_law 487 = .ok (.iload_n 3, 1) := by decide +kernel
theorem dL_law_488 : decode cL_law 488 = .ok (.iconst 1, 1) := by decide +kernel
theorem dL_law_489 : decode cL_law 489 = .ok (.iadd, 1) := by decide +kernel
theorem dL_law_490 : decode cL_law 490 = .ok (.iaload, 1) := by decide +kernel
theorem dL_law_491 : decode cL_law 491 = .ok (.invokevirtual 60, 3) := by decide +kernel
theorem dL_law_494 : decode cL_law 494 = .ok (.aload_n 2, 1) := by decide +kernel
theorem dL_law_495 : decode cL_law 495 = .ok (.aload_n 0, 1) := by decide +kernel
theorem dL_law_496 : decode cL_law 496 = .ok (.iload_n 3, 1) := by decide +kernel
theorem dL_law_497 : decode cL_law 497 = .ok (.iconst 1, 1) := by decide +kernel
theorem dL_law_498 : decode cL_law 498 = .ok (.iadd, 1) := by decide +kernel
theorem dL_law_499 : decode cL_law 499 = .ok (.iaload, 1) := by decide +kernel
theorem dL_law_500 : decode cL_law 500 = .ok (.invokevirtual 63, 3) := by decide +kernel
theorem dL_law_503 : decode cL_law 503 = .ok (.if_icmp .eq 202, 3) := by decide +kernel
theorem dL_law_506 : decode cL_law 506 = .ok (.iconst 0, 1) := by decide +kernel
theorem dL_law_507 : decode cL_law 507 = .ok (.ireturn, 1) := by decide +kernel
theorem dL_law_508 : decode cL_law 508 = .ok (.aload_n 1, 1) := by decide +kernel
theorem dL_law_509 : decode cL_law 509 = .ok (.aload_n 0, 1) := by decide +kernel
theorem dL_law_510 : decode cL_law 510 = .ok (.iload_n 3, 1) := by decide +kernel
theorem dL_law_511 : decode cL_law 511 = .ok (.iconst 1, 1) := by decide +kernel
theorem dL_law_512 : decode cL_law 512 = .ok (.iadd, 1) := by decide +kernel
theorem dL_law_513 : decode cL_law 513 = .ok (.iaload, 1) := by decide +kernel
theorem dL_law_514 : decode cL_law 514 = .ok (.invokevirtual 64, 3) := by decide +kernel
theorem dL_law_517 : decode cL_law 517 = .ok (.aload_n 2, 1) := by decide +kernel
theorem dL_law_518 : decode cL_law 518 = .ok (.aload_n 0, 1) := by decide +kernel
theorem dL_law_519 : decode cL_law 519 = .ok (.iload_n 3, 1) := by decide +kernel
theorem dL_law_520 : decode cL_law 520 = .ok (.iconst 1, 1) := by decide +kernel
theorem dL_law_521 : decode cL_law 521 = .ok (.iadd, 1) := by decide +kernel
theorem dL_law_522 : decode cL_law 522 = .ok (.iaload, 1) := by decide +kernel
theorem dL_law_523 : decode cL_law 523 = .ok (.invokevirtual 67, 3) := by decide +kernel
theorem dL_law_526 : decode cL_law 526 = .ok (.if_icmp .eq 179, 3) := by decide +kernel
theorem dL_law_529 : decode cL_law 529 = .ok (.iconst 0, 1) := by decide +kernel
theorem dL_law_530 : decode cL_law 530 = .ok (.ireturn, 1) := by decide +kernel
theorem dL_law_531 : decode cL_law 531 = .ok (.aload_n 1, 1) := by decide +kernel
theorem dL_law_532 : decode cL_law 532 = .ok (.invokevirtual 68, 3) := by decide +kernel
theorem dL_law_535 : decode cL_law 535 = .ok (.aload_n 2, 1) := by decide +kernel
theorem dL_law_536 : decode cL_law 536 = .ok (.invokevirtual 72, 3) := by decide +kernel
theorem dL_law_539 : decode cL_law 539 = .ok (.if_icmp .eq 166, 3) := by decide +kernel
theorem dL_law_542 : decode cL_law 542 = .ok (.iconst 0, 1) := by decide +kernel
theorem dL_law_543 : decode cL_law 543 = .ok (.ireturn, 1) := by decide +kernel
theorem dL_law_544 : decode cL_law 544 = .ok (.aload_n 1, 1) := by decide +kernel
theorem dL_law_545 : decode cL_law 545 = .ok (.invokevirtual 73, 3) := by decide +kernel
theorem dL_law_548 : decode cL_law 548 = .ok (.aload_n 2, 1) := by decide +kernel
theorem dL_law_549 : decode cL_law 549 = .ok (.invokevirtual 76, 3) := by decide +kernel
theorem dL_law_552 : decode cL_law 552 = .ok (.if_icmp .eq 153, 3) := by decide +kernel
theorem dL_law_555 : decode cL_law 555 = .ok (.iconst 0, 1) := by decide +kernel
theorem dL_law_556 : decode cL_law 556 = .ok (.ireturn, 1) := by decide +kernel
theorem dL_law_557 : decode cL_law 557 = .ok (.aload_n 1, 1) := by decide +kernel
theorem dL_law_558 : decode cL_law 558 = .ok (.aload_n 0, 1) := by decide +kernel
theorem dL_law_559 : decode cL_law 559 = .ok (.iload_n 3, 1) := by decide +kernel
theorem dL_law_560 : decode cL_law 560 = .ok (.iconst 1, 1) := by decide +kernel
theorem dL_law_561 : decode cL_law 561 = .ok (.iadd, 1) := by decide +kernel
theorem dL_law_562 : decode cL_law 562 = .ok (.iaload, 1) := by decide +kernel
theorem dL_law_563 : decode cL_law 563 = .ok (.invokevirtual 77, 3) := by decide +kernel
theorem dL_law_566 : decode cL_law 566 = .ok (.aload_n 2, 1) := by decide +kernel
theorem dL_law_567 : decode cL_law 567 = .ok (.aload_n 0, 1) := by decide +kernel
theorem dL_law_568 : decode cL_law 568 = .ok (.iload_n 3, 1) := by decide +kernel
theorem dL_law_569 : decode cL_law 569 = .ok (.iconst 1, 1) := by decide +kernel
theorem dL_law_570 : decode cL_law 570 = .ok (.iadd, 1) := by decide +kernel
theorem dL_law_571 : decode cL_law 571 = .ok (.iaload, 1) := by decide +kernel
theorem dL_law_572 : decode cL_law 572 = .ok (.invokevirtual 80, 3) := by decide +kernel
theorem dL_law_575 : decode cL_law 575 = .ok (.if_icmp .eq 130, 3) := by decide +kernel
theorem dL_law_578 : decode cL_law 578 = .ok (.iconst 0, 1) := by decide +kernel
theorem dL_law_579 : decode cL_law 579 = .ok (.ireturn, 1) := by decide +kernel
theorem dL_law_580 : decode cL_law 580 = .ok (.aload_n 1, 1) := by decide +kernel
theorem dL_law_581 : decode cL_law 581 = .ok (.aload_n 0, 1) := by decide +kernel
theorem dL_law_582 : decode cL_law 582 = .ok (.iload_n 3, 1) := by decide +kernel
theorem dL_law_583 : decode cL_law 583 = .ok (.iconst 1, 1) := by decide +kernel
theorem dL_law_584 : decode cL_law 584 = .ok (.iadd, 1) := by decide +kernel
theorem dL_law_585 : decode cL_law 585 = .ok (.iaload, 1) := by decide +kernel
theorem dL_law_586 : decode cL_law 586 = .ok (.invokevirtual 81, 3) := by decide +kernel
theorem dL_law_589 : decode cL_law 589 = .ok (.aload_n 2, 1) := by decide +kernel
theorem dL_law_590 : decode cL_law 590 = .ok (.aload_n 0, 1) := by decide +kernel
theorem dL_law_591 : decode cL_law 591 = .ok (.iload_n 3, 1) := by decide +kernel
theorem dL_law_592 : decode cL_law 592 = .ok (.iconst 1, 1) := by decide +kernel
theorem dL_law_593 : decode cL_law 593 = .ok (.iadd, 1) := by decide +kernel
theorem dL_law_594 : decode cL_law 594 = .ok (.iaload, 1) := by decide +kernel
theorem dL_law_595 : decode cL_law 595 = .ok (.invokevirtual 84, 3) := by decide +kernel
theorem dL_law_598 : decode cL_law 598 = .ok (.if_icmp .eq 107, 3) := by decide +kernel
theorem dL_law_601 : decode cL_law 601 = .ok (.iconst 0, 1) := by decide +kernel
theorem dL_law_602 : decode cL_law 602 = .ok (.ireturn, 1) := by decide +kernel
theorem dL_law_603 : decode cL_law 603 = .ok (.aload_n 1, 1) := by decide +kernel
theorem dL_law_604 : decode cL_law 604 = .ok (.aload_n 0, 1) := by decide +kernel
theorem dL_law_605 : decode cL_law 605 = .ok (.iload_n 3, 1) := by decide +kernel
theorem dL_law_606 : decode cL_law 606 = .ok (.iconst 1, 1) := by decide +kernel
theorem dL_law_607 : decode cL_law 607 = .ok (.iadd, 1) := by decide +kernel
theorem dL_law_608 : decode cL_law 608 = .ok (.iaload, 1) := by decide +kernel
theorem dL_law_609 : decode cL_law 609 = .ok (.aload_n 0, 1) := by decide +kernel
theorem dL_law_610 : decode cL_law 610 = .ok (.iload_n 3, 1) := by decide +kernel
theorem dL_law_611 : decode cL_law 611 = .ok (.iconst 2, 1) := by decide +kernel
theorem dL_law_612 : decode cL_law 612 = .ok (.iadd, 1) := by decide +kernel
theorem dL_law_613 : decode cL_law 613 = .ok (.iaload, 1) := by decide +kernel
theorem dL_law_614 : decode cL_law 614 = .ok (.invokevirtual 85, 3) := by decide +kernel
theorem dL_law_617 : decode cL_law 617 = .ok (.aload_n 2, 1) := by decide +kernel
theorem dL_law_618 : decode cL_law 618 = .ok (.aload_n 0, 1) := by decide +kernel
theorem dL_law_619 : decode cL_law 619 = .ok (.iload_n 3, 1) := by decide +kernel
theorem dL_law_620 : decode cL_law 620 = .ok (.iconst 1, 1) := by decide +kernel
theorem dL_law_621 : decode cL_law 621 = .ok (.iadd, 1) := by decide +kernel
theorem dL_law_622 : decode cL_law 622 = .ok (.iaload, 1) := by decide +kernel
theorem dL_law_623 : decode cL_law 623 = .ok (.aload_n 0, 1) := by decide +kernel
theorem dL_law_624 : decode cL_law 624 = .ok (.iload_n 3, 1) := by decide +kernel
theorem dL_law_625 : decode cL_law 625 = .ok (.iconst 2, 1) := by decide +kernel
theorem dL_law_626 : decode cL_law 626 = .ok (.iadd, 1) := by decide +kernel
theorem dL_law_627 : decode cL_law 627 = .ok (.iaload, 1) := by decide +kernel
theorem dL_law_628 : decode cL_law 628 = .ok (.invokevirtual 88, 3) := by decide +kernel
theorem dL_law_631 : decode cL_law 631 = .ok (.if_icmp .eq 74, 3) := by decide +kernel
theorem dL_law_634 : decode cL_law 634 = .ok (.iconst 0, 1) := by decide +kernel
theorem dL_law_635 : decode cL_law 635 = .ok (.ireturn, 1) := by decide +kernel
theorem dL_law_636 : decode cL_law 636 = .ok (.aload_n 1, 1) := by decide +kernel
theorem dL_law_637 : decode cL_law 637 = .ok (.aload_n 0, 1) := by decide +kernel
theorem dL_law_638 : decode cL_law 638 = .ok (.iload_n 3, 1) := by decide +kernel
theorem dL_law_639 : decode cL_law 639 = .ok (.iconst 1, 1) := by decide +kernel
theorem dL_law_640 : decode cL_law 640 = .ok (.iadd, 1) := by decide +kernel
theorem dL_law_641 : decode cL_law 641 = .ok (.iaload, 1) := by decide +kernel
theorem dL_law_642 : decode cL_law 642 = .ok (.invokevirtual 89, 3) := by decide +kernel
theorem dL_law_645 : decode cL_law 645 = .ok (.aload_n 2, 1) := by decide +kernel
theorem dL_law_646 : decode cL_law 646 = .ok (.aload_n 0, 1) := by decide +kernel
theorem dL_law_647 : decode cL_law 647 = .ok (.iload_n 3, 1) := by decide +kernel
theorem dL_law_648 : decode cL_law 648 = .ok (.iconst 1, 1) := by decide +kernel
theorem dL_law_649 : decode cL_law 649 = .ok (.iadd, 1) := by decide +kernel
theorem dL_law_650 : decode cL_law 650 = .ok (.iaload, 1) := by decide +kernel
theorem dL_law_651 : decode cL_law 651 = .ok (.invokevirtual 92, 3) := by decide +kernel
theorem dL_law_654 : decode cL_law 654 = .ok (.if_icmp .eq 51, 3) := by decide +kernel
theorem dL_law_657 : decode cL_law 657 = .ok (.iconst 0, 1) := by decide +kernel
theorem dL_law_658 : decode cL_law 658 = .ok (.ireturn, 1) := by decide +kernel
theorem dL_law_659 : decode cL_law 659 = .ok (.aload_n 1, 1) := by decide +kernel
theorem dL_law_660 : decode cL_law 660 = .ok (.aload_n 0, 1) := by decide +kernel
theorem dL_law_661 : decode cL_law 661 = .ok (.iload_n 3, 1) := by decide +kernel
theorem dL_law_662 : decode cL_law 662 = .ok (.iconst 1, 1) := by decide +kernel
theorem dL_law_663 : decode cL_law 663 = .ok (.iadd, 1) := by decide +kernel
theorem dL_law_664 : decode cL_law 664 = .ok (.iaload, 1) := by decide +kernel
theorem dL_law_665 : decode cL_law 665 = .ok (.invokevirtual 93, 3) := by decide +kernel
theorem dL_law_668 : decode cL_law 668 = .ok (.aload_n 2, 1) := by decide +kernel
theorem dL_law_669 : decode cL_law 669 = .ok (.aload_n 0, 1) := by decide +kernel
theorem dL_law_670 : decode cL_law 670 = .ok (.iload_n 3, 1) := by decide +kernel
theorem dL_law_671 : decode cL_law 671 = .ok (.iconst 1, 1) := by decide +kernel
theorem dL_law_672 : decode cL_law 672 = .ok (.iadd, 1) := by decide +kernel
theorem dL_law_673 : decode cL_law 673 = .ok (.iaload, 1) := by decide +kernel
theorem dL_law_674 : decode cL_law 674 = .ok (.invokevirtual 96, 3) := by decide +kernel
theorem dL_law_677 : decode cL_law 677 = .ok (.if_icmp .eq 28, 3) := by decide +kernel
theorem dL_law_680 : decode cL_law 680 = .ok (.iconst 0, 1) := by decide +kernel
theorem dL_law_681 : decode cL_law 681 = .ok (.ireturn, 1) := by decide +kernel
theorem dL_law_682 : decode cL_law 682 = .ok (.aload_n 1, 1) := by decide +kernel
theorem dL_law_683 : decode cL_law 683 = .ok (.aload_n 0, 1) := by decide +kernel
theorem dL_law_684 : decode cL_law 684 = .ok (.iload_n 3, 1) := by decide +kernel
theorem dL_law_685 : decode cL_law 685 = .ok (.iconst 1, 1) := by decide +kernel
theorem dL_law_686 : decode cL_law 686 = .ok (.iadd, 1) := by decide +kernel
theorem dL_law_687 : decode cL_law 687 = .ok (.iaload, 1) := by decide +kernel
theorem dL_law_688 : decode cL_law 688 = .ok (.invokevirtual 97, 3) := by decide +kernel
theorem dL_law_691 : decode cL_law 691 = .ok (.aload_n 2, 1) := by decide +kernel
theorem dL_law_692 : decode cL_law 692 = .ok (.aload_n 0, 1) := by decide +kernel
theorem dL_law_693 : decode cL_law 693 = .ok (.iload_n 3, 1) := by decide +kernel
theorem dL_law_694 : decode cL_law 694 = .ok (.iconst 1, 1) := by decide +kernel
theorem dL_law_695 : decode cL_law 695 = .ok (.iadd, 1) := by decide +kernel
theorem dL_law_696 : decode cL_law 696 = .ok (.iaload, 1) := by decide +kernel
theorem dL_law_697 : decode cL_law 697 = .ok (.invokevirtual 100, 3) := by decide +kernel
theorem dL_law_700 : decode cL_law 700 = .ok (.if_icmp .eq 5, 3) := by decide +kernel
theorem dL_law_703 : decode cL_law 703 = .ok (.iconst 0, 1) := by decide +kernel
theorem dL_law_704 : decode cL_law 704 = .ok (.ireturn, 1) := by decide +kernel
theorem dL_law_705 : decode cL_law 705 = .ok (.iinc 3 4, 3) := by decide +kernel
theorem dL_law_708 : decode cL_law 708 = .ok (.goto (-690), 3) := by decide +kernel
theorem dL_law_711 : decode cL_law 711 = .ok (.iconst 1, 1) := by decide +kernel
theorem dL_law_712 : decode cL_law 712 = .ok (.ireturn, 1) := by decide +kernel
end
section
/-! A light judgement over the kit's W: the cells of the class and of the reference are 67 cells of known shape; what changes is an int memory. -/
abbrev Mem : Type := Nat → Nat → Int32
abbrev Gp : Type := Launch × va_G × (Nat → Nat) × (Nat → ClassId)
abbrev Mth : Type := MethodName × ByteArray × Nat × Option FieldType × (Gp → State → (Nat → Prop) → Prop)
abbrev Lc : Type := List (Option Value)
abbrev Kt : Type := Lc → List Value → Mem → Prop
abbrev Shp : Type := Nat × Nat × List Nat
/-- nothing there -/
def sh0 : Shp := (99, 0, [])
def shI (n : Nat) : Shp := (0, n, [])
def shZ (n : Nat) : Shp := (1, n, [])
def shShop (b : Nat) : Shp := (7, 0, [b + 3, b + 4, 0, 0, 0, 0, b + 5, b + 6, b + 7])
def shPlan (b : Nat) : Shp := (5, 0, [0, b + 3, b + 4])
def shL : List Shp := [
  (8, 0, [3, 9, 27, 0, 28, 30, 33, 36, 51, 52, 53, 54]),
  shShop 1, shI 4, shI 4, shI 7, shI 7, shI 7,
  shShop 7, shI 4, shI 4, shI 7, shI 7, shI 7,
  shShop 13, shI 4, shI 4, shI 7, shI 7, shI 7,
  shShop 19, shI 4, shI 4, shI 7, shI 7, shI 7,
  (2, 2, [13, 19]), (4, 0, [0, 29]), shI 14,
  shPlan 28, shI 7, shI 7, shPlan 31, shI 7, shI 7, shPlan 34, shI 7, shI 7,
  shPlan 37, shI 7, shI 7, shPlan 40, shI 7, shI 7, shPlan 43, shI 7, shI 7, shPlan 46, shI 7, shI 7,
  (3, 4, [37, 40, 43, 46]), shI 4, shZ 4,
  (6, 0, [1, 0, 55, 56, 0, 57, 58]), shI 128, shI 128, shI 2048, shI 2048,
  (9, 0, [60, 61, 62, 63, 0, 64, 0, 65, 66, 67, 68, 0, 0]), shI 31, shI 62, shZ 2, shI 14, shI 15, shI 15, shI 128, shZ 168960, shI 168960]
def sh (a : Nat) : Shp := shL.getD a sh0
def fval (t : Nat) (x : Int32) : Value := match t with
  | 0 => .int x
  | 1 => if x = 0 then .null else .ref x.toNatClampNeg
  | r + 2 => .ref r
def cv (ad : Nat → Nat) (v : Value) : Value := match v with
  | .ref a => .ref (ad a)
  | v => v
def cellC (G : Gp) (t : Shp) (row : Nat → Int32) : va_E :=
  if t.1 < 2 then .inl (G.2.2.2 t.1, t.2.1, .inl row)
  else if t.1 < 4 then .inl (G.2.2.2 t.1, t.2.1, .inr (.inr (.inr (.inr (fun j => (t.2.2[j]?).map G.2.2.1)))))
  else .inr (t.1 - 4, t.2.2.mapIdx (fun k g => cv G.2.2.1 (fval g (row k))))
def wsOf (G : Gp) (σ : Mem) : va_W := (List.range 67).map (fun a => (G.2.2.1 a, cellC G (sh a) (σ a)))
def tysW (G : Gp) : List (ClassId × FieldType) := [(G.2.2.2 0, .int), (G.2.2.2 1, .boolean), (G.2.2.2 2, .object RX3), (G.2.2.2 3, .object RX1)]
def nestWs : List Cond := tables_1.filter (fun w => match w with | .methodLinkNest _ _ _ _ => true | _ => false)
theorem cv_cat (ad : Nat → Nat) (v : Value) : (cv ad v).category = v.category := by cases v <;> rfl
theorem ws_at (G : Gp) (σ : Mem) {a : Nat} (h : a < 67) : (wsOf G σ)[a]? = some (G.2.2.1 a, cellC G (sh a) (σ a)) := by simp [wsOf, h]
theorem ws_at' {G : Gp} {σ : Mem} {a : Nat} {q : Nat × va_E} (h : (wsOf G σ)[a]? = some q) : a < 67 ∧ q = (G.2.2.1 a, cellC G (sh a) (σ a)) := by
  have hl : a < 67 := by
    have := (List.getElem?_eq_some_iff.mp h).1
    simpa [wsOf] using this
  rw [ws_at G σ hl] at h
  exact ⟨hl, (Option.some.inj h).symm⟩
theorem ws_set {G : Gp} {σ : Mem} {a : Nat} (h : a < 67) {e : va_E} {row : Nat → Int32} (he : cellC G (sh a) row = e) : (wsOf G σ).set a (G.2.2.1 a, e) = wsOf G (va_up σ a row) := by
  apply List.ext_getElem?
  intro i
  by_cases hi : i < 67
  · rw [ws_at _ _ hi, List.getElem?_set]
    by_cases h1 : a = i
    · subst h1
      simp [wsOf, h, va_up, he]
    · rw [if_neg h1, ws_at _ _ hi]
      have h2 : ¬ i = a := fun q => h1 q.symm
      simp [va_up, h2]
  · rw [List.getElem?_eq_none (by simp [wsOf]; omega), List.getElem?_eq_none (by simp [wsOf]; omega)]
theorem sh_lt {a k : Nat} (h : (sh a).1 = k) (hk : k ≠ 99) : a < 67 := by
  rcases Nat.lt_or_ge a 67 with q | q
  · exact q
  · exfalso
    have e : sh a = sh0 := by
      unfold sh
      rw [List.getD_eq_getElem?_getD, List.getElem?_eq_none (by simpa [shL] using q)]
      rfl
    rw [e] at h
    exact hk h.symm
theorem cell_i (G : Gp) {a : Nat} (h : (sh a).1 = 0) (row : Nat → Int32) : cellC G (sh a) row = .inl (G.2.2.2 0, (sh a).2.1, .inl row) := by
  unfold cellC; rw [h]; rfl
theorem cell_z (G : Gp) {a : Nat} (h : (sh a).1 = 1) (row : Nat → Int32) : cellC G (sh a) row = .inl (G.2.2.2 1, (sh a).2.1, .inl row) := by
  unfold cellC; rw [h]; rfl
theorem cell_q (G : Gp) {a k : Nat} (h : (sh a).1 = k) (h2 : ¬ k < 2) (h4 : k < 4) (row : Nat → Int32) : cellC G (sh a) row = .inl (G.2.2.2 k, (sh a).2.1, .inr (.inr (.inr (.inr (fun j => ((sh a).2.2[j]?).map G.2.2.1))))) := by
  unfold cellC; rw [h, if_neg h2, if_pos h4]
theorem cell_o (G : Gp) {a ci : Nat} (h : (sh a).1 = ci + 4) (row : Nat → Int32) : cellC G (sh a) row = .inr (ci, (sh a).2.2.mapIdx (fun k g => cv G.2.2.1 (fval g (row k)))) := by
  unfold cellC; rw [h, if_neg (by omega), if_neg (by omega)]; rfl
/-- the locals -/
def lg : Lc → Nat → Option Value
  | [], _ => none
  | a :: _, 0 => a
  | _ :: l, n + 1 => lg l n
def lset : Lc → Nat → Value → Lc
  | [], _, _ => []
  | _ :: l, 0, v => some v :: l
  | a :: l, n + 1, v => a :: lset l n v
def inB : Lc → Nat → Prop
  | [], _ => False
  | _ :: _, 0 => True
  | _ :: l, n + 1 => inB l n
theorem inB_lt : ∀ (l : Lc) (i : Nat), inB l i → i < l.length
  | [], _, h => h.elim
  | _ :: _, 0, _ => by simp
  | _ :: l, n + 1, h => by have := inB_lt l n h; simp; omega
theorem lset_len : ∀ (l : Lc) (i : Nat) (v : Value), (lset l i v).length = l.length
  | [], _, _ => rfl
  | _ :: _, 0, _ => rfl
  | _ :: l, n + 1, v => by simp [lset, lset_len l n v]
theorem lg_lset : ∀ (l : Lc) (i j : Nat) (v w : Value), lg (lset l i v) j = some w → (j = i ∧ w = v) ∨ (j ≠ i ∧ lg l j = some w)
  | [], _, _, _, _, h => by simp [lset, lg] at h
  | _ :: _, 0, 0, _, _, h => by simp [lset, lg] at h; exact Or.inl ⟨rfl, h.symm⟩
  | _ :: _, 0, _ + 1, _, _, h => Or.inr ⟨by omega, h⟩
  | _ :: _, _ + 1, 0, _, _, h => Or.inr ⟨by omega, h⟩
  | _ :: l, i + 1, j + 1, v, w, h => by
    rcases lg_lset l i j v w h with ⟨h1, h2⟩ | ⟨h1, h2⟩
    · exact Or.inl ⟨by omega, h2⟩
    · exact Or.inr ⟨by omega, h2⟩
theorem lg_lt : ∀ (l : Lc) (i : Nat) (v : Value), lg l i = some v → i < l.length
  | [], _, _, h => by simp [lg] at h
  | _ :: _, 0, _, _ => by simp
  | _ :: l, n + 1, v, h => by have := lg_lt l n v h; simp; omega
def Lr (ad : Nat → Nat) (ls : Lc) (sl : Array Slot) (nL : Nat) : Prop := sl.size = nL ∧ lv_wf sl ∧ ls.length = nL ∧ ∀ i v, lg ls i = some v → v.category = 1 ∧ sl[i]? = some (.val (cv ad v))
def lpr (ad : Nat → Nat) (ls : Lc) : List (Nat × Value) := (List.range ls.length).filterMap (fun j => (lg ls j).map (fun v => (j, cv ad v)))
theorem lpr_mem {ad : Nat → Nat} {ls : Lc} {i : Nat} {v : Value} (h : lg ls i = some v) : (i, cv ad v) ∈ lpr ad ls :=
  List.mem_filterMap.mpr ⟨i, List.mem_range.mpr (lg_lt ls i v h), by rw [h]; rfl⟩
theorem Lr.has {ad : Nat → Nat} {ls : Lc} {sl : Array Slot} {nL : Nat} (h : Lr ad ls sl nL) : lv_has sl nL (lpr ad ls) := by
  refine ⟨h.1, h.2.1, fun q hq => ?_⟩
  obtain ⟨j, -, hj⟩ := List.mem_filterMap.mp hq
  cases hg : lg ls j with
  | none => rw [hg] at hj; cases hj
  | some v => rw [hg] at hj; cases hj; exact (h.2.2.2 j v hg).2
theorem Lr.set {ad : Nat → Nat} {ls : Lc} {sl sl' : Array Slot} {nL i : Nat} {v w : Value} (h : Lr ad ls sl nL) (hv : v.category = 1) (hw : cv ad v = w)
    (h' : lv_has sl' nL ((i, w) :: (lpr ad ls).filter (fun q => !(q.1 == i) && !(q.1 + 1 == i && q.2.category == 2)))) : Lr ad (lset ls i v) sl' nL := by
  refine ⟨h'.1, h'.2.1, (lset_len ls i v).trans h.2.2.1, fun j x hj => ?_⟩
  rcases lg_lset ls i j v x hj with ⟨h1, h2⟩ | ⟨h1, h2⟩
  · subst h1; subst h2
    exact ⟨hv, by rw [hw]; exact h'.2.2 (j, w) List.mem_cons_self⟩
  · obtain ⟨c1, -⟩ := h.2.2.2 j x h2
    refine ⟨c1, h'.2.2 (j, cv ad x) (List.mem_cons_of_mem _ (List.mem_filter.mpr ⟨lpr_mem h2, ?_⟩))⟩
    simp [h1, cv_cat, c1]
/-- the context of a method's body -/
def Ctx (G : Gp) (M : Mth) (d : Nat) (p : Program) (R : Room) (s : State) (m : MethodId) (args : Array Value) (c : Code) (cells slots : Nat) (A : Nat → Prop) : Prop :=
  p.tables.exec = Jvm.exec ∧ c.code = M.2.1 ∧ c.maxLocals = M.2.2.1 ∧ s.vm.findClass M.1.cls = some m.cls ∧ (∀ w ∈ gtbl, w.before args s = true) ∧ (∀ w ∈ nestWs, va_Nw w s) ∧ va_K G.2.1 vwCl (tysW G) s ∧
  (d ≤ R.frames ∧ 60 * d ≤ R.locals ∧ cells ≤ R.cells ∧ slots ≤ R.slots) ∧ (∀ a, a < 67 → A (G.2.2.1 a)) ∧ (∀ i j, i < 67 → j < 67 → G.2.2.1 i = G.2.2.1 j → i = j) ∧ M.2.2.2.2 G s A
theorem ws_D {G : Gp} {A : Nat → Prop} (hA : ∀ a, a < 67 → A (G.2.2.1 a)) (hi : ∀ i j, i < 67 → j < 67 → G.2.2.1 i = G.2.2.1 j → i = j) (σ : Mem) : va_D A (wsOf G σ) := by
  refine ⟨fun i j x y hx hy hxy => ?_, fun k q hq => ?_⟩
  · obtain ⟨h1, rfl⟩ := ws_at' hx
    obtain ⟨h2, rfl⟩ := ws_at' hy
    exact hi i j h1 h2 hxy
  · obtain ⟨h1, rfl⟩ := ws_at' hq
    exact hA k h1
/-- what a return instruction hands back -/
def RetOk (M : Mth) (pc : Nat) (v : Option Value) : Prop := (v = none ∧ M.2.2.2.1 = none ∧ decode M.2.1 pc = .ok (.return_, 1)) ∨ ∃ x : Int32, v = some (.int x) ∧ decode M.2.1 pc = .ok (.ireturn, 1) ∧ (M.2.2.2.1 = some .int ∨ (M.2.2.2.1 = some .boolean ∧ (x = 0 ∨ x = 1)))
/-- from here, with these locals, stack and memory, the method comes to its end with Q -/
def E (G : Gp) (M : Mth) (d pc : Nat) (ls : Lc) (stk : List Value) (σ : Mem) (Q : Option Value → Mem → Prop) : Prop :=
  ∀ (p : Program) (e : Env) (R : Room) (s : State) (m : MethodId) (args : Array Value) (below : List Frame) (meth : Method) (c : Code) (cells slots : Nat) (A : Nat → Prop) (Qf : State → Prop),
    Ctx G M d p R s m args c cells slots A →
    (∀ (v : Option Value) (τ : Mem) (H : Heap) (locs : List Loc) (pc' : Nat) (sl : Array Slot), Q v τ → va_P G.2.1 vwCl (wsOf G τ) H → va_S A s.heap H locs → RetOk M pc' v → W p G.1 e R s m args below meth c H locs cells slots Qf (F0 m pc' sl v.toList)) →
    ∀ (H : Heap) (locs : List Loc) (sl : Array Slot), va_P G.2.1 vwCl (wsOf G σ) H → va_S A s.heap H locs → Lr G.2.2.1 ls sl M.2.2.1 →
    W p G.1 e R s m args below meth c H locs cells slots Qf (F0 m pc sl (stk.map (cv G.2.2.1)))
/-- where K holds the method comes to its end with Q -/
def Ent (G : Gp) (M : Mth) (d pc : Nat) (Q : Option Value → Mem → Prop) (K : Kt) : Prop := ∀ ls stk σ, K ls stk σ → E G M d pc ls stk σ Q
theorem Ent.here {G : Gp} {M : Mth} {d pc : Nat} {Q : Option Value → Mem → Prop} : Ent G M d pc Q (fun ls stk σ => E G M d pc ls stk σ Q) := fun _ _ _ h => h
theorem E.mono {G : Gp} {M : Mth} {d pc : Nat} {ls : Lc} {stk : List Value} {σ : Mem} {Q Q' : Option Value → Mem → Prop} (h : E G M d pc ls stk σ Q) (hq : ∀ v τ, Q v τ → Q' v τ) : E G M d pc ls stk σ Q' :=
  fun p e R s m args below meth c cells slots A Qf C hr H locs sl hP hS hL => h p e R s m args below meth c cells slots A Qf C (fun v τ H locs pc' sl q => hr v τ H locs pc' sl (hq v τ q)) H locs sl hP hS hL
section OPS
variable {G : Gp} {M : Mth} {d pc : Nat} {Q : Option Value → Mem → Prop} {K K2 : Kt} {b : ByteArray}

def o_push (v : Int32) (K : Kt) (ls : Lc) (stk : List Value) (σ : Mem) : Prop := K ls (.int v :: stk) σ
theorem N_iconst (hb : M.2.1 = b) {n : Int} {v : Int32} (hd : decode b pc = .ok (.iconst n, 1)) (hv : Int32.ofInt n = v) (k : Ent G M d (pc + 1) Q K) : Ent G M d pc Q (o_push v K) := by
  intro ls stk σ h
  subst hb
  intro p e R s m args below meth c cells slots A Qf C hr H locs sl hP hS hL
  exact lv_iconst C.1 C.2.1 hd hv (k _ _ _ h p e R s m args below meth c cells slots A Qf C hr H locs sl hP hS hL)
theorem N_bipush (hb : M.2.1 = b) {n : Int} {v : Int32} (hd : decode b pc = .ok (.bipush n, 2)) (hv : (Int8.ofInt n).toInt32 = v) (k : Ent G M d (pc + 2) Q K) : Ent G M d pc Q (o_push v K) := by
  intro ls stk σ h
  subst hb
  intro p e R s m args below meth c cells slots A Qf C hr H locs sl hP hS hL
  exact lv_bipush C.1 C.2.1 hd hv (k _ _ _ h p e R s m args below meth c cells slots A Qf C hr H locs sl hP hS hL)
theorem N_sipush (hb : M.2.1 = b) {n : Int} {v : Int32} (hd : decode b pc = .ok (.sipush n, 3)) (hv : (Int16.ofInt n).toInt32 = v) (k : Ent G M d (pc + 3) Q K) : Ent G M d pc Q (o_push v K) := by
  intro ls stk σ h
  subst hb
  intro p e R s m args below meth c cells slots A Qf C hr H locs sl hP hS hL
  exact lv_sipush C.1 C.2.1 hd hv (k _ _ _ h p e R s m args below meth c cells slots A Qf C hr H locs sl hP hS hL)
theorem N_ldc (hb : M.2.1 = b) {own : String} (ho : M.1.cls = own) {i : Nat} {v : Int32} (hw : Cond.constant own i v ∈ gtbl) (hd : decode b pc = .ok (.ldc i, 2)) (k : Ent G M d (pc + 2) Q K) : Ent G M d pc Q (o_push v K) := by
  intro ls stk σ h
  subst hb
  subst ho
  intro p e R s m args below meth c cells slots A Qf C hr H locs sl hP hS hL
  exact lv_ldc C.1 C.2.1 C.2.2.2.1 (C.2.2.2.2.1 _ hw) hd (k _ _ _ h p e R s m args below meth c cells slots A Qf C hr H locs sl hP hS hL)
theorem N_ldcw (hb : M.2.1 = b) {own : String} (ho : M.1.cls = own) {i : Nat} {v : Int32} (hw : Cond.constant own i v ∈ gtbl) (hd : decode b pc = .ok (.ldc_w i, 3)) (k : Ent G M d (pc + 3) Q K) : Ent G M d pc Q (o_push v K) := by
  intro ls stk σ h
  subst hb
  subst ho
  intro p e R s m args below meth c cells slots A Qf C hr H locs sl hP hS hL
  exact lv_ldcw C.1 C.2.1 C.2.2.2.1 (C.2.2.2.2.1 _ hw) hd (k _ _ _ h p e R s m args below meth c cells slots A Qf C hr H locs sl hP hS hL)
def o_iload (i : Nat) (K : Kt) (ls : Lc) (stk : List Value) (σ : Mem) : Prop := match lg ls i with
  | some (.int v) => K ls (.int v :: stk) σ
  | _ => False
def o_aload (i : Nat) (K : Kt) (ls : Lc) (stk : List Value) (σ : Mem) : Prop := match lg ls i with
  | some (.ref v) => K ls (.ref v :: stk) σ
  | _ => False

theorem N_iload_n (hb : M.2.1 = b) {n : Fin 4} {i : Nat} (hd : decode b pc = .ok (.iload_n n, 1)) (hi : (n : Nat) = i) (k : Ent G M d (pc + 1) Q K) : Ent G M d pc Q (o_iload i K) := by
  intro ls stk σ h
  subst hb
  unfold o_iload at h
  split at h
  · rename_i v hg
    intro p e R s m args below meth c cells slots A Qf C hr H locs sl hP hS hL
    exact lv_iload_n C.1 C.2.1 hd hi (hL.2.2.2 _ _ hg).2 (k _ _ _ h p e R s m args below meth c cells slots A Qf C hr H locs sl hP hS hL)
  · exact h.elim
theorem N_iload (hb : M.2.1 = b) {i : Nat} (hd : decode b pc = .ok (.iload i, 2)) (k : Ent G M d (pc + 2) Q K) : Ent G M d pc Q (o_iload i K) := by
  intro ls stk σ h
  subst hb
  unfold o_iload at h
  split at h
  · rename_i v hg
    intro p e R s m args below meth c cells slots A Qf C hr H locs sl hP hS hL
    exact lv_iload C.1 C.2.1 hd (hL.2.2.2 _ _ hg).2 (k _ _ _ h p e R s m args below meth c cells slots A Qf C hr H locs sl hP hS hL)
  · exact h.elim

theorem N_aload_n (hb : M.2.1 = b) {n : Fin 4} {i : Nat} (hd : decode b pc = .ok (.aload_n n, 1)) (hi : (n : Nat) = i) (k : Ent G M d (pc + 1) Q K) : Ent G M d pc Q (o_aload i K) := by
  intro ls stk σ h
  subst hb
  unfold o_aload at h
  split at h
  · rename_i v hg
    intro p e R s m args below meth c cells slots A Qf C hr H locs sl hP hS hL
    exact lv_aload_n C.1 C.2.1 hd hi (hL.2.2.2 _ _ hg).2 (k _ _ _ h p e R s m args below meth c cells slots A Qf C hr H locs sl hP hS hL)
  · exact h.elim
theorem N_aload (hb : M.2.1 = b) {i : Nat} (hd : decode b pc = .ok (.aload i, 2)) (k : Ent G M d (pc + 2) Q K) : Ent G M d pc Q (o_aload i K) := by
  intro ls stk σ h
  subst hb
  unfold o_aload at h
  split at h
  · rename_i v hg
    intro p e R s m args below meth c cells slots A Qf C hr H locs sl hP hS hL
    exact lv_aload C.1 C.2.1 hd (hL.2.2.2 _ _ hg).2 (k _ _ _ h p e R s m args below meth c cells slots A Qf C hr H locs sl hP hS hL)
  · exact h.elim

def o_istore (i : Nat) (K : Kt) (ls : Lc) (stk : List Value) (σ : Mem) : Prop := match stk with
  | .int v :: r => inB ls i ∧ K (lset ls i (.int v)) r σ
  | _ => False
def o_iinc (i : Nat) (n : Int32) (K : Kt) (ls : Lc) (stk : List Value) (σ : Mem) : Prop := match lg ls i with
  | some (.int v) => K (lset ls i (.int (v + n))) stk σ
  | _ => False

theorem N_istore_n (hb : M.2.1 = b) {n : Fin 4} {i : Nat} (hd : decode b pc = .ok (.istore_n n, 1)) (hi : (n : Nat) = i) (k : Ent G M d (pc + 1) Q K) : Ent G M d pc Q (o_istore i K) := by
  intro ls stk σ h
  subst hb
  unfold o_istore at h
  split at h
  · rename_i v r
    obtain ⟨hi0, h⟩ := h
    intro p e R s m args below meth c cells slots A Qf C hr H locs sl hP hS hL
    exact lv_istore_n C.1 C.2.1 hd hi hL.has (by rw [← hL.2.2.1]; exact inB_lt _ _ hi0) rfl (fun sl' h' => k _ _ _ h p e R s m args below meth c cells slots A Qf C hr H locs sl' hP hS (hL.set (v := .int v) rfl rfl h'))
  · exact h.elim

theorem N_istore (hb : M.2.1 = b) {i : Nat} (hd : decode b pc = .ok (.istore i, 2)) (k : Ent G M d (pc + 2) Q K) : Ent G M d pc Q (o_istore i K) := by
  intro ls stk σ h
  subst hb
  unfold o_istore at h
  split at h
  · rename_i v r
    obtain ⟨hi0, h⟩ := h
    intro p e R s m args below meth c cells slots A Qf C hr H locs sl hP hS hL
    exact lv_istore C.1 C.2.1 hd hL.has (by rw [← hL.2.2.1]; exact inB_lt _ _ hi0) rfl (fun sl' h' => k _ _ _ h p e R s m args below meth c cells slots A Qf C hr H locs sl' hP hS (hL.set (v := .int v) rfl rfl h'))
  · exact h.elim

theorem N_iinc (hb : M.2.1 = b) {i : Nat} {n : Int} {x : Int32} (hd : decode b pc = .ok (.iinc i n, 3)) (hx : Int32.ofInt n = x) (k : Ent G M d (pc + 3) Q K) : Ent G M d pc Q (o_iinc i x K) := by
  intro ls stk σ h
  subst hb
  subst hx
  unfold o_iinc at h
  split at h
  · rename_i v hg
    intro p e R s m args below meth c cells slots A Qf C hr H locs sl hP hS hL
    obtain ⟨kk, hkk⟩ := List.getElem?_of_mem (lpr_mem (ad := G.2.2.1) hg)
    exact lv_iinc (v := v + Int32.ofInt n) C.1 C.2.1 hd hL.has hkk rfl (by rw [← hL.2.2.1]; exact lg_lt _ _ _ hg) rfl (fun sl' h' => k _ _ _ h p e R s m args below meth c cells slots A Qf C hr H locs sl' hP hS (hL.set (v := .int (v + Int32.ofInt n)) rfl rfl h'))
  · exact h.elim

def o_iadd (K : Kt) (ls : Lc) (stk : List Value) (σ : Mem) : Prop := match stk with
  | .int y :: .int x :: r => K ls (.int (x + y) :: r) σ
  | _ => False
theorem N_iadd (hb : M.2.1 = b) (hd : decode b pc = .ok (.iadd, 1)) (k : Ent G M d (pc + 1) Q K) : Ent G M d pc Q (o_iadd K) := by
  intro ls stk σ h
  subst hb
  unfold o_iadd at h
  split at h
  · rename_i y x r
    intro p e R s m args below meth c cells slots A Qf C hr H locs sl hP hS hL
    exact lv_iadd C.1 C.2.1 hd  (k _ _ _ h p e R s m args below meth c cells slots A Qf C hr H locs sl hP hS hL)
  · exact h.elim

def o_isub (K : Kt) (ls : Lc) (stk : List Value) (σ : Mem) : Prop := match stk with
  | .int y :: .int x :: r => K ls (.int (x - y) :: r) σ
  | _ => False
theorem N_isub (hb : M.2.1 = b) (hd : decode b pc = .ok (.isub, 1)) (k : Ent G M d (pc + 1) Q K) : Ent G M d pc Q (o_isub K) := by
  intro ls stk σ h
  subst hb
  unfold o_isub at h
  split at h
  · rename_i y x r
    intro p e R s m args below meth c cells slots A Qf C hr H locs sl hP hS hL
    exact lv_isub C.1 C.2.1 hd  (k _ _ _ h p e R s m args below meth c cells slots A Qf C hr H locs sl hP hS hL)
  · exact h.elim

def o_imul (K : Kt) (ls : Lc) (stk : List Value) (σ : Mem) : Prop := match stk with
  | .int y :: .int x :: r => K ls (.int (x * y) :: r) σ
  | _ => False
theorem N_imul (hb : M.2.1 = b) (hd : decode b pc = .ok (.imul, 1)) (k : Ent G M d (pc + 1) Q K) : Ent G M d pc Q (o_imul K) := by
  intro ls stk σ h
  subst hb
  unfold o_imul at h
  split at h
  · rename_i y x r
    intro p e R s m args below meth c cells slots A Qf C hr H locs sl hP hS hL
    exact lv_imul C.1 C.2.1 hd  (k _ _ _ h p e R s m args below meth c cells slots A Qf C hr H locs sl hP hS hL)
  · exact h.elim

def o_iand (K : Kt) (ls : Lc) (stk : List Value) (σ : Mem) : Prop := match stk with
  | .int y :: .int x :: r => K ls (.int (x &&& y) :: r) σ
  | _ => False
theorem N_iand (hb : M.2.1 = b) (hd : decode b pc = .ok (.iand, 1)) (k : Ent G M d (pc + 1) Q K) : Ent G M d pc Q (o_iand K) := by
  intro ls stk σ h
  subst hb
  unfold o_iand at h
  split at h
  · rename_i y x r
    intro p e R s m args below meth c cells slots A Qf C hr H locs sl hP hS hL
    exact lv_iand C.1 C.2.1 hd  (k _ _ _ h p e R s m args below meth c cells slots A Qf C hr H locs sl hP hS hL)
  · exact h.elim

def o_ior (K : Kt) (ls : Lc) (stk : List Value) (σ : Mem) : Prop := match stk with
  | .int y :: .int x :: r => K ls (.int (x ||| y) :: r) σ
  | _ => False
theorem N_ior (hb : M.2.1 = b) (hd : decode b pc = .ok (.ior, 1)) (k : Ent G M d (pc + 1) Q K) : Ent G M d pc Q (o_ior K) := by
  intro ls stk σ h
  subst hb
  unfold o_ior at h
  split at h
  · rename_i y x r
    intro p e R s m args below meth c cells slots A Qf C hr H locs sl hP hS hL
    exact lv_ior C.1 C.2.1 hd  (k _ _ _ h p e R s m args below meth c cells slots A Qf C hr H locs sl hP hS hL)
  · exact h.elim

def o_ixor (K : Kt) (ls : Lc) (stk : List Value) (σ : Mem) : Prop := match stk with
  | .int y :: .int x :: r => K ls (.int (x ^^^ y) :: r) σ
  | _ => False
theorem N_ixor (hb : M.2.1 = b) (hd : decode b pc = .ok (.ixor, 1)) (k : Ent G M d (pc + 1) Q K) : Ent G M d pc Q (o_ixor K) := by
  intro ls stk σ h
  subst hb
  unfold o_ixor at h
  split at h
  · rename_i y x r
    intro p e R s m args below meth c cells slots A Qf C hr H locs sl hP hS hL
    exact lv_ixor C.1 C.2.1 hd  (k _ _ _ h p e R s m args below meth c cells slots A Qf C hr H locs sl hP hS hL)
  · exact h.elim

def o_ishl (K : Kt) (ls : Lc) (stk : List Value) (σ : Mem) : Prop := match stk with
  | .int y :: .int x :: r => K ls (.int (x <<< (y &&& 31)) :: r) σ
  | _ => False
theorem N_ishl (hb : M.2.1 = b) (hd : decode b pc = .ok (.ishl, 1)) (k : Ent G M d (pc + 1) Q K) : Ent G M d pc Q (o_ishl K) := by
  intro ls stk σ h
  subst hb
  unfold o_ishl at h
  split at h
  · rename_i y x r
    intro p e R s m args below meth c cells slots A Qf C hr H locs sl hP hS hL
    exact lv_ishl C.1 C.2.1 hd  (k _ _ _ h p e R s m args below meth c cells slots A Qf C hr H locs sl hP hS hL)
  · exact h.elim

def o_ishr (K : Kt) (ls : Lc) (stk : List Value) (σ : Mem) : Prop := match stk with
  | .int y :: .int x :: r => K ls (.int (x >>> (y &&& 31)) :: r) σ
  | _ => False
theorem N_ishr (hb : M.2.1 = b) (hd : decode b pc = .ok (.ishr, 1)) (k : Ent G M d (pc + 1) Q K) : Ent G M d pc Q (o_ishr K) := by
  intro ls stk σ h
  subst hb
  unfold o_ishr at h
  split at h
  · rename_i y x r
    intro p e R s m args below meth c cells slots A Qf C hr H locs sl hP hS hL
    exact lv_ishr C.1 C.2.1 hd  (k _ _ _ h p e R s m args below meth c cells slots A Qf C hr H locs sl hP hS hL)
  · exact h.elim

def o_idiv (K : Kt) (ls : Lc) (stk : List Value) (σ : Mem) : Prop := match stk with
  | .int y :: .int x :: r => ¬ y = 0 ∧ K ls (.int (x / y) :: r) σ
  | _ => False
theorem N_idiv (hb : M.2.1 = b) (hd : decode b pc = .ok (.idiv, 1)) (k : Ent G M d (pc + 1) Q K) : Ent G M d pc Q (o_idiv K) := by
  intro ls stk σ h
  subst hb
  unfold o_idiv at h
  split at h
  · rename_i y x r
    obtain ⟨hne, h⟩ := h
    intro p e R s m args below meth c cells slots A Qf C hr H locs sl hP hS hL
    exact lv_idiv C.1 C.2.1 hd hne (k _ _ _ h p e R s m args below meth c cells slots A Qf C hr H locs sl hP hS hL)
  · exact h.elim

def o_irem (K : Kt) (ls : Lc) (stk : List Value) (σ : Mem) : Prop := match stk with
  | .int y :: .int x :: r => ¬ y = 0 ∧ K ls (.int (x - x / y * y) :: r) σ
  | _ => False
theorem N_irem (hb : M.2.1 = b) (hd : decode b pc = .ok (.irem, 1)) (k : Ent G M d (pc + 1) Q K) : Ent G M d pc Q (o_irem K) := by
  intro ls stk σ h
  subst hb
  unfold o_irem at h
  split at h
  · rename_i y x r
    obtain ⟨hne, h⟩ := h
    intro p e R s m args below meth c cells slots A Qf C hr H locs sl hP hS hL
    exact lv_irem C.1 C.2.1 hd hne (k _ _ _ h p e R s m args below meth c cells slots A Qf C hr H locs sl hP hS hL)
  · exact h.elim

def o_iushr (K : Kt) (ls : Lc) (stk : List Value) (σ : Mem) : Prop := match stk with
  | .int y :: .int x :: r => K ls (.int ((x.toUInt32 >>> (y.toUInt32 &&& Int32.toUInt32 31)).toInt32) :: r) σ
  | _ => False
theorem N_iushr (hb : M.2.1 = b) (hd : decode b pc = .ok (.iushr, 1)) (k : Ent G M d (pc + 1) Q K) : Ent G M d pc Q (o_iushr K) := by
  intro ls stk σ h
  subst hb
  unfold o_iushr at h
  split at h
  · rename_i y x r
    intro p e R s m args below meth c cells slots A Qf C hr H locs sl hP hS hL
    exact lv_iushr C.1 C.2.1 hd rfl (k _ _ _ h p e R s m args below meth c cells slots A Qf C hr H locs sl hP hS hL)
  · exact h.elim

def o_ineg (K : Kt) (ls : Lc) (stk : List Value) (σ : Mem) : Prop := match stk with
  | .int x :: r => K ls (.int (-x) :: r) σ
  | _ => False
theorem N_ineg (hb : M.2.1 = b) (hd : decode b pc = .ok (.ineg, 1)) (k : Ent G M d (pc + 1) Q K) : Ent G M d pc Q (o_ineg K) := by
  intro ls stk σ h
  subst hb
  unfold o_ineg at h
  split at h
  · rename_i x r
    intro p e R s m args below meth c cells slots A Qf C hr H locs sl hP hS hL
    exact lv_ineg C.1 C.2.1 hd (k _ _ _ h p e R s m args below meth c cells slots A Qf C hr H locs sl hP hS hL)
  · exact h.elim
def o_dup (K : Kt) (ls : Lc) (stk : List Value) (σ : Mem) : Prop := match stk with
  | .int x :: r => K ls (.int x :: .int x :: r) σ
  | .ref x :: r => K ls (.ref x :: .ref x :: r) σ
  | _ => False
theorem N_dup (hb : M.2.1 = b) (hd : decode b pc = .ok (.dup, 1)) (k : Ent G M d (pc + 1) Q K) : Ent G M d pc Q (o_dup K) := by
  intro ls stk σ h
  subst hb
  unfold o_dup at h
  split at h
  · rename_i x r
    intro p e R s m args below meth c cells slots A Qf C hr H locs sl hP hS hL
    exact lv_dup C.1 C.2.1 hd rfl (k _ _ _ h p e R s m args below meth c cells slots A Qf C hr H locs sl hP hS hL)
  · rename_i x r
    intro p e R s m args below meth c cells slots A Qf C hr H locs sl hP hS hL
    exact lv_dup C.1 C.2.1 hd rfl (k _ _ _ h p e R s m args below meth c cells slots A Qf C hr H locs sl hP hS hL)
  · exact h.elim
def o_dup2 (K : Kt) (ls : Lc) (stk : List Value) (σ : Mem) : Prop := match stk with
  | .int x :: .ref y :: r => K ls (.int x :: .ref y :: .int x :: .ref y :: r) σ
  | _ => False
theorem N_dup2 (hb : M.2.1 = b) (hd : decode b pc = .ok (.dup2, 1)) (k : Ent G M d (pc + 1) Q K) : Ent G M d pc Q (o_dup2 K) := by
  intro ls stk σ h
  subst hb
  unfold o_dup2 at h
  split at h
  · rename_i x y r
    intro p e R s m args below meth c cells slots A Qf C hr H locs sl hP hS hL
    exact lv_dup2_11 C.1 C.2.1 hd rfl rfl (k _ _ _ h p e R s m args below meth c cells slots A Qf C hr H locs sl hP hS hL)
  · exact h.elim
def o_pop (K : Kt) (ls : Lc) (stk : List Value) (σ : Mem) : Prop := match stk with
  | .int _ :: r => K ls r σ
  | _ => False
theorem N_pop (hb : M.2.1 = b) (hd : decode b pc = .ok (.pop, 1)) (k : Ent G M d (pc + 1) Q K) : Ent G M d pc Q (o_pop K) := by
  intro ls stk σ h
  subst hb
  unfold o_pop at h
  split at h
  · rename_i x r
    intro p e R s m args below meth c cells slots A Qf C hr H locs sl hP hS hL
    exact lv_pop (va := .int x) C.1 C.2.1 hd rfl (k _ _ _ h p e R s m args below meth c cells slots A Qf C hr H locs sl hP hS hL)
  · exact h.elim
theorem N_goto (hb : M.2.1 = b) {off : Int} {tgt : Nat} (hd : decode b pc = .ok (.goto off, 3)) (ht : (pc : Int) + off = (tgt : Int)) (k : Ent G M d tgt Q K) : Ent G M d pc Q K := by
  intro ls stk σ h
  subst hb
  intro p e R s m args below meth c cells slots A Qf C hr H locs sl hP hS hL
  exact lv_goto C.1 C.2.1 hd ht (k _ _ _ h p e R s m args below meth c cells slots A Qf C hr H locs sl hP hS hL)

def o_if_eq (K K2 : Kt) (ls : Lc) (stk : List Value) (σ : Mem) : Prop := match stk with
  | .int x :: r => (x = 0 → K ls r σ) ∧ (¬ x = 0 → K2 ls r σ)
  | _ => False
theorem N_if_eq (hb : M.2.1 = b) {off : Int} {tgt : Nat} (hd : decode b pc = .ok (.ifCond .eq off, 3)) (ht : (pc : Int) + off = (tgt : Int)) (k : Ent G M d tgt Q K) (k2 : Ent G M d (pc + 3) Q K2) : Ent G M d pc Q (o_if_eq K K2) := by
  intro ls stk σ h
  subst hb
  unfold o_if_eq at h
  split at h
  · rename_i x r
    intro p e R s m args below meth c cells slots A Qf C hr H locs sl hP hS hL
    exact lv_if_eq C.1 C.2.1 hd ht (fun q => k _ _ _ (h.1 q) p e R s m args below meth c cells slots A Qf C hr H locs sl hP hS hL) (fun q => k2 _ _ _ (h.2 q) p e R s m args below meth c cells slots A Qf C hr H locs sl hP hS hL)
  · exact h.elim
def o_icmp_eq (K K2 : Kt) (ls : Lc) (stk : List Value) (σ : Mem) : Prop := match stk with
  | .int y :: .int x :: r => (x = y → K ls r σ) ∧ (¬ x = y → K2 ls r σ)
  | _ => False
theorem N_icmp_eq (hb : M.2.1 = b) {off : Int} {tgt : Nat} (hd : decode b pc = .ok (.if_icmp .eq off, 3)) (ht : (pc : Int) + off = (tgt : Int)) (k : Ent G M d tgt Q K) (k2 : Ent G M d (pc + 3) Q K2) : Ent G M d pc Q (o_icmp_eq K K2) := by
  intro ls stk σ h
  subst hb
  unfold o_icmp_eq at h
  split at h
  · rename_i y x r
    intro p e R s m args below meth c cells slots A Qf C hr H locs sl hP hS hL
    exact lv_icmp_eq C.1 C.2.1 hd ht (fun q => k _ _ _ (h.1 q) p e R s m args below meth c cells slots A Qf C hr H locs sl hP hS hL) (fun q => k2 _ _ _ (h.2 q) p e R s m args below meth c cells slots A Qf C hr H locs sl hP hS hL)
  · exact h.elim

def o_if_ne (K K2 : Kt) (ls : Lc) (stk : List Value) (σ : Mem) : Prop := match stk with
  | .int x :: r => (¬ x = 0 → K ls r σ) ∧ (x = 0 → K2 ls r σ)
  | _ => False
theorem N_if_ne (hb : M.2.1 = b) {off : Int} {tgt : Nat} (hd : decode b pc = .ok (.ifCond .ne off, 3)) (ht : (pc : Int) + off = (tgt : Int)) (k : Ent G M d tgt Q K) (k2 : Ent G M d (pc + 3) Q K2) : Ent G M d pc Q (o_if_ne K K2) := by
  intro ls stk σ h
  subst hb
  unfold o_if_ne at h
  split at h
  · rename_i x r
    intro p e R s m args below meth c cells slots A Qf C hr H locs sl hP hS hL
    exact lv_if_ne C.1 C.2.1 hd ht (fun q => k _ _ _ (h.1 q) p e R s m args below meth c cells slots A Qf C hr H locs sl hP hS hL) (fun q => k2 _ _ _ (h.2 q) p e R s m args below meth c cells slots A Qf C hr H locs sl hP hS hL)
  · exact h.elim
def o_icmp_ne (K K2 : Kt) (ls : Lc) (stk : List Value) (σ : Mem) : Prop := match stk with
  | .int y :: .int x :: r => (¬ x = y → K ls r σ) ∧ (x = y → K2 ls r σ)
  | _ => False
theorem N_icmp_ne (hb : M.2.1 = b) {off : Int} {tgt : Nat} (hd : decode b pc = .ok (.if_icmp .ne off, 3)) (ht : (pc : Int) + off = (tgt : Int)) (k : Ent G M d tgt Q K) (k2 : Ent G M d (pc + 3) Q K2) : Ent G M d pc Q (o_icmp_ne K K2) := by
  intro ls stk σ h
  subst hb
  unfold o_icmp_ne at h
  split at h
  · rename_i y x r
    intro p e R s m args below meth c cells slots A Qf C hr H locs sl hP hS hL
    exact lv_icmp_ne C.1 C.2.1 hd ht (fun q => k _ _ _ (h.1 q) p e R s m args below meth c cells slots A Qf C hr H locs sl hP hS hL) (fun q => k2 _ _ _ (h.2 q) p e R s m args below meth c cells slots A Qf C hr H locs sl hP hS hL)
  · exact h.elim

def o_if_lt (K K2 : Kt) (ls : Lc) (stk : List Value) (σ : Mem) : Prop := match stk with
  | .int x :: r => (x < 0 → K ls r σ) ∧ (¬ x < 0 → K2 ls r σ)
  | _ => False
theorem N_if_lt (hb : M.2.1 = b) {off : Int} {tgt : Nat} (hd : decode b pc = .ok (.ifCond .lt off, 3)) (ht : (pc : Int) + off = (tgt : Int)) (k : Ent G M d tgt Q K) (k2 : Ent G M d (pc + 3) Q K2) : Ent G M d pc Q (o_if_lt K K2) := by
  intro ls stk σ h
  subst hb
  unfold o_if_lt at h
  split at h
  · rename_i x r
    intro p e R s m args below meth c cells slots A Qf C hr H locs sl hP hS hL
    exact lv_if_lt C.1 C.2.1 hd ht (fun q => k _ _ _ (h.1 q) p e R s m args below meth c cells slots A Qf C hr H locs sl hP hS hL) (fun q => k2 _ _ _ (h.2 q) p e R s m args below meth c cells slots A Qf C hr H locs sl hP hS hL)
  · exact h.elim
def o_icmp_lt (K K2 : Kt) (ls : Lc) (stk : List Value) (σ : Mem) : Prop := match stk with
  | .int y :: .int x :: r => (x < y → K ls r σ) ∧ (¬ x < y → K2 ls r σ)
  | _ => False
theorem N_icmp_lt (hb : M.2.1 = b) {off : Int} {tgt : Nat} (hd : decode b pc = .ok (.if_icmp .lt off, 3)) (ht : (pc : Int) + off = (tgt : Int)) (k : Ent G M d tgt Q K) (k2 : Ent G M d (pc + 3) Q K2) : Ent G M d pc Q (o_icmp_lt K K2) := by
  intro ls stk σ h
  subst hb
  unfold o_icmp_lt at h
  split at h
  · rename_i y x r
    intro p e R s m args below meth c cells slots A Qf C hr H locs sl hP hS hL
    exact lv_icmp_lt C.1 C.2.1 hd ht (fun q => k _ _ _ (h.1 q) p e R s m args below meth c cells slots A Qf C hr H locs sl hP hS hL) (fun q => k2 _ _ _ (h.2 q) p e R s m args below meth c cells slots A Qf C hr H locs sl hP hS hL)
  · exact h.elim

def o_if_ge (K K2 : Kt) (ls : Lc) (stk : List Value) (σ : Mem) : Prop := match stk with
  | .int x :: r => (0 ≤ x → K ls r σ) ∧ (¬ 0 ≤ x → K2 ls r σ)
  | _ => False
theorem N_if_ge (hb : M.2.1 = b) {off : Int} {tgt : Nat} (hd : decode b pc = .ok (.ifCond .ge off, 3)) (ht : (pc : Int) + off = (tgt : Int)) (k : Ent G M d tgt Q K) (k2 : Ent G M d (pc + 3) Q K2) : Ent G M d pc Q (o_if_ge K K2) := by
  intro ls stk σ h
  subst hb
  unfold o_if_ge at h
  split at h
  · rename_i x r
    intro p e R s m args below meth c cells slots A Qf C hr H locs sl hP hS hL
    exact lv_if_ge C.1 C.2.1 hd ht (fun q => k _ _ _ (h.1 q) p e R s m args below meth c cells slots A Qf C hr H locs sl hP hS hL) (fun q => k2 _ _ _ (h.2 q) p e R s m args below meth c cells slots A Qf C hr H locs sl hP hS hL)
  · exact h.elim
def o_icmp_ge (K K2 : Kt) (ls : Lc) (stk : List Value) (σ : Mem) : Prop := match stk with
  | .int y :: .int x :: r => (y ≤ x → K ls r σ) ∧ (¬ y ≤ x → K2 ls r σ)
  | _ => False
theorem N_icmp_ge (hb : M.2.1 = b) {off : Int} {tgt : Nat} (hd : decode b pc = .ok (.if_icmp .ge off, 3)) (ht : (pc : Int) + off = (tgt : Int)) (k : Ent G M d tgt Q K) (k2 : Ent G M d (pc + 3) Q K2) : Ent G M d pc Q (o_icmp_ge K K2) := by
  intro ls stk σ h
  subst hb
  unfold o_icmp_ge at h
  split at h
  · rename_i y x r
    intro p e R s m args below meth c cells slots A Qf C hr H locs sl hP hS hL
    exact lv_icmp_ge C.1 C.2.1 hd ht (fun q => k _ _ _ (h.1 q) p e R s m args below meth c cells slots A Qf C hr H locs sl hP hS hL) (fun q => k2 _ _ _ (h.2 q) p e R s m args below meth c cells slots A Qf C hr H locs sl hP hS hL)
  · exact h.elim

def o_if_gt (K K2 : Kt) (ls : Lc) (stk : List Value) (σ : Mem) : Prop := match stk with
  | .int x :: r => (0 < x → K ls r σ) ∧ (¬ 0 < x → K2 ls r σ)
  | _ => False
theorem N_if_gt (hb : M.2.1 = b) {off : Int} {tgt : Nat} (hd : decode b pc = .ok (.ifCond .gt off, 3)) (ht : (pc : Int) + off = (tgt : Int)) (k : Ent G M d tgt Q K) (k2 : Ent G M d (pc + 3) Q K2) : Ent G M d pc Q (o_if_gt K K2) := by
  intro ls stk σ h
  subst hb
  unfold o_if_gt at h
  split at h
  · rename_i x r
    intro p e R s m args below meth c cells slots A Qf C hr H locs sl hP hS hL
    exact lv_if_gt C.1 C.2.1 hd ht (fun q => k _ _ _ (h.1 q) p e R s m args below meth c cells slots A Qf C hr H locs sl hP hS hL) (fun q => k2 _ _ _ (h.2 q) p e R s m args below meth c cells slots A Qf C hr H locs sl hP hS hL)
  · exact h.elim
def o_icmp_gt (K K2 : Kt) (ls : Lc) (stk : List Value) (σ : Mem) : Prop := match stk with
  | .int y :: .int x :: r => (y < x → K ls r σ) ∧ (¬ y < x → K2 ls r σ)
  | _ => False
theorem N_icmp_gt (hb : M.2.1 = b) {off : Int} {tgt : Nat} (hd : decode b pc = .ok (.if_icmp .gt off, 3)) (ht : (pc : Int) + off = (tgt : Int)) (k : Ent G M d tgt Q K) (k2 : Ent G M d (pc + 3) Q K2) : Ent G M d pc Q (o_icmp_gt K K2) := by
  intro ls stk σ h
  subst hb
  unfold o_icmp_gt at h
  split at h
  · rename_i y x r
    intro p e R s m args below meth c cells slots A Qf C hr H locs sl hP hS hL
    exact lv_icmp_gt C.1 C.2.1 hd ht (fun q => k _ _ _ (h.1 q) p e R s m args below meth c cells slots A Qf C hr H locs sl hP hS hL) (fun q => k2 _ _ _ (h.2 q) p e R s m args below meth c cells slots A Qf C hr H locs sl hP hS hL)
  · exact h.elim

def o_if_le (K K2 : Kt) (ls : Lc) (stk : List Value) (σ : Mem) : Prop := match stk with
  | .int x :: r => (x ≤ 0 → K ls r σ) ∧ (¬ x ≤ 0 → K2 ls r σ)
  | _ => False
theorem N_if_le (hb : M.2.1 = b) {off : Int} {tgt : Nat} (hd : decode b pc = .ok (.ifCond .le off, 3)) (ht : (pc : Int) + off = (tgt : Int)) (k : Ent G M d tgt Q K) (k2 : Ent G M d (pc + 3) Q K2) : Ent G M d pc Q (o_if_le K K2) := by
  intro ls stk σ h
  subst hb
  unfold o_if_le at h
  split at h
  · rename_i x r
    intro p e R s m args below meth c cells slots A Qf C hr H locs sl hP hS hL
    exact lv_if_le C.1 C.2.1 hd ht (fun q => k _ _ _ (h.1 q) p e R s m args below meth c cells slots A Qf C hr H locs sl hP hS hL) (fun q => k2 _ _ _ (h.2 q) p e R s m args below meth c cells slots A Qf C hr H locs sl hP hS hL)
  · exact h.elim
def o_icmp_le (K K2 : Kt) (ls : Lc) (stk : List Value) (σ : Mem) : Prop := match stk with
  | .int y :: .int x :: r => (x ≤ y → K ls r σ) ∧ (¬ x ≤ y → K2 ls r σ)
  | _ => False
theorem N_icmp_le (hb : M.2.1 = b) {off : Int} {tgt : Nat} (hd : decode b pc = .ok (.if_icmp .le off, 3)) (ht : (pc : Int) + off = (tgt : Int)) (k : Ent G M d tgt Q K) (k2 : Ent G M d (pc + 3) Q K2) : Ent G M d pc Q (o_icmp_le K K2) := by
  intro ls stk σ h
  subst hb
  unfold o_icmp_le at h
  split at h
  · rename_i y x r
    intro p e R s m args below meth c cells slots A Qf C hr H locs sl hP hS hL
    exact lv_icmp_le C.1 C.2.1 hd ht (fun q => k _ _ _ (h.1 q) p e R s m args below meth c cells slots A Qf C hr H locs sl hP hS hL) (fun q => k2 _ _ _ (h.2 q) p e R s m args below meth c cells slots A Qf C hr H locs sl hP hS hL)
  · exact h.elim

/-- ifnonnull -/
def o_nonnull (K K2 : Kt) (ls : Lc) (stk : List Value) (σ : Mem) : Prop := match stk with
  | .ref _ :: r => K ls r σ
  | _ => False
theorem N_ifnonnull (hb : M.2.1 = b) {off : Int} {tgt : Nat} (hd : decode b pc = .ok (.ifnonnull off, 3)) (ht : (pc : Int) + off = (tgt : Int)) (k : Ent G M d tgt Q K) : Ent G M d pc Q (o_nonnull K K2) := by
  intro ls stk σ h
  subst hb
  unfold o_nonnull at h
  split at h
  · rename_i x r
    intro p e R s m args below meth c cells slots A Qf C hr H locs sl hP hS hL
    exact lv_ifnonnull C.1 C.2.1 hd ht (k _ _ _ h p e R s m args below meth c cells slots A Qf C hr H locs sl hP hS hL)
  · exact h.elim
/-- tableswitch: the default, the others by their places -/
def tsw (Ks : List Kt) (Kd : Kt) (i : Nat) : Kt := match Ks, i with
  | [], _ => Kd
  | k :: _, 0 => k
  | _ :: l, n + 1 => tsw l Kd n
def o_tsw (lo : Int) (Ks : List Kt) (Kd : Kt) (ls : Lc) (stk : List Value) (σ : Mem) : Prop := match stk with
  | .int x :: r => (x.toInt < lo ∨ lo + Ks.length ≤ x.toInt → Kd ls r σ) ∧ (∀ i, i < Ks.length → x.toInt = lo + i → tsw Ks Kd i ls r σ)
  | _ => False
theorem N_tsw (hb : M.2.1 = b) {dflt lo hi : Int} {offs : Array Int} {len : Nat} {tgt : Nat} {Ks : List Kt} (hd : decode b pc = .ok (.tableswitch dflt lo hi offs, len)) (ht : (pc : Int) + dflt = (tgt : Int)) (hh : hi = lo + Ks.length - 1) (k : Ent G M d tgt Q K)
    (ks : ∀ i, i < Ks.length → ∃ (off : Int) (t : Nat), offs[i]? = some off ∧ (pc : Int) + off = (t : Int) ∧ Ent G M d t Q (tsw Ks K i)) : Ent G M d pc Q (o_tsw lo Ks K) := by
  intro ls stk σ h
  subst hb
  unfold o_tsw at h
  split at h
  · rename_i x r
    intro p e R s m args below meth c cells slots A Qf C hr H locs sl hP hS hL
    by_cases q1 : x.toInt < lo ∨ hi < x.toInt
    · exact lv_tableOut C.1 C.2.1 hd q1 ht (k _ _ _ (h.1 (by omega)) p e R s m args below meth c cells slots A Qf C hr H locs sl hP hS hL)
    · have q2 : (x.toInt - lo).toNat < Ks.length := by omega
      obtain ⟨off, t, e1, e2, e3⟩ := ks _ q2
      exact lv_tableIn C.1 C.2.1 hd (by omega) (by omega) e1 e2 (e3 _ _ _ (h.2 _ q2 (by omega)) p e R s m args below meth c cells slots A Qf C hr H locs sl hP hS hL)
  · exact h.elim
/-- lookupswitch of two keys -/
def o_lsw2 (a1 a2 : Int32) (K1 K2 K : Kt) (ls : Lc) (stk : List Value) (σ : Mem) : Prop := match stk with
  | .int x :: r => (x = a1 → K1 ls r σ) ∧ (x = a2 → K2 ls r σ) ∧ (¬ x = a1 → ¬ x = a2 → K ls r σ)
  | _ => False
theorem N_lsw2 (hb : M.2.1 = b) {dflt i1 i2 o1 o2 : Int} {len t0 t1 t2 : Nat} {a1 a2 : Int32} {K1 : Kt} (hd : decode b pc = .ok (.lookupswitch dflt #[(i1, o1), (i2, o2)], len)) (ha1 : a1.toInt = i1) (ha2 : a2.toInt = i2) (hlt : i1 < i2) (h0 : (pc : Int) + dflt = (t0 : Int)) (h1 : (pc : Int) + o1 = (t1 : Int)) (h2 : (pc : Int) + o2 = (t2 : Int)) (k1 : Ent G M d t1 Q K1) (k2 : Ent G M d t2 Q K2) (k : Ent G M d t0 Q K) : Ent G M d pc Q (o_lsw2 a1 a2 K1 K2 K) := by
  intro ls stk σ h
  subst hb
  subst ha1
  subst ha2
  unfold o_lsw2 at h
  split at h
  · rename_i x r
    intro p e R s m args below meth c cells slots A Qf C hr H locs sl hP hS hL
    by_cases q1 : x = a1
    · exact lv_lookup C.1 C.2.1 hd (by simp [hlt]) (by subst q1; rw [Op.lookupswitch.offset_cons, if_pos rfl]) h1 (k1 _ _ _ (h.1 q1) p e R s m args below meth c cells slots A Qf C hr H locs sl hP hS hL)
    · by_cases q2 : x = a2
      · exact lv_lookup C.1 C.2.1 hd (by simp [hlt]) (by rw [lv_osw q1 rfl]; subst q2; rw [Op.lookupswitch.offset_cons, if_pos rfl]) h2 (k2 _ _ _ (h.2.1 q2) p e R s m args below meth c cells slots A Qf C hr H locs sl hP hS hL)
      · exact lv_lookup C.1 C.2.1 hd (by simp [hlt]) (by rw [lv_osw q1 rfl, lv_osw q2 rfl]; rfl) h0 (k _ _ _ (h.2.2 q1 q2) p e R s m args below meth c cells slots A Qf C hr H locs sl hP hS hL)
  · exact h.elim

/-- fields -/
def FL (own : String) (idx : Nat) (C : String) (T : u_T) (N ci k : Nat) : Prop := vwCl[ci]? = some (C, T, N) ∧ k < N ∧ Cond.fieldLink own idx (T k).1 (T k).2.1 (T k).2.2.1 ∈ gtbl ∧ (∀ w ∈ u_ws C T N, w ∈ gtbl)
def o_getf (ci k : Nat) (K : Kt) (ls : Lc) (stk : List Value) (σ : Mem) : Prop := match stk with
  | .ref a :: r => (sh a).1 = ci + 4 ∧ k < (sh a).2.2.length ∧ K ls (fval ((sh a).2.2.getD k 0) (σ a k) :: r) σ
  | _ => False
theorem N_getf (hb : M.2.1 = b) {own C : String} {T : u_T} {N ci k idx : Nat} (ho : M.1.cls = own) (hw : FL own idx C T N ci k) (hd : decode b pc = .ok (.getfield idx, 3)) (kk : Ent G M d (pc + 3) Q K) : Ent G M d pc Q (o_getf ci k K) := by
  intro ls stk σ h
  subst hb
  subst ho
  unfold o_getf at h
  split at h
  · rename_i a r
    obtain ⟨h1, h2, h⟩ := h
    obtain ⟨w1, w2, w3, w4⟩ := hw
    have hci : ci < 6 := (List.getElem?_eq_some_iff.mp w1).1
    have ha : a < 67 := sh_lt h1 (by omega)
    intro p e R s m args below meth c cells slots A Qf C hr H locs sl hP hS hL
    refine va_get C.1 C.2.1 C.2.2.2.2.1 w4 C.2.2.2.1 C.2.2.2.2.2.2.1 hP a (by rw [ws_at G σ ha, cell_o G h1]) w1 k w2 (C.2.2.2.2.1 _ w3) (fun _ h => h) ?_ hd (kk _ _ _ h p e R s m args below meth c cells slots A Qf C hr H locs sl hP hS hL)
    rw [List.getElem?_mapIdx, List.getElem?_eq_getElem h2, Option.map_some, List.getD_eq_getElem?_getD, List.getElem?_eq_getElem h2]
    rfl
  · exact h.elim
theorem mapIdx_set (ad : Nat → Nat) (tg : List Nat) (row : Nat → Int32) (k : Nat) (x : Int32) (hk : k < tg.length) :
    tg.mapIdx (fun j g => cv ad (fval g (upd row k x j))) = (tg.mapIdx (fun j g => cv ad (fval g (row j)))).set k (cv ad (fval (tg.getD k 0) x)) := by
  apply List.ext_getElem?
  intro j
  rw [List.getElem?_set]
  by_cases h : k = j
  · subst h
    rw [if_pos rfl, if_pos (by simpa using hk), List.getElem?_mapIdx, List.getElem?_eq_getElem hk, List.getD_eq_getElem?_getD, List.getElem?_eq_getElem hk]
    simp [upd]
  · rw [if_neg h, List.getElem?_mapIdx, List.getElem?_mapIdx]
    have h' : ¬ j = k := fun q => h q.symm
    simp [upd, h']
def wr (σ : Mem) (a i : Nat) (x : Int32) : Mem := va_up σ a (upd (σ a) i x)
/-- an int field -/
def o_putf (ci k : Nat) (K : Kt) (ls : Lc) (stk : List Value) (σ : Mem) : Prop := match stk with
  | .int x :: .ref a :: r => (sh a).1 = ci + 4 ∧ k < (sh a).2.2.length ∧ (sh a).2.2.getD k 0 = 0 ∧ K ls r (wr σ a k x)
  | _ => False
theorem N_putf (hb : M.2.1 = b) {own C : String} {T : u_T} {N ci k idx : Nat} (ho : M.1.cls = own) (hw : FL own idx C T N ci k) (ty0 : Nat → FieldType) (hty : ∀ k, k < N → parseFieldDescriptor (T k).2.2.1 = some (ty0 k)) (hnm : ∀ a, a < N → ∀ b, b < N → a ≠ b → (T a).2.1 ≠ (T b).2.1) (hfin : (T k).2.2.2 = false) (hint : ty0 k = .int) (hd : decode b pc = .ok (.putfield idx, 3)) (kk : Ent G M d (pc + 3) Q K) : Ent G M d pc Q (o_putf ci k K) := by
  intro ls stk σ h
  subst hb
  subst ho
  unfold o_putf at h
  split at h
  · rename_i x a r
    obtain ⟨h1, h2, h3, h⟩ := h
    obtain ⟨w1, w2, w3, w4⟩ := hw
    have hci : ci < 6 := (List.getElem?_eq_some_iff.mp w1).1
    have ha : a < 67 := sh_lt h1 (by omega)
    intro p e R s m args below meth c cells slots A Qf C hr H locs sl hP hS hL
    refine va_put (v := .int x) C.1 C.2.1 C.2.2.2.2.1 w4 ty0 hty hnm C.2.2.2.1 C.2.2.2.2.2.2.1 hP (ws_D C.2.2.2.2.2.2.2.2.1 C.2.2.2.2.2.2.2.2.2.1 σ) hS a (by rw [ws_at G σ ha, cell_o G h1]) w1 k w2 (C.2.2.2.2.1 _ w3) (fun _ h => h) hfin (by rw [hty k w2, hint]) rfl rfl (by simpa using h2) hd (fun H1 locs1 hP1 _ hS1 => ?_)
    rw [ws_set (row := upd (σ a) k x) ha (by rw [cell_o G h1, mapIdx_set _ _ _ _ _ h2, h3]; rfl)] at hP1
    exact kk _ _ _ h p e R s m args below meth c cells slots A Qf C hr H1 locs1 sl hP1 hS1 hL
  · exact h.elim
/-- a field that holds a reference that changes -/
def o_putr (ci k : Nat) (K : Kt) (ls : Lc) (stk : List Value) (σ : Mem) : Prop := match stk with
  | .ref x :: .ref a :: r => (sh a).1 = ci + 4 ∧ k < (sh a).2.2.length ∧ (sh a).2.2.getD k 0 = 1 ∧ 0 < x ∧ x < 67 ∧ K ls r (wr σ a k (nI x))
  | _ => False
theorem N_putr (hb : M.2.1 = b) {own C : String} {T : u_T} {N ci k idx : Nat} (ho : M.1.cls = own) (hw : FL own idx C T N ci k) (ty0 : Nat → FieldType) (hty : ∀ k, k < N → parseFieldDescriptor (T k).2.2.1 = some (ty0 k)) (hnm : ∀ a, a < N → ∀ b, b < N → a ≠ b → (T a).2.1 ≠ (T b).2.1) (hfin : (T k).2.2.2 = false) {cn : String} (hobj : ty0 k = .object cn) (hd : decode b pc = .ok (.putfield idx, 3)) (kk : Ent G M d (pc + 3) Q K) : Ent G M d pc Q (o_putr ci k K) := by
  intro ls stk σ h
  subst hb
  subst ho
  unfold o_putr at h
  split at h
  · rename_i x a r
    obtain ⟨h1, h2, h3, hx0, hx1, h⟩ := h
    have hx2 : @LT.lt Nat _ x 2147483648 := Nat.lt_trans hx1 (by decide)
    obtain ⟨w1, w2, w3, w4⟩ := hw
    have hci : ci < 6 := (List.getElem?_eq_some_iff.mp w1).1
    have ha : a < 67 := sh_lt h1 (by omega)
    intro p e R s m args below meth c cells slots A Qf C hr H locs sl hP hS hL
    refine va_put (v := .ref (G.2.2.1 x)) C.1 C.2.1 C.2.2.2.2.1 w4 ty0 hty hnm C.2.2.2.1 C.2.2.2.2.2.2.1 hP (ws_D C.2.2.2.2.2.2.2.2.1 C.2.2.2.2.2.2.2.2.2.1 σ) hS a (by rw [ws_at G σ ha, cell_o G h1]) w1 k w2 (C.2.2.2.2.1 _ w3) (fun _ h => h) hfin (by rw [hty k w2, hobj]) rfl rfl (by simpa using h2) hd (fun H1 locs1 hP1 _ hS1 => ?_)
    rw [ws_set (row := upd (σ a) k (nI x)) ha (by rw [cell_o G h1, mapIdx_set _ _ _ _ _ h2, h3]; simp only [fval]; rw [if_neg (nI_ne0 hx0 hx2), nI_clamp hx2]; rfl)] at hP1
    exact kk _ _ _ h p e R s m args below meth c cells slots A Qf C hr H1 locs1 sl hP1 hS1 hL
  · exact h.elim

def o_iaload (K : Kt) (ls : Lc) (stk : List Value) (σ : Mem) : Prop := match stk with
  | .int i :: .ref a :: r => (sh a).1 = 0 ∧ vp_in i (sh a).2.1 ∧ K ls (.int (σ a i.toNatClampNeg) :: r) σ
  | _ => False
theorem N_iaload (hb : M.2.1 = b) (hd : decode b pc = .ok (.iaload, 1)) (kk : Ent G M d (pc + 1) Q K) : Ent G M d pc Q (o_iaload K) := by
  intro ls stk σ h
  subst hb
  unfold o_iaload at h
  split at h
  · rename_i i a r
    obtain ⟨h1, h2, h⟩ := h
    have ha : a < 67 := sh_lt h1 (by omega)
    intro p e R s m args below meth c cells slots A Qf C hr H locs sl hP hS hL
    exact va_iald C.1 C.2.1 C.2.2.2.2.2.2.1 hP a 0 (by rw [ws_at G σ ha, cell_i G h1]) rfl h2 hd (kk _ _ _ h p e R s m args below meth c cells slots A Qf C hr H locs sl hP hS hL)
  · exact h.elim
def o_iastore (K : Kt) (ls : Lc) (stk : List Value) (σ : Mem) : Prop := match stk with
  | .int x :: .int i :: .ref a :: r => (sh a).1 = 0 ∧ vp_in i (sh a).2.1 ∧ K ls r (wr σ a i.toNatClampNeg x)
  | _ => False
theorem N_iastore (hb : M.2.1 = b) (hd : decode b pc = .ok (.iastore, 1)) (kk : Ent G M d (pc + 1) Q K) : Ent G M d pc Q (o_iastore K) := by
  intro ls stk σ h
  subst hb
  unfold o_iastore at h
  split at h
  · rename_i x i a r
    obtain ⟨h1, h2, h⟩ := h
    have ha : a < 67 := sh_lt h1 (by omega)
    intro p e R s m args below meth c cells slots A Qf C hr H locs sl hP hS hL
    refine va_iast C.1 C.2.1 C.2.2.2.2.2.2.1 hP (ws_D C.2.2.2.2.2.2.2.2.1 C.2.2.2.2.2.2.2.2.2.1 σ) hS a 0 (by rw [ws_at G σ ha, cell_i G h1]) rfl h2 hd (fun H1 locs1 hP1 _ hS1 => ?_)
    rw [ws_set (row := upd (σ a) i.toNatClampNeg x) ha (cell_i G h1 _)] at hP1
    exact kk _ _ _ h p e R s m args below meth c cells slots A Qf C hr H1 locs1 sl hP1 hS1 hL
  · exact h.elim

def o_baload (K : Kt) (ls : Lc) (stk : List Value) (σ : Mem) : Prop := match stk with
  | .int i :: .ref a :: r => (sh a).1 = 1 ∧ vp_in i (sh a).2.1 ∧ K ls (.int (σ a i.toNatClampNeg) :: r) σ
  | _ => False
theorem N_baload (hb : M.2.1 = b) (hd : decode b pc = .ok (.baload, 1)) (kk : Ent G M d (pc + 1) Q K) : Ent G M d pc Q (o_baload K) := by
  intro ls stk σ h
  subst hb
  unfold o_baload at h
  split at h
  · rename_i i a r
    obtain ⟨h1, h2, h⟩ := h
    have ha : a < 67 := sh_lt h1 (by omega)
    intro p e R s m args below meth c cells slots A Qf C hr H locs sl hP hS hL
    exact va_zald C.1 C.2.1 C.2.2.2.2.2.2.1 hP a 1 (by rw [ws_at G σ ha, cell_z G h1]) rfl h2 hd (kk _ _ _ h p e R s m args below meth c cells slots A Qf C hr H locs sl hP hS hL)
  · exact h.elim
def o_bastore (K : Kt) (ls : Lc) (stk : List Value) (σ : Mem) : Prop := match stk with
  | .int x :: .int i :: .ref a :: r => (sh a).1 = 1 ∧ vp_in i (sh a).2.1 ∧ K ls r (wr σ a i.toNatClampNeg (vp_nar .boolean x))
  | _ => False
theorem N_bastore (hb : M.2.1 = b) (hd : decode b pc = .ok (.bastore, 1)) (kk : Ent G M d (pc + 1) Q K) : Ent G M d pc Q (o_bastore K) := by
  intro ls stk σ h
  subst hb
  unfold o_bastore at h
  split at h
  · rename_i x i a r
    obtain ⟨h1, h2, h⟩ := h
    have ha : a < 67 := sh_lt h1 (by omega)
    intro p e R s m args below meth c cells slots A Qf C hr H locs sl hP hS hL
    refine va_zast C.1 C.2.1 C.2.2.2.2.2.2.1 hP (ws_D C.2.2.2.2.2.2.2.2.1 C.2.2.2.2.2.2.2.2.2.1 σ) hS a 1 (by rw [ws_at G σ ha, cell_z G h1]) rfl h2 hd (fun H1 locs1 hP1 _ hS1 => ?_)
    rw [ws_set (row := upd (σ a) i.toNatClampNeg (vp_nar .boolean x)) ha (cell_z G h1 _)] at hP1
    exact kk _ _ _ h p e R s m args below meth c cells slots A Qf C hr H1 locs1 sl hP1 hS1 hL
  · exact h.elim

def o_alen (K : Kt) (ls : Lc) (stk : List Value) (σ : Mem) : Prop := match stk with
  | .ref a :: r => (sh a).1 = 0 ∧ K ls (.int (nI (sh a).2.1) :: r) σ
  | _ => False
theorem N_alen (hb : M.2.1 = b) (hd : decode b pc = .ok (.arraylength, 1)) (kk : Ent G M d (pc + 1) Q K) : Ent G M d pc Q (o_alen K) := by
  intro ls stk σ h
  subst hb
  unfold o_alen at h
  split at h
  · rename_i a r
    obtain ⟨h1, h⟩ := h
    have ha : a < 67 := sh_lt h1 (by omega)
    intro p e R s m args below meth c cells slots A Qf C hr H locs sl hP hS hL
    exact va_alen (x := ((sh a).2.1, .inl (σ a))) C.1 C.2.1 C.2.2.2.2.2.2.1 hP a 0 (by rw [ws_at G σ ha, cell_i G h1]) rfl rfl hd (kk _ _ _ h p e R s m args below meth c cells slots A Qf C hr H locs sl hP hS hL)
  · exact h.elim
/-- a row of references -/
def o_aaload (K : Kt) (ls : Lc) (stk : List Value) (σ : Mem) : Prop := match stk with
  | .int i :: .ref a :: r => ((sh a).1 = 2 ∨ (sh a).1 = 3) ∧ vp_in i (sh a).2.1 ∧ ∃ x, (sh a).2.2[i.toNatClampNeg]? = some x ∧ K ls (.ref x :: r) σ
  | _ => False
theorem N_aaload (hb : M.2.1 = b) (hd : decode b pc = .ok (.aaload, 1)) (kk : Ent G M d (pc + 1) Q K) : Ent G M d pc Q (o_aaload K) := by
  intro ls stk σ h
  subst hb
  unfold o_aaload at h
  split at h
  · rename_i i a r
    obtain ⟨h1, h2, x, h3, h⟩ := h
    intro p e R s m args below meth c cells slots A Qf C hr H locs sl hP hS hL
    have hw := kk _ _ _ h p e R s m args below meth c cells slots A Qf C hr H locs sl hP hS hL
    rcases h1 with h1 | h1
    · have ha : a < 67 := sh_lt h1 (by omega)
      refine va_aldq C.1 C.2.1 C.2.2.2.2.2.2.1 hP a 2 (by rw [ws_at G σ ha, cell_q G h1 (by omega) (by omega)]) rfl h2 hd ?_
      rw [h3]
      exact hw
    · have ha : a < 67 := sh_lt h1 (by omega)
      refine va_aldq C.1 C.2.1 C.2.2.2.2.2.2.1 hP a 3 (by rw [ws_at G σ ha, cell_q G h1 (by omega) (by omega)]) rfl h2 hd ?_
      rw [h3]
      exact hw
  · exact h.elim
/-- returns -/
def o_iret (M : Mth) (Q : Option Value → Mem → Prop) (ls : Lc) (stk : List Value) (σ : Mem) : Prop := match stk with
  | [.int x] => Q (some (.int x)) σ
  | _ => False
theorem N_iret (hb : M.2.1 = b) (hr0 : M.2.2.2.1 = some .int) (hd : decode b pc = .ok (.ireturn, 1)) : Ent G M d pc Q (o_iret M Q) := by
  intro ls stk σ h
  subst hb
  unfold o_iret at h
  split at h
  · rename_i x
    intro p e R s m args below meth c cells slots A Qf C hr H locs sl hP hS hL
    exact hr (some (.int x)) σ H locs pc sl h hP hS (Or.inr ⟨x, rfl, hd, Or.inl hr0⟩)
  · exact h.elim
def o_zret (M : Mth) (Q : Option Value → Mem → Prop) (ls : Lc) (stk : List Value) (σ : Mem) : Prop := match stk with
  | [.int x] => (x = 0 ∨ x = 1) ∧ Q (some (.int x)) σ
  | _ => False
theorem N_zret (hb : M.2.1 = b) (hr0 : M.2.2.2.1 = some .boolean) (hd : decode b pc = .ok (.ireturn, 1)) : Ent G M d pc Q (o_zret M Q) := by
  intro ls stk σ h
  subst hb
  unfold o_zret at h
  split at h
  · rename_i x
    intro p e R s m args below meth c cells slots A Qf C hr H locs sl hP hS hL
    exact hr (some (.int x)) σ H locs pc sl h.2 hP hS (Or.inr ⟨x, rfl, hd, Or.inr ⟨hr0, h.1⟩⟩)
  · exact h.elim
def o_vret (Q : Option Value → Mem → Prop) (ls : Lc) (stk : List Value) (σ : Mem) : Prop := match stk with
  | [] => Q none σ
  | _ => False
theorem N_vret (hb : M.2.1 = b) (hr0 : M.2.2.2.1 = none) (hd : decode b pc = .ok (.return_, 1)) : Ent G M d pc Q (o_vret Q) := by
  intro ls stk σ h
  subst hb
  unfold o_vret at h
  split at h
  · intro p e R s m args below meth c cells slots A Qf C hr H locs sl hP hS hL
    exact hr none σ H locs pc sl h hP hS (Or.inl ⟨rfl, hr0, hd⟩)
  · exact h.elim
end OPS
end
section
/-! Calls -/
def AC (G : Gp) : Nat → Prop := fun q => ∃ a, a < 67 ∧ q = G.2.2.1 a
def rmD (d : Nat) : Room := { frames := d, cells := 0, slots := 0, locals := 60 * d }
def wsM (M : Mth) : List Cond := Cond.code M.1 M.2.1 M.2.2.1 M.2.2.2.1 :: gtbl
def QcE (G : Gp) (Q : Option Value → Mem → Prop) : Array Value → State → Outcome → State → Prop := fun _ st o t => (∃ (v : Option Value) (τ : Mem), o = .returned v ∧ (v = none ∨ ∃ x : Int32, v = some (.int x)) ∧ Q v τ ∧ va_P G.2.1 vwCl (wsOf G τ) t.heap) ∧ va_F (AC G) st t
def PcE (G : Gp) (av : List Value) (σ : Mem) : Array Value → State → Prop := va_Pc (av.map (cv G.2.2.1)) (fun U => va_P G.2.1 vwCl (wsOf G σ) U.heap ∧ va_K G.2.1 vwCl (tysW G) U ∧ (∀ w ∈ nestWs, va_Nw w U) ∧ (∀ i j, i < 67 → j < 67 → G.2.2.1 i = G.2.2.1 j → i = j))
def ent (M : Mth) (av : List Value) : Lc := av.map some ++ List.replicate (M.2.2.1 - av.length) none
def MOk (M : Mth) : Prop := plainName M.1.cls = true ∧ Cond.code M.1 M.2.1 M.2.2.1 M.2.2.2.1 ∈ gtbl ∧ Cond.initialized M.1.cls ∈ gtbl ∧ (M.1.cls ≠ "java/lang/invoke/MethodHandle" ∧ M.1.cls ≠ "java/lang/invoke/VarHandle") ∧ M.2.2.1 ≤ 30 ∧ (∀ G s A, M.2.2.2.2 G s A)
def pushv (v : Option Value) (r : List Value) : List Value := match v with
  | none => r
  | some x => x :: r
def c1 (v : Value) : Prop := match v with
  | .int _ => True
  | .ref _ => True
  | _ => False
theorem c1_cat {v : Value} (h : c1 v) : v.category = 1 := by cases v <;> first | rfl | exact h.elim
theorem lg_get : ∀ (l : Lc) (i : Nat), lg l i = (l[i]?).join
  | [], _ => rfl
  | _ :: _, 0 => rfl
  | _ :: l, n + 1 => by rw [lg, lg_get l n]; rfl
theorem lg_sl_1 (ad : Nat → Nat) : ∀ (av : List Value), (∀ v ∈ av, c1 v) → lg_sl (av.map (cv ad)) = av.map (fun v => Slot.val (cv ad v))
  | [], _ => rfl
  | v :: l, h => by
    have h1 := lg_sl_1 ad l (fun x hx => h x (List.mem_cons_of_mem _ hx))
    have h2 : (cv ad v).category = 1 := by rw [cv_cat]; exact c1_cat (h v List.mem_cons_self)
    have h3 : ¬ (cv ad v).category = 2 := by omega
    unfold lg_sl at h1 ⊢
    rw [List.map_cons, List.flatMap_cons, h1, if_neg h3]
    rfl
theorem ent_Lr {ad : Nat → Nat} {M : Mth} {av : List Value} (hn : av.length ≤ M.2.2.1) (hc : ∀ v ∈ av, c1 v) :
    Lr ad (ent M av) ((lg_sl (av.map (cv ad)) ++ List.replicate (M.2.2.1 - (lg_sl (av.map (cv ad))).length) Slot.unset).toArray) M.2.2.1 := by
  have hl : (lg_sl (av.map (cv ad))).length = av.length := by rw [lg_sl_1 ad av hc, List.length_map]
  have hh := lv_entry (av.map (cv ad)) (n := M.2.2.1) (by rw [hl]; exact hn)
  refine ⟨hh.1, hh.2.1, by simp only [ent, List.length_append, List.length_map, List.length_replicate]; omega, fun i v hi => ?_⟩
  rw [lg_get] at hi
  have hia : i < av.length := by
    rcases Nat.lt_or_ge i av.length with q | q
    · exact q
    · exfalso
      unfold ent at hi
      rw [List.getElem?_append_right (by simpa using q), List.getElem?_replicate] at hi
      split at hi <;> simp at hi
  unfold ent at hi
  rw [List.getElem?_append_left (by simpa using hia), List.getElem?_map, List.getElem?_eq_getElem hia] at hi
  have hv : av[i] = v := by simpa using hi
  refine ⟨c1_cat (hc v (by rw [← hv]; exact List.getElem_mem hia)), ?_⟩
  rw [List.getElem?_toArray, List.getElem?_append_left (by rw [hl]; exact hia), lg_sl_1 ad av hc, List.getElem?_map, List.getElem?_eq_getElem hia, hv]
  rfl
theorem nest_on : ∀ w ∈ nestWs, w.onTables = true := by
  intro w h
  obtain ⟨-, h2⟩ := List.mem_filter.mp h
  cases w <;> first | rfl | cases h2
theorem nest_warm {s U : State} (hW : s.WarmedH U.vm) : ∀ w ∈ nestWs, va_Nw w s → va_Nw w U := by
  intro w h hz
  obtain ⟨-, h2⟩ := List.mem_filter.mp h
  cases w <;> first | exact va_Nw.warmM hW hz | cases h2
theorem PcE_blind (G : Gp) (av : List Value) (σ : Mem) : FrameBlind (PcE G av σ) := by
  intro a U g mk q
  obtain ⟨q0, qP, qK, qN, qi⟩ := q
  exact ⟨q0, qP, va_K.moved (u := U) (U := U.calling g mk a) (Vm.Alike.refl U.vm) qK, fun w hw => va_Nw.same (u := U) (nest_on w hw) rfl (qN w hw), qi⟩
theorem wsM_good {M : Mth} (h : MOk M) : GoodIn gtbl (wsM M) := by
  intro w hw
  rcases List.mem_cons.mp hw with rfl | hw
  · exact ⟨h.2.1, good_of_word (gt_good _ h.2.1)⟩
  · exact ⟨hw, good_of_word (gt_good _ hw)⟩
theorem E.met {G : Gp} {M : Mth} {d : Nat} {av : List Value} {σ : Mem} {Q : Option Value → Mem → Prop} (hM : MOk M) (hn : av.length ≤ M.2.2.1) (hc : ∀ v ∈ av, c1 v) (h : E G M d 0 (ent M av) [] σ Q) :
    Met G.1 M.1 (wsM M) (rmD d) (PcE G av σ) (QcE G Q) 0 0 (AC G) := by
  refine Met.ofW (cc := M.2.1) (maxL := M.2.2.1) (ret := M.2.2.2.1) hM.1 rfl ?_
  intro p e s m args below meth c s₁ B hml hv
  obtain ⟨rfl, hP, hK, hN, hi⟩ := hv
  have hts := atoms_spec (ws := wsM M) B.pre
  have hlocks := B.notSynchronized
  rw [lg_entry_eq]
  refine h p e _ s m _ below meth c 0 0 (AC G) _ ⟨B.exec, B.bytes, hml, findClass_of_methodNamed B.named, fun w hw => hts w (List.mem_cons_of_mem _ hw), hN, hK, ⟨Nat.le_refl _, Nat.le_refl _, Nat.le_refl _, Nat.le_refl _⟩, fun a ha => ⟨a, ha, rfl⟩, hi, hM.2.2.2.2.2 G s _⟩ ?_ s.heap [] _ hP va_S.rf (ent_Lr hn hc)
  intro v τ H locs pc' sl hq hP' hS hret
  rcases hret with ⟨rfl, hr0, hd⟩ | ⟨x, rfl, hd, hr0 | ⟨hr0, hx⟩⟩
  · exact W.vret B.exec B.bytes (B.returns.trans hr0) (fun t ht _ => ⟨⟨none, τ, rfl, Or.inl rfl, hq, by rw [ht]; exact hP'⟩, hS.F ht⟩) hS.2.2 hd
  · exact W.iret B.exec B.bytes (B.returns.trans hr0) (fun t ht _ => ⟨⟨_, τ, rfl, Or.inr ⟨x, rfl⟩, hq, by rw [ht]; exact hP'⟩, hS.F ht⟩) hS.2.2 hd
  · exact W.zret (ty := .boolean) B.exec B.bytes (B.returns.trans hr0) (by rcases hx with rfl | rfl <;> rfl) (fun t ht _ => ⟨⟨_, τ, rfl, Or.inr ⟨x, rfl⟩, hq, by rw [ht]; exact hP'⟩, hS.F ht⟩) hS.2.2 hd
section VCE
variable {p : Program} {l : Launch} {e : Env} {R : Room} {s : State} {m : MethodId} {args : Array Value} {below : List Frame} {meth : Method} {c : Code} {H : Heap} {locs : List Loc} {cells slots : Nat} {Qf : State → Prop}
variable {pc : Nat} {sl : Array Slot} {rest st0 : List Value} {a : Array Value} {A : Nat → Prop} {H0 : Heap} {free : Addr → Prop}
theorem va_callE {G : Gp} {Q : Option Value → Mem → Prop} (hr : va_Run p l e R s m args below meth c H locs cells slots 0 0 (F0 m pc sl st0) rest (QcE G Q a) free) (hS : va_S A H0 H locs) (hA : ∀ q, AC G q → A q) (hf : ∀ q, free q → A q)
    (kk : ∀ (v : Option Value) (τ : Mem) (H1 : Heap) (locs1 : List Loc), (v = none ∨ ∃ x : Int32, v = some (.int x)) → Q v τ → va_P G.2.1 vwCl (wsOf G τ) H1 → va_S A H0 H1 locs1 → W p l e R s m args below meth c H1 locs1 cells slots Qf (F0 m (pc + 3) sl (v.toList ++ rest))) : W p l e R s m args below meth c H locs cells slots Qf (F0 m pc sl st0) := by
  intro T hT X
  obtain ⟨v, st₀, t, T', L, h0, X', hL, e1, e2, ⟨⟨v', τ, hv, hi, hp, hb⟩, hz, hk⟩, st⟩ := hr T hT X
  cases hv
  rw [h0] at hz hk
  obtain ⟨t2, a1, b1⟩ := kk v τ T'.heap (locs ++ L) hi hp (by rw [e1]; exact hb)
    ⟨Nat.le_trans hS.1 (by rw [e1]; exact hz), fun q h1 h2 => by rw [e1, hk q (Nat.lt_of_lt_of_le h1 hS.1) (fun z => h2 (hA q z))]; exact hS.2.1 q h1 h2, fun q hq => by
      rcases List.mem_append.mp hq with h | h
      · exact hS.2.2 q h
      · exact hf _ (hL q h)⟩ T' rfl X'
  exact ⟨t2, st t2 a1, b1⟩
end VCE
section CALLS
variable {G : Gp} {M M' : Mth} {d pc : Nat} {Q : Option Value → Mem → Prop} {K : Kt} {b : ByteArray} {own : String} {ls : Lc} {σ : Mem} {av rest : List Value} {idx n : Nat}
theorem push_map {ad : Nat → Nat} {v : Option Value} (h : v = none ∨ ∃ x : Int32, v = some (.int x)) (rest : List Value) : v.toList ++ rest.map (cv ad) = (pushv v rest).map (cv ad) := by
  rcases h with rfl | ⟨x, rfl⟩ <;> rfl
theorem cat_room (ad : Nat → Nat) : ∀ (r : List Value), ((r.map (cv ad)).map fun v => v.category).sum ≤ 2 * r.length
  | [] => by simp
  | v :: l => by
    have h1 := cat_room ad l
    have h2 := lv_cat (cv ad v)
    simp only [List.map_cons, List.sum_cons, List.length_cons]
    omega
def CWords (own : String) (idx : Nat) (M' : Mth) (n : Nat) : Prop := Cond.methodLink own idx M'.1 ∈ gtbl ∧ (parseMethodDescriptor M'.1.desc).map (fun d => d.parameters.length) = some n
theorem callB_E {R : Room} {s : State} {args : Array Value} (hM : MOk M') (hts : ∀ w ∈ gtbl, w.before args s = true) (hw : CWords own idx M' n) (hR : d + 1 ≤ R.frames ∧ 60 * (d + 1) ≤ R.locals) :
    CallB R s args own idx M'.1 M'.2.1 M'.2.2.1 M'.2.2.2.1 (wsM M') (rmD d) 0 0 n :=
  callB_of n hts (wsM_good hM) rfl rfl rfl (hts _ hM.2.2.1) (hts _ hw.1) ⟨hM.2.2.2.1.1, hM.2.2.2.1.2, hw.2⟩ ⟨hR.1, by have h1 := hM.2.2.2.2.1; have h2 := hR.2; show 8 + (M'.2.2.1 + 11) + 60 * d ≤ R.locals; omega⟩
theorem E_callV (hb : M.2.1 = b) (ho : M.1.cls = own) (hM : MOk M') (hw : CWords own idx M' n) {C : String} {T : u_T} {N ci a : Nat} (hin : Cond.instanceMethod M'.1 ∈ gtbl) (hse : Cond.selects C M'.1 M'.1 ∈ gtbl) (hcl : vwCl[ci]? = some (C, T, N)) (hd : decode b pc = .ok (.invokevirtual idx, 3))
    (hk : (sh a).1 = ci + 4) (hav : ∀ v ∈ av, c1 v) (hlen : av.length = n) (hmax : n + 1 ≤ M'.2.2.1) (hr : rest.length ≤ 4) (h : E G M' d 0 (ent M' (.ref a :: av)) [] σ (fun v τ => E G M (d + 1) (pc + 3) ls (pushv v rest) τ Q)) : E G M (d + 1) pc ls (av.reverse ++ .ref a :: rest) σ Q := by
  subst hb
  subst ho
  intro p e R s m args below meth c cells slots A Qf C0 hr0 H locs sl hP hS hL
  have hci : ci < 6 := (List.getElem?_eq_some_iff.mp hcl).1
  have ha : a < 67 := sh_lt hk (by omega)
  have hMet := E.met hM (by simp only [List.length_cons]; omega) (fun v hv => by rcases List.mem_cons.mp hv with rfl | hv; exact trivial; exact hav v hv) h
  have hK := C0.2.2.2.2.2.2.1
  have e0 : List.map (cv G.2.2.1) (av.reverse ++ .ref a :: rest) = (av.map (cv G.2.2.1)).reverse ++ .ref (G.2.2.1 a) :: rest.map (cv G.2.2.1) := by simp [cv]
  rw [e0]
  have hroom := cat_room G.2.2.1 rest
  refine va_callE (va_runV (As := av.map (cv G.2.2.1)) (rest := rest.map (cv G.2.2.1)) ⟨C0.1, C0.2.1, C0.2.2.1, C0.2.2.2.1, C0.2.2.2.2.1⟩ hMet ⟨callB_E hM C0.2.2.2.2.1 hw ⟨C0.2.2.2.2.2.2.2.1.1, C0.2.2.2.2.2.2.2.1.2.1⟩, C0.2.2.2.2.1 _ hin, C0.2.2.2.2.1 _ hse⟩
    ⟨PcE_blind G _ σ, va_recv hK hP hcl (show (wsOf G σ)[a]? = some (G.2.2.1 a, .inr (ci, _)) by rw [ws_at G σ ha, cell_o G hk]), fun U hU hW => ⟨rfl, by rw [hU]; exact hP, va_K.moved hW.alike hK, fun w hw => nest_warm hW w hw (C0.2.2.2.2.2.1 w hw), C0.2.2.2.2.2.2.2.2.2.1⟩⟩ rfl (by rw [List.length_map]; exact hlen) hL.1 rfl (lv_room (by omega)) hd ⟨C0.2.2.2.2.2.2.2.1.2.2.1, C0.2.2.2.2.2.2.2.1.2.2.2⟩) hS (fun q hq => by obtain ⟨x, hx, rfl⟩ := hq; exact C0.2.2.2.2.2.2.2.2.1 x hx) (fun q hq => by obtain ⟨x, hx, rfl⟩ := hq; exact C0.2.2.2.2.2.2.2.2.1 x hx) (fun v τ H1 locs1 hi hq hP1 hS1 => ?_)
  rw [push_map hi]
  exact hq p e R s m args below meth c cells slots A Qf C0 hr0 H1 locs1 sl hP1 hS1 hL
theorem E_callS (hb : M.2.1 = b) (ho : M.1.cls = own) (hM : MOk M') (hw : CWords own idx M' n) (hst : Cond.static M'.1 ∈ gtbl) (hd : decode b pc = .ok (.invokestatic idx, 3))
    (hav : ∀ v ∈ av, c1 v) (hlen : av.length = n) (hmax : n ≤ M'.2.2.1) (hr : rest.length ≤ 4) (h : E G M' d 0 (ent M' av) [] σ (fun v τ => E G M (d + 1) (pc + 3) ls (pushv v rest) τ Q)) : E G M (d + 1) pc ls (av.reverse ++ rest) σ Q := by
  subst hb
  subst ho
  intro p e R s m args below meth c cells slots A Qf C0 hr0 H locs sl hP hS hL
  have hMet := E.met hM (by omega) hav h
  have hK := C0.2.2.2.2.2.2.1
  have e0 : List.map (cv G.2.2.1) (av.reverse ++ rest) = (av.map (cv G.2.2.1)).reverse ++ rest.map (cv G.2.2.1) := by simp
  rw [e0]
  have hroom := cat_room G.2.2.1 rest
  refine va_callE (va_runS (As := av.map (cv G.2.2.1)) (rest := rest.map (cv G.2.2.1)) ⟨C0.1, C0.2.1, C0.2.2.1, C0.2.2.2.1, C0.2.2.2.2.1⟩ hMet ⟨callB_E hM C0.2.2.2.2.1 hw ⟨C0.2.2.2.2.2.2.2.1.1, C0.2.2.2.2.2.2.2.1.2.1⟩, C0.2.2.2.2.1 _ hst⟩
    ⟨PcE_blind G _ σ, fun U hU hW => ⟨rfl, by rw [hU]; exact hP, va_K.moved hW.alike hK, fun w hw => nest_warm hW w hw (C0.2.2.2.2.2.1 w hw), C0.2.2.2.2.2.2.2.2.2.1⟩⟩ rfl (by rw [List.length_map]; exact hlen) hL.1 rfl (lv_room (by omega)) hd ⟨C0.2.2.2.2.2.2.2.1.2.2.1, C0.2.2.2.2.2.2.2.1.2.2.2⟩) hS (fun q hq => by obtain ⟨x, hx, rfl⟩ := hq; exact C0.2.2.2.2.2.2.2.2.1 x hx) (fun q hq => by obtain ⟨x, hx, rfl⟩ := hq; exact C0.2.2.2.2.2.2.2.2.1 x hx) (fun v τ H1 locs1 hi hq hP1 hS1 => ?_)
  rw [push_map hi]
  exact hq p e R s m args below meth c cells slots A Qf C0 hr0 H1 locs1 sl hP1 hS1 hL
def NWords (own : String) (idx : Nat) (M' : Mth) (n : Nat) : Prop := (∃ host, Cond.methodLinkNest own idx M'.1 host ∈ nestWs) ∧ (parseMethodDescriptor M'.1.desc).map (fun d => d.parameters.length) = some n
theorem E_callN (hb : M.2.1 = b) (ho : M.1.cls = own) (hM : MOk M') (hw : NWords own idx M' n) (hst : Cond.static M'.1 ∈ gtbl) (hd : decode b pc = .ok (.invokestatic idx, 3))
    (hav : ∀ v ∈ av, c1 v) (hlen : av.length = n) (hmax : n ≤ M'.2.2.1) (hr : rest.length ≤ 4) (h : E G M' d 0 (ent M' av) [] σ (fun v τ => E G M (d + 1) (pc + 3) ls (pushv v rest) τ Q)) : E G M (d + 1) pc ls (av.reverse ++ rest) σ Q := by
  subst hb
  subst ho
  intro p e R s m args below meth c cells slots A Qf C0 hr0 H locs sl hP hS hL
  obtain ⟨⟨host, hnest⟩, hdesc⟩ := hw
  have hMet := E.met hM (by omega) hav h
  have hK := C0.2.2.2.2.2.2.1
  have e0 : List.map (cv G.2.2.1) (av.reverse ++ rest) = (av.map (cv G.2.2.1)).reverse ++ rest.map (cv G.2.2.1) := by simp
  rw [e0]
  have hroom := cat_room G.2.2.1 rest
  have hR1 := C0.2.2.2.2.2.2.2.1.1
  have hR2 := C0.2.2.2.2.2.2.2.1.2.1
  have hm := hM.2.2.2.2.1
  refine va_callE (va_runSN (As := av.map (cv G.2.2.1)) (rest := rest.map (cv G.2.2.1)) ⟨C0.1, C0.2.1, C0.2.2.1, C0.2.2.2.1, C0.2.2.2.2.1⟩ hMet ⟨va_cnB n C0.2.2.2.2.1 (wsM_good hM) rfl rfl rfl (C0.2.2.2.2.2.1 _ hnest) (C0.2.2.2.2.1 _ hM.2.2.1) ⟨hM.2.2.2.1.1, hM.2.2.2.1.2, hdesc⟩ ⟨hR1, by show 8 + (M'.2.2.1 + 11) + 60 * d ≤ R.locals; omega⟩, C0.2.2.2.2.1 _ hst, trivial⟩
    ⟨PcE_blind G _ σ, fun U hU hW => ⟨rfl, by rw [hU]; exact hP, va_K.moved hW.alike hK, fun w hw => nest_warm hW w hw (C0.2.2.2.2.2.1 w hw), C0.2.2.2.2.2.2.2.2.2.1⟩⟩ rfl (by rw [List.length_map]; exact hlen) hL.1 rfl (lv_room (by omega)) hd ⟨C0.2.2.2.2.2.2.2.1.2.2.1, C0.2.2.2.2.2.2.2.1.2.2.2⟩) hS (fun q hq => by obtain ⟨x, hx, rfl⟩ := hq; exact C0.2.2.2.2.2.2.2.2.1 x hx) (fun q hq => by obtain ⟨x, hx, rfl⟩ := hq; exact C0.2.2.2.2.2.2.2.2.1 x hx) (fun v τ H1 locs1 hi hq hP1 hS1 => ?_)
  rw [push_map hi]
  exact hq p e R s m args below meth c cells slots A Qf C0 hr0 H1 locs1 sl hP1 hS1 hL
/-- System.arraycopy of int rows -/
def o_acopy (K : Kt) (ls : Lc) (stk : List Value) (σ : Mem) : Prop := match stk with
  | .int n :: .int dp :: .ref a :: .int sp :: .ref a0 :: r => (sh a).1 = 0 ∧ (sh a0).1 = 0 ∧ ¬ sp < 0 ∧ ¬ dp < 0 ∧ ¬ n < 0 ∧ sp.toNatClampNeg + n.toNatClampNeg ≤ (sh a0).2.1 ∧ dp.toNatClampNeg + n.toNatClampNeg ≤ (sh a).2.1 ∧ r.length ≤ 4 ∧ K ls r (va_up σ a (va_cpy (σ a0) (σ a) sp.toNatClampNeg dp.toNatClampNeg n.toNatClampNeg))
  | _ => False
theorem N_acopy (hb : M.2.1 = b) (ho : M.1.cls = own) (hw : Cond.methodLink own idx arraycopyName ∈ gtbl ∧ Cond.native arraycopyName ∈ gtbl ∧ Cond.static arraycopyName ∈ gtbl ∧ Cond.initialized "java/lang/System" ∈ gtbl) (hd : decode b pc = .ok (.invokestatic idx, 3)) (kk : Ent G M (d + 1) (pc + 3) Q K) : Ent G M (d + 1) pc Q (o_acopy K) := by
  intro ls stk σ h
  subst hb
  subst ho
  unfold o_acopy at h
  split at h
  · rename_i n dp a sp a0 r
    obtain ⟨h1, h2, h3, h4, h5, h6, h7, h8, h⟩ := h
    have ha : a < 67 := sh_lt h1 (by omega)
    have ha0 : a0 < 67 := sh_lt h2 (by omega)
    intro p e R s m args below meth c cells slots A Qf C hr H locs sl hP hS hL
    have hroom := cat_room G.2.2.1 r
    have hR1 := C.2.2.2.2.2.2.2.1.1
    have hR2 := C.2.2.2.2.2.2.2.1.2.1
    refine va_copyi (ty := .int) C.1 C.2.1 (C.2.2.1.trans hL.1.symm) C.2.2.2.1 (C.2.2.2.2.1 _ hw.1) (C.2.2.2.2.1 _ hw.2.1) (C.2.2.2.2.1 _ hw.2.2.1) (C.2.2.2.2.1 _ hw.2.2.2) C.2.2.2.2.2.2.1 hP (ws_D C.2.2.2.2.2.2.2.2.1 C.2.2.2.2.2.2.2.2.2.1 σ) hS a0 a 0 0 (by rw [ws_at G σ ha0, cell_i G h2]) (by rw [ws_at G σ ha, cell_i G h1]) rfl rfl rfl h3 h4 h5 h6 h7 (fun _ _ => rfl) (by omega) (by show _ + (7 + 11) ≤ _; omega) hd (fun H1 locs1 hP1 _ hS1 => ?_)
    rw [ws_set (row := va_cpy (σ a0) (σ a) sp.toNatClampNeg dp.toNatClampNeg n.toNatClampNeg) ha (cell_i G h1 _)] at hP1
    exact kk _ _ _ h p e R s m args below meth c cells slots A Qf C hr H1 locs1 sl hP1 hS1 hL
  · exact h.elim
/-- the law's own script -/
def ScrZ (L : Nat) (xs : Nat → Int32) : Gp → State → (Nat → Prop) → Prop := fun G s A => va_X (G.2.2.1 1000) L xs s s.heap ∧ G.2.2.1 1000 < s.heap.size ∧ ¬ A (G.2.2.1 1000)
def o_sld (L : Nat) (xs : Nat → Int32) (K : Kt) (ls : Lc) (stk : List Value) (σ : Mem) : Prop := match stk with
  | .int i :: .ref a :: r => a = 1000 ∧ vp_in i L ∧ K ls (.int (xs i.toNatClampNeg) :: r) σ
  | _ => False
theorem N_sld {L : Nat} {xs : Nat → Int32} (hb : M.2.1 = b) (hz : M.2.2.2.2 = ScrZ L xs) (hd : decode b pc = .ok (.iaload, 1)) (kk : Ent G M d (pc + 1) Q K) : Ent G M d pc Q (o_sld L xs K) := by
  intro ls stk σ h
  subst hb
  unfold o_sld at h
  split at h
  · rename_i i a r
    obtain ⟨rfl, h2, h⟩ := h
    intro p e R s m args below meth c cells slots A Qf C hr H locs sl hP hS hL
    have hz2 := C.2.2.2.2.2.2.2.2.2.2
    rw [hz] at hz2
    exact va_sld C.1 C.2.1 hz2.1 hz2.2.1 hz2.2.2 hS h2 hd (kk _ _ _ h p e R s m args below meth c cells slots A Qf C hr H locs sl hP hS hL)
  · exact h.elim
def o_slen (L : Nat) (K : Kt) (ls : Lc) (stk : List Value) (σ : Mem) : Prop := match stk with
  | .ref a :: r => a = 1000 ∧ K ls (.int (nI L) :: r) σ
  | _ => False
theorem N_slen {L : Nat} {xs : Nat → Int32} (hb : M.2.1 = b) (hz : M.2.2.2.2 = ScrZ L xs) (hd : decode b pc = .ok (.arraylength, 1)) (kk : Ent G M d (pc + 1) Q K) : Ent G M d pc Q (o_slen L K) := by
  intro ls stk σ h
  subst hb
  unfold o_slen at h
  split at h
  · rename_i a r
    obtain ⟨rfl, h⟩ := h
    intro p e R s m args below meth c cells slots A Qf C hr H locs sl hP hS hL
    have hz2 := C.2.2.2.2.2.2.2.2.2.2
    rw [hz] at hz2
    exact va_slen C.1 C.2.1 hz2.1 hz2.2.1 hz2.2.2 hS hd (kk _ _ _ h p e R s m args below meth c cells slots A Qf C hr H locs sl hP hS hL)
  · exact h.elim

def o_cV0 (G : Gp) (d : Nat) (M' : Mth) (pad ci : Nat) (K : Kt) (ls : Lc) (stk : List Value) (σ : Mem) : Prop := match stk with
  | .ref a :: r => (sh a).1 = ci + 4 ∧ r.length ≤ 4 ∧ E G M' d 0 (some (.ref a) :: List.replicate pad none) [] σ (fun v τ => K ls (pushv v r) τ)
  | _ => False
theorem N_cV0 (hb : M.2.1 = b) (ho : M.1.cls = own) {pad : Nat} (hp : M'.2.2.1 = 1 + pad) (hM : MOk M') (hw : CWords own idx M' 0) {C : String} {T : u_T} {N ci : Nat} (hin : Cond.instanceMethod M'.1 ∈ gtbl) (hse : Cond.selects C M'.1 M'.1 ∈ gtbl) (hcl : vwCl[ci]? = some (C, T, N)) (hd : decode b pc = .ok (.invokevirtual idx, 3)) (kk : Ent G M (d + 1) (pc + 3) Q K) : Ent G M (d + 1) pc Q (o_cV0 G d M' pad ci K) := by
  intro ls stk σ h
  unfold o_cV0 at h
  split at h
  · rename_i  a r
    obtain ⟨hk, hr, h⟩ := h
    refine E_callV (av := []) (rest := r) hb ho hM hw hin hse hcl hd hk (fun v hv => by cases hv) rfl (by omega) hr ?_
    have e1 : ent M' (.ref a :: []) = some (.ref a) :: List.replicate pad none := by
      unfold ent
      rw [hp, show 1 + pad - (Value.ref a :: []).length = pad from by simp only [List.length_cons, List.length_nil]; omega]
      rfl
    rw [e1]
    exact h.mono (fun v τ q => kk _ _ _ q)
  · exact h.elim

def o_cV1 (G : Gp) (d : Nat) (M' : Mth) (pad ci : Nat) (K : Kt) (ls : Lc) (stk : List Value) (σ : Mem) : Prop := match stk with
  | x1 :: .ref a :: r => (sh a).1 = ci + 4 ∧ c1 x1 ∧ r.length ≤ 4 ∧ E G M' d 0 (some (.ref a) :: some x1 :: List.replicate pad none) [] σ (fun v τ => K ls (pushv v r) τ)
  | _ => False
theorem N_cV1 (hb : M.2.1 = b) (ho : M.1.cls = own) {pad : Nat} (hp : M'.2.2.1 = 2 + pad) (hM : MOk M') (hw : CWords own idx M' 1) {C : String} {T : u_T} {N ci : Nat} (hin : Cond.instanceMethod M'.1 ∈ gtbl) (hse : Cond.selects C M'.1 M'.1 ∈ gtbl) (hcl : vwCl[ci]? = some (C, T, N)) (hd : decode b pc = .ok (.invokevirtual idx, 3)) (kk : Ent G M (d + 1) (pc + 3) Q K) : Ent G M (d + 1) pc Q (o_cV1 G d M' pad ci K) := by
  intro ls stk σ h
  unfold o_cV1 at h
  split at h
  · rename_i x1 a r
    obtain ⟨hk, hx1, hr, h⟩ := h
    refine E_callV (av := [x1]) (rest := r) hb ho hM hw hin hse hcl hd hk (fun v hv => by simp only [List.mem_cons, List.not_mem_nil, or_false] at hv; rcases hv with rfl <;> assumption) rfl (by omega) hr ?_
    have e1 : ent M' (.ref a :: [x1]) = some (.ref a) :: some x1 :: List.replicate pad none := by
      unfold ent
      rw [hp, show 2 + pad - (Value.ref a :: [x1]).length = pad from by simp only [List.length_cons, List.length_nil]; omega]
      rfl
    rw [e1]
    exact h.mono (fun v τ q => kk _ _ _ q)
  · exact h.elim

def o_cV2 (G : Gp) (d : Nat) (M' : Mth) (pad ci : Nat) (K : Kt) (ls : Lc) (stk : List Value) (σ : Mem) : Prop := match stk with
  | x2 :: x1 :: .ref a :: r => (sh a).1 = ci + 4 ∧ c1 x1 ∧ c1 x2 ∧ r.length ≤ 4 ∧ E G M' d 0 (some (.ref a) :: some x1 :: some x2 :: List.replicate pad none) [] σ (fun v τ => K ls (pushv v r) τ)
  | _ => False
theorem N_cV2 (hb : M.2.1 = b) (ho : M.1.cls = own) {pad : Nat} (hp : M'.2.2.1 = 3 + pad) (hM : MOk M') (hw : CWords own idx M' 2) {C : String} {T : u_T} {N ci : Nat} (hin : Cond.instanceMethod M'.1 ∈ gtbl) (hse : Cond.selects C M'.1 M'.1 ∈ gtbl) (hcl : vwCl[ci]? = some (C, T, N)) (hd : decode b pc = .ok (.invokevirtual idx, 3)) (kk : Ent G M (d + 1) (pc + 3) Q K) : Ent G M (d + 1) pc Q (o_cV2 G d M' pad ci K) := by
  intro ls stk σ h
  unfold o_cV2 at h
  split at h
  · rename_i x2 x1 a r
    obtain ⟨hk, hx1, hx2, hr, h⟩ := h
    refine E_callV (av := [x1, x2]) (rest := r) hb ho hM hw hin hse hcl hd hk (fun v hv => by simp only [List.mem_cons, List.not_mem_nil, or_false] at hv; rcases hv with rfl | rfl <;> assumption) rfl (by omega) hr ?_
    have e1 : ent M' (.ref a :: [x1, x2]) = some (.ref a) :: some x1 :: some x2 :: List.replicate pad none := by
      unfold ent
      rw [hp, show 3 + pad - (Value.ref a :: [x1, x2]).length = pad from by simp only [List.length_cons, List.length_nil]; omega]
      rfl
    rw [e1]
    exact h.mono (fun v τ q => kk _ _ _ q)
  · exact h.elim

def o_cV3 (G : Gp) (d : Nat) (M' : Mth) (pad ci : Nat) (K : Kt) (ls : Lc) (stk : List Value) (σ : Mem) : Prop := match stk with
  | x3 :: x2 :: x1 :: .ref a :: r => (sh a).1 = ci + 4 ∧ c1 x1 ∧ c1 x2 ∧ c1 x3 ∧ r.length ≤ 4 ∧ E G M' d 0 (some (.ref a) :: some x1 :: some x2 :: some x3 :: List.replicate pad none) [] σ (fun v τ => K ls (pushv v r) τ)
  | _ => False
theorem N_cV3 (hb : M.2.1 = b) (ho : M.1.cls = own) {pad : Nat} (hp : M'.2.2.1 = 4 + pad) (hM : MOk M') (hw : CWords own idx M' 3) {C : String} {T : u_T} {N ci : Nat} (hin : Cond.instanceMethod M'.1 ∈ gtbl) (hse : Cond.selects C M'.1 M'.1 ∈ gtbl) (hcl : vwCl[ci]? = some (C, T, N)) (hd : decode b pc = .ok (.invokevirtual idx, 3)) (kk : Ent G M (d + 1) (pc + 3) Q K) : Ent G M (d + 1) pc Q (o_cV3 G d M' pad ci K) := by
  intro ls stk σ h
  unfold o_cV3 at h
  split at h
  · rename_i x3 x2 x1 a r
    obtain ⟨hk, hx1, hx2, hx3, hr, h⟩ := h
    refine E_callV (av := [x1, x2, x3]) (rest := r) hb ho hM hw hin hse hcl hd hk (fun v hv => by simp only [List.mem_cons, List.not_mem_nil, or_false] at hv; rcases hv with rfl | rfl | rfl <;> assumption) rfl (by omega) hr ?_
    have e1 : ent M' (.ref a :: [x1, x2, x3]) = some (.ref a) :: some x1 :: some x2 :: some x3 :: List.replicate pad none := by
      unfold ent
      rw [hp, show 4 + pad - (Value.ref a :: [x1, x2, x3]).length = pad from by simp only [List.length_cons, List.length_nil]; omega]
      rfl
    rw [e1]
    exact h.mono (fun v τ q => kk _ _ _ q)
  · exact h.elim

def o_cV4 (G : Gp) (d : Nat) (M' : Mth) (pad ci : Nat) (K : Kt) (ls : Lc) (stk : List Value) (σ : Mem) : Prop := match stk with
  | x4 :: x3 :: x2 :: x1 :: .ref a :: r => (sh a).1 = ci + 4 ∧ c1 x1 ∧ c1 x2 ∧ c1 x3 ∧ c1 x4 ∧ r.length ≤ 4 ∧ E G M' d 0 (some (.ref a) :: some x1 :: some x2 :: some x3 :: some x4 :: List.replicate pad none) [] σ (fun v τ => K ls (pushv v r) τ)
  | _ => False
theorem N_cV4 (hb : M.2.1 = b) (ho : M.1.cls = own) {pad : Nat} (hp : M'.2.2.1 = 5 + pad) (hM : MOk M') (hw : CWords own idx M' 4) {C : String} {T : u_T} {N ci : Nat} (hin : Cond.instanceMethod M'.1 ∈ gtbl) (hse : Cond.selects C M'.1 M'.1 ∈ gtbl) (hcl : vwCl[ci]? = some (C, T, N)) (hd : decode b pc = .ok (.invokevirtual idx, 3)) (kk : Ent G M (d + 1) (pc + 3) Q K) : Ent G M (d + 1) pc Q (o_cV4 G d M' pad ci K) := by
  intro ls stk σ h
  unfold o_cV4 at h
  split at h
  · rename_i x4 x3 x2 x1 a r
    obtain ⟨hk, hx1, hx2, hx3, hx4, hr, h⟩ := h
    refine E_callV (av := [x1, x2, x3, x4]) (rest := r) hb ho hM hw hin hse hcl hd hk (fun v hv => by simp only [List.mem_cons, List.not_mem_nil, or_false] at hv; rcases hv with rfl | rfl | rfl | rfl <;> assumption) rfl (by omega) hr ?_
    have e1 : ent M' (.ref a :: [x1, x2, x3, x4]) = some (.ref a) :: some x1 :: some x2 :: some x3 :: some x4 :: List.replicate pad none := by
      unfold ent
      rw [hp, show 5 + pad - (Value.ref a :: [x1, x2, x3, x4]).length = pad from by simp only [List.length_cons, List.length_nil]; omega]
      rfl
    rw [e1]
    exact h.mono (fun v τ q => kk _ _ _ q)
  · exact h.elim

def o_cV5 (G : Gp) (d : Nat) (M' : Mth) (pad ci : Nat) (K : Kt) (ls : Lc) (stk : List Value) (σ : Mem) : Prop := match stk with
  | x5 :: x4 :: x3 :: x2 :: x1 :: .ref a :: r => (sh a).1 = ci + 4 ∧ c1 x1 ∧ c1 x2 ∧ c1 x3 ∧ c1 x4 ∧ c1 x5 ∧ r.length ≤ 4 ∧ E G M' d 0 (some (.ref a) :: some x1 :: some x2 :: some x3 :: some x4 :: some x5 :: List.replicate pad none) [] σ (fun v τ => K ls (pushv v r) τ)
  | _ => False
theorem N_cV5 (hb : M.2.1 = b) (ho : M.1.cls = own) {pad : Nat} (hp : M'.2.2.1 = 6 + pad) (hM : MOk M') (hw : CWords own idx M' 5) {C : String} {T : u_T} {N ci : Nat} (hin : Cond.instanceMethod M'.1 ∈ gtbl) (hse : Cond.selects C M'.1 M'.1 ∈ gtbl) (hcl : vwCl[ci]? = some (C, T, N)) (hd : decode b pc = .ok (.invokevirtual idx, 3)) (kk : Ent G M (d + 1) (pc + 3) Q K) : Ent G M (d + 1) pc Q (o_cV5 G d M' pad ci K) := by
  intro ls stk σ h
  unfold o_cV5 at h
  split at h
  · rename_i x5 x4 x3 x2 x1 a r
    obtain ⟨hk, hx1, hx2, hx3, hx4, hx5, hr, h⟩ := h
    refine E_callV (av := [x1, x2, x3, x4, x5]) (rest := r) hb ho hM hw hin hse hcl hd hk (fun v hv => by simp only [List.mem_cons, List.not_mem_nil, or_false] at hv; rcases hv with rfl | rfl | rfl | rfl | rfl <;> assumption) rfl (by omega) hr ?_
    have e1 : ent M' (.ref a :: [x1, x2, x3, x4, x5]) = some (.ref a) :: some x1 :: some x2 :: some x3 :: some x4 :: some x5 :: List.replicate pad none := by
      unfold ent
      rw [hp, show 6 + pad - (Value.ref a :: [x1, x2, x3, x4, x5]).length = pad from by simp only [List.length_cons, List.length_nil]; omega]
      rfl
    rw [e1]
    exact h.mono (fun v τ q => kk _ _ _ q)
  · exact h.elim

def o_cV6 (G : Gp) (d : Nat) (M' : Mth) (pad ci : Nat) (K : Kt) (ls : Lc) (stk : List Value) (σ : Mem) : Prop := match stk with
  | x6 :: x5 :: x4 :: x3 :: x2 :: x1 :: .ref a :: r => (sh a).1 = ci + 4 ∧ c1 x1 ∧ c1 x2 ∧ c1 x3 ∧ c1 x4 ∧ c1 x5 ∧ c1 x6 ∧ r.length ≤ 4 ∧ E G M' d 0 (some (.ref a) :: some x1 :: some x2 :: some x3 :: some x4 :: some x5 :: some x6 :: List.replicate pad none) [] σ (fun v τ => K ls (pushv v r) τ)
  | _ => False
theorem N_cV6 (hb : M.2.1 = b) (ho : M.1.cls = own) {pad : Nat} (hp : M'.2.2.1 = 7 + pad) (hM : MOk M') (hw : CWords own idx M' 6) {C : String} {T : u_T} {N ci : Nat} (hin : Cond.instanceMethod M'.1 ∈ gtbl) (hse : Cond.selects C M'.1 M'.1 ∈ gtbl) (hcl : vwCl[ci]? = some (C, T, N)) (hd : decode b pc = .ok (.invokevirtual idx, 3)) (kk : Ent G M (d + 1) (pc + 3) Q K) : Ent G M (d + 1) pc Q (o_cV6 G d M' pad ci K) := by
  intro ls stk σ h
  unfold o_cV6 at h
  split at h
  · rename_i x6 x5 x4 x3 x2 x1 a r
    obtain ⟨hk, hx1, hx2, hx3, hx4, hx5, hx6, hr, h⟩ := h
    refine E_callV (av := [x1, x2, x3, x4, x5, x6]) (rest := r) hb ho hM hw hin hse hcl hd hk (fun v hv => by simp only [List.mem_cons, List.not_mem_nil, or_false] at hv; rcases hv with rfl | rfl | rfl | rfl | rfl | rfl <;> assumption) rfl (by omega) hr ?_
    have e1 : ent M' (.ref a :: [x1, x2, x3, x4, x5, x6]) = some (.ref a) :: some x1 :: some x2 :: some x3 :: some x4 :: some x5 :: some x6 :: List.replicate pad none := by
      unfold ent
      rw [hp, show 7 + pad - (Value.ref a :: [x1, x2, x3, x4, x5, x6]).length = pad from by simp only [List.length_cons, List.length_nil]; omega]
      rfl
    rw [e1]
    exact h.mono (fun v τ q => kk _ _ _ q)
  · exact h.elim

def o_cS1 (G : Gp) (d : Nat) (M' : Mth) (pad : Nat) (K : Kt) (ls : Lc) (stk : List Value) (σ : Mem) : Prop := match stk with
  | x1 :: r => c1 x1 ∧ r.length ≤ 4 ∧ E G M' d 0 (some x1 :: List.replicate pad none) [] σ (fun v τ => K ls (pushv v r) τ)
  | _ => False

theorem N_cS1 (hb : M.2.1 = b) (ho : M.1.cls = own) {pad : Nat} (hp : M'.2.2.1 = 1 + pad) (hM : MOk M') (hw : CWords own idx M' 1) (hst : Cond.static M'.1 ∈ gtbl) (hd : decode b pc = .ok (.invokestatic idx, 3)) (kk : Ent G M (d + 1) (pc + 3) Q K) : Ent G M (d + 1) pc Q (o_cS1 G d M' pad K) := by
  intro ls stk σ h
  unfold o_cS1 at h
  split at h
  · rename_i x1 r
    obtain ⟨hx1, hr, h⟩ := h
    refine E_callS (av := [x1]) (rest := r) hb ho hM hw hst hd (fun v hv => by simp only [List.mem_cons, List.not_mem_nil, or_false] at hv; subst hv; assumption) rfl (by omega) hr ?_
    have e1 : ent M' [x1] = some x1 :: List.replicate pad none := by
      unfold ent
      rw [hp, show 1 + pad - ([x1] : List Value).length = pad from by simp only [List.length_cons, List.length_nil]; omega]
      rfl
    rw [e1]
    exact h.mono (fun v τ q => kk _ _ _ q)
  · exact h.elim

theorem N_cN1 (hb : M.2.1 = b) (ho : M.1.cls = own) {pad : Nat} (hp : M'.2.2.1 = 1 + pad) (hM : MOk M') (hw : NWords own idx M' 1) (hst : Cond.static M'.1 ∈ gtbl) (hd : decode b pc = .ok (.invokestatic idx, 3)) (kk : Ent G M (d + 1) (pc + 3) Q K) : Ent G M (d + 1) pc Q (o_cS1 G d M' pad K) := by
  intro ls stk σ h
  unfold o_cS1 at h
  split at h
  · rename_i x1 r
    obtain ⟨hx1, hr, h⟩ := h
    refine E_callN (av := [x1]) (rest := r) hb ho hM hw hst hd (fun v hv => by simp only [List.mem_cons, List.not_mem_nil, or_false] at hv; subst hv; assumption) rfl (by omega) hr ?_
    have e1 : ent M' [x1] = some x1 :: List.replicate pad none := by
      unfold ent
      rw [hp, show 1 + pad - ([x1] : List Value).length = pad from by simp only [List.length_cons, List.length_nil]; omega]
      rfl
    rw [e1]
    exact h.mono (fun v τ q => kk _ _ _ q)
  · exact h.elim

def o_cS2 (G : Gp) (d : Nat) (M' : Mth) (pad : Nat) (K : Kt) (ls : Lc) (stk : List Value) (σ : Mem) : Prop := match stk with
  | x2 :: x1 :: r => c1 x1 ∧ c1 x2 ∧ r.length ≤ 4 ∧ E G M' d 0 (some x1 :: some x2 :: List.replicate pad none) [] σ (fun v τ => K ls (pushv v r) τ)
  | _ => False

theorem N_cS2 (hb : M.2.1 = b) (ho : M.1.cls = own) {pad : Nat} (hp : M'.2.2.1 = 2 + pad) (hM : MOk M') (hw : CWords own idx M' 2) (hst : Cond.static M'.1 ∈ gtbl) (hd : decode b pc = .ok (.invokestatic idx, 3)) (kk : Ent G M (d + 1) (pc + 3) Q K) : Ent G M (d + 1) pc Q (o_cS2 G d M' pad K) := by
  intro ls stk σ h
  unfold o_cS2 at h
  split at h
  · rename_i x2 x1 r
    obtain ⟨hx1, hx2, hr, h⟩ := h
    refine E_callS (av := [x1, x2]) (rest := r) hb ho hM hw hst hd (fun v hv => by simp only [List.mem_cons, List.not_mem_nil, or_false] at hv; rcases hv with rfl | rfl <;> assumption) rfl (by omega) hr ?_
    have e1 : ent M' [x1, x2] = some x1 :: some x2 :: List.replicate pad none := by
      unfold ent
      rw [hp, show 2 + pad - ([x1, x2] : List Value).length = pad from by simp only [List.length_cons, List.length_nil]; omega]
      rfl
    rw [e1]
    exact h.mono (fun v τ q => kk _ _ _ q)
  · exact h.elim

theorem N_cN2 (hb : M.2.1 = b) (ho : M.1.cls = own) {pad : Nat} (hp : M'.2.2.1 = 2 + pad) (hM : MOk M') (hw : NWords own idx M' 2) (hst : Cond.static M'.1 ∈ gtbl) (hd : decode b pc = .ok (.invokestatic idx, 3)) (kk : Ent G M (d + 1) (pc + 3) Q K) : Ent G M (d + 1) pc Q (o_cS2 G d M' pad K) := by
  intro ls stk σ h
  unfold o_cS2 at h
  split at h
  · rename_i x2 x1 r
    obtain ⟨hx1, hx2, hr, h⟩ := h
    refine E_callN (av := [x1, x2]) (rest := r) hb ho hM hw hst hd (fun v hv => by simp only [List.mem_cons, List.not_mem_nil, or_false] at hv; rcases hv with rfl | rfl <;> assumption) rfl (by omega) hr ?_
    have e1 : ent M' [x1, x2] = some x1 :: some x2 :: List.replicate pad none := by
      unfold ent
      rw [hp, show 2 + pad - ([x1, x2] : List Value).length = pad from by simp only [List.length_cons, List.length_nil]; omega]
      rfl
    rw [e1]
    exact h.mono (fun v τ q => kk _ _ _ q)
  · exact h.elim

def o_cS3 (G : Gp) (d : Nat) (M' : Mth) (pad : Nat) (K : Kt) (ls : Lc) (stk : List Value) (σ : Mem) : Prop := match stk with
  | x3 :: x2 :: x1 :: r => c1 x1 ∧ c1 x2 ∧ c1 x3 ∧ r.length ≤ 4 ∧ E G M' d 0 (some x1 :: some x2 :: some x3 :: List.replicate pad none) [] σ (fun v τ => K ls (pushv v r) τ)
  | _ => False

theorem N_cS3 (hb : M.2.1 = b) (ho : M.1.cls = own) {pad : Nat} (hp : M'.2.2.1 = 3 + pad) (hM : MOk M') (hw : CWords own idx M' 3) (hst : Cond.static M'.1 ∈ gtbl) (hd : decode b pc = .ok (.invokestatic idx, 3)) (kk : Ent G M (d + 1) (pc + 3) Q K) : Ent G M (d + 1) pc Q (o_cS3 G d M' pad K) := by
  intro ls stk σ h
  unfold o_cS3 at h
  split at h
  · rename_i x3 x2 x1 r
    obtain ⟨hx1, hx2, hx3, hr, h⟩ := h
    refine E_callS (av := [x1, x2, x3]) (rest := r) hb ho hM hw hst hd (fun v hv => by simp only [List.mem_cons, List.not_mem_nil, or_false] at hv; rcases hv with rfl | rfl | rfl <;> assumption) rfl (by omega) hr ?_
    have e1 : ent M' [x1, x2, x3] = some x1 :: some x2 :: some x3 :: List.replicate pad none := by
      unfold ent
      rw [hp, show 3 + pad - ([x1, x2, x3] : List Value).length = pad from by simp only [List.length_cons, List.length_nil]; omega]
      rfl
    rw [e1]
    exact h.mono (fun v τ q => kk _ _ _ q)
  · exact h.elim

theorem N_cN3 (hb : M.2.1 = b) (ho : M.1.cls = own) {pad : Nat} (hp : M'.2.2.1 = 3 + pad) (hM : MOk M') (hw : NWords own idx M' 3) (hst : Cond.static M'.1 ∈ gtbl) (hd : decode b pc = .ok (.invokestatic idx, 3)) (kk : Ent G M (d + 1) (pc + 3) Q K) : Ent G M (d + 1) pc Q (o_cS3 G d M' pad K) := by
  intro ls stk σ h
  unfold o_cS3 at h
  split at h
  · rename_i x3 x2 x1 r
    obtain ⟨hx1, hx2, hx3, hr, h⟩ := h
    refine E_callN (av := [x1, x2, x3]) (rest := r) hb ho hM hw hst hd (fun v hv => by simp only [List.mem_cons, List.not_mem_nil, or_false] at hv; rcases hv with rfl | rfl | rfl <;> assumption) rfl (by omega) hr ?_
    have e1 : ent M' [x1, x2, x3] = some x1 :: some x2 :: some x3 :: List.replicate pad none := by
      unfold ent
      rw [hp, show 3 + pad - ([x1, x2, x3] : List Value).length = pad from by simp only [List.length_cons, List.length_nil]; omega]
      rfl
    rw [e1]
    exact h.mono (fun v τ q => kk _ _ _ q)
  · exact h.elim

end CALLS
end
