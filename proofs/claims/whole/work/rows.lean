section
-- ===== PART A: goes FIRST, ahead of the names: the tables' words, and 'selects' of the private methods out of them =====
/-- a private method of a class that the tables say can be made, by its rows of tables_1 -/
def lw_okq (q : MethodName × Nat) : Prop := (q.1.cls ≠ "java/lang/invoke/MethodHandle" ∧ q.1.cls ≠ "java/lang/invoke/VarHandle") ∧ Cond.instantiable q.1.cls q.2 ∈ tables_1 ∧ Cond.privateMethod q.1 ∈ tables_1 ∧ Cond.instanceMethod q.1 ∈ tables_1
theorem lw_p0 : lw_okq (⟨"SlippedBlocks$Text", "takes", "(CLSlippedBlocks$Work;)Z"⟩, 4) := ⟨⟨by decide +kernel, by decide +kernel⟩, List.mem_of_getElem? (i := 90) (by decide +kernel), List.mem_of_getElem? (i := 242) (by decide +kernel), List.mem_of_getElem? (i := 243) (by decide +kernel)⟩
theorem lw_p1 : lw_okq (⟨"SlippedBlocks$Text", "endsItem", "(LSlippedBlocks$Work;)Z"⟩, 4) := ⟨⟨by decide +kernel, by decide +kernel⟩, List.mem_of_getElem? (i := 90) (by decide +kernel), List.mem_of_getElem? (i := 246) (by decide +kernel), List.mem_of_getElem? (i := 247) (by decide +kernel)⟩
theorem lw_p2 : lw_okq (⟨"SlippedBlocks$Text", "takesCell", "(ILSlippedBlocks$Work;)Z"⟩, 4) := ⟨⟨by decide +kernel, by decide +kernel⟩, List.mem_of_getElem? (i := 90) (by decide +kernel), List.mem_of_getElem? (i := 250) (by decide +kernel), List.mem_of_getElem? (i := 251) (by decide +kernel)⟩
theorem lw_p3 : lw_okq (⟨"SlippedBlocks$Text", "takesInk", "(ILSlippedBlocks$Work;)Z"⟩, 4) := ⟨⟨by decide +kernel, by decide +kernel⟩, List.mem_of_getElem? (i := 90) (by decide +kernel), List.mem_of_getElem? (i := 265) (by decide +kernel), List.mem_of_getElem? (i := 266) (by decide +kernel)⟩
theorem lw_p4 : lw_okq (⟨"SlippedBlocks$Text", "beginsItem", "(CLSlippedBlocks$Work;)Z"⟩, 4) := ⟨⟨by decide +kernel, by decide +kernel⟩, List.mem_of_getElem? (i := 90) (by decide +kernel), List.mem_of_getElem? (i := 273) (by decide +kernel), List.mem_of_getElem? (i := 274) (by decide +kernel)⟩
theorem lw_p5 : lw_okq (⟨"SlippedBlocks$Work", "addToBlocks", "(IJ)V"⟩, 9) := ⟨⟨by decide +kernel, by decide +kernel⟩, List.mem_of_getElem? (i := 22) (by decide +kernel), List.mem_of_getElem? (i := 352) (by decide +kernel), List.mem_of_getElem? (i := 353) (by decide +kernel)⟩
theorem lw_p6 : lw_okq (⟨"SlippedBlocks", "wrongCells", "(II)I"⟩, 9) := ⟨⟨by decide +kernel, by decide +kernel⟩, List.mem_of_getElem? (i := 14) (by decide +kernel), List.mem_of_getElem? (i := 389) (by decide +kernel), List.mem_of_getElem? (i := 390) (by decide +kernel)⟩
theorem lw_p7 : lw_okq (⟨"SlippedBlocks$RowSearch", "settle", "(III)V"⟩, 5) := ⟨⟨by decide +kernel, by decide +kernel⟩, List.mem_of_getElem? (i := 160) (by decide +kernel), List.mem_of_getElem? (i := 468) (by decide +kernel), List.mem_of_getElem? (i := 469) (by decide +kernel)⟩
theorem lw_p8 : lw_okq (⟨"SlippedBlocks$RowSearch", "earliestRow", "(III)I"⟩, 5) := ⟨⟨by decide +kernel, by decide +kernel⟩, List.mem_of_getElem? (i := 160) (by decide +kernel), List.mem_of_getElem? (i := 472) (by decide +kernel), List.mem_of_getElem? (i := 473) (by decide +kernel)⟩
theorem lw_p9 : lw_okq (⟨"SlippedBlocks$Sightings", "explains", "(LSlippedBlocks$Work;I)Z"⟩, 6) := ⟨⟨by decide +kernel, by decide +kernel⟩, List.mem_of_getElem? (i := 131) (by decide +kernel), List.mem_of_getElem? (i := 512) (by decide +kernel), List.mem_of_getElem? (i := 513) (by decide +kernel)⟩
theorem lw_p10 : lw_okq (⟨"SlippedBlocks$Sightings", "addToTally", "(LSlippedBlocks$Work;)V"⟩, 6) := ⟨⟨by decide +kernel, by decide +kernel⟩, List.mem_of_getElem? (i := 131) (by decide +kernel), List.mem_of_getElem? (i := 533) (by decide +kernel), List.mem_of_getElem? (i := 534) (by decide +kernel)⟩
theorem lw_p11 : lw_okq (⟨"SlippedBlocks$Sightings", "mostTellingCell", "(LSlippedBlocks$Work;)I"⟩, 6) := ⟨⟨by decide +kernel, by decide +kernel⟩, List.mem_of_getElem? (i := 131) (by decide +kernel), List.mem_of_getElem? (i := 537) (by decide +kernel), List.mem_of_getElem? (i := 538) (by decide +kernel)⟩
theorem lw_p12 : lw_okq (⟨"SlippedBlocks$Sightings", "greatestTally", "(I)I"⟩, 6) := ⟨⟨by decide +kernel, by decide +kernel⟩, List.mem_of_getElem? (i := 131) (by decide +kernel), List.mem_of_getElem? (i := 541) (by decide +kernel), List.mem_of_getElem? (i := 542) (by decide +kernel)⟩
theorem lw_p13 : lw_okq (⟨"SlippedBlocksModel", "readsText", "()I"⟩, 22) := ⟨⟨by decide +kernel, by decide +kernel⟩, List.mem_of_getElem? (i := 570) (by decide +kernel), List.mem_of_getElem? (i := 658) (by decide +kernel), List.mem_of_getElem? (i := 659) (by decide +kernel)⟩
theorem lw_p14 : lw_okq (⟨"SlippedBlocksModel", "advances", "()V"⟩, 22) := ⟨⟨by decide +kernel, by decide +kernel⟩, List.mem_of_getElem? (i := 570) (by decide +kernel), List.mem_of_getElem? (i := 662) (by decide +kernel), List.mem_of_getElem? (i := 663) (by decide +kernel)⟩
theorem lw_p15 : lw_okq (⟨"SlippedBlocksModel", "letterAt", "(I)I"⟩, 22) := ⟨⟨by decide +kernel, by decide +kernel⟩, List.mem_of_getElem? (i := 570) (by decide +kernel), List.mem_of_getElem? (i := 666) (by decide +kernel), List.mem_of_getElem? (i := 667) (by decide +kernel)⟩
def lw_privs_1 : List (MethodName × Nat) := [(⟨"SlippedBlocks$Text", "takes", "(CLSlippedBlocks$Work;)Z"⟩, 4), (⟨"SlippedBlocks$Text", "endsItem", "(LSlippedBlocks$Work;)Z"⟩, 4), (⟨"SlippedBlocks$Text", "takesCell", "(ILSlippedBlocks$Work;)Z"⟩, 4), (⟨"SlippedBlocks$Text", "takesInk", "(ILSlippedBlocks$Work;)Z"⟩, 4), (⟨"SlippedBlocks$Text", "beginsItem", "(CLSlippedBlocks$Work;)Z"⟩, 4), (⟨"SlippedBlocks$Work", "addToBlocks", "(IJ)V"⟩, 9), (⟨"SlippedBlocks", "wrongCells", "(II)I"⟩, 9), (⟨"SlippedBlocks$RowSearch", "settle", "(III)V"⟩, 5), (⟨"SlippedBlocks$RowSearch", "earliestRow", "(III)I"⟩, 5), (⟨"SlippedBlocks$Sightings", "explains", "(LSlippedBlocks$Work;I)Z"⟩, 6), (⟨"SlippedBlocks$Sightings", "addToTally", "(LSlippedBlocks$Work;)V"⟩, 6), (⟨"SlippedBlocks$Sightings", "mostTellingCell", "(LSlippedBlocks$Work;)I"⟩, 6), (⟨"SlippedBlocks$Sightings", "greatestTally", "(I)I"⟩, 6), (⟨"SlippedBlocksModel", "readsText", "()I"⟩, 22), (⟨"SlippedBlocksModel", "advances", "()V"⟩, 22), (⟨"SlippedBlocksModel", "letterAt", "(I)I"⟩, 22)]
theorem lw_r1 : ∀ q ∈ lw_privs_1, lw_okq q := List.forall_mem_cons.mpr ⟨lw_p0, List.forall_mem_cons.mpr ⟨lw_p1, List.forall_mem_cons.mpr ⟨lw_p2, List.forall_mem_cons.mpr ⟨lw_p3, List.forall_mem_cons.mpr ⟨lw_p4, List.forall_mem_cons.mpr ⟨lw_p5, List.forall_mem_cons.mpr ⟨lw_p6, List.forall_mem_cons.mpr ⟨lw_p7, List.forall_mem_cons.mpr ⟨lw_p8, List.forall_mem_cons.mpr ⟨lw_p9, List.forall_mem_cons.mpr ⟨lw_p10, List.forall_mem_cons.mpr ⟨lw_p11, List.forall_mem_cons.mpr ⟨lw_p12, List.forall_mem_cons.mpr ⟨lw_p13, List.forall_mem_cons.mpr ⟨lw_p14, List.forall_mem_cons.mpr ⟨lw_p15, fun _ h => absurd h List.not_mem_nil⟩⟩⟩⟩⟩⟩⟩⟩⟩⟩⟩⟩⟩⟩⟩⟩
theorem lw_p16 : lw_okq (⟨"SlippedBlocksModel", "isWell", "()Z"⟩, 22) := ⟨⟨by decide +kernel, by decide +kernel⟩, List.mem_of_getElem? (i := 570) (by decide +kernel), List.mem_of_getElem? (i := 670) (by decide +kernel), List.mem_of_getElem? (i := 671) (by decide +kernel)⟩
theorem lw_p17 : lw_okq (⟨"SlippedBlocksModel", "readsRow", "()V"⟩, 22) := ⟨⟨by decide +kernel, by decide +kernel⟩, List.mem_of_getElem? (i := 570) (by decide +kernel), List.mem_of_getElem? (i := 674) (by decide +kernel), List.mem_of_getElem? (i := 675) (by decide +kernel)⟩
theorem lw_p18 : lw_okq (⟨"SlippedBlocksModel", "takes", "(Z)I"⟩, 22) := ⟨⟨by decide +kernel, by decide +kernel⟩, List.mem_of_getElem? (i := 570) (by decide +kernel), List.mem_of_getElem? (i := 678) (by decide +kernel), List.mem_of_getElem? (i := 679) (by decide +kernel)⟩
theorem lw_p19 : lw_okq (⟨"SlippedBlocksModel", "readsInk", "(Z)V"⟩, 22) := ⟨⟨by decide +kernel, by decide +kernel⟩, List.mem_of_getElem? (i := 570) (by decide +kernel), List.mem_of_getElem? (i := 682) (by decide +kernel), List.mem_of_getElem? (i := 683) (by decide +kernel)⟩
theorem lw_p20 : lw_okq (⟨"SlippedBlocksModel", "notes", "()V"⟩, 22) := ⟨⟨by decide +kernel, by decide +kernel⟩, List.mem_of_getElem? (i := 570) (by decide +kernel), List.mem_of_getElem? (i := 686) (by decide +kernel), List.mem_of_getElem? (i := 687) (by decide +kernel)⟩
theorem lw_p21 : lw_okq (⟨"SlippedBlocksModel", "asOrdered", "()V"⟩, 22) := ⟨⟨by decide +kernel, by decide +kernel⟩, List.mem_of_getElem? (i := 570) (by decide +kernel), List.mem_of_getElem? (i := 694) (by decide +kernel), List.mem_of_getElem? (i := 695) (by decide +kernel)⟩
theorem lw_p22 : lw_okq (⟨"SlippedBlocksModel", "leastSet", "()I"⟩, 22) := ⟨⟨by decide +kernel, by decide +kernel⟩, List.mem_of_getElem? (i := 570) (by decide +kernel), List.mem_of_getElem? (i := 698) (by decide +kernel), List.mem_of_getElem? (i := 699) (by decide +kernel)⟩
theorem lw_p23 : lw_okq (⟨"SlippedBlocksModel", "mixes", "()V"⟩, 22) := ⟨⟨by decide +kernel, by decide +kernel⟩, List.mem_of_getElem? (i := 570) (by decide +kernel), List.mem_of_getElem? (i := 702) (by decide +kernel), List.mem_of_getElem? (i := 703) (by decide +kernel)⟩
theorem lw_p24 : lw_okq (⟨"SlippedBlocksModel", "wanted", "()I"⟩, 22) := ⟨⟨by decide +kernel, by decide +kernel⟩, List.mem_of_getElem? (i := 570) (by decide +kernel), List.mem_of_getElem? (i := 709) (by decide +kernel), List.mem_of_getElem? (i := 710) (by decide +kernel)⟩
theorem lw_p25 : lw_okq (⟨"SlippedBlocksModel", "partOf", "(II)I"⟩, 22) := ⟨⟨by decide +kernel, by decide +kernel⟩, List.mem_of_getElem? (i := 570) (by decide +kernel), List.mem_of_getElem? (i := 716) (by decide +kernel), List.mem_of_getElem? (i := 717) (by decide +kernel)⟩
theorem lw_p26 : lw_okq (⟨"SlippedBlocksModel", "isInk", "(I)Z"⟩, 22) := ⟨⟨by decide +kernel, by decide +kernel⟩, List.mem_of_getElem? (i := 570) (by decide +kernel), List.mem_of_getElem? (i := 724) (by decide +kernel), List.mem_of_getElem? (i := 725) (by decide +kernel)⟩
theorem lw_p27 : lw_okq (⟨"SlippedBlocksModel", "isCell", "(II)Z"⟩, 22) := ⟨⟨by decide +kernel, by decide +kernel⟩, List.mem_of_getElem? (i := 570) (by decide +kernel), List.mem_of_getElem? (i := 728) (by decide +kernel), List.mem_of_getElem? (i := 729) (by decide +kernel)⟩
theorem lw_p28 : lw_okq (⟨"SlippedBlocksModel", "placeOf", "(I)I"⟩, 22) := ⟨⟨by decide +kernel, by decide +kernel⟩, List.mem_of_getElem? (i := 570) (by decide +kernel), List.mem_of_getElem? (i := 740) (by decide +kernel), List.mem_of_getElem? (i := 741) (by decide +kernel)⟩
theorem lw_p29 : lw_okq (⟨"SlippedBlocksModel", "proves", "(III)V"⟩, 22) := ⟨⟨by decide +kernel, by decide +kernel⟩, List.mem_of_getElem? (i := 570) (by decide +kernel), List.mem_of_getElem? (i := 744) (by decide +kernel), List.mem_of_getElem? (i := 745) (by decide +kernel)⟩
theorem lw_p30 : lw_okq (⟨"SlippedBlocksModel", "prints", "(III)V"⟩, 22) := ⟨⟨by decide +kernel, by decide +kernel⟩, List.mem_of_getElem? (i := 570) (by decide +kernel), List.mem_of_getElem? (i := 748) (by decide +kernel), List.mem_of_getElem? (i := 749) (by decide +kernel)⟩
theorem lw_p31 : lw_okq (⟨"SlippedBlocksModel", "wrongCells", "()I"⟩, 22) := ⟨⟨by decide +kernel, by decide +kernel⟩, List.mem_of_getElem? (i := 570) (by decide +kernel), List.mem_of_getElem? (i := 752) (by decide +kernel), List.mem_of_getElem? (i := 753) (by decide +kernel)⟩
def lw_privs_2 : List (MethodName × Nat) := [(⟨"SlippedBlocksModel", "isWell", "()Z"⟩, 22), (⟨"SlippedBlocksModel", "readsRow", "()V"⟩, 22), (⟨"SlippedBlocksModel", "takes", "(Z)I"⟩, 22), (⟨"SlippedBlocksModel", "readsInk", "(Z)V"⟩, 22), (⟨"SlippedBlocksModel", "notes", "()V"⟩, 22), (⟨"SlippedBlocksModel", "asOrdered", "()V"⟩, 22), (⟨"SlippedBlocksModel", "leastSet", "()I"⟩, 22), (⟨"SlippedBlocksModel", "mixes", "()V"⟩, 22), (⟨"SlippedBlocksModel", "wanted", "()I"⟩, 22), (⟨"SlippedBlocksModel", "partOf", "(II)I"⟩, 22), (⟨"SlippedBlocksModel", "isInk", "(I)Z"⟩, 22), (⟨"SlippedBlocksModel", "isCell", "(II)Z"⟩, 22), (⟨"SlippedBlocksModel", "placeOf", "(I)I"⟩, 22), (⟨"SlippedBlocksModel", "proves", "(III)V"⟩, 22), (⟨"SlippedBlocksModel", "prints", "(III)V"⟩, 22), (⟨"SlippedBlocksModel", "wrongCells", "()I"⟩, 22)]
theorem lw_r2 : ∀ q ∈ lw_privs_2, lw_okq q := List.forall_mem_cons.mpr ⟨lw_p16, List.forall_mem_cons.mpr ⟨lw_p17, List.forall_mem_cons.mpr ⟨lw_p18, List.forall_mem_cons.mpr ⟨lw_p19, List.forall_mem_cons.mpr ⟨lw_p20, List.forall_mem_cons.mpr ⟨lw_p21, List.forall_mem_cons.mpr ⟨lw_p22, List.forall_mem_cons.mpr ⟨lw_p23, List.forall_mem_cons.mpr ⟨lw_p24, List.forall_mem_cons.mpr ⟨lw_p25, List.forall_mem_cons.mpr ⟨lw_p26, List.forall_mem_cons.mpr ⟨lw_p27, List.forall_mem_cons.mpr ⟨lw_p28, List.forall_mem_cons.mpr ⟨lw_p29, List.forall_mem_cons.mpr ⟨lw_p30, List.forall_mem_cons.mpr ⟨lw_p31, fun _ h => absurd h List.not_mem_nil⟩⟩⟩⟩⟩⟩⟩⟩⟩⟩⟩⟩⟩⟩⟩⟩
theorem lw_p32 : lw_okq (⟨"SlippedBlocksModel", "cellsOf", "(I)I"⟩, 22) := ⟨⟨by decide +kernel, by decide +kernel⟩, List.mem_of_getElem? (i := 570) (by decide +kernel), List.mem_of_getElem? (i := 769) (by decide +kernel), List.mem_of_getElem? (i := 770) (by decide +kernel)⟩
theorem lw_p33 : lw_okq (⟨"SlippedBlocksModel", "fewestByOrder", "()I"⟩, 22) := ⟨⟨by decide +kernel, by decide +kernel⟩, List.mem_of_getElem? (i := 570) (by decide +kernel), List.mem_of_getElem? (i := 785) (by decide +kernel), List.mem_of_getElem? (i := 786) (by decide +kernel)⟩
theorem lw_p34 : lw_okq (⟨"SlippedBlocksModel", "goesOn", "()Z"⟩, 22) := ⟨⟨by decide +kernel, by decide +kernel⟩, List.mem_of_getElem? (i := 570) (by decide +kernel), List.mem_of_getElem? (i := 789) (by decide +kernel), List.mem_of_getElem? (i := 790) (by decide +kernel)⟩
theorem lw_p35 : lw_okq (⟨"SlippedBlocksModel", "exchanges", "(II)V"⟩, 22) := ⟨⟨by decide +kernel, by decide +kernel⟩, List.mem_of_getElem? (i := 570) (by decide +kernel), List.mem_of_getElem? (i := 793) (by decide +kernel), List.mem_of_getElem? (i := 794) (by decide +kernel)⟩
theorem lw_p36 : lw_okq (⟨"SlippedBlocksModel", "tries", "(I)Z"⟩, 22) := ⟨⟨by decide +kernel, by decide +kernel⟩, List.mem_of_getElem? (i := 570) (by decide +kernel), List.mem_of_getElem? (i := 818) (by decide +kernel), List.mem_of_getElem? (i := 819) (by decide +kernel)⟩
theorem lw_p37 : lw_okq (⟨"SlippedBlocksModel", "isSeen", "()Z"⟩, 22) := ⟨⟨by decide +kernel, by decide +kernel⟩, List.mem_of_getElem? (i := 570) (by decide +kernel), List.mem_of_getElem? (i := 822) (by decide +kernel), List.mem_of_getElem? (i := 823) (by decide +kernel)⟩
theorem lw_p38 : lw_okq (⟨"SlippedBlocksModel", "cellsOfAll", "()I"⟩, 22) := ⟨⟨by decide +kernel, by decide +kernel⟩, List.mem_of_getElem? (i := 570) (by decide +kernel), List.mem_of_getElem? (i := 842) (by decide +kernel), List.mem_of_getElem? (i := 843) (by decide +kernel)⟩
theorem lw_p39 : lw_okq (⟨"SlippedBlocksModel", "slipped", "()I"⟩, 22) := ⟨⟨by decide +kernel, by decide +kernel⟩, List.mem_of_getElem? (i := 570) (by decide +kernel), List.mem_of_getElem? (i := 846) (by decide +kernel), List.mem_of_getElem? (i := 847) (by decide +kernel)⟩
def lw_privs_3 : List (MethodName × Nat) := [(⟨"SlippedBlocksModel", "cellsOf", "(I)I"⟩, 22), (⟨"SlippedBlocksModel", "fewestByOrder", "()I"⟩, 22), (⟨"SlippedBlocksModel", "goesOn", "()Z"⟩, 22), (⟨"SlippedBlocksModel", "exchanges", "(II)V"⟩, 22), (⟨"SlippedBlocksModel", "tries", "(I)Z"⟩, 22), (⟨"SlippedBlocksModel", "isSeen", "()Z"⟩, 22), (⟨"SlippedBlocksModel", "cellsOfAll", "()I"⟩, 22), (⟨"SlippedBlocksModel", "slipped", "()I"⟩, 22)]
theorem lw_r3 : ∀ q ∈ lw_privs_3, lw_okq q := List.forall_mem_cons.mpr ⟨lw_p32, List.forall_mem_cons.mpr ⟨lw_p33, List.forall_mem_cons.mpr ⟨lw_p34, List.forall_mem_cons.mpr ⟨lw_p35, List.forall_mem_cons.mpr ⟨lw_p36, List.forall_mem_cons.mpr ⟨lw_p37, List.forall_mem_cons.mpr ⟨lw_p38, List.forall_mem_cons.mpr ⟨lw_p39, fun _ h => absurd h List.not_mem_nil⟩⟩⟩⟩⟩⟩⟩⟩
def lw_privs : List (MethodName × Nat) := lw_privs_1 ++ (lw_privs_2 ++ (lw_privs_3))
def lw_tbl : List Cond := k2_sels lw_privs ++ tables_1
theorem lw_privs_ok : ∀ q ∈ lw_privs, lw_okq q := by
  show ∀ q ∈ lw_privs_1 ++ (lw_privs_2 ++ (lw_privs_3)), lw_okq q
  exact List.forall_mem_append.mpr ⟨lw_r1, List.forall_mem_append.mpr ⟨lw_r2, lw_r3⟩⟩
end
section
def RX0 : String := "SlippedBlocks$Past"
def TX0 : u_T := fun k => match k with
  | 0 => ("SlippedBlocks$Past", "works", "[LSlippedBlocks$Work;", true)
  | 1 => ("SlippedBlocks$Past", "next", "I", false)
  | _ => ("SlippedBlocks$Past", "many", "I", false)
def tyX0 : Nat → FieldType := fun k => match k with
  | 0 => .array (.object "SlippedBlocks$Work")
  | 1 => .int
  | _ => .int
abbrev wsX00 : List Cond := u_ws RX0 TX0 3
theorem nmX0 : ∀ a, a < 3 → ∀ b, b < 3 → a ≠ b → (TX0 a).2.1 ≠ (TX0 b).2.1 := by decide +kernel
theorem tyX0_ok : ∀ k, k < 3 → parseFieldDescriptor (TX0 k).2.2.1 = some (tyX0 k) := by decide +kernel
abbrev cX0_init : ByteArray := prog_2_method_1_code
def yX0_init : MethodName := ⟨RX0, "<init>", "()V"⟩
abbrev cX0_remember : ByteArray := prog_2_method_2_code
def yX0_remember : MethodName := ⟨RX0, "remember", "(LSlippedBlocks$Work;)V"⟩
abbrev cX0_restore : ByteArray := prog_2_method_3_code
def yX0_restore : MethodName := ⟨RX0, "restore", "(LSlippedBlocks$Work;)V"⟩
def RX1 : String := "SlippedBlocks$RowSearch"
def TX1 : u_T := fun k => match k with
  | 0 => ("SlippedBlocks$RowSearch", "shortRow", "[I", true)
  | 1 => ("SlippedBlocks$RowSearch", "palette", "I", false)
  | 2 => ("SlippedBlocks$RowSearch", "found", "Z", false)
  | 3 => ("SlippedBlocks$RowSearch", "fewest", "I", false)
  | _ => ("SlippedBlocks$RowSearch", "best", "I", false)
def tyX1 : Nat → FieldType := fun k => match k with
  | 0 => .array .int
  | 1 => .int
  | 2 => .boolean
  | 3 => .int
  | _ => .int
abbrev wsX10 : List Cond := u_ws RX1 TX1 5
theorem nmX1 : ∀ a, a < 5 → ∀ b, b < 5 → a ≠ b → (TX1 a).2.1 ≠ (TX1 b).2.1 := by decide +kernel
theorem tyX1_ok : ∀ k, k < 5 → parseFieldDescriptor (TX1 k).2.2.1 = some (tyX1 k) := by decide +kernel
abbrev cX1_init : ByteArray := prog_3_method_1_code
def yX1_init : MethodName := ⟨RX1, "<init>", "()V"⟩
abbrev cX1_run : ByteArray := prog_3_method_2_code
def yX1_run : MethodName := ⟨RX1, "run", "(LSlippedBlocks$Work;)V"⟩
abbrev cX1_inkAt : ByteArray := prog_3_method_3_code
def yX1_inkAt : MethodName := ⟨RX1, "inkAt", "(II)I"⟩
abbrev cX1_grow : ByteArray := prog_3_method_4_code
def yX1_grow : MethodName := ⟨RX1, "grow", "(LSlippedBlocks$RowSearch;LSlippedBlocks$Work;III)V"⟩
abbrev cX1_settle : ByteArray := prog_3_method_5_code
def yX1_settle : MethodName := ⟨RX1, "settle", "(III)V"⟩
abbrev cX1_earliestRow : ByteArray := prog_3_method_6_code
def yX1_earliestRow : MethodName := ⟨RX1, "earliestRow", "(III)I"⟩
def RX2 : String := "SlippedBlocks$Sheet"
def TX2 : u_T := fun k => match k with
  | 0 => ("SlippedBlocks$Sheet", "first", "J", false)
  | 1 => ("SlippedBlocks$Sheet", "second", "J", false)
  | _ => ("SlippedBlocks$Sheet", "third", "J", false)
def tyX2 : Nat → FieldType := fun k => match k with
  | 0 => .long
  | 1 => .long
  | _ => .long
abbrev wsX20 : List Cond := u_ws RX2 TX2 3
theorem nmX2 : ∀ a, a < 3 → ∀ b, b < 3 → a ≠ b → (TX2 a).2.1 ≠ (TX2 b).2.1 := by decide +kernel
theorem tyX2_ok : ∀ k, k < 3 → parseFieldDescriptor (TX2 k).2.2.1 = some (tyX2 k) := by decide +kernel
abbrev cX2_init : ByteArray := prog_4_method_1_code
def yX2_init : MethodName := ⟨RX2, "<init>", "()V"⟩
abbrev cX2_wipe : ByteArray := prog_4_method_2_code
def yX2_wipe : MethodName := ⟨RX2, "wipe", "()V"⟩
abbrev cX2_copy : ByteArray := prog_4_method_3_code
def yX2_copy : MethodName := ⟨RX2, "copy", "(LSlippedBlocks$Sheet;)V"⟩
abbrev cX2_print : ByteArray := prog_4_method_4_code
def yX2_print : MethodName := ⟨RX2, "print", "(JIZ)V"⟩
abbrev cX2_printed : ByteArray := prog_4_method_5_code
def yX2_printed : MethodName := ⟨RX2, "printed", "(JJZZ)J"⟩
abbrev cX2_at : ByteArray := prog_4_method_6_code
def yX2_at : MethodName := ⟨RX2, "at", "(II)I"⟩
abbrev cX2_cellsOf : ByteArray := prog_4_method_7_code
def yX2_cellsOf : MethodName := ⟨RX2, "cellsOf", "(I)J"⟩
abbrev cX2_unlike : ByteArray := prog_4_method_8_code
def yX2_unlike : MethodName := ⟨RX2, "unlike", "(LSlippedBlocks$Sheet;)J"⟩
def RX3 : String := "SlippedBlocks$Sightings"
def TX3 : u_T := fun k => match k with
  | 0 => ("SlippedBlocks$Sightings", "xs", "[I", true)
  | 1 => ("SlippedBlocks$Sightings", "ys", "[I", true)
  | 2 => ("SlippedBlocks$Sightings", "colours", "[I", true)
  | 3 => ("SlippedBlocks$Sightings", "many", "I", false)
  | 4 => ("SlippedBlocks$Sightings", "proof", "LSlippedBlocks$Sheet;", true)
  | _ => ("SlippedBlocks$Sightings", "tally", "[I", true)
def tyX3 : Nat → FieldType := fun k => match k with
  | 0 => .array .int
  | 1 => .array .int
  | 2 => .array .int
  | 3 => .int
  | 4 => .object "SlippedBlocks$Sheet"
  | _ => .array .int
abbrev wsX30 : List Cond := u_ws RX3 TX3 6
theorem nmX3 : ∀ a, a < 6 → ∀ b, b < 6 → a ≠ b → (TX3 a).2.1 ≠ (TX3 b).2.1 := by decide +kernel
theorem tyX3_ok : ∀ k, k < 6 → parseFieldDescriptor (TX3 k).2.2.1 = some (tyX3 k) := by decide +kernel
abbrev cX3_init : ByteArray := prog_5_method_1_code
def yX3_init : MethodName := ⟨RX3, "<init>", "()V"⟩
abbrev cX3_add : ByteArray := prog_5_method_2_code
def yX3_add : MethodName := ⟨RX3, "add", "(III)Z"⟩
abbrev cX3_howManyExplain : ByteArray := prog_5_method_3_code
def yX3_howManyExplain : MethodName := ⟨RX3, "howManyExplain", "(LSlippedBlocks$Work;)I"⟩
abbrev cX3_firstExplaining : ByteArray := prog_5_method_4_code
def yX3_firstExplaining : MethodName := ⟨RX3, "firstExplaining", "(LSlippedBlocks$Work;)I"⟩
abbrev cX3_explains : ByteArray := prog_5_method_5_code
def yX3_explains : MethodName := ⟨RX3, "explains", "(LSlippedBlocks$Work;I)Z"⟩
abbrev cX3_bestCell : ByteArray := prog_5_method_6_code
def yX3_bestCell : MethodName := ⟨RX3, "bestCell", "(LSlippedBlocks$Work;)I"⟩
abbrev cX3_addToTally : ByteArray := prog_5_method_7_code
def yX3_addToTally : MethodName := ⟨RX3, "addToTally", "(LSlippedBlocks$Work;)V"⟩
abbrev cX3_mostTellingCell : ByteArray := prog_5_method_8_code
def yX3_mostTellingCell : MethodName := ⟨RX3, "mostTellingCell", "(LSlippedBlocks$Work;)I"⟩
abbrev cX3_greatestTally : ByteArray := prog_5_method_9_code
def yX3_greatestTally : MethodName := ⟨RX3, "greatestTally", "(I)I"⟩
def RX4 : String := "SlippedBlocks$Text"
def TX4 : u_T := fun k => match k with
  | 0 => ("SlippedBlocks$Text", "letters", "[C", true)
  | 1 => ("SlippedBlocks$Text", "length", "I", false)
  | 2 => ("SlippedBlocks$Text", "item", "C", false)
  | _ => ("SlippedBlocks$Text", "figures", "I", false)
def tyX4 : Nat → FieldType := fun k => match k with
  | 0 => .array .char
  | 1 => .int
  | 2 => .char
  | _ => .int
abbrev wsX40 : List Cond := u_ws RX4 TX4 4
theorem nmX4 : ∀ a, a < 4 → ∀ b, b < 4 → a ≠ b → (TX4 a).2.1 ≠ (TX4 b).2.1 := by decide +kernel
theorem tyX4_ok : ∀ k, k < 4 → parseFieldDescriptor (TX4 k).2.2.1 = some (tyX4 k) := by decide +kernel
abbrev cX4_init : ByteArray := prog_6_method_1_code
def yX4_init : MethodName := ⟨RX4, "<init>", "()V"⟩
abbrev cX4_append : ByteArray := prog_6_method_2_code
def yX4_append : MethodName := ⟨RX4, "append", "(I)Z"⟩
abbrev cX4_readInto : ByteArray := prog_6_method_3_code
def yX4_readInto : MethodName := ⟨RX4, "readInto", "(LSlippedBlocks$Work;)I"⟩
abbrev cX4_takes : ByteArray := prog_6_method_4_code
def yX4_takes : MethodName := ⟨RX4, "takes", "(CLSlippedBlocks$Work;)Z"⟩
abbrev cX4_beginsItem : ByteArray := prog_6_method_5_code
def yX4_beginsItem : MethodName := ⟨RX4, "beginsItem", "(CLSlippedBlocks$Work;)Z"⟩
abbrev cX4_takesInk : ByteArray := prog_6_method_6_code
def yX4_takesInk : MethodName := ⟨RX4, "takesInk", "(ILSlippedBlocks$Work;)Z"⟩
abbrev cX4_takesCell : ByteArray := prog_6_method_7_code
def yX4_takesCell : MethodName := ⟨RX4, "takesCell", "(ILSlippedBlocks$Work;)Z"⟩
abbrev cX4_endsItem : ByteArray := prog_6_method_8_code
def yX4_endsItem : MethodName := ⟨RX4, "endsItem", "(LSlippedBlocks$Work;)Z"⟩
def RX5 : String := "SlippedBlocks$Work"
def TX5 : u_T := fun k => match k with
  | 0 => ("SlippedBlocks$Work", "width", "I", false)
  | 1 => ("SlippedBlocks$Work", "height", "I", false)
  | 2 => ("SlippedBlocks$Work", "inks", "I", false)
  | 3 => ("SlippedBlocks$Work", "denseInks", "I", false)
  | 4 => ("SlippedBlocks$Work", "picture", "LSlippedBlocks$Sheet;", true)
  | 5 => ("SlippedBlocks$Work", "colour", "[I", true)
  | 6 => ("SlippedBlocks$Work", "inkAtPlace", "[I", true)
  | 7 => ("SlippedBlocks$Work", "block", "[J", true)
  | _ => ("SlippedBlocks$Work", "slip", "[I", true)
def tyX5 : Nat → FieldType := fun k => match k with
  | 0 => .int
  | 1 => .int
  | 2 => .int
  | 3 => .int
  | 4 => .object "SlippedBlocks$Sheet"
  | 5 => .array .int
  | 6 => .array .int
  | 7 => .array .long
  | _ => .array .int
abbrev wsX50 : List Cond := u_ws RX5 TX5 9
theorem nmX5 : ∀ a, a < 9 → ∀ b, b < 9 → a ≠ b → (TX5 a).2.1 ≠ (TX5 b).2.1 := by decide +kernel
theorem tyX5_ok : ∀ k, k < 9 → parseFieldDescriptor (TX5 k).2.2.1 = some (tyX5 k) := by decide +kernel
abbrev cX5_init : ByteArray := prog_7_method_1_code
def yX5_init : MethodName := ⟨RX5, "<init>", "()V"⟩
abbrev cX5_copy : ByteArray := prog_7_method_2_code
def yX5_copy : MethodName := ⟨RX5, "copy", "(LSlippedBlocks$Work;)V"⟩
abbrev cX5_empty : ByteArray := prog_7_method_3_code
def yX5_empty : MethodName := ⟨RX5, "empty", "()V"⟩
abbrev cX5_addInk : ByteArray := prog_7_method_4_code
def yX5_addInk : MethodName := ⟨RX5, "addInk", "(IZ)V"⟩
abbrev cX5_hasInk : ByteArray := prog_7_method_5_code
def yX5_hasInk : MethodName := ⟨RX5, "hasInk", "(I)Z"⟩
abbrev cX5_hasCell : ByteArray := prog_7_method_6_code
def yX5_hasCell : MethodName := ⟨RX5, "hasCell", "(II)Z"⟩
abbrev cX5_isDense : ByteArray := prog_7_method_7_code
def yX5_isDense : MethodName := ⟨RX5, "isDense", "(I)Z"⟩
abbrev cX5_placeOf : ByteArray := prog_7_method_8_code
def yX5_placeOf : MethodName := ⟨RX5, "placeOf", "(I)I"⟩
abbrev cX5_exchange : ByteArray := prog_7_method_9_code
def yX5_exchange : MethodName := ⟨RX5, "exchange", "(II)V"⟩
abbrev cX5_inksOf : ByteArray := prog_7_method_10_code
def yX5_inksOf : MethodName := ⟨RX5, "inksOf", "(II)I"⟩
abbrev cX5_cellsOfBlocks : ByteArray := prog_7_method_11_code
def yX5_cellsOfBlocks : MethodName := ⟨RX5, "cellsOfBlocks", "()I"⟩
abbrev cX5_slippedBlocks : ByteArray := prog_7_method_12_code
def yX5_slippedBlocks : MethodName := ⟨RX5, "slippedBlocks", "()I"⟩
abbrev cX5_paper : ByteArray := prog_7_method_13_code
def yX5_paper : MethodName := ⟨RX5, "paper", "()J"⟩
abbrev cX5_proofInto : ByteArray := prog_7_method_14_code
def yX5_proofInto : MethodName := ⟨RX5, "proofInto", "(LSlippedBlocks$Sheet;II)V"⟩
abbrev cX5_palette : ByteArray := prog_7_method_15_code
def yX5_palette : MethodName := ⟨RX5, "palette", "()I"⟩
abbrev cX5_sets : ByteArray := prog_7_method_16_code
def yX5_sets : MethodName := ⟨RX5, "sets", "()I"⟩
abbrev cX5_coloursOver : ByteArray := prog_7_method_17_code
def yX5_coloursOver : MethodName := ⟨RX5, "coloursOver", "(II)I"⟩
abbrev cX5_coloursBy : ByteArray := prog_7_method_18_code
def yX5_coloursBy : MethodName := ⟨RX5, "coloursBy", "(I)I"⟩
abbrev cX5_leastSet : ByteArray := prog_7_method_19_code
def yX5_leastSet : MethodName := ⟨RX5, "leastSet", "()I"⟩
abbrev cX5_colourOfAll : ByteArray := prog_7_method_20_code
def yX5_colourOfAll : MethodName := ⟨RX5, "colourOfAll", "(I)I"⟩
abbrev cX5_firstSetGiving : ByteArray := prog_7_method_21_code
def yX5_firstSetGiving : MethodName := ⟨RX5, "firstSetGiving", "(II)I"⟩
abbrev cX5_cutFor : ByteArray := prog_7_method_22_code
def yX5_cutFor : MethodName := ⟨RX5, "cutFor", "(I)V"⟩
abbrev cX5_addToBlocks : ByteArray := prog_7_method_23_code
def yX5_addToBlocks : MethodName := ⟨RX5, "addToBlocks", "(IJ)V"⟩
def RX6 : String := "SlippedBlocks"
def TX6 : u_T := fun k => match k with
  | 0 => ("SlippedBlocks", "now", "LSlippedBlocks$Work;", true)
  | 1 => ("SlippedBlocks", "told", "LSlippedBlocks$Work;", true)
  | 2 => ("SlippedBlocks", "text", "LSlippedBlocks$Text;", true)
  | 3 => ("SlippedBlocks", "past", "LSlippedBlocks$Past;", true)
  | 4 => ("SlippedBlocks", "images", "[LSlippedBlocks$Work;", true)
  | 5 => ("SlippedBlocks", "kept", "[Z", true)
  | 6 => ("SlippedBlocks", "sightings", "LSlippedBlocks$Sightings;", true)
  | 7 => ("SlippedBlocks", "search", "LSlippedBlocks$RowSearch;", true)
  | _ => ("SlippedBlocks", "proof", "LSlippedBlocks$Sheet;", true)
def tyX6 : Nat → FieldType := fun k => match k with
  | 0 => .object "SlippedBlocks$Work"
  | 1 => .object "SlippedBlocks$Work"
  | 2 => .object "SlippedBlocks$Text"
  | 3 => .object "SlippedBlocks$Past"
  | 4 => .array (.object "SlippedBlocks$Work")
  | 5 => .array .boolean
  | 6 => .object "SlippedBlocks$Sightings"
  | 7 => .object "SlippedBlocks$RowSearch"
  | _ => .object "SlippedBlocks$Sheet"
abbrev wsX60 : List Cond := u_ws RX6 TX6 9
theorem nmX6 : ∀ a, a < 9 → ∀ b, b < 9 → a ≠ b → (TX6 a).2.1 ≠ (TX6 b).2.1 := by decide +kernel
theorem tyX6_ok : ∀ k, k < 9 → parseFieldDescriptor (TX6 k).2.2.1 = some (tyX6 k) := by decide +kernel
abbrev cX6_init : ByteArray := prog_1_method_1_code
def yX6_init : MethodName := ⟨RX6, "<init>", "()V"⟩
abbrev cX6_type : ByteArray := prog_1_method_2_code
def yX6_type : MethodName := ⟨RX6, "type", "(I)I"⟩
abbrev cX6_clear : ByteArray := prog_1_method_3_code
def yX6_clear : MethodName := ⟨RX6, "clear", "()I"⟩
abbrev cX6_tells : ByteArray := prog_1_method_4_code
def yX6_tells : MethodName := ⟨RX6, "tells", "()I"⟩
abbrev cX6_cuts : ByteArray := prog_1_method_5_code
def yX6_cuts : MethodName := ⟨RX6, "cuts", "()I"⟩
abbrev cX6_carves : ByteArray := prog_1_method_6_code
def yX6_carves : MethodName := ⟨RX6, "carves", "(III)I"⟩
abbrev cX6_slips : ByteArray := prog_1_method_7_code
def yX6_slips : MethodName := ⟨RX6, "slips", "(III)I"⟩
abbrev cX6_swaps : ByteArray := prog_1_method_8_code
def yX6_swaps : MethodName := ⟨RX6, "swaps", "(II)I"⟩
abbrev cX6_undo : ByteArray := prog_1_method_9_code
def yX6_undo : MethodName := ⟨RX6, "undo", "()I"⟩
abbrev cX6_cell : ByteArray := prog_1_method_10_code
def yX6_cell : MethodName := ⟨RX6, "cell", "(III)I"⟩
abbrev cX6_ink : ByteArray := prog_1_method_11_code
def yX6_ink : MethodName := ⟨RX6, "ink", "(II)I"⟩
abbrev cX6_made : ByteArray := prog_1_method_12_code
def yX6_made : MethodName := ⟨RX6, "made", "(I)I"⟩
abbrev cX6_least : ByteArray := prog_1_method_13_code
def yX6_least : MethodName := ⟨RX6, "least", "(I)I"⟩
abbrev cX6_order : ByteArray := prog_1_method_14_code
def yX6_order : MethodName := ⟨RX6, "order", "(I)I"⟩
abbrev cX6_wrong : ByteArray := prog_1_method_15_code
def yX6_wrong : MethodName := ⟨RX6, "wrong", "()I"⟩
abbrev cX6_hurt : ByteArray := prog_1_method_16_code
def yX6_hurt : MethodName := ⟨RX6, "hurt", "(I)I"⟩
abbrev cX6_sees : ByteArray := prog_1_method_17_code
def yX6_sees : MethodName := ⟨RX6, "sees", "(III)I"⟩
abbrev cX6_forget : ByteArray := prog_1_method_18_code
def yX6_forget : MethodName := ⟨RX6, "forget", "()I"⟩
abbrev cX6_which : ByteArray := prog_1_method_19_code
def yX6_which : MethodName := ⟨RX6, "which", "(I)I"⟩
abbrev cX6_ask : ByteArray := prog_1_method_20_code
def yX6_ask : MethodName := ⟨RX6, "ask", "()I"⟩
abbrev cX6_keep : ByteArray := prog_1_method_21_code
def yX6_keep : MethodName := ⟨RX6, "keep", "(I)I"⟩
abbrev cX6_back : ByteArray := prog_1_method_22_code
def yX6_back : MethodName := ⟨RX6, "back", "(I)I"⟩
abbrev cX6_count : ByteArray := prog_1_method_23_code
def yX6_count : MethodName := ⟨RX6, "count", "(I)I"⟩
abbrev cX6_wrongCells : ByteArray := prog_1_method_24_code
def yX6_wrongCells : MethodName := ⟨RX6, "wrongCells", "(II)I"⟩
abbrev cX6_onBoard : ByteArray := prog_1_method_25_code
def yX6_onBoard : MethodName := ⟨RX6, "onBoard", "(II)Z"⟩
abbrev cX6_cellBit : ByteArray := prog_1_method_26_code
def yX6_cellBit : MethodName := ⟨RX6, "cellBit", "(II)J"⟩
abbrev cX6_slipOf : ByteArray := prog_1_method_27_code
def yX6_slipOf : MethodName := ⟨RX6, "slipOf", "(II)I"⟩
abbrev cX6_dxOf : ByteArray := prog_1_method_28_code
def yX6_dxOf : MethodName := ⟨RX6, "dxOf", "(I)I"⟩
abbrev cX6_dyOf : ByteArray := prog_1_method_29_code
def yX6_dyOf : MethodName := ⟨RX6, "dyOf", "(I)I"⟩
abbrev cX6_slipped : ByteArray := prog_1_method_30_code
def yX6_slipped : MethodName := ⟨RX6, "slipped", "(JI)J"⟩
def RX7 : String := "SlippedBlocksModel"
def TX7 : u_T := fun k => match k with
  | 0 => ("SlippedBlocksModel", "thrown", "I", false)
  | 1 => ("SlippedBlocksModel", "s", "[I", true)
  | 2 => ("SlippedBlocksModel", "draft", "[I", true)
  | 3 => ("SlippedBlocksModel", "past", "[I", true)
  | 4 => ("SlippedBlocksModel", "undoMany", "I", false)
  | 5 => ("SlippedBlocksModel", "images", "[I", true)
  | 6 => ("SlippedBlocksModel", "isKept", "[Z", true)
  | 7 => ("SlippedBlocksModel", "text", "[I", true)
  | 8 => ("SlippedBlocksModel", "typed", "I", false)
  | 9 => ("SlippedBlocksModel", "seen", "[I", true)
  | 10 => ("SlippedBlocksModel", "seenMany", "I", false)
  | 11 => ("SlippedBlocksModel", "at", "I", false)
  | 12 => ("SlippedBlocksModel", "place", "I", false)
  | 13 => ("SlippedBlocksModel", "token", "I", false)
  | 14 => ("SlippedBlocksModel", "value", "I", false)
  | 15 => ("SlippedBlocksModel", "fault", "I", false)
  | 16 => ("SlippedBlocksModel", "proof", "[I", true)
  | 17 => ("SlippedBlocksModel", "order", "[I", true)
  | 18 => ("SlippedBlocksModel", "gives", "[I", true)
  | 19 => ("SlippedBlocksModel", "makes", "[I", true)
  | 20 => ("SlippedBlocksModel", "bestOrder", "[I", true)
  | _ => ("SlippedBlocksModel", "by", "[I", true)
def tyX7 : Nat → FieldType := fun k => match k with
  | 0 => .int
  | 1 => .array .int
  | 2 => .array .int
  | 3 => .array .int
  | 4 => .int
  | 5 => .array .int
  | 6 => .array .boolean
  | 7 => .array .int
  | 8 => .int
  | 9 => .array .int
  | 10 => .int
  | 11 => .int
  | 12 => .int
  | 13 => .int
  | 14 => .int
  | 15 => .int
  | 16 => .array .int
  | 17 => .array .int
  | 18 => .array .int
  | 19 => .array .int
  | 20 => .array .int
  | _ => .array .int
abbrev wsX70 : List Cond := u_ws RX7 TX7 22
theorem nmX7 : ∀ a, a < 22 → ∀ b, b < 22 → a ≠ b → (TX7 a).2.1 ≠ (TX7 b).2.1 := by decide +kernel
theorem tyX7_ok : ∀ k, k < 22 → parseFieldDescriptor (TX7 k).2.2.1 = some (tyX7 k) := by decide +kernel
abbrev cX7_init : ByteArray := prog_9_method_1_code
def yX7_init : MethodName := ⟨RX7, "<init>", "()V"⟩
abbrev cX7_in : ByteArray := prog_9_method_3_code
def yX7_in : MethodName := ⟨RX7, "in", "(III)Z"⟩
abbrev cX7_ones : ByteArray := prog_9_method_4_code
def yX7_ones : MethodName := ⟨RX7, "ones", "(I)I"⟩
abbrev cX7_letterAt : ByteArray := prog_9_method_5_code
def yX7_letterAt : MethodName := ⟨RX7, "letterAt", "(I)I"⟩
abbrev cX7_type : ByteArray := prog_9_method_6_code
def yX7_type : MethodName := ⟨RX7, "type", "(I)I"⟩
abbrev cX7_clear : ByteArray := prog_9_method_7_code
def yX7_clear : MethodName := ⟨RX7, "clear", "()I"⟩
abbrev cX7_advances : ByteArray := prog_9_method_8_code
def yX7_advances : MethodName := ⟨RX7, "advances", "()V"⟩
abbrev cX7_isWell : ByteArray := prog_9_method_9_code
def yX7_isWell : MethodName := ⟨RX7, "isWell", "()Z"⟩
abbrev cX7_takes : ByteArray := prog_9_method_10_code
def yX7_takes : MethodName := ⟨RX7, "takes", "(Z)I"⟩
abbrev cX7_readsInk : ByteArray := prog_9_method_11_code
def yX7_readsInk : MethodName := ⟨RX7, "readsInk", "(Z)V"⟩
abbrev cX7_readsRow : ByteArray := prog_9_method_12_code
def yX7_readsRow : MethodName := ⟨RX7, "readsRow", "()V"⟩
abbrev cX7_readsText : ByteArray := prog_9_method_13_code
def yX7_readsText : MethodName := ⟨RX7, "readsText", "()I"⟩
abbrev cX7_tells : ByteArray := prog_9_method_14_code
def yX7_tells : MethodName := ⟨RX7, "tells", "()I"⟩
abbrev cX7_printed : ByteArray := prog_9_method_15_code
def yX7_printed : MethodName := ⟨RX7, "printed", "(II)I"⟩
abbrev cX7_proves : ByteArray := prog_9_method_16_code
def yX7_proves : MethodName := ⟨RX7, "proves", "(III)V"⟩
abbrev cX7_prints : ByteArray := prog_9_method_17_code
def yX7_prints : MethodName := ⟨RX7, "prints", "(III)V"⟩
abbrev cX7_wrongCells : ByteArray := prog_9_method_18_code
def yX7_wrongCells : MethodName := ⟨RX7, "wrongCells", "()I"⟩
abbrev cX7_mixes : ByteArray := prog_9_method_19_code
def yX7_mixes : MethodName := ⟨RX7, "mixes", "()V"⟩
abbrev cX7_asOrdered : ByteArray := prog_9_method_20_code
def yX7_asOrdered : MethodName := ⟨RX7, "asOrdered", "()V"⟩
abbrev cX7_wanted : ByteArray := prog_9_method_21_code
def yX7_wanted : MethodName := ⟨RX7, "wanted", "()I"⟩
abbrev cX7_leastSet : ByteArray := prog_9_method_22_code
def yX7_leastSet : MethodName := ⟨RX7, "leastSet", "()I"⟩
abbrev cX7_notes : ByteArray := prog_9_method_23_code
def yX7_notes : MethodName := ⟨RX7, "notes", "()V"⟩
abbrev cX7_isInk : ByteArray := prog_9_method_24_code
def yX7_isInk : MethodName := ⟨RX7, "isInk", "(I)Z"⟩
abbrev cX7_isCell : ByteArray := prog_9_method_25_code
def yX7_isCell : MethodName := ⟨RX7, "isCell", "(II)Z"⟩
abbrev cX7_partOf : ByteArray := prog_9_method_26_code
def yX7_partOf : MethodName := ⟨RX7, "partOf", "(II)I"⟩
abbrev cX7_cuts : ByteArray := prog_9_method_27_code
def yX7_cuts : MethodName := ⟨RX7, "cuts", "()I"⟩
abbrev cX7_carves : ByteArray := prog_9_method_28_code
def yX7_carves : MethodName := ⟨RX7, "carves", "(III)I"⟩
abbrev cX7_slips : ByteArray := prog_9_method_29_code
def yX7_slips : MethodName := ⟨RX7, "slips", "(III)I"⟩
abbrev cX7_placeOf : ByteArray := prog_9_method_30_code
def yX7_placeOf : MethodName := ⟨RX7, "placeOf", "(I)I"⟩
abbrev cX7_swaps : ByteArray := prog_9_method_31_code
def yX7_swaps : MethodName := ⟨RX7, "swaps", "(II)I"⟩
abbrev cX7_undo : ByteArray := prog_9_method_32_code
def yX7_undo : MethodName := ⟨RX7, "undo", "()I"⟩
abbrev cX7_cell : ByteArray := prog_9_method_33_code
def yX7_cell : MethodName := ⟨RX7, "cell", "(III)I"⟩
abbrev cX7_cellsOf : ByteArray := prog_9_method_34_code
def yX7_cellsOf : MethodName := ⟨RX7, "cellsOf", "(I)I"⟩
abbrev cX7_ink : ByteArray := prog_9_method_35_code
def yX7_ink : MethodName := ⟨RX7, "ink", "(II)I"⟩
abbrev cX7_made : ByteArray := prog_9_method_36_code
def yX7_made : MethodName := ⟨RX7, "made", "(I)I"⟩
abbrev cX7_least : ByteArray := prog_9_method_37_code
def yX7_least : MethodName := ⟨RX7, "least", "(I)I"⟩
abbrev cX7_goesOn : ByteArray := prog_9_method_38_code
def yX7_goesOn : MethodName := ⟨RX7, "goesOn", "()Z"⟩
abbrev cX7_exchanges : ByteArray := prog_9_method_39_code
def yX7_exchanges : MethodName := ⟨RX7, "exchanges", "(II)V"⟩
abbrev cX7_fewestByOrder : ByteArray := prog_9_method_40_code
def yX7_fewestByOrder : MethodName := ⟨RX7, "fewestByOrder", "()I"⟩
abbrev cX7_order : ByteArray := prog_9_method_41_code
def yX7_order : MethodName := ⟨RX7, "order", "(I)I"⟩
abbrev cX7_wrong : ByteArray := prog_9_method_42_code
def yX7_wrong : MethodName := ⟨RX7, "wrong", "()I"⟩
abbrev cX7_hurt : ByteArray := prog_9_method_43_code
def yX7_hurt : MethodName := ⟨RX7, "hurt", "(I)I"⟩
abbrev cX7_sees : ByteArray := prog_9_method_44_code
def yX7_sees : MethodName := ⟨RX7, "sees", "(III)I"⟩
abbrev cX7_forget : ByteArray := prog_9_method_45_code
def yX7_forget : MethodName := ⟨RX7, "forget", "()I"⟩
abbrev cX7_tries : ByteArray := prog_9_method_46_code
def yX7_tries : MethodName := ⟨RX7, "tries", "(I)Z"⟩
abbrev cX7_isSeen : ByteArray := prog_9_method_47_code
def yX7_isSeen : MethodName := ⟨RX7, "isSeen", "()Z"⟩
abbrev cX7_which : ByteArray := prog_9_method_48_code
def yX7_which : MethodName := ⟨RX7, "which", "(I)I"⟩
abbrev cX7_ask : ByteArray := prog_9_method_49_code
def yX7_ask : MethodName := ⟨RX7, "ask", "()I"⟩
abbrev cX7_keep : ByteArray := prog_9_method_50_code
def yX7_keep : MethodName := ⟨RX7, "keep", "(I)I"⟩
abbrev cX7_back : ByteArray := prog_9_method_51_code
def yX7_back : MethodName := ⟨RX7, "back", "(I)I"⟩
abbrev cX7_cellsOfAll : ByteArray := prog_9_method_52_code
def yX7_cellsOfAll : MethodName := ⟨RX7, "cellsOfAll", "()I"⟩
abbrev cX7_slipped : ByteArray := prog_9_method_53_code
def yX7_slipped : MethodName := ⟨RX7, "slipped", "()I"⟩
abbrev cX7_count : ByteArray := prog_9_method_54_code
def yX7_count : MethodName := ⟨RX7, "count", "(I)I"⟩
def RJ6 : String := "java/lang/Integer"
abbrev cJ6_bitCount_0f7a4 : ByteArray := prog_10_method_49_code
def yJ6_bitCount_0f7a4 : MethodName := ⟨RJ6, "bitCount", "(I)I"⟩
def RJ13 : String := "java/lang/Long"
abbrev cJ13_bitCount_95d88 : ByteArray := prog_11_method_50_code
def yJ13_bitCount_95d88 : MethodName := ⟨RJ13, "bitCount", "(J)I"⟩
def RJ9 : String := "java/lang/Math"
abbrev cJ9_max_7cf53 : ByteArray := prog_12_method_65_code
def yJ9_max_7cf53 : MethodName := ⟨RJ9, "max", "(II)I"⟩
abbrev cJ9_min_7cf53 : ByteArray := prog_12_method_69_code
def yJ9_min_7cf53 : MethodName := ⟨RJ9, "min", "(II)I"⟩
def RJ10 : String := "java/lang/System"
def RL : String := "SlippedBlocksLaw"
abbrev cL_law : ByteArray := code
def yL_law : MethodName := ⟨RL, "law", "([I)Z"⟩
abbrev vwCl : List vw_C := [(RX0, TX0, 3), (RX1, TX1, 5), (RX2, TX2, 3), (RX3, TX3, 6), (RX4, TX4, 4), (RX5, TX5, 9), (RX6, TX6, 9), (RX7, TX7, 22)]
/-- the tables' words that may be handed on -/
def TG : List Cond := lw_tbl.filter goodWord
theorem tg {w : Cond} (k : Nat) (h : lw_tbl[k]? = some w) (hg : goodWord w = true) : w ∈ TG := List.mem_filter.mpr ⟨List.mem_of_getElem? h, hg⟩
theorem TG_in : ∀ w ∈ TG, w ∈ lw_tbl := fun _ h => (List.mem_filter.mp h).1
theorem TG_good : ∀ w ∈ TG, goodWord w = true := fun _ h => (List.mem_filter.mp h).2
theorem mT {w c : Cond} (h : w ∈ TG) : w ∈ c :: TG := List.mem_cons_of_mem _ h
theorem goodTG {big : List Cond} {c : Cond} (hb : ∀ w ∈ TG, w ∈ big) (hc : c ∈ TG) : GoodIn big (c :: TG) := fun w h => by
  rcases List.mem_cons.mp h with rfl | h
  · exact ⟨hb _ hc, good_of_word (TG_good _ hc)⟩
  · exact ⟨hb _ h, good_of_word (TG_good _ h)⟩
theorem goodV {big : List Cond} {c : Cond} {own C : String} {idx : Nat} {y : MethodName} (hb : ∀ w ∈ TG, w ∈ big) (hc : c ∈ TG) (h1 : Cond.methodLink own idx y ∈ TG) (h2 : Cond.instanceMethod y ∈ TG) (h3 : Cond.selects C y y ∈ TG) (h4 : Cond.initialized C ∈ TG) : GoodIn big (wsV own idx C y (c :: TG)) := fun w h => by
  rcases List.mem_append.mp h with h | h
  · simp only [List.mem_cons, List.mem_nil_iff, or_false] at h
    rcases h with rfl | rfl | rfl | rfl
    · exact ⟨hb _ h1, good_of_word (TG_good _ h1)⟩
    · exact ⟨hb _ h2, good_of_word (TG_good _ h2)⟩
    · exact ⟨hb _ h3, good_of_word (TG_good _ h3)⟩
    · exact ⟨hb _ h4, good_of_word (TG_good _ h4)⟩
  · exact goodTG hb hc w h
theorem goodS {big : List Cond} {c : Cond} {own : String} {idx : Nat} {y : MethodName} (hb : ∀ w ∈ TG, w ∈ big) (hc : c ∈ TG) (h1 : Cond.methodLink own idx y ∈ TG) (h2 : Cond.static y ∈ TG) (h3 : Cond.initialized y.cls ∈ TG) : GoodIn big (va_wsS own idx y (c :: TG)) := fun w h => by
  rcases List.mem_append.mp h with h | h
  · simp only [List.mem_cons, List.mem_nil_iff, or_false] at h
    rcases h with rfl | rfl | rfl
    · exact ⟨hb _ h1, good_of_word (TG_good _ h1)⟩
    · exact ⟨hb _ h2, good_of_word (TG_good _ h2)⟩
    · exact ⟨hb _ h3, good_of_word (TG_good _ h3)⟩
  · exact goodTG hb hc w h
theorem cT {c : Cond} : ∀ w ∈ TG, w ∈ c :: TG := fun _ h => List.mem_cons_of_mem _ h
set_option maxRecDepth 20000 in
theorem wd_0 : (Jvm.Cond.selects "SlippedBlocks$Text" ({ cls := "SlippedBlocks$Text", name := "takes", desc := "(CLSlippedBlocks$Work;)Z" } : Jvm.MethodName) ({ cls := "SlippedBlocks$Text", name := "takes", desc := "(CLSlippedBlocks$Work;)Z" } : Jvm.MethodName)) ∈ TG := tg 0 rfl rfl
set_option maxRecDepth 20000 in
theorem wd_1 : (Jvm.Cond.selects "SlippedBlocks$Text" ({ cls := "SlippedBlocks$Text", name := "endsItem", desc := "(LSlippedBlocks$Work;)Z" } : Jvm.MethodName) ({ cls := "SlippedBlocks$Text", name := "endsItem", desc := "(LSlippedBlocks$Work;)Z" } : Jvm.MethodName)) ∈ TG := tg 1 rfl rfl
set_option maxRecDepth 20000 in
theorem wd_2 : (Jvm.Cond.selects "SlippedBlocks$Text" ({ cls := "SlippedBlocks$Text", name := "takesCell", desc := "(ILSlippedBlocks$Work;)Z" } : Jvm.MethodName) ({ cls := "SlippedBlocks$Text", name := "takesCell", desc := "(ILSlippedBlocks$Work;)Z" } : Jvm.MethodName)) ∈ TG := tg 2 rfl rfl
set_option maxRecDepth 20000 in
theorem wd_3 : (Jvm.Cond.selects "SlippedBlocks$Text" ({ cls := "SlippedBlocks$Text", name := "takesInk", desc := "(ILSlippedBlocks$Work;)Z" } : Jvm.MethodName) ({ cls := "SlippedBlocks$Text", name := "takesInk", desc := "(ILSlippedBlocks$Work;)Z" } : Jvm.MethodName)) ∈ TG := tg 3 rfl rfl
set_option maxRecDepth 20000 in
theorem wd_4 : (Jvm.Cond.selects "SlippedBlocks$Text" ({ cls := "SlippedBlocks$Text", name := "beginsItem", desc := "(CLSlippedBlocks$Work;)Z" } : Jvm.MethodName) ({ cls := "SlippedBlocks$Text", name := "beginsItem", desc := "(CLSlippedBlocks$Work;)Z" } : Jvm.MethodName)) ∈ TG := tg 4 rfl rfl
set_option maxRecDepth 20000 in
theorem wd_5 : (Jvm.Cond.selects "SlippedBlocks$Work" ({ cls := "SlippedBlocks$Work", name := "addToBlocks", desc := "(IJ)V" } : Jvm.MethodName) ({ cls := "SlippedBlocks$Work", name := "addToBlocks", desc := "(IJ)V" } : Jvm.MethodName)) ∈ TG := tg 5 rfl rfl
set_option maxRecDepth 20000 in
theorem wd_6 : (Jvm.Cond.selects "SlippedBlocks" ({ cls := "SlippedBlocks", name := "wrongCells", desc := "(II)I" } : Jvm.MethodName) ({ cls := "SlippedBlocks", name := "wrongCells", desc := "(II)I" } : Jvm.MethodName)) ∈ TG := tg 6 rfl rfl
set_option maxRecDepth 20000 in
theorem wd_7 : (Jvm.Cond.selects "SlippedBlocks$RowSearch" ({ cls := "SlippedBlocks$RowSearch", name := "settle", desc := "(III)V" } : Jvm.MethodName) ({ cls := "SlippedBlocks$RowSearch", name := "settle", desc := "(III)V" } : Jvm.MethodName)) ∈ TG := tg 7 rfl rfl
set_option maxRecDepth 20000 in
theorem wd_8 : (Jvm.Cond.selects "SlippedBlocks$RowSearch" ({ cls := "SlippedBlocks$RowSearch", name := "earliestRow", desc := "(III)I" } : Jvm.MethodName) ({ cls := "SlippedBlocks$RowSearch", name := "earliestRow", desc := "(III)I" } : Jvm.MethodName)) ∈ TG := tg 8 rfl rfl
set_option maxRecDepth 20000 in
theorem wd_9 : (Jvm.Cond.selects "SlippedBlocks$Sightings" ({ cls := "SlippedBlocks$Sightings", name := "explains", desc := "(LSlippedBlocks$Work;I)Z" } : Jvm.MethodName) ({ cls := "SlippedBlocks$Sightings", name := "explains", desc := "(LSlippedBlocks$Work;I)Z" } : Jvm.MethodName)) ∈ TG := tg 9 rfl rfl
set_option maxRecDepth 20000 in
theorem wd_10 : (Jvm.Cond.selects "SlippedBlocks$Sightings" ({ cls := "SlippedBlocks$Sightings", name := "addToTally", desc := "(LSlippedBlocks$Work;)V" } : Jvm.MethodName) ({ cls := "SlippedBlocks$Sightings", name := "addToTally", desc := "(LSlippedBlocks$Work;)V" } : Jvm.MethodName)) ∈ TG := tg 10 rfl rfl
set_option maxRecDepth 20000 in
theorem wd_11 : (Jvm.Cond.selects "SlippedBlocks$Sightings" ({ cls := "SlippedBlocks$Sightings", name := "mostTellingCell", desc := "(LSlippedBlocks$Work;)I" } : Jvm.MethodName) ({ cls := "SlippedBlocks$Sightings", name := "mostTellingCell", desc := "(LSlippedBlocks$Work;)I" } : Jvm.MethodName)) ∈ TG := tg 11 rfl rfl
set_option maxRecDepth 20000 in
theorem wd_12 : (Jvm.Cond.selects "SlippedBlocks$Sightings" ({ cls := "SlippedBlocks$Sightings", name := "greatestTally", desc := "(I)I" } : Jvm.MethodName) ({ cls := "SlippedBlocks$Sightings", name := "greatestTally", desc := "(I)I" } : Jvm.MethodName)) ∈ TG := tg 12 rfl rfl
set_option maxRecDepth 20000 in
theorem wd_13 : (Jvm.Cond.selects "SlippedBlocksModel" ({ cls := "SlippedBlocksModel", name := "readsText", desc := "()I" } : Jvm.MethodName) ({ cls := "SlippedBlocksModel", name := "readsText", desc := "()I" } : Jvm.MethodName)) ∈ TG := tg 13 rfl rfl
set_option maxRecDepth 20000 in
theorem wd_14 : (Jvm.Cond.selects "SlippedBlocksModel" ({ cls := "SlippedBlocksModel", name := "advances", desc := "()V" } : Jvm.MethodName) ({ cls := "SlippedBlocksModel", name := "advances", desc := "()V" } : Jvm.MethodName)) ∈ TG := tg 14 rfl rfl
set_option maxRecDepth 20000 in
theorem wd_15 : (Jvm.Cond.selects "SlippedBlocksModel" ({ cls := "SlippedBlocksModel", name := "letterAt", desc := "(I)I" } : Jvm.MethodName) ({ cls := "SlippedBlocksModel", name := "letterAt", desc := "(I)I" } : Jvm.MethodName)) ∈ TG := tg 15 rfl rfl
set_option maxRecDepth 20000 in
theorem wd_16 : (Jvm.Cond.selects "SlippedBlocksModel" ({ cls := "SlippedBlocksModel", name := "isWell", desc := "()Z" } : Jvm.MethodName) ({ cls := "SlippedBlocksModel", name := "isWell", desc := "()Z" } : Jvm.MethodName)) ∈ TG := tg 16 rfl rfl
set_option maxRecDepth 20000 in
theorem wd_17 : (Jvm.Cond.selects "SlippedBlocksModel" ({ cls := "SlippedBlocksModel", name := "readsRow", desc := "()V" } : Jvm.MethodName) ({ cls := "SlippedBlocksModel", name := "readsRow", desc := "()V" } : Jvm.MethodName)) ∈ TG := tg 17 rfl rfl
set_option maxRecDepth 20000 in
theorem wd_18 : (Jvm.Cond.selects "SlippedBlocksModel" ({ cls := "SlippedBlocksModel", name := "takes", desc := "(Z)I" } : Jvm.MethodName) ({ cls := "SlippedBlocksModel", name := "takes", desc := "(Z)I" } : Jvm.MethodName)) ∈ TG := tg 18 rfl rfl
set_option maxRecDepth 20000 in
theorem wd_19 : (Jvm.Cond.selects "SlippedBlocksModel" ({ cls := "SlippedBlocksModel", name := "readsInk", desc := "(Z)V" } : Jvm.MethodName) ({ cls := "SlippedBlocksModel", name := "readsInk", desc := "(Z)V" } : Jvm.MethodName)) ∈ TG := tg 19 rfl rfl
set_option maxRecDepth 20000 in
theorem wd_20 : (Jvm.Cond.selects "SlippedBlocksModel" ({ cls := "SlippedBlocksModel", name := "notes", desc := "()V" } : Jvm.MethodName) ({ cls := "SlippedBlocksModel", name := "notes", desc := "()V" } : Jvm.MethodName)) ∈ TG := tg 20 rfl rfl
set_option maxRecDepth 20000 in
theorem wd_21 : (Jvm.Cond.selects "SlippedBlocksModel" ({ cls := "SlippedBlocksModel", name := "asOrdered", desc := "()V" } : Jvm.MethodName) ({ cls := "SlippedBlocksModel", name := "asOrdered", desc := "()V" } : Jvm.MethodName)) ∈ TG := tg 21 rfl rfl
set_option maxRecDepth 20000 in
theorem wd_22 : (Jvm.Cond.selects "SlippedBlocksModel" ({ cls := "SlippedBlocksModel", name := "leastSet", desc := "()I" } : Jvm.MethodName) ({ cls := "SlippedBlocksModel", name := "leastSet", desc := "()I" } : Jvm.MethodName)) ∈ TG := tg 22 rfl rfl
set_option maxRecDepth 20000 in
theorem wd_23 : (Jvm.Cond.selects "SlippedBlocksModel" ({ cls := "SlippedBlocksModel", name := "mixes", desc := "()V" } : Jvm.MethodName) ({ cls := "SlippedBlocksModel", name := "mixes", desc := "()V" } : Jvm.MethodName)) ∈ TG := tg 23 rfl rfl
set_option maxRecDepth 20000 in
theorem wd_24 : (Jvm.Cond.selects "SlippedBlocksModel" ({ cls := "SlippedBlocksModel", name := "wanted", desc := "()I" } : Jvm.MethodName) ({ cls := "SlippedBlocksModel", name := "wanted", desc := "()I" } : Jvm.MethodName)) ∈ TG := tg 24 rfl rfl
set_option maxRecDepth 20000 in
theorem wd_25 : (Jvm.Cond.selects "SlippedBlocksModel" ({ cls := "SlippedBlocksModel", name := "partOf", desc := "(II)I" } : Jvm.MethodName) ({ cls := "SlippedBlocksModel", name := "partOf", desc := "(II)I" } : Jvm.MethodName)) ∈ TG := tg 25 rfl rfl
set_option maxRecDepth 20000 in
theorem wd_26 : (Jvm.Cond.selects "SlippedBlocksModel" ({ cls := "SlippedBlocksModel", name := "isInk", desc := "(I)Z" } : Jvm.MethodName) ({ cls := "SlippedBlocksModel", name := "isInk", desc := "(I)Z" } : Jvm.MethodName)) ∈ TG := tg 26 rfl rfl
set_option maxRecDepth 20000 in
theorem wd_27 : (Jvm.Cond.selects "SlippedBlocksModel" ({ cls := "SlippedBlocksModel", name := "isCell", desc := "(II)Z" } : Jvm.MethodName) ({ cls := "SlippedBlocksModel", name := "isCell", desc := "(II)Z" } : Jvm.MethodName)) ∈ TG := tg 27 rfl rfl
set_option maxRecDepth 20000 in
theorem wd_28 : (Jvm.Cond.selects "SlippedBlocksModel" ({ cls := "SlippedBlocksModel", name := "placeOf", desc := "(I)I" } : Jvm.MethodName) ({ cls := "SlippedBlocksModel", name := "placeOf", desc := "(I)I" } : Jvm.MethodName)) ∈ TG := tg 28 rfl rfl
set_option maxRecDepth 20000 in
theorem wd_29 : (Jvm.Cond.selects "SlippedBlocksModel" ({ cls := "SlippedBlocksModel", name := "proves", desc := "(III)V" } : Jvm.MethodName) ({ cls := "SlippedBlocksModel", name := "proves", desc := "(III)V" } : Jvm.MethodName)) ∈ TG := tg 29 rfl rfl
set_option maxRecDepth 20000 in
theorem wd_30 : (Jvm.Cond.selects "SlippedBlocksModel" ({ cls := "SlippedBlocksModel", name := "prints", desc := "(III)V" } : Jvm.MethodName) ({ cls := "SlippedBlocksModel", name := "prints", desc := "(III)V" } : Jvm.MethodName)) ∈ TG := tg 30 rfl rfl
set_option maxRecDepth 20000 in
theorem wd_31 : (Jvm.Cond.selects "SlippedBlocksModel" ({ cls := "SlippedBlocksModel", name := "wrongCells", desc := "()I" } : Jvm.MethodName) ({ cls := "SlippedBlocksModel", name := "wrongCells", desc := "()I" } : Jvm.MethodName)) ∈ TG := tg 31 rfl rfl
set_option maxRecDepth 20000 in
theorem wd_32 : (Jvm.Cond.selects "SlippedBlocksModel" ({ cls := "SlippedBlocksModel", name := "cellsOf", desc := "(I)I" } : Jvm.MethodName) ({ cls := "SlippedBlocksModel", name := "cellsOf", desc := "(I)I" } : Jvm.MethodName)) ∈ TG := tg 32 rfl rfl
set_option maxRecDepth 20000 in
theorem wd_33 : (Jvm.Cond.selects "SlippedBlocksModel" ({ cls := "SlippedBlocksModel", name := "fewestByOrder", desc := "()I" } : Jvm.MethodName) ({ cls := "SlippedBlocksModel", name := "fewestByOrder", desc := "()I" } : Jvm.MethodName)) ∈ TG := tg 33 rfl rfl
set_option maxRecDepth 20000 in
theorem wd_34 : (Jvm.Cond.selects "SlippedBlocksModel" ({ cls := "SlippedBlocksModel", name := "goesOn", desc := "()Z" } : Jvm.MethodName) ({ cls := "SlippedBlocksModel", name := "goesOn", desc := "()Z" } : Jvm.MethodName)) ∈ TG := tg 34 rfl rfl
set_option maxRecDepth 20000 in
theorem wd_35 : (Jvm.Cond.selects "SlippedBlocksModel" ({ cls := "SlippedBlocksModel", name := "exchanges", desc := "(II)V" } : Jvm.MethodName) ({ cls := "SlippedBlocksModel", name := "exchanges", desc := "(II)V" } : Jvm.MethodName)) ∈ TG := tg 35 rfl rfl
set_option maxRecDepth 20000 in
theorem wd_36 : (Jvm.Cond.selects "SlippedBlocksModel" ({ cls := "SlippedBlocksModel", name := "tries", desc := "(I)Z" } : Jvm.MethodName) ({ cls := "SlippedBlocksModel", name := "tries", desc := "(I)Z" } : Jvm.MethodName)) ∈ TG := tg 36 rfl rfl
set_option maxRecDepth 20000 in
theorem wd_37 : (Jvm.Cond.selects "SlippedBlocksModel" ({ cls := "SlippedBlocksModel", name := "isSeen", desc := "()Z" } : Jvm.MethodName) ({ cls := "SlippedBlocksModel", name := "isSeen", desc := "()Z" } : Jvm.MethodName)) ∈ TG := tg 37 rfl rfl
set_option maxRecDepth 20000 in
theorem wd_38 : (Jvm.Cond.selects "SlippedBlocksModel" ({ cls := "SlippedBlocksModel", name := "cellsOfAll", desc := "()I" } : Jvm.MethodName) ({ cls := "SlippedBlocksModel", name := "cellsOfAll", desc := "()I" } : Jvm.MethodName)) ∈ TG := tg 38 rfl rfl
set_option maxRecDepth 20000 in
theorem wd_39 : (Jvm.Cond.selects "SlippedBlocksModel" ({ cls := "SlippedBlocksModel", name := "slipped", desc := "()I" } : Jvm.MethodName) ({ cls := "SlippedBlocksModel", name := "slipped", desc := "()I" } : Jvm.MethodName)) ∈ TG := tg 39 rfl rfl
set_option maxRecDepth 20000 in
theorem wd_40 : (Jvm.Cond.initialized "SlippedBlocksLaw") ∈ TG := tg 40 rfl rfl
set_option maxRecDepth 20000 in
theorem wd_41 : (Jvm.Cond.initialized "SlippedBlocks") ∈ TG := tg 41 rfl rfl
set_option maxRecDepth 20000 in
theorem wd_42 : (Jvm.Cond.initialized "SlippedBlocks$Work") ∈ TG := tg 42 rfl rfl
set_option maxRecDepth 20000 in
theorem wd_43 : (Jvm.Cond.initialized "SlippedBlocks$Sheet") ∈ TG := tg 43 rfl rfl
set_option maxRecDepth 20000 in
theorem wd_44 : (Jvm.Cond.initialized "SlippedBlocks$Text") ∈ TG := tg 44 rfl rfl
set_option maxRecDepth 20000 in
theorem wd_45 : (Jvm.Cond.initialized "SlippedBlocks$Past") ∈ TG := tg 45 rfl rfl
set_option maxRecDepth 20000 in
theorem wd_46 : (Jvm.Cond.initialized "SlippedBlocks$Sightings") ∈ TG := tg 46 rfl rfl
set_option maxRecDepth 20000 in
theorem wd_47 : (Jvm.Cond.initialized "SlippedBlocks$RowSearch") ∈ TG := tg 47 rfl rfl
set_option maxRecDepth 20000 in
theorem wd_48 : (Jvm.Cond.initialized "SlippedBlocksModel") ∈ TG := tg 48 rfl rfl
set_option maxRecDepth 20000 in
theorem wd_49 : (Jvm.Cond.initialized "java/lang/System") ∈ TG := tg 49 rfl rfl
set_option maxRecDepth 20000 in
theorem wd_50 : (Jvm.Cond.initialized "java/lang/Math") ∈ TG := tg 50 rfl rfl
set_option maxRecDepth 20000 in
theorem wd_51 : (Jvm.Cond.initialized "java/lang/Integer") ∈ TG := tg 51 rfl rfl
set_option maxRecDepth 20000 in
theorem wd_52 : (Jvm.Cond.initialized "java/lang/Long") ∈ TG := tg 52 rfl rfl
set_option maxRecDepth 20000 in
theorem wd_53 : (Jvm.Cond.classLink "SlippedBlocksLaw" (7 : Nat) "SlippedBlocks") ∈ TG := tg 53 rfl rfl
set_option maxRecDepth 20000 in
theorem wd_54 : (Jvm.Cond.instantiable "SlippedBlocks" (9 : Nat)) ∈ TG := tg 54 rfl rfl
set_option maxRecDepth 20000 in
theorem wd_55 : (Jvm.Cond.methodLink "SlippedBlocksLaw" (9 : Nat) ({ cls := "SlippedBlocks", name := "<init>", desc := "()V" } : Jvm.MethodName)) ∈ TG := tg 55 rfl rfl
set_option maxRecDepth 20000 in
theorem wd_56 : (Jvm.Cond.instanceMethod ({ cls := "SlippedBlocks", name := "<init>", desc := "()V" } : Jvm.MethodName)) ∈ TG := tg 56 rfl rfl
set_option maxRecDepth 20000 in
theorem wd_57 : (Jvm.Cond.code ({ cls := "SlippedBlocks", name := "<init>", desc := "()V" } : Jvm.MethodName) prog_1_method_1_code (2 : Nat) (Option.none : Option Jvm.ClassFile.FieldType)) ∈ TG := tg 57 rfl rfl
set_option maxRecDepth 20000 in
theorem wd_58 : (Jvm.Cond.methodLink "SlippedBlocks" (1 : Nat) ({ cls := "java/lang/Object", name := "<init>", desc := "()V" } : Jvm.MethodName)) ∈ TG := tg 58 rfl rfl
set_option maxRecDepth 20000 in
theorem wd_59 : (Jvm.Cond.instanceMethod ({ cls := "java/lang/Object", name := "<init>", desc := "()V" } : Jvm.MethodName)) ∈ TG := tg 59 rfl rfl
set_option maxRecDepth 20000 in
theorem wd_60 : (Jvm.Cond.code ({ cls := "java/lang/Object", name := "<init>", desc := "()V" } : Jvm.MethodName) object_method_1_code (1 : Nat) (Option.none : Option Jvm.ClassFile.FieldType)) ∈ TG := tg 60 rfl rfl
set_option maxRecDepth 20000 in
theorem wd_61 : (Jvm.Cond.classLink "SlippedBlocks" (7 : Nat) "SlippedBlocks$Work") ∈ TG := tg 61 rfl rfl
set_option maxRecDepth 20000 in
theorem wd_62 : (Jvm.Cond.instantiable "SlippedBlocks$Work" (9 : Nat)) ∈ TG := tg 62 rfl rfl
set_option maxRecDepth 20000 in
theorem wd_64 : (Jvm.Cond.instanceMethod ({ cls := "SlippedBlocks$Work", name := "<init>", desc := "()V" } : Jvm.MethodName)) ∈ TG := tg 64 rfl rfl
set_option maxRecDepth 20000 in
theorem wd_65 : (Jvm.Cond.code ({ cls := "SlippedBlocks$Work", name := "<init>", desc := "()V" } : Jvm.MethodName) prog_7_method_1_code (1 : Nat) (Option.none : Option Jvm.ClassFile.FieldType)) ∈ TG := tg 65 rfl rfl
set_option maxRecDepth 20000 in
theorem wd_66 : (Jvm.Cond.methodLink "SlippedBlocks$Work" (3 : Nat) ({ cls := "java/lang/Object", name := "<init>", desc := "()V" } : Jvm.MethodName)) ∈ TG := tg 66 rfl rfl
set_option maxRecDepth 20000 in
theorem wd_67 : (Jvm.Cond.classLink "SlippedBlocks$Work" (24 : Nat) "SlippedBlocks$Sheet") ∈ TG := tg 67 rfl rfl
set_option maxRecDepth 20000 in
theorem wd_68 : (Jvm.Cond.instantiable "SlippedBlocks$Sheet" (3 : Nat)) ∈ TG := tg 68 rfl rfl
set_option maxRecDepth 20000 in
theorem wd_70 : (Jvm.Cond.instanceMethod ({ cls := "SlippedBlocks$Sheet", name := "<init>", desc := "()V" } : Jvm.MethodName)) ∈ TG := tg 70 rfl rfl
set_option maxRecDepth 20000 in
theorem wd_71 : (Jvm.Cond.code ({ cls := "SlippedBlocks$Sheet", name := "<init>", desc := "()V" } : Jvm.MethodName) prog_4_method_1_code (1 : Nat) (Option.none : Option Jvm.ClassFile.FieldType)) ∈ TG := tg 71 rfl rfl
set_option maxRecDepth 20000 in
theorem wd_72 : (Jvm.Cond.methodLink "SlippedBlocks$Sheet" (1 : Nat) ({ cls := "java/lang/Object", name := "<init>", desc := "()V" } : Jvm.MethodName)) ∈ TG := tg 72 rfl rfl
set_option maxRecDepth 20000 in
theorem wd_73 : (Jvm.Cond.fieldLink "SlippedBlocks$Sheet" (7 : Nat) "SlippedBlocks$Sheet" "first" "J") ∈ TG := tg 73 rfl rfl
set_option maxRecDepth 20000 in
theorem wd_74 : (Jvm.Cond.fieldLink "SlippedBlocks$Sheet" (13 : Nat) "SlippedBlocks$Sheet" "second" "J") ∈ TG := tg 74 rfl rfl
set_option maxRecDepth 20000 in
theorem wd_75 : (Jvm.Cond.fieldLink "SlippedBlocks$Sheet" (16 : Nat) "SlippedBlocks$Sheet" "third" "J") ∈ TG := tg 75 rfl rfl
set_option maxRecDepth 20000 in
theorem wd_76 : (Jvm.Cond.lays "SlippedBlocks$Sheet" "SlippedBlocks$Sheet" "first" "J") ∈ TG := tg 76 rfl rfl
set_option maxRecDepth 20000 in
theorem wd_78 : (Jvm.Cond.lays "SlippedBlocks$Sheet" "SlippedBlocks$Sheet" "second" "J") ∈ TG := tg 78 rfl rfl
set_option maxRecDepth 20000 in
theorem wd_80 : (Jvm.Cond.lays "SlippedBlocks$Sheet" "SlippedBlocks$Sheet" "third" "J") ∈ TG := tg 80 rfl rfl
set_option maxRecDepth 20000 in
theorem wd_83 : (Jvm.Cond.fieldLink "SlippedBlocks$Work" (9 : Nat) "SlippedBlocks$Work" "width" "I") ∈ TG := tg 83 rfl rfl
set_option maxRecDepth 20000 in
theorem wd_87 : (Jvm.Cond.fieldLink "SlippedBlocks$Work" (15 : Nat) "SlippedBlocks$Work" "height" "I") ∈ TG := tg 87 rfl rfl
set_option maxRecDepth 20000 in
theorem wd_91 : (Jvm.Cond.fieldLink "SlippedBlocks$Work" (18 : Nat) "SlippedBlocks$Work" "inks" "I") ∈ TG := tg 91 rfl rfl
set_option maxRecDepth 20000 in
theorem wd_96 : (Jvm.Cond.fieldLink "SlippedBlocks$Work" (21 : Nat) "SlippedBlocks$Work" "denseInks" "I") ∈ TG := tg 96 rfl rfl
set_option maxRecDepth 20000 in
theorem wd_97 : (Jvm.Cond.fieldLink "SlippedBlocks$Work" (27 : Nat) "SlippedBlocks$Work" "picture" "LSlippedBlocks$Sheet;") ∈ TG := tg 97 rfl rfl
set_option maxRecDepth 20000 in
theorem wd_100 : (Jvm.Cond.fieldLink "SlippedBlocks$Work" (31 : Nat) "SlippedBlocks$Work" "colour" "[I") ∈ TG := tg 100 rfl rfl
set_option maxRecDepth 20000 in
theorem wd_102 : (Jvm.Cond.fieldLink "SlippedBlocks$Work" (35 : Nat) "SlippedBlocks$Work" "inkAtPlace" "[I") ∈ TG := tg 102 rfl rfl
set_option maxRecDepth 20000 in
theorem wd_103 : (Jvm.Cond.fieldLink "SlippedBlocks$Work" (38 : Nat) "SlippedBlocks$Work" "block" "[J") ∈ TG := tg 103 rfl rfl
set_option maxRecDepth 20000 in
theorem wd_105 : (Jvm.Cond.fieldLink "SlippedBlocks$Work" (42 : Nat) "SlippedBlocks$Work" "slip" "[I") ∈ TG := tg 105 rfl rfl
set_option maxRecDepth 20000 in
theorem wd_108 : (Jvm.Cond.lays "SlippedBlocks$Work" "SlippedBlocks$Work" "width" "I") ∈ TG := tg 108 rfl rfl
set_option maxRecDepth 20000 in
theorem wd_110 : (Jvm.Cond.lays "SlippedBlocks$Work" "SlippedBlocks$Work" "height" "I") ∈ TG := tg 110 rfl rfl
set_option maxRecDepth 20000 in
theorem wd_112 : (Jvm.Cond.lays "SlippedBlocks$Work" "SlippedBlocks$Work" "inks" "I") ∈ TG := tg 112 rfl rfl
set_option maxRecDepth 20000 in
theorem wd_114 : (Jvm.Cond.lays "SlippedBlocks$Work" "SlippedBlocks$Work" "denseInks" "I") ∈ TG := tg 114 rfl rfl
set_option maxRecDepth 20000 in
theorem wd_116 : (Jvm.Cond.laysFinal "SlippedBlocks$Work" "SlippedBlocks$Work" "picture" "LSlippedBlocks$Sheet;") ∈ TG := tg 116 rfl rfl
set_option maxRecDepth 20000 in
theorem wd_118 : (Jvm.Cond.laysFinal "SlippedBlocks$Work" "SlippedBlocks$Work" "colour" "[I") ∈ TG := tg 118 rfl rfl
set_option maxRecDepth 20000 in
theorem wd_120 : (Jvm.Cond.laysFinal "SlippedBlocks$Work" "SlippedBlocks$Work" "inkAtPlace" "[I") ∈ TG := tg 120 rfl rfl
set_option maxRecDepth 20000 in
theorem wd_122 : (Jvm.Cond.laysFinal "SlippedBlocks$Work" "SlippedBlocks$Work" "block" "[J") ∈ TG := tg 122 rfl rfl
set_option maxRecDepth 20000 in
theorem wd_124 : (Jvm.Cond.laysFinal "SlippedBlocks$Work" "SlippedBlocks$Work" "slip" "[I") ∈ TG := tg 124 rfl rfl
set_option maxRecDepth 20000 in
theorem wd_127 : (Jvm.Cond.arrayClass Jvm.ClassFile.FieldType.int) ∈ TG := tg 127 rfl rfl
set_option maxRecDepth 20000 in
theorem wd_128 : (Jvm.Cond.arrayClass Jvm.ClassFile.FieldType.long) ∈ TG := tg 128 rfl rfl
set_option maxRecDepth 20000 in
theorem wd_129 : (Jvm.Cond.classLink "SlippedBlocks" (19 : Nat) "SlippedBlocks$Text") ∈ TG := tg 129 rfl rfl
set_option maxRecDepth 20000 in
theorem wd_130 : (Jvm.Cond.instantiable "SlippedBlocks$Text" (4 : Nat)) ∈ TG := tg 130 rfl rfl
set_option maxRecDepth 20000 in
theorem wd_132 : (Jvm.Cond.instanceMethod ({ cls := "SlippedBlocks$Text", name := "<init>", desc := "()V" } : Jvm.MethodName)) ∈ TG := tg 132 rfl rfl
set_option maxRecDepth 20000 in
theorem wd_133 : (Jvm.Cond.code ({ cls := "SlippedBlocks$Text", name := "<init>", desc := "()V" } : Jvm.MethodName) prog_6_method_1_code (1 : Nat) (Option.none : Option Jvm.ClassFile.FieldType)) ∈ TG := tg 133 rfl rfl
set_option maxRecDepth 20000 in
theorem wd_134 : (Jvm.Cond.methodLink "SlippedBlocks$Text" (3 : Nat) ({ cls := "java/lang/Object", name := "<init>", desc := "()V" } : Jvm.MethodName)) ∈ TG := tg 134 rfl rfl
set_option maxRecDepth 20000 in
theorem wd_135 : (Jvm.Cond.fieldLink "SlippedBlocks$Text" (9 : Nat) "SlippedBlocks$Text" "letters" "[C") ∈ TG := tg 135 rfl rfl
set_option maxRecDepth 20000 in
theorem wd_136 : (Jvm.Cond.fieldLink "SlippedBlocks$Text" (15 : Nat) "SlippedBlocks$Text" "length" "I") ∈ TG := tg 136 rfl rfl
set_option maxRecDepth 20000 in
theorem wd_138 : (Jvm.Cond.fieldLink "SlippedBlocks$Text" (19 : Nat) "SlippedBlocks$Text" "item" "C") ∈ TG := tg 138 rfl rfl
set_option maxRecDepth 20000 in
theorem wd_139 : (Jvm.Cond.fieldLink "SlippedBlocks$Text" (23 : Nat) "SlippedBlocks$Text" "figures" "I") ∈ TG := tg 139 rfl rfl
set_option maxRecDepth 20000 in
theorem wd_140 : (Jvm.Cond.laysFinal "SlippedBlocks$Text" "SlippedBlocks$Text" "letters" "[C") ∈ TG := tg 140 rfl rfl
set_option maxRecDepth 20000 in
theorem wd_142 : (Jvm.Cond.lays "SlippedBlocks$Text" "SlippedBlocks$Text" "length" "I") ∈ TG := tg 142 rfl rfl
set_option maxRecDepth 20000 in
theorem wd_144 : (Jvm.Cond.lays "SlippedBlocks$Text" "SlippedBlocks$Text" "item" "C") ∈ TG := tg 144 rfl rfl
set_option maxRecDepth 20000 in
theorem wd_146 : (Jvm.Cond.lays "SlippedBlocks$Text" "SlippedBlocks$Text" "figures" "I") ∈ TG := tg 146 rfl rfl
set_option maxRecDepth 20000 in
theorem wd_149 : (Jvm.Cond.arrayClass Jvm.ClassFile.FieldType.char) ∈ TG := tg 149 rfl rfl
set_option maxRecDepth 20000 in
theorem wd_150 : (Jvm.Cond.classLink "SlippedBlocks" (26 : Nat) "SlippedBlocks$Past") ∈ TG := tg 150 rfl rfl
set_option maxRecDepth 20000 in
theorem wd_151 : (Jvm.Cond.instantiable "SlippedBlocks$Past" (3 : Nat)) ∈ TG := tg 151 rfl rfl
set_option maxRecDepth 20000 in
theorem wd_152 : (Jvm.Cond.methodLink "SlippedBlocks" (28 : Nat) ({ cls := "SlippedBlocks$Past", name := "<init>", desc := "()V" } : Jvm.MethodName)) ∈ TG := tg 152 rfl rfl
set_option maxRecDepth 20000 in
theorem wd_153 : (Jvm.Cond.instanceMethod ({ cls := "SlippedBlocks$Past", name := "<init>", desc := "()V" } : Jvm.MethodName)) ∈ TG := tg 153 rfl rfl
set_option maxRecDepth 20000 in
theorem wd_154 : (Jvm.Cond.code ({ cls := "SlippedBlocks$Past", name := "<init>", desc := "()V" } : Jvm.MethodName) prog_2_method_1_code (2 : Nat) (Option.none : Option Jvm.ClassFile.FieldType)) ∈ TG := tg 154 rfl rfl
set_option maxRecDepth 20000 in
theorem wd_155 : (Jvm.Cond.methodLink "SlippedBlocks$Past" (3 : Nat) ({ cls := "java/lang/Object", name := "<init>", desc := "()V" } : Jvm.MethodName)) ∈ TG := tg 155 rfl rfl
set_option maxRecDepth 20000 in
theorem wd_156 : (Jvm.Cond.classLink "SlippedBlocks$Past" (9 : Nat) "SlippedBlocks$Work") ∈ TG := tg 156 rfl rfl
set_option maxRecDepth 20000 in
theorem wd_159 : (Jvm.Cond.fieldLink "SlippedBlocks$Past" (11 : Nat) "SlippedBlocks$Past" "works" "[LSlippedBlocks$Work;") ∈ TG := tg 159 rfl rfl
set_option maxRecDepth 20000 in
theorem wd_160 : (Jvm.Cond.fieldLink "SlippedBlocks$Past" (17 : Nat) "SlippedBlocks$Past" "next" "I") ∈ TG := tg 160 rfl rfl
set_option maxRecDepth 20000 in
theorem wd_161 : (Jvm.Cond.fieldLink "SlippedBlocks$Past" (21 : Nat) "SlippedBlocks$Past" "many" "I") ∈ TG := tg 161 rfl rfl
set_option maxRecDepth 20000 in
theorem wd_163 : (Jvm.Cond.laysFinal "SlippedBlocks$Past" "SlippedBlocks$Past" "works" "[LSlippedBlocks$Work;") ∈ TG := tg 163 rfl rfl
set_option maxRecDepth 20000 in
theorem wd_165 : (Jvm.Cond.lays "SlippedBlocks$Past" "SlippedBlocks$Past" "next" "I") ∈ TG := tg 165 rfl rfl
set_option maxRecDepth 20000 in
theorem wd_167 : (Jvm.Cond.lays "SlippedBlocks$Past" "SlippedBlocks$Past" "many" "I") ∈ TG := tg 167 rfl rfl
set_option maxRecDepth 20000 in
theorem wd_170 : (Jvm.Cond.classLink "SlippedBlocks" (41 : Nat) "SlippedBlocks$Sightings") ∈ TG := tg 170 rfl rfl
set_option maxRecDepth 20000 in
theorem wd_171 : (Jvm.Cond.instantiable "SlippedBlocks$Sightings" (6 : Nat)) ∈ TG := tg 171 rfl rfl
set_option maxRecDepth 20000 in
theorem wd_173 : (Jvm.Cond.instanceMethod ({ cls := "SlippedBlocks$Sightings", name := "<init>", desc := "()V" } : Jvm.MethodName)) ∈ TG := tg 173 rfl rfl
set_option maxRecDepth 20000 in
theorem wd_174 : (Jvm.Cond.code ({ cls := "SlippedBlocks$Sightings", name := "<init>", desc := "()V" } : Jvm.MethodName) prog_5_method_1_code (1 : Nat) (Option.none : Option Jvm.ClassFile.FieldType)) ∈ TG := tg 174 rfl rfl
set_option maxRecDepth 20000 in
theorem wd_175 : (Jvm.Cond.methodLink "SlippedBlocks$Sightings" (3 : Nat) ({ cls := "java/lang/Object", name := "<init>", desc := "()V" } : Jvm.MethodName)) ∈ TG := tg 175 rfl rfl
set_option maxRecDepth 20000 in
theorem wd_176 : (Jvm.Cond.classLink "SlippedBlocks$Sightings" (25 : Nat) "SlippedBlocks$Sheet") ∈ TG := tg 176 rfl rfl
set_option maxRecDepth 20000 in
theorem wd_178 : (Jvm.Cond.fieldLink "SlippedBlocks$Sightings" (9 : Nat) "SlippedBlocks$Sightings" "xs" "[I") ∈ TG := tg 178 rfl rfl
set_option maxRecDepth 20000 in
theorem wd_179 : (Jvm.Cond.fieldLink "SlippedBlocks$Sightings" (15 : Nat) "SlippedBlocks$Sightings" "ys" "[I") ∈ TG := tg 179 rfl rfl
set_option maxRecDepth 20000 in
theorem wd_180 : (Jvm.Cond.fieldLink "SlippedBlocks$Sightings" (18 : Nat) "SlippedBlocks$Sightings" "colours" "[I") ∈ TG := tg 180 rfl rfl
set_option maxRecDepth 20000 in
theorem wd_181 : (Jvm.Cond.fieldLink "SlippedBlocks$Sightings" (21 : Nat) "SlippedBlocks$Sightings" "many" "I") ∈ TG := tg 181 rfl rfl
set_option maxRecDepth 20000 in
theorem wd_183 : (Jvm.Cond.fieldLink "SlippedBlocks$Sightings" (28 : Nat) "SlippedBlocks$Sightings" "proof" "LSlippedBlocks$Sheet;") ∈ TG := tg 183 rfl rfl
set_option maxRecDepth 20000 in
theorem wd_184 : (Jvm.Cond.fieldLink "SlippedBlocks$Sightings" (32 : Nat) "SlippedBlocks$Sightings" "tally" "[I") ∈ TG := tg 184 rfl rfl
set_option maxRecDepth 20000 in
theorem wd_185 : (Jvm.Cond.laysFinal "SlippedBlocks$Sightings" "SlippedBlocks$Sightings" "xs" "[I") ∈ TG := tg 185 rfl rfl
set_option maxRecDepth 20000 in
theorem wd_187 : (Jvm.Cond.laysFinal "SlippedBlocks$Sightings" "SlippedBlocks$Sightings" "ys" "[I") ∈ TG := tg 187 rfl rfl
set_option maxRecDepth 20000 in
theorem wd_189 : (Jvm.Cond.laysFinal "SlippedBlocks$Sightings" "SlippedBlocks$Sightings" "colours" "[I") ∈ TG := tg 189 rfl rfl
set_option maxRecDepth 20000 in
theorem wd_191 : (Jvm.Cond.lays "SlippedBlocks$Sightings" "SlippedBlocks$Sightings" "many" "I") ∈ TG := tg 191 rfl rfl
set_option maxRecDepth 20000 in
theorem wd_193 : (Jvm.Cond.laysFinal "SlippedBlocks$Sightings" "SlippedBlocks$Sightings" "proof" "LSlippedBlocks$Sheet;") ∈ TG := tg 193 rfl rfl
set_option maxRecDepth 20000 in
theorem wd_195 : (Jvm.Cond.laysFinal "SlippedBlocks$Sightings" "SlippedBlocks$Sightings" "tally" "[I") ∈ TG := tg 195 rfl rfl
set_option maxRecDepth 20000 in
theorem wd_198 : (Jvm.Cond.arrayClass Jvm.ClassFile.FieldType.boolean) ∈ TG := tg 198 rfl rfl
set_option maxRecDepth 20000 in
theorem wd_199 : (Jvm.Cond.classLink "SlippedBlocks" (48 : Nat) "SlippedBlocks$RowSearch") ∈ TG := tg 199 rfl rfl
set_option maxRecDepth 20000 in
theorem wd_200 : (Jvm.Cond.instantiable "SlippedBlocks$RowSearch" (5 : Nat)) ∈ TG := tg 200 rfl rfl
set_option maxRecDepth 20000 in
theorem wd_202 : (Jvm.Cond.instanceMethod ({ cls := "SlippedBlocks$RowSearch", name := "<init>", desc := "()V" } : Jvm.MethodName)) ∈ TG := tg 202 rfl rfl
set_option maxRecDepth 20000 in
theorem wd_203 : (Jvm.Cond.code ({ cls := "SlippedBlocks$RowSearch", name := "<init>", desc := "()V" } : Jvm.MethodName) prog_3_method_1_code (1 : Nat) (Option.none : Option Jvm.ClassFile.FieldType)) ∈ TG := tg 203 rfl rfl
set_option maxRecDepth 20000 in
theorem wd_204 : (Jvm.Cond.methodLink "SlippedBlocks$RowSearch" (3 : Nat) ({ cls := "java/lang/Object", name := "<init>", desc := "()V" } : Jvm.MethodName)) ∈ TG := tg 204 rfl rfl
set_option maxRecDepth 20000 in
theorem wd_205 : (Jvm.Cond.fieldLink "SlippedBlocks$RowSearch" (9 : Nat) "SlippedBlocks$RowSearch" "shortRow" "[I") ∈ TG := tg 205 rfl rfl
set_option maxRecDepth 20000 in
theorem wd_206 : (Jvm.Cond.fieldLink "SlippedBlocks$RowSearch" (15 : Nat) "SlippedBlocks$RowSearch" "palette" "I") ∈ TG := tg 206 rfl rfl
set_option maxRecDepth 20000 in
theorem wd_207 : (Jvm.Cond.fieldLink "SlippedBlocks$RowSearch" (19 : Nat) "SlippedBlocks$RowSearch" "found" "Z") ∈ TG := tg 207 rfl rfl
set_option maxRecDepth 20000 in
theorem wd_209 : (Jvm.Cond.fieldLink "SlippedBlocks$RowSearch" (23 : Nat) "SlippedBlocks$RowSearch" "fewest" "I") ∈ TG := tg 209 rfl rfl
set_option maxRecDepth 20000 in
theorem wd_211 : (Jvm.Cond.fieldLink "SlippedBlocks$RowSearch" (26 : Nat) "SlippedBlocks$RowSearch" "best" "I") ∈ TG := tg 211 rfl rfl
set_option maxRecDepth 20000 in
theorem wd_212 : (Jvm.Cond.laysFinal "SlippedBlocks$RowSearch" "SlippedBlocks$RowSearch" "shortRow" "[I") ∈ TG := tg 212 rfl rfl
set_option maxRecDepth 20000 in
theorem wd_214 : (Jvm.Cond.lays "SlippedBlocks$RowSearch" "SlippedBlocks$RowSearch" "palette" "I") ∈ TG := tg 214 rfl rfl
set_option maxRecDepth 20000 in
theorem wd_216 : (Jvm.Cond.lays "SlippedBlocks$RowSearch" "SlippedBlocks$RowSearch" "found" "Z") ∈ TG := tg 216 rfl rfl
set_option maxRecDepth 20000 in
theorem wd_218 : (Jvm.Cond.lays "SlippedBlocks$RowSearch" "SlippedBlocks$RowSearch" "fewest" "I") ∈ TG := tg 218 rfl rfl
set_option maxRecDepth 20000 in
theorem wd_220 : (Jvm.Cond.lays "SlippedBlocks$RowSearch" "SlippedBlocks$RowSearch" "best" "I") ∈ TG := tg 220 rfl rfl
set_option maxRecDepth 20000 in
theorem wd_223 : (Jvm.Cond.classLink "SlippedBlocks" (55 : Nat) "SlippedBlocks$Sheet") ∈ TG := tg 223 rfl rfl
set_option maxRecDepth 20000 in
theorem wd_225 : (Jvm.Cond.fieldLink "SlippedBlocks" (10 : Nat) "SlippedBlocks" "now" "LSlippedBlocks$Work;") ∈ TG := tg 225 rfl rfl
set_option maxRecDepth 20000 in
theorem wd_226 : (Jvm.Cond.fieldLink "SlippedBlocks" (16 : Nat) "SlippedBlocks" "told" "LSlippedBlocks$Work;") ∈ TG := tg 226 rfl rfl
set_option maxRecDepth 20000 in
theorem wd_227 : (Jvm.Cond.fieldLink "SlippedBlocks" (22 : Nat) "SlippedBlocks" "text" "LSlippedBlocks$Text;") ∈ TG := tg 227 rfl rfl
set_option maxRecDepth 20000 in
theorem wd_228 : (Jvm.Cond.fieldLink "SlippedBlocks" (29 : Nat) "SlippedBlocks" "past" "LSlippedBlocks$Past;") ∈ TG := tg 228 rfl rfl
set_option maxRecDepth 20000 in
theorem wd_229 : (Jvm.Cond.fieldLink "SlippedBlocks" (33 : Nat) "SlippedBlocks" "images" "[LSlippedBlocks$Work;") ∈ TG := tg 229 rfl rfl
set_option maxRecDepth 20000 in
theorem wd_230 : (Jvm.Cond.fieldLink "SlippedBlocks" (37 : Nat) "SlippedBlocks" "kept" "[Z") ∈ TG := tg 230 rfl rfl
set_option maxRecDepth 20000 in
theorem wd_231 : (Jvm.Cond.fieldLink "SlippedBlocks" (44 : Nat) "SlippedBlocks" "sightings" "LSlippedBlocks$Sightings;") ∈ TG := tg 231 rfl rfl
set_option maxRecDepth 20000 in
theorem wd_232 : (Jvm.Cond.fieldLink "SlippedBlocks" (51 : Nat) "SlippedBlocks" "search" "LSlippedBlocks$RowSearch;") ∈ TG := tg 232 rfl rfl
set_option maxRecDepth 20000 in
theorem wd_233 : (Jvm.Cond.fieldLink "SlippedBlocks" (58 : Nat) "SlippedBlocks" "proof" "LSlippedBlocks$Sheet;") ∈ TG := tg 233 rfl rfl
set_option maxRecDepth 20000 in
theorem wd_234 : (Jvm.Cond.laysFinal "SlippedBlocks" "SlippedBlocks" "now" "LSlippedBlocks$Work;") ∈ TG := tg 234 rfl rfl
set_option maxRecDepth 20000 in
theorem wd_236 : (Jvm.Cond.laysFinal "SlippedBlocks" "SlippedBlocks" "told" "LSlippedBlocks$Work;") ∈ TG := tg 236 rfl rfl
set_option maxRecDepth 20000 in
theorem wd_238 : (Jvm.Cond.laysFinal "SlippedBlocks" "SlippedBlocks" "text" "LSlippedBlocks$Text;") ∈ TG := tg 238 rfl rfl
set_option maxRecDepth 20000 in
theorem wd_240 : (Jvm.Cond.laysFinal "SlippedBlocks" "SlippedBlocks" "past" "LSlippedBlocks$Past;") ∈ TG := tg 240 rfl rfl
set_option maxRecDepth 20000 in
theorem wd_242 : (Jvm.Cond.laysFinal "SlippedBlocks" "SlippedBlocks" "images" "[LSlippedBlocks$Work;") ∈ TG := tg 242 rfl rfl
set_option maxRecDepth 20000 in
theorem wd_244 : (Jvm.Cond.laysFinal "SlippedBlocks" "SlippedBlocks" "kept" "[Z") ∈ TG := tg 244 rfl rfl
set_option maxRecDepth 20000 in
theorem wd_246 : (Jvm.Cond.laysFinal "SlippedBlocks" "SlippedBlocks" "sightings" "LSlippedBlocks$Sightings;") ∈ TG := tg 246 rfl rfl
set_option maxRecDepth 20000 in
theorem wd_248 : (Jvm.Cond.laysFinal "SlippedBlocks" "SlippedBlocks" "search" "LSlippedBlocks$RowSearch;") ∈ TG := tg 248 rfl rfl
set_option maxRecDepth 20000 in
theorem wd_250 : (Jvm.Cond.laysFinal "SlippedBlocks" "SlippedBlocks" "proof" "LSlippedBlocks$Sheet;") ∈ TG := tg 250 rfl rfl
set_option maxRecDepth 20000 in
theorem wd_253 : (Jvm.Cond.methodLink "SlippedBlocksLaw" (13 : Nat) ({ cls := "SlippedBlocks", name := "type", desc := "(I)I" } : Jvm.MethodName)) ∈ TG := tg 253 rfl rfl
set_option maxRecDepth 20000 in
theorem wd_254 : (Jvm.Cond.instanceMethod ({ cls := "SlippedBlocks", name := "type", desc := "(I)I" } : Jvm.MethodName)) ∈ TG := tg 254 rfl rfl
set_option maxRecDepth 20000 in
theorem wd_255 : (Jvm.Cond.selects "SlippedBlocks" ({ cls := "SlippedBlocks", name := "type", desc := "(I)I" } : Jvm.MethodName) ({ cls := "SlippedBlocks", name := "type", desc := "(I)I" } : Jvm.MethodName)) ∈ TG := tg 255 rfl rfl
set_option maxRecDepth 20000 in
theorem wd_256 : (Jvm.Cond.code ({ cls := "SlippedBlocks", name := "type", desc := "(I)I" } : Jvm.MethodName) prog_1_method_2_code (2 : Nat) (Option.some Jvm.ClassFile.FieldType.int)) ∈ TG := tg 256 rfl rfl
set_option maxRecDepth 20000 in
theorem wd_257 : (Jvm.Cond.methodLink "SlippedBlocks" (62 : Nat) ({ cls := "SlippedBlocks$Text", name := "append", desc := "(I)Z" } : Jvm.MethodName)) ∈ TG := tg 257 rfl rfl
set_option maxRecDepth 20000 in
theorem wd_258 : (Jvm.Cond.instanceMethod ({ cls := "SlippedBlocks$Text", name := "append", desc := "(I)Z" } : Jvm.MethodName)) ∈ TG := tg 258 rfl rfl
set_option maxRecDepth 20000 in
theorem wd_259 : (Jvm.Cond.selects "SlippedBlocks$Text" ({ cls := "SlippedBlocks$Text", name := "append", desc := "(I)Z" } : Jvm.MethodName) ({ cls := "SlippedBlocks$Text", name := "append", desc := "(I)Z" } : Jvm.MethodName)) ∈ TG := tg 259 rfl rfl
set_option maxRecDepth 20000 in
theorem wd_260 : (Jvm.Cond.code ({ cls := "SlippedBlocks$Text", name := "append", desc := "(I)Z" } : Jvm.MethodName) prog_6_method_2_code (2 : Nat) (Option.some Jvm.ClassFile.FieldType.boolean)) ∈ TG := tg 260 rfl rfl
set_option maxRecDepth 20000 in
theorem wd_261 : (Jvm.Cond.methodLink "SlippedBlocksLaw" (18 : Nat) ({ cls := "SlippedBlocks", name := "clear", desc := "()I" } : Jvm.MethodName)) ∈ TG := tg 261 rfl rfl
set_option maxRecDepth 20000 in
theorem wd_262 : (Jvm.Cond.instanceMethod ({ cls := "SlippedBlocks", name := "clear", desc := "()I" } : Jvm.MethodName)) ∈ TG := tg 262 rfl rfl
set_option maxRecDepth 20000 in
theorem wd_263 : (Jvm.Cond.selects "SlippedBlocks" ({ cls := "SlippedBlocks", name := "clear", desc := "()I" } : Jvm.MethodName) ({ cls := "SlippedBlocks", name := "clear", desc := "()I" } : Jvm.MethodName)) ∈ TG := tg 263 rfl rfl
set_option maxRecDepth 20000 in
theorem wd_264 : (Jvm.Cond.code ({ cls := "SlippedBlocks", name := "clear", desc := "()I" } : Jvm.MethodName) prog_1_method_3_code (2 : Nat) (Option.some Jvm.ClassFile.FieldType.int)) ∈ TG := tg 264 rfl rfl
set_option maxRecDepth 20000 in
theorem wd_265 : (Jvm.Cond.methodLink "SlippedBlocksLaw" (23 : Nat) ({ cls := "SlippedBlocks", name := "tells", desc := "()I" } : Jvm.MethodName)) ∈ TG := tg 265 rfl rfl
set_option maxRecDepth 20000 in
theorem wd_266 : (Jvm.Cond.instanceMethod ({ cls := "SlippedBlocks", name := "tells", desc := "()I" } : Jvm.MethodName)) ∈ TG := tg 266 rfl rfl
set_option maxRecDepth 20000 in
theorem wd_267 : (Jvm.Cond.selects "SlippedBlocks" ({ cls := "SlippedBlocks", name := "tells", desc := "()I" } : Jvm.MethodName) ({ cls := "SlippedBlocks", name := "tells", desc := "()I" } : Jvm.MethodName)) ∈ TG := tg 267 rfl rfl
set_option maxRecDepth 20000 in
theorem wd_268 : (Jvm.Cond.code ({ cls := "SlippedBlocks", name := "tells", desc := "()I" } : Jvm.MethodName) prog_1_method_4_code (3 : Nat) (Option.some Jvm.ClassFile.FieldType.int)) ∈ TG := tg 268 rfl rfl
set_option maxRecDepth 20000 in
theorem wd_269 : (Jvm.Cond.methodLink "SlippedBlocks" (70 : Nat) ({ cls := "SlippedBlocks$Text", name := "readInto", desc := "(LSlippedBlocks$Work;)I" } : Jvm.MethodName)) ∈ TG := tg 269 rfl rfl
set_option maxRecDepth 20000 in
theorem wd_270 : (Jvm.Cond.instanceMethod ({ cls := "SlippedBlocks$Text", name := "readInto", desc := "(LSlippedBlocks$Work;)I" } : Jvm.MethodName)) ∈ TG := tg 270 rfl rfl
set_option maxRecDepth 20000 in
theorem wd_271 : (Jvm.Cond.selects "SlippedBlocks$Text" ({ cls := "SlippedBlocks$Text", name := "readInto", desc := "(LSlippedBlocks$Work;)I" } : Jvm.MethodName) ({ cls := "SlippedBlocks$Text", name := "readInto", desc := "(LSlippedBlocks$Work;)I" } : Jvm.MethodName)) ∈ TG := tg 271 rfl rfl
set_option maxRecDepth 20000 in
theorem wd_272 : (Jvm.Cond.code ({ cls := "SlippedBlocks$Text", name := "readInto", desc := "(LSlippedBlocks$Work;)I" } : Jvm.MethodName) prog_6_method_3_code (3 : Nat) (Option.some Jvm.ClassFile.FieldType.int)) ∈ TG := tg 272 rfl rfl
set_option maxRecDepth 20000 in
theorem wd_273 : (Jvm.Cond.methodLink "SlippedBlocks$Text" (26 : Nat) ({ cls := "SlippedBlocks$Work", name := "empty", desc := "()V" } : Jvm.MethodName)) ∈ TG := tg 273 rfl rfl
set_option maxRecDepth 20000 in
theorem wd_274 : (Jvm.Cond.instanceMethod ({ cls := "SlippedBlocks$Work", name := "empty", desc := "()V" } : Jvm.MethodName)) ∈ TG := tg 274 rfl rfl
set_option maxRecDepth 20000 in
theorem wd_275 : (Jvm.Cond.selects "SlippedBlocks$Work" ({ cls := "SlippedBlocks$Work", name := "empty", desc := "()V" } : Jvm.MethodName) ({ cls := "SlippedBlocks$Work", name := "empty", desc := "()V" } : Jvm.MethodName)) ∈ TG := tg 275 rfl rfl
set_option maxRecDepth 20000 in
theorem wd_276 : (Jvm.Cond.code ({ cls := "SlippedBlocks$Work", name := "empty", desc := "()V" } : Jvm.MethodName) prog_7_method_3_code (1 : Nat) (Option.none : Option Jvm.ClassFile.FieldType)) ∈ TG := tg 276 rfl rfl
set_option maxRecDepth 20000 in
theorem wd_277 : (Jvm.Cond.methodLink "SlippedBlocks$Work" (55 : Nat) ({ cls := "SlippedBlocks$Sheet", name := "wipe", desc := "()V" } : Jvm.MethodName)) ∈ TG := tg 277 rfl rfl
set_option maxRecDepth 20000 in
theorem wd_278 : (Jvm.Cond.instanceMethod ({ cls := "SlippedBlocks$Sheet", name := "wipe", desc := "()V" } : Jvm.MethodName)) ∈ TG := tg 278 rfl rfl
set_option maxRecDepth 20000 in
theorem wd_279 : (Jvm.Cond.selects "SlippedBlocks$Sheet" ({ cls := "SlippedBlocks$Sheet", name := "wipe", desc := "()V" } : Jvm.MethodName) ({ cls := "SlippedBlocks$Sheet", name := "wipe", desc := "()V" } : Jvm.MethodName)) ∈ TG := tg 279 rfl rfl
set_option maxRecDepth 20000 in
theorem wd_280 : (Jvm.Cond.code ({ cls := "SlippedBlocks$Sheet", name := "wipe", desc := "()V" } : Jvm.MethodName) prog_4_method_2_code (1 : Nat) (Option.none : Option Jvm.ClassFile.FieldType)) ∈ TG := tg 280 rfl rfl
set_option maxRecDepth 20000 in
theorem wd_281 : (Jvm.Cond.methodLink "SlippedBlocks$Text" (31 : Nat) ({ cls := "SlippedBlocks$Text", name := "takes", desc := "(CLSlippedBlocks$Work;)Z" } : Jvm.MethodName)) ∈ TG := tg 281 rfl rfl
set_option maxRecDepth 20000 in
theorem wd_283 : (Jvm.Cond.instanceMethod ({ cls := "SlippedBlocks$Text", name := "takes", desc := "(CLSlippedBlocks$Work;)Z" } : Jvm.MethodName)) ∈ TG := tg 283 rfl rfl
set_option maxRecDepth 20000 in
theorem wd_284 : (Jvm.Cond.code ({ cls := "SlippedBlocks$Text", name := "takes", desc := "(CLSlippedBlocks$Work;)Z" } : Jvm.MethodName) prog_6_method_4_code (3 : Nat) (Option.some Jvm.ClassFile.FieldType.boolean)) ∈ TG := tg 284 rfl rfl
set_option maxRecDepth 20000 in
theorem wd_285 : (Jvm.Cond.methodLink "SlippedBlocks$Text" (38 : Nat) ({ cls := "SlippedBlocks$Text", name := "endsItem", desc := "(LSlippedBlocks$Work;)Z" } : Jvm.MethodName)) ∈ TG := tg 285 rfl rfl
set_option maxRecDepth 20000 in
theorem wd_287 : (Jvm.Cond.instanceMethod ({ cls := "SlippedBlocks$Text", name := "endsItem", desc := "(LSlippedBlocks$Work;)Z" } : Jvm.MethodName)) ∈ TG := tg 287 rfl rfl
set_option maxRecDepth 20000 in
theorem wd_288 : (Jvm.Cond.code ({ cls := "SlippedBlocks$Text", name := "endsItem", desc := "(LSlippedBlocks$Work;)Z" } : Jvm.MethodName) prog_6_method_8_code (2 : Nat) (Option.some Jvm.ClassFile.FieldType.boolean)) ∈ TG := tg 288 rfl rfl
set_option maxRecDepth 20000 in
theorem wd_289 : (Jvm.Cond.methodLink "SlippedBlocks$Text" (42 : Nat) ({ cls := "SlippedBlocks$Text", name := "takesCell", desc := "(ILSlippedBlocks$Work;)Z" } : Jvm.MethodName)) ∈ TG := tg 289 rfl rfl
set_option maxRecDepth 20000 in
theorem wd_291 : (Jvm.Cond.instanceMethod ({ cls := "SlippedBlocks$Text", name := "takesCell", desc := "(ILSlippedBlocks$Work;)Z" } : Jvm.MethodName)) ∈ TG := tg 291 rfl rfl
set_option maxRecDepth 20000 in
theorem wd_292 : (Jvm.Cond.code ({ cls := "SlippedBlocks$Text", name := "takesCell", desc := "(ILSlippedBlocks$Work;)Z" } : Jvm.MethodName) prog_6_method_7_code (4 : Nat) (Option.some Jvm.ClassFile.FieldType.boolean)) ∈ TG := tg 292 rfl rfl
set_option maxRecDepth 20000 in
theorem wd_294 : (Jvm.Cond.static ({ cls := "SlippedBlocks", name := "cellBit", desc := "(II)J" } : Jvm.MethodName)) ∈ TG := tg 294 rfl rfl
set_option maxRecDepth 20000 in
theorem wd_295 : (Jvm.Cond.code ({ cls := "SlippedBlocks", name := "cellBit", desc := "(II)J" } : Jvm.MethodName) prog_1_method_26_code (2 : Nat) (Option.some Jvm.ClassFile.FieldType.long)) ∈ TG := tg 295 rfl rfl
set_option maxRecDepth 20000 in
theorem wd_296 : (Jvm.Cond.methodLink "SlippedBlocks$Text" (70 : Nat) ({ cls := "SlippedBlocks$Sheet", name := "print", desc := "(JIZ)V" } : Jvm.MethodName)) ∈ TG := tg 296 rfl rfl
set_option maxRecDepth 20000 in
theorem wd_297 : (Jvm.Cond.instanceMethod ({ cls := "SlippedBlocks$Sheet", name := "print", desc := "(JIZ)V" } : Jvm.MethodName)) ∈ TG := tg 297 rfl rfl
set_option maxRecDepth 20000 in
theorem wd_298 : (Jvm.Cond.selects "SlippedBlocks$Sheet" ({ cls := "SlippedBlocks$Sheet", name := "print", desc := "(JIZ)V" } : Jvm.MethodName) ({ cls := "SlippedBlocks$Sheet", name := "print", desc := "(JIZ)V" } : Jvm.MethodName)) ∈ TG := tg 298 rfl rfl
set_option maxRecDepth 20000 in
theorem wd_299 : (Jvm.Cond.code ({ cls := "SlippedBlocks$Sheet", name := "print", desc := "(JIZ)V" } : Jvm.MethodName) prog_4_method_4_code (5 : Nat) (Option.none : Option Jvm.ClassFile.FieldType)) ∈ TG := tg 299 rfl rfl
set_option maxRecDepth 20000 in
theorem wd_300 : (Jvm.Cond.methodLink "SlippedBlocks$Sheet" (19 : Nat) ({ cls := "SlippedBlocks$Sheet", name := "printed", desc := "(JJZZ)J" } : Jvm.MethodName)) ∈ TG := tg 300 rfl rfl
set_option maxRecDepth 20000 in
theorem wd_301 : (Jvm.Cond.static ({ cls := "SlippedBlocks$Sheet", name := "printed", desc := "(JJZZ)J" } : Jvm.MethodName)) ∈ TG := tg 301 rfl rfl
set_option maxRecDepth 20000 in
theorem wd_302 : (Jvm.Cond.code ({ cls := "SlippedBlocks$Sheet", name := "printed", desc := "(JJZZ)J" } : Jvm.MethodName) prog_4_method_5_code (6 : Nat) (Option.some Jvm.ClassFile.FieldType.long)) ∈ TG := tg 302 rfl rfl
set_option maxRecDepth 20000 in
theorem wd_303 : (Jvm.Cond.constantLong "SlippedBlocks$Sheet" (23 : Nat) (-1 : Int64)) ∈ TG := tg 303 rfl rfl
set_option maxRecDepth 20000 in
theorem wd_304 : (Jvm.Cond.methodLink "SlippedBlocks$Text" (46 : Nat) ({ cls := "SlippedBlocks$Text", name := "takesInk", desc := "(ILSlippedBlocks$Work;)Z" } : Jvm.MethodName)) ∈ TG := tg 304 rfl rfl
set_option maxRecDepth 20000 in
theorem wd_306 : (Jvm.Cond.instanceMethod ({ cls := "SlippedBlocks$Text", name := "takesInk", desc := "(ILSlippedBlocks$Work;)Z" } : Jvm.MethodName)) ∈ TG := tg 306 rfl rfl
set_option maxRecDepth 20000 in
theorem wd_307 : (Jvm.Cond.code ({ cls := "SlippedBlocks$Text", name := "takesInk", desc := "(ILSlippedBlocks$Work;)Z" } : Jvm.MethodName) prog_6_method_6_code (3 : Nat) (Option.some Jvm.ClassFile.FieldType.boolean)) ∈ TG := tg 307 rfl rfl
set_option maxRecDepth 20000 in
theorem wd_308 : (Jvm.Cond.methodLink "SlippedBlocks$Text" (55 : Nat) ({ cls := "SlippedBlocks$Work", name := "addInk", desc := "(IZ)V" } : Jvm.MethodName)) ∈ TG := tg 308 rfl rfl
set_option maxRecDepth 20000 in
theorem wd_309 : (Jvm.Cond.instanceMethod ({ cls := "SlippedBlocks$Work", name := "addInk", desc := "(IZ)V" } : Jvm.MethodName)) ∈ TG := tg 309 rfl rfl
set_option maxRecDepth 20000 in
theorem wd_310 : (Jvm.Cond.selects "SlippedBlocks$Work" ({ cls := "SlippedBlocks$Work", name := "addInk", desc := "(IZ)V" } : Jvm.MethodName) ({ cls := "SlippedBlocks$Work", name := "addInk", desc := "(IZ)V" } : Jvm.MethodName)) ∈ TG := tg 310 rfl rfl
set_option maxRecDepth 20000 in
theorem wd_311 : (Jvm.Cond.code ({ cls := "SlippedBlocks$Work", name := "addInk", desc := "(IZ)V" } : Jvm.MethodName) prog_7_method_4_code (3 : Nat) (Option.none : Option Jvm.ClassFile.FieldType)) ∈ TG := tg 311 rfl rfl
set_option maxRecDepth 20000 in
theorem wd_312 : (Jvm.Cond.methodLink "SlippedBlocks$Text" (49 : Nat) ({ cls := "SlippedBlocks$Text", name := "beginsItem", desc := "(CLSlippedBlocks$Work;)Z" } : Jvm.MethodName)) ∈ TG := tg 312 rfl rfl
set_option maxRecDepth 20000 in
theorem wd_314 : (Jvm.Cond.instanceMethod ({ cls := "SlippedBlocks$Text", name := "beginsItem", desc := "(CLSlippedBlocks$Work;)Z" } : Jvm.MethodName)) ∈ TG := tg 314 rfl rfl
set_option maxRecDepth 20000 in
theorem wd_315 : (Jvm.Cond.code ({ cls := "SlippedBlocks$Text", name := "beginsItem", desc := "(CLSlippedBlocks$Work;)Z" } : Jvm.MethodName) prog_6_method_5_code (5 : Nat) (Option.some Jvm.ClassFile.FieldType.boolean)) ∈ TG := tg 315 rfl rfl
set_option maxRecDepth 20000 in
theorem wd_316 : (Jvm.Cond.methodLink "SlippedBlocks" (74 : Nat) ({ cls := "SlippedBlocks$Past", name := "remember", desc := "(LSlippedBlocks$Work;)V" } : Jvm.MethodName)) ∈ TG := tg 316 rfl rfl
set_option maxRecDepth 20000 in
theorem wd_317 : (Jvm.Cond.instanceMethod ({ cls := "SlippedBlocks$Past", name := "remember", desc := "(LSlippedBlocks$Work;)V" } : Jvm.MethodName)) ∈ TG := tg 317 rfl rfl
set_option maxRecDepth 20000 in
theorem wd_318 : (Jvm.Cond.selects "SlippedBlocks$Past" ({ cls := "SlippedBlocks$Past", name := "remember", desc := "(LSlippedBlocks$Work;)V" } : Jvm.MethodName) ({ cls := "SlippedBlocks$Past", name := "remember", desc := "(LSlippedBlocks$Work;)V" } : Jvm.MethodName)) ∈ TG := tg 318 rfl rfl
set_option maxRecDepth 20000 in
theorem wd_319 : (Jvm.Cond.code ({ cls := "SlippedBlocks$Past", name := "remember", desc := "(LSlippedBlocks$Work;)V" } : Jvm.MethodName) prog_2_method_2_code (2 : Nat) (Option.none : Option Jvm.ClassFile.FieldType)) ∈ TG := tg 319 rfl rfl
set_option maxRecDepth 20000 in
theorem wd_320 : (Jvm.Cond.methodLink "SlippedBlocks$Past" (25 : Nat) ({ cls := "SlippedBlocks$Work", name := "copy", desc := "(LSlippedBlocks$Work;)V" } : Jvm.MethodName)) ∈ TG := tg 320 rfl rfl
set_option maxRecDepth 20000 in
theorem wd_321 : (Jvm.Cond.instanceMethod ({ cls := "SlippedBlocks$Work", name := "copy", desc := "(LSlippedBlocks$Work;)V" } : Jvm.MethodName)) ∈ TG := tg 321 rfl rfl
set_option maxRecDepth 20000 in
theorem wd_322 : (Jvm.Cond.selects "SlippedBlocks$Work" ({ cls := "SlippedBlocks$Work", name := "copy", desc := "(LSlippedBlocks$Work;)V" } : Jvm.MethodName) ({ cls := "SlippedBlocks$Work", name := "copy", desc := "(LSlippedBlocks$Work;)V" } : Jvm.MethodName)) ∈ TG := tg 322 rfl rfl
set_option maxRecDepth 20000 in
theorem wd_323 : (Jvm.Cond.code ({ cls := "SlippedBlocks$Work", name := "copy", desc := "(LSlippedBlocks$Work;)V" } : Jvm.MethodName) prog_7_method_2_code (2 : Nat) (Option.none : Option Jvm.ClassFile.FieldType)) ∈ TG := tg 323 rfl rfl
set_option maxRecDepth 20000 in
theorem wd_324 : (Jvm.Cond.methodLink "SlippedBlocks$Work" (45 : Nat) ({ cls := "SlippedBlocks$Sheet", name := "copy", desc := "(LSlippedBlocks$Sheet;)V" } : Jvm.MethodName)) ∈ TG := tg 324 rfl rfl
set_option maxRecDepth 20000 in
theorem wd_325 : (Jvm.Cond.instanceMethod ({ cls := "SlippedBlocks$Sheet", name := "copy", desc := "(LSlippedBlocks$Sheet;)V" } : Jvm.MethodName)) ∈ TG := tg 325 rfl rfl
set_option maxRecDepth 20000 in
theorem wd_326 : (Jvm.Cond.selects "SlippedBlocks$Sheet" ({ cls := "SlippedBlocks$Sheet", name := "copy", desc := "(LSlippedBlocks$Sheet;)V" } : Jvm.MethodName) ({ cls := "SlippedBlocks$Sheet", name := "copy", desc := "(LSlippedBlocks$Sheet;)V" } : Jvm.MethodName)) ∈ TG := tg 326 rfl rfl
set_option maxRecDepth 20000 in
theorem wd_327 : (Jvm.Cond.code ({ cls := "SlippedBlocks$Sheet", name := "copy", desc := "(LSlippedBlocks$Sheet;)V" } : Jvm.MethodName) prog_4_method_3_code (2 : Nat) (Option.none : Option Jvm.ClassFile.FieldType)) ∈ TG := tg 327 rfl rfl
set_option maxRecDepth 20000 in
theorem wd_328 : (Jvm.Cond.methodLink "SlippedBlocks$Work" (49 : Nat) ({ cls := "java/lang/System", name := "arraycopy", desc := "(Ljava/lang/Object;ILjava/lang/Object;II)V" } : Jvm.MethodName)) ∈ TG := tg 328 rfl rfl
set_option maxRecDepth 20000 in
theorem wd_329 : (Jvm.Cond.static ({ cls := "java/lang/System", name := "arraycopy", desc := "(Ljava/lang/Object;ILjava/lang/Object;II)V" } : Jvm.MethodName)) ∈ TG := tg 329 rfl rfl
set_option maxRecDepth 20000 in
theorem wd_330 : (Jvm.Cond.native ({ cls := "java/lang/System", name := "arraycopy", desc := "(Ljava/lang/Object;ILjava/lang/Object;II)V" } : Jvm.MethodName)) ∈ TG := tg 330 rfl rfl
set_option maxRecDepth 20000 in
theorem wd_331 : (Jvm.Cond.methodLink "SlippedBlocks$Past" (29 : Nat) ({ cls := "java/lang/Math", name := "min", desc := "(II)I" } : Jvm.MethodName)) ∈ TG := tg 331 rfl rfl
set_option maxRecDepth 20000 in
theorem wd_332 : (Jvm.Cond.static ({ cls := "java/lang/Math", name := "min", desc := "(II)I" } : Jvm.MethodName)) ∈ TG := tg 332 rfl rfl
set_option maxRecDepth 20000 in
theorem wd_333 : (Jvm.Cond.code ({ cls := "java/lang/Math", name := "min", desc := "(II)I" } : Jvm.MethodName) prog_12_method_69_code (2 : Nat) (Option.some Jvm.ClassFile.FieldType.int)) ∈ TG := tg 333 rfl rfl
set_option maxRecDepth 20000 in
theorem wd_334 : (Jvm.Cond.methodLink "SlippedBlocks" (78 : Nat) ({ cls := "SlippedBlocks$Work", name := "copy", desc := "(LSlippedBlocks$Work;)V" } : Jvm.MethodName)) ∈ TG := tg 334 rfl rfl
set_option maxRecDepth 20000 in
theorem wd_335 : (Jvm.Cond.methodLink "SlippedBlocksLaw" (27 : Nat) ({ cls := "SlippedBlocks", name := "cuts", desc := "()I" } : Jvm.MethodName)) ∈ TG := tg 335 rfl rfl
set_option maxRecDepth 20000 in
theorem wd_336 : (Jvm.Cond.instanceMethod ({ cls := "SlippedBlocks", name := "cuts", desc := "()I" } : Jvm.MethodName)) ∈ TG := tg 336 rfl rfl
set_option maxRecDepth 20000 in
theorem wd_337 : (Jvm.Cond.selects "SlippedBlocks" ({ cls := "SlippedBlocks", name := "cuts", desc := "()I" } : Jvm.MethodName) ({ cls := "SlippedBlocks", name := "cuts", desc := "()I" } : Jvm.MethodName)) ∈ TG := tg 337 rfl rfl
set_option maxRecDepth 20000 in
theorem wd_338 : (Jvm.Cond.code ({ cls := "SlippedBlocks", name := "cuts", desc := "()I" } : Jvm.MethodName) prog_1_method_5_code (2 : Nat) (Option.some Jvm.ClassFile.FieldType.int)) ∈ TG := tg 338 rfl rfl
set_option maxRecDepth 20000 in
theorem wd_339 : (Jvm.Cond.methodLink "SlippedBlocks" (90 : Nat) ({ cls := "SlippedBlocks$Work", name := "leastSet", desc := "()I" } : Jvm.MethodName)) ∈ TG := tg 339 rfl rfl
set_option maxRecDepth 20000 in
theorem wd_340 : (Jvm.Cond.instanceMethod ({ cls := "SlippedBlocks$Work", name := "leastSet", desc := "()I" } : Jvm.MethodName)) ∈ TG := tg 340 rfl rfl
set_option maxRecDepth 20000 in
theorem wd_341 : (Jvm.Cond.selects "SlippedBlocks$Work" ({ cls := "SlippedBlocks$Work", name := "leastSet", desc := "()I" } : Jvm.MethodName) ({ cls := "SlippedBlocks$Work", name := "leastSet", desc := "()I" } : Jvm.MethodName)) ∈ TG := tg 341 rfl rfl
set_option maxRecDepth 20000 in
theorem wd_342 : (Jvm.Cond.code ({ cls := "SlippedBlocks$Work", name := "leastSet", desc := "()I" } : Jvm.MethodName) prog_7_method_19_code (5 : Nat) (Option.some Jvm.ClassFile.FieldType.int)) ∈ TG := tg 342 rfl rfl
set_option maxRecDepth 20000 in
theorem wd_343 : (Jvm.Cond.methodLink "SlippedBlocks$Work" (99 : Nat) ({ cls := "SlippedBlocks$Work", name := "palette", desc := "()I" } : Jvm.MethodName)) ∈ TG := tg 343 rfl rfl
set_option maxRecDepth 20000 in
theorem wd_344 : (Jvm.Cond.instanceMethod ({ cls := "SlippedBlocks$Work", name := "palette", desc := "()I" } : Jvm.MethodName)) ∈ TG := tg 344 rfl rfl
set_option maxRecDepth 20000 in
theorem wd_345 : (Jvm.Cond.selects "SlippedBlocks$Work" ({ cls := "SlippedBlocks$Work", name := "palette", desc := "()I" } : Jvm.MethodName) ({ cls := "SlippedBlocks$Work", name := "palette", desc := "()I" } : Jvm.MethodName)) ∈ TG := tg 345 rfl rfl
set_option maxRecDepth 20000 in
theorem wd_346 : (Jvm.Cond.code ({ cls := "SlippedBlocks$Work", name := "palette", desc := "()I" } : Jvm.MethodName) prog_7_method_15_code (5 : Nat) (Option.some Jvm.ClassFile.FieldType.int)) ∈ TG := tg 346 rfl rfl
set_option maxRecDepth 20000 in
theorem wd_347 : (Jvm.Cond.methodLink "SlippedBlocks$Work" (72 : Nat) ({ cls := "SlippedBlocks$Work", name := "paper", desc := "()J" } : Jvm.MethodName)) ∈ TG := tg 347 rfl rfl
set_option maxRecDepth 20000 in
theorem wd_348 : (Jvm.Cond.instanceMethod ({ cls := "SlippedBlocks$Work", name := "paper", desc := "()J" } : Jvm.MethodName)) ∈ TG := tg 348 rfl rfl
set_option maxRecDepth 20000 in
theorem wd_349 : (Jvm.Cond.selects "SlippedBlocks$Work" ({ cls := "SlippedBlocks$Work", name := "paper", desc := "()J" } : Jvm.MethodName) ({ cls := "SlippedBlocks$Work", name := "paper", desc := "()J" } : Jvm.MethodName)) ∈ TG := tg 349 rfl rfl
set_option maxRecDepth 20000 in
theorem wd_350 : (Jvm.Cond.code ({ cls := "SlippedBlocks$Work", name := "paper", desc := "()J" } : Jvm.MethodName) prog_7_method_13_code (6 : Nat) (Option.some Jvm.ClassFile.FieldType.long)) ∈ TG := tg 350 rfl rfl
set_option maxRecDepth 20000 in
theorem wd_351 : (Jvm.Cond.methodLink "SlippedBlocks$Work" (88 : Nat) ({ cls := "SlippedBlocks$Sheet", name := "cellsOf", desc := "(I)J" } : Jvm.MethodName)) ∈ TG := tg 351 rfl rfl
set_option maxRecDepth 20000 in
theorem wd_352 : (Jvm.Cond.instanceMethod ({ cls := "SlippedBlocks$Sheet", name := "cellsOf", desc := "(I)J" } : Jvm.MethodName)) ∈ TG := tg 352 rfl rfl
set_option maxRecDepth 20000 in
theorem wd_353 : (Jvm.Cond.selects "SlippedBlocks$Sheet" ({ cls := "SlippedBlocks$Sheet", name := "cellsOf", desc := "(I)J" } : Jvm.MethodName) ({ cls := "SlippedBlocks$Sheet", name := "cellsOf", desc := "(I)J" } : Jvm.MethodName)) ∈ TG := tg 353 rfl rfl
set_option maxRecDepth 20000 in
theorem wd_354 : (Jvm.Cond.code ({ cls := "SlippedBlocks$Sheet", name := "cellsOf", desc := "(I)J" } : Jvm.MethodName) prog_4_method_7_code (2 : Nat) (Option.some Jvm.ClassFile.FieldType.long)) ∈ TG := tg 354 rfl rfl
set_option maxRecDepth 20000 in
theorem wd_355 : (Jvm.Cond.methodLink "SlippedBlocks$Work" (103 : Nat) ({ cls := "SlippedBlocks$Work", name := "sets", desc := "()I" } : Jvm.MethodName)) ∈ TG := tg 355 rfl rfl
set_option maxRecDepth 20000 in
theorem wd_356 : (Jvm.Cond.instanceMethod ({ cls := "SlippedBlocks$Work", name := "sets", desc := "()I" } : Jvm.MethodName)) ∈ TG := tg 356 rfl rfl
set_option maxRecDepth 20000 in
theorem wd_357 : (Jvm.Cond.selects "SlippedBlocks$Work" ({ cls := "SlippedBlocks$Work", name := "sets", desc := "()I" } : Jvm.MethodName) ({ cls := "SlippedBlocks$Work", name := "sets", desc := "()I" } : Jvm.MethodName)) ∈ TG := tg 357 rfl rfl
set_option maxRecDepth 20000 in
theorem wd_358 : (Jvm.Cond.code ({ cls := "SlippedBlocks$Work", name := "sets", desc := "()I" } : Jvm.MethodName) prog_7_method_16_code (1 : Nat) (Option.some Jvm.ClassFile.FieldType.int)) ∈ TG := tg 358 rfl rfl
set_option maxRecDepth 20000 in
theorem wd_359 : (Jvm.Cond.methodLink "SlippedBlocks$Work" (106 : Nat) ({ cls := "java/lang/Integer", name := "bitCount", desc := "(I)I" } : Jvm.MethodName)) ∈ TG := tg 359 rfl rfl
set_option maxRecDepth 20000 in
theorem wd_360 : (Jvm.Cond.static ({ cls := "java/lang/Integer", name := "bitCount", desc := "(I)I" } : Jvm.MethodName)) ∈ TG := tg 360 rfl rfl
set_option maxRecDepth 20000 in
theorem wd_361 : (Jvm.Cond.code ({ cls := "java/lang/Integer", name := "bitCount", desc := "(I)I" } : Jvm.MethodName) prog_10_method_49_code (1 : Nat) (Option.some Jvm.ClassFile.FieldType.int)) ∈ TG := tg 361 rfl rfl
set_option maxRecDepth 20000 in
theorem wd_362 : (Jvm.Cond.constant "java/lang/Integer" (265 : Nat) (1431655765 : Int32)) ∈ TG := tg 362 rfl rfl
set_option maxRecDepth 20000 in
theorem wd_363 : (Jvm.Cond.constant "java/lang/Integer" (266 : Nat) (858993459 : Int32)) ∈ TG := tg 363 rfl rfl
set_option maxRecDepth 20000 in
theorem wd_364 : (Jvm.Cond.constant "java/lang/Integer" (267 : Nat) (252645135 : Int32)) ∈ TG := tg 364 rfl rfl
set_option maxRecDepth 20000 in
theorem wd_365 : (Jvm.Cond.methodLink "SlippedBlocks$Work" (110 : Nat) ({ cls := "SlippedBlocks$Work", name := "coloursBy", desc := "(I)I" } : Jvm.MethodName)) ∈ TG := tg 365 rfl rfl
set_option maxRecDepth 20000 in
theorem wd_366 : (Jvm.Cond.instanceMethod ({ cls := "SlippedBlocks$Work", name := "coloursBy", desc := "(I)I" } : Jvm.MethodName)) ∈ TG := tg 366 rfl rfl
set_option maxRecDepth 20000 in
theorem wd_367 : (Jvm.Cond.selects "SlippedBlocks$Work" ({ cls := "SlippedBlocks$Work", name := "coloursBy", desc := "(I)I" } : Jvm.MethodName) ({ cls := "SlippedBlocks$Work", name := "coloursBy", desc := "(I)I" } : Jvm.MethodName)) ∈ TG := tg 367 rfl rfl
set_option maxRecDepth 20000 in
theorem wd_368 : (Jvm.Cond.code ({ cls := "SlippedBlocks$Work", name := "coloursBy", desc := "(I)I" } : Jvm.MethodName) prog_7_method_18_code (5 : Nat) (Option.some Jvm.ClassFile.FieldType.int)) ∈ TG := tg 368 rfl rfl
set_option maxRecDepth 20000 in
theorem wd_369 : (Jvm.Cond.methodLink "SlippedBlocks$Work" (95 : Nat) ({ cls := "SlippedBlocks$Work", name := "coloursOver", desc := "(II)I" } : Jvm.MethodName)) ∈ TG := tg 369 rfl rfl
set_option maxRecDepth 20000 in
theorem wd_370 : (Jvm.Cond.instanceMethod ({ cls := "SlippedBlocks$Work", name := "coloursOver", desc := "(II)I" } : Jvm.MethodName)) ∈ TG := tg 370 rfl rfl
set_option maxRecDepth 20000 in
theorem wd_371 : (Jvm.Cond.selects "SlippedBlocks$Work" ({ cls := "SlippedBlocks$Work", name := "coloursOver", desc := "(II)I" } : Jvm.MethodName) ({ cls := "SlippedBlocks$Work", name := "coloursOver", desc := "(II)I" } : Jvm.MethodName)) ∈ TG := tg 371 rfl rfl
set_option maxRecDepth 20000 in
theorem wd_372 : (Jvm.Cond.code ({ cls := "SlippedBlocks$Work", name := "coloursOver", desc := "(II)I" } : Jvm.MethodName) prog_7_method_17_code (6 : Nat) (Option.some Jvm.ClassFile.FieldType.int)) ∈ TG := tg 372 rfl rfl
set_option maxRecDepth 20000 in
theorem wd_373 : (Jvm.Cond.methodLink "SlippedBlocks$Work" (80 : Nat) ({ cls := "SlippedBlocks$Work", name := "isDense", desc := "(I)Z" } : Jvm.MethodName)) ∈ TG := tg 373 rfl rfl
set_option maxRecDepth 20000 in
theorem wd_374 : (Jvm.Cond.instanceMethod ({ cls := "SlippedBlocks$Work", name := "isDense", desc := "(I)Z" } : Jvm.MethodName)) ∈ TG := tg 374 rfl rfl
set_option maxRecDepth 20000 in
theorem wd_375 : (Jvm.Cond.selects "SlippedBlocks$Work" ({ cls := "SlippedBlocks$Work", name := "isDense", desc := "(I)Z" } : Jvm.MethodName) ({ cls := "SlippedBlocks$Work", name := "isDense", desc := "(I)Z" } : Jvm.MethodName)) ∈ TG := tg 375 rfl rfl
set_option maxRecDepth 20000 in
theorem wd_376 : (Jvm.Cond.code ({ cls := "SlippedBlocks$Work", name := "isDense", desc := "(I)Z" } : Jvm.MethodName) prog_7_method_7_code (2 : Nat) (Option.some Jvm.ClassFile.FieldType.boolean)) ∈ TG := tg 376 rfl rfl
set_option maxRecDepth 20000 in
theorem wd_377 : (Jvm.Cond.fieldLink "SlippedBlocks$Work" (92 : Nat) "SlippedBlocks$Work" "HAVING" "[I") ∈ TG := tg 377 rfl rfl
set_option maxRecDepth 20000 in
theorem wd_379 : (Jvm.Cond.methodLink "SlippedBlocks" (94 : Nat) ({ cls := "SlippedBlocks$Work", name := "cutFor", desc := "(I)V" } : Jvm.MethodName)) ∈ TG := tg 379 rfl rfl
set_option maxRecDepth 20000 in
theorem wd_380 : (Jvm.Cond.instanceMethod ({ cls := "SlippedBlocks$Work", name := "cutFor", desc := "(I)V" } : Jvm.MethodName)) ∈ TG := tg 380 rfl rfl
set_option maxRecDepth 20000 in
theorem wd_381 : (Jvm.Cond.selects "SlippedBlocks$Work" ({ cls := "SlippedBlocks$Work", name := "cutFor", desc := "(I)V" } : Jvm.MethodName) ({ cls := "SlippedBlocks$Work", name := "cutFor", desc := "(I)V" } : Jvm.MethodName)) ∈ TG := tg 381 rfl rfl
set_option maxRecDepth 20000 in
theorem wd_382 : (Jvm.Cond.code ({ cls := "SlippedBlocks$Work", name := "cutFor", desc := "(I)V" } : Jvm.MethodName) prog_7_method_22_code (7 : Nat) (Option.none : Option Jvm.ClassFile.FieldType)) ∈ TG := tg 382 rfl rfl
set_option maxRecDepth 20000 in
theorem wd_383 : (Jvm.Cond.methodLink "SlippedBlocks$Work" (116 : Nat) ({ cls := "SlippedBlocks$Work", name := "firstSetGiving", desc := "(II)I" } : Jvm.MethodName)) ∈ TG := tg 383 rfl rfl
set_option maxRecDepth 20000 in
theorem wd_384 : (Jvm.Cond.instanceMethod ({ cls := "SlippedBlocks$Work", name := "firstSetGiving", desc := "(II)I" } : Jvm.MethodName)) ∈ TG := tg 384 rfl rfl
set_option maxRecDepth 20000 in
theorem wd_385 : (Jvm.Cond.selects "SlippedBlocks$Work" ({ cls := "SlippedBlocks$Work", name := "firstSetGiving", desc := "(II)I" } : Jvm.MethodName) ({ cls := "SlippedBlocks$Work", name := "firstSetGiving", desc := "(II)I" } : Jvm.MethodName)) ∈ TG := tg 385 rfl rfl
set_option maxRecDepth 20000 in
theorem wd_386 : (Jvm.Cond.code ({ cls := "SlippedBlocks$Work", name := "firstSetGiving", desc := "(II)I" } : Jvm.MethodName) prog_7_method_21_code (4 : Nat) (Option.some Jvm.ClassFile.FieldType.int)) ∈ TG := tg 386 rfl rfl
set_option maxRecDepth 20000 in
theorem wd_387 : (Jvm.Cond.methodLink "SlippedBlocks$Work" (113 : Nat) ({ cls := "SlippedBlocks$Work", name := "colourOfAll", desc := "(I)I" } : Jvm.MethodName)) ∈ TG := tg 387 rfl rfl
set_option maxRecDepth 20000 in
theorem wd_388 : (Jvm.Cond.instanceMethod ({ cls := "SlippedBlocks$Work", name := "colourOfAll", desc := "(I)I" } : Jvm.MethodName)) ∈ TG := tg 388 rfl rfl
set_option maxRecDepth 20000 in
theorem wd_389 : (Jvm.Cond.selects "SlippedBlocks$Work" ({ cls := "SlippedBlocks$Work", name := "colourOfAll", desc := "(I)I" } : Jvm.MethodName) ({ cls := "SlippedBlocks$Work", name := "colourOfAll", desc := "(I)I" } : Jvm.MethodName)) ∈ TG := tg 389 rfl rfl
set_option maxRecDepth 20000 in
theorem wd_390 : (Jvm.Cond.code ({ cls := "SlippedBlocks$Work", name := "colourOfAll", desc := "(I)I" } : Jvm.MethodName) prog_7_method_20_code (5 : Nat) (Option.some Jvm.ClassFile.FieldType.int)) ∈ TG := tg 390 rfl rfl
set_option maxRecDepth 20000 in
theorem wd_391 : (Jvm.Cond.methodLink "SlippedBlocks$Work" (119 : Nat) ({ cls := "SlippedBlocks$Work", name := "addToBlocks", desc := "(IJ)V" } : Jvm.MethodName)) ∈ TG := tg 391 rfl rfl
set_option maxRecDepth 20000 in
theorem wd_393 : (Jvm.Cond.instanceMethod ({ cls := "SlippedBlocks$Work", name := "addToBlocks", desc := "(IJ)V" } : Jvm.MethodName)) ∈ TG := tg 393 rfl rfl
set_option maxRecDepth 20000 in
theorem wd_394 : (Jvm.Cond.code ({ cls := "SlippedBlocks$Work", name := "addToBlocks", desc := "(IJ)V" } : Jvm.MethodName) prog_7_method_23_code (5 : Nat) (Option.none : Option Jvm.ClassFile.FieldType)) ∈ TG := tg 394 rfl rfl
set_option maxRecDepth 20000 in
theorem wd_395 : (Jvm.Cond.methodLink "SlippedBlocks" (98 : Nat) ({ cls := "java/lang/Integer", name := "bitCount", desc := "(I)I" } : Jvm.MethodName)) ∈ TG := tg 395 rfl rfl
set_option maxRecDepth 20000 in
theorem wd_396 : (Jvm.Cond.methodLink "SlippedBlocksLaw" (31 : Nat) ({ cls := "SlippedBlocks", name := "carves", desc := "(III)I" } : Jvm.MethodName)) ∈ TG := tg 396 rfl rfl
set_option maxRecDepth 20000 in
theorem wd_397 : (Jvm.Cond.instanceMethod ({ cls := "SlippedBlocks", name := "carves", desc := "(III)I" } : Jvm.MethodName)) ∈ TG := tg 397 rfl rfl
set_option maxRecDepth 20000 in
theorem wd_398 : (Jvm.Cond.selects "SlippedBlocks" ({ cls := "SlippedBlocks", name := "carves", desc := "(III)I" } : Jvm.MethodName) ({ cls := "SlippedBlocks", name := "carves", desc := "(III)I" } : Jvm.MethodName)) ∈ TG := tg 398 rfl rfl
set_option maxRecDepth 20000 in
theorem wd_399 : (Jvm.Cond.code ({ cls := "SlippedBlocks", name := "carves", desc := "(III)I" } : Jvm.MethodName) prog_1_method_6_code (4 : Nat) (Option.some Jvm.ClassFile.FieldType.int)) ∈ TG := tg 399 rfl rfl
set_option maxRecDepth 20000 in
theorem wd_400 : (Jvm.Cond.methodLink "SlippedBlocks" (104 : Nat) ({ cls := "SlippedBlocks$Work", name := "hasInk", desc := "(I)Z" } : Jvm.MethodName)) ∈ TG := tg 400 rfl rfl
set_option maxRecDepth 20000 in
theorem wd_401 : (Jvm.Cond.instanceMethod ({ cls := "SlippedBlocks$Work", name := "hasInk", desc := "(I)Z" } : Jvm.MethodName)) ∈ TG := tg 401 rfl rfl
set_option maxRecDepth 20000 in
theorem wd_402 : (Jvm.Cond.selects "SlippedBlocks$Work" ({ cls := "SlippedBlocks$Work", name := "hasInk", desc := "(I)Z" } : Jvm.MethodName) ({ cls := "SlippedBlocks$Work", name := "hasInk", desc := "(I)Z" } : Jvm.MethodName)) ∈ TG := tg 402 rfl rfl
set_option maxRecDepth 20000 in
theorem wd_403 : (Jvm.Cond.code ({ cls := "SlippedBlocks$Work", name := "hasInk", desc := "(I)Z" } : Jvm.MethodName) prog_7_method_5_code (2 : Nat) (Option.some Jvm.ClassFile.FieldType.boolean)) ∈ TG := tg 403 rfl rfl
set_option maxRecDepth 20000 in
theorem wd_404 : (Jvm.Cond.methodLink "SlippedBlocks" (107 : Nat) ({ cls := "SlippedBlocks$Work", name := "hasCell", desc := "(II)Z" } : Jvm.MethodName)) ∈ TG := tg 404 rfl rfl
set_option maxRecDepth 20000 in
theorem wd_405 : (Jvm.Cond.instanceMethod ({ cls := "SlippedBlocks$Work", name := "hasCell", desc := "(II)Z" } : Jvm.MethodName)) ∈ TG := tg 405 rfl rfl
set_option maxRecDepth 20000 in
theorem wd_406 : (Jvm.Cond.selects "SlippedBlocks$Work" ({ cls := "SlippedBlocks$Work", name := "hasCell", desc := "(II)Z" } : Jvm.MethodName) ({ cls := "SlippedBlocks$Work", name := "hasCell", desc := "(II)Z" } : Jvm.MethodName)) ∈ TG := tg 406 rfl rfl
set_option maxRecDepth 20000 in
theorem wd_407 : (Jvm.Cond.code ({ cls := "SlippedBlocks$Work", name := "hasCell", desc := "(II)Z" } : Jvm.MethodName) prog_7_method_6_code (3 : Nat) (Option.some Jvm.ClassFile.FieldType.boolean)) ∈ TG := tg 407 rfl rfl
set_option maxRecDepth 20000 in
theorem wd_408 : (Jvm.Cond.methodLink "SlippedBlocks" (115 : Nat) ({ cls := "SlippedBlocks", name := "cellBit", desc := "(II)J" } : Jvm.MethodName)) ∈ TG := tg 408 rfl rfl
set_option maxRecDepth 20000 in
theorem wd_409 : (Jvm.Cond.methodLink "SlippedBlocksLaw" (36 : Nat) ({ cls := "SlippedBlocks", name := "slips", desc := "(III)I" } : Jvm.MethodName)) ∈ TG := tg 409 rfl rfl
set_option maxRecDepth 20000 in
theorem wd_410 : (Jvm.Cond.instanceMethod ({ cls := "SlippedBlocks", name := "slips", desc := "(III)I" } : Jvm.MethodName)) ∈ TG := tg 410 rfl rfl
set_option maxRecDepth 20000 in
theorem wd_411 : (Jvm.Cond.selects "SlippedBlocks" ({ cls := "SlippedBlocks", name := "slips", desc := "(III)I" } : Jvm.MethodName) ({ cls := "SlippedBlocks", name := "slips", desc := "(III)I" } : Jvm.MethodName)) ∈ TG := tg 411 rfl rfl
set_option maxRecDepth 20000 in
theorem wd_412 : (Jvm.Cond.code ({ cls := "SlippedBlocks", name := "slips", desc := "(III)I" } : Jvm.MethodName) prog_1_method_7_code (5 : Nat) (Option.some Jvm.ClassFile.FieldType.int)) ∈ TG := tg 412 rfl rfl
set_option maxRecDepth 20000 in
theorem wd_413 : (Jvm.Cond.methodLink "SlippedBlocks" (119 : Nat) ({ cls := "SlippedBlocks", name := "slipOf", desc := "(II)I" } : Jvm.MethodName)) ∈ TG := tg 413 rfl rfl
set_option maxRecDepth 20000 in
theorem wd_414 : (Jvm.Cond.static ({ cls := "SlippedBlocks", name := "slipOf", desc := "(II)I" } : Jvm.MethodName)) ∈ TG := tg 414 rfl rfl
set_option maxRecDepth 20000 in
theorem wd_415 : (Jvm.Cond.code ({ cls := "SlippedBlocks", name := "slipOf", desc := "(II)I" } : Jvm.MethodName) prog_1_method_27_code (2 : Nat) (Option.some Jvm.ClassFile.FieldType.int)) ∈ TG := tg 415 rfl rfl
set_option maxRecDepth 20000 in
theorem wd_416 : (Jvm.Cond.methodLink "SlippedBlocksLaw" (40 : Nat) ({ cls := "SlippedBlocks", name := "swaps", desc := "(II)I" } : Jvm.MethodName)) ∈ TG := tg 416 rfl rfl
set_option maxRecDepth 20000 in
theorem wd_417 : (Jvm.Cond.instanceMethod ({ cls := "SlippedBlocks", name := "swaps", desc := "(II)I" } : Jvm.MethodName)) ∈ TG := tg 417 rfl rfl
set_option maxRecDepth 20000 in
theorem wd_418 : (Jvm.Cond.selects "SlippedBlocks" ({ cls := "SlippedBlocks", name := "swaps", desc := "(II)I" } : Jvm.MethodName) ({ cls := "SlippedBlocks", name := "swaps", desc := "(II)I" } : Jvm.MethodName)) ∈ TG := tg 418 rfl rfl
set_option maxRecDepth 20000 in
theorem wd_419 : (Jvm.Cond.code ({ cls := "SlippedBlocks", name := "swaps", desc := "(II)I" } : Jvm.MethodName) prog_1_method_8_code (3 : Nat) (Option.some Jvm.ClassFile.FieldType.int)) ∈ TG := tg 419 rfl rfl
set_option maxRecDepth 20000 in
theorem wd_420 : (Jvm.Cond.methodLink "SlippedBlocks" (127 : Nat) ({ cls := "SlippedBlocks$Work", name := "exchange", desc := "(II)V" } : Jvm.MethodName)) ∈ TG := tg 420 rfl rfl
set_option maxRecDepth 20000 in
theorem wd_421 : (Jvm.Cond.instanceMethod ({ cls := "SlippedBlocks$Work", name := "exchange", desc := "(II)V" } : Jvm.MethodName)) ∈ TG := tg 421 rfl rfl
set_option maxRecDepth 20000 in
theorem wd_422 : (Jvm.Cond.selects "SlippedBlocks$Work" ({ cls := "SlippedBlocks$Work", name := "exchange", desc := "(II)V" } : Jvm.MethodName) ({ cls := "SlippedBlocks$Work", name := "exchange", desc := "(II)V" } : Jvm.MethodName)) ∈ TG := tg 422 rfl rfl
set_option maxRecDepth 20000 in
theorem wd_423 : (Jvm.Cond.code ({ cls := "SlippedBlocks$Work", name := "exchange", desc := "(II)V" } : Jvm.MethodName) prog_7_method_9_code (5 : Nat) (Option.none : Option Jvm.ClassFile.FieldType)) ∈ TG := tg 423 rfl rfl
set_option maxRecDepth 20000 in
theorem wd_424 : (Jvm.Cond.methodLink "SlippedBlocks$Work" (58 : Nat) ({ cls := "SlippedBlocks$Work", name := "placeOf", desc := "(I)I" } : Jvm.MethodName)) ∈ TG := tg 424 rfl rfl
set_option maxRecDepth 20000 in
theorem wd_425 : (Jvm.Cond.instanceMethod ({ cls := "SlippedBlocks$Work", name := "placeOf", desc := "(I)I" } : Jvm.MethodName)) ∈ TG := tg 425 rfl rfl
set_option maxRecDepth 20000 in
theorem wd_426 : (Jvm.Cond.selects "SlippedBlocks$Work" ({ cls := "SlippedBlocks$Work", name := "placeOf", desc := "(I)I" } : Jvm.MethodName) ({ cls := "SlippedBlocks$Work", name := "placeOf", desc := "(I)I" } : Jvm.MethodName)) ∈ TG := tg 426 rfl rfl
set_option maxRecDepth 20000 in
theorem wd_427 : (Jvm.Cond.code ({ cls := "SlippedBlocks$Work", name := "placeOf", desc := "(I)I" } : Jvm.MethodName) prog_7_method_8_code (3 : Nat) (Option.some Jvm.ClassFile.FieldType.int)) ∈ TG := tg 427 rfl rfl
set_option maxRecDepth 20000 in
theorem wd_428 : (Jvm.Cond.methodLink "SlippedBlocks" (131 : Nat) ({ cls := "SlippedBlocks", name := "wrongCells", desc := "(II)I" } : Jvm.MethodName)) ∈ TG := tg 428 rfl rfl
set_option maxRecDepth 20000 in
theorem wd_430 : (Jvm.Cond.instanceMethod ({ cls := "SlippedBlocks", name := "wrongCells", desc := "(II)I" } : Jvm.MethodName)) ∈ TG := tg 430 rfl rfl
set_option maxRecDepth 20000 in
theorem wd_431 : (Jvm.Cond.code ({ cls := "SlippedBlocks", name := "wrongCells", desc := "(II)I" } : Jvm.MethodName) prog_1_method_24_code (3 : Nat) (Option.some Jvm.ClassFile.FieldType.int)) ∈ TG := tg 431 rfl rfl
set_option maxRecDepth 20000 in
theorem wd_432 : (Jvm.Cond.methodLink "SlippedBlocks" (144 : Nat) ({ cls := "SlippedBlocks$Work", name := "proofInto", desc := "(LSlippedBlocks$Sheet;II)V" } : Jvm.MethodName)) ∈ TG := tg 432 rfl rfl
set_option maxRecDepth 20000 in
theorem wd_433 : (Jvm.Cond.instanceMethod ({ cls := "SlippedBlocks$Work", name := "proofInto", desc := "(LSlippedBlocks$Sheet;II)V" } : Jvm.MethodName)) ∈ TG := tg 433 rfl rfl
set_option maxRecDepth 20000 in
theorem wd_434 : (Jvm.Cond.selects "SlippedBlocks$Work" ({ cls := "SlippedBlocks$Work", name := "proofInto", desc := "(LSlippedBlocks$Sheet;II)V" } : Jvm.MethodName) ({ cls := "SlippedBlocks$Work", name := "proofInto", desc := "(LSlippedBlocks$Sheet;II)V" } : Jvm.MethodName)) ∈ TG := tg 434 rfl rfl
set_option maxRecDepth 20000 in
theorem wd_435 : (Jvm.Cond.code ({ cls := "SlippedBlocks$Work", name := "proofInto", desc := "(LSlippedBlocks$Sheet;II)V" } : Jvm.MethodName) prog_7_method_14_code (10 : Nat) (Option.none : Option Jvm.ClassFile.FieldType)) ∈ TG := tg 435 rfl rfl
set_option maxRecDepth 20000 in
theorem wd_437 : (Jvm.Cond.static ({ cls := "SlippedBlocks", name := "slipped", desc := "(JI)J" } : Jvm.MethodName)) ∈ TG := tg 437 rfl rfl
set_option maxRecDepth 20000 in
theorem wd_438 : (Jvm.Cond.code ({ cls := "SlippedBlocks", name := "slipped", desc := "(JI)J" } : Jvm.MethodName) prog_1_method_30_code (4 : Nat) (Option.some Jvm.ClassFile.FieldType.long)) ∈ TG := tg 438 rfl rfl
set_option maxRecDepth 20000 in
theorem wd_439 : (Jvm.Cond.methodLink "SlippedBlocks" (169 : Nat) ({ cls := "SlippedBlocks", name := "dyOf", desc := "(I)I" } : Jvm.MethodName)) ∈ TG := tg 439 rfl rfl
set_option maxRecDepth 20000 in
theorem wd_440 : (Jvm.Cond.static ({ cls := "SlippedBlocks", name := "dyOf", desc := "(I)I" } : Jvm.MethodName)) ∈ TG := tg 440 rfl rfl
set_option maxRecDepth 20000 in
theorem wd_441 : (Jvm.Cond.code ({ cls := "SlippedBlocks", name := "dyOf", desc := "(I)I" } : Jvm.MethodName) prog_1_method_29_code (1 : Nat) (Option.some Jvm.ClassFile.FieldType.int)) ∈ TG := tg 441 rfl rfl
set_option maxRecDepth 20000 in
theorem wd_442 : (Jvm.Cond.methodLink "SlippedBlocks" (166 : Nat) ({ cls := "SlippedBlocks", name := "dxOf", desc := "(I)I" } : Jvm.MethodName)) ∈ TG := tg 442 rfl rfl
set_option maxRecDepth 20000 in
theorem wd_443 : (Jvm.Cond.static ({ cls := "SlippedBlocks", name := "dxOf", desc := "(I)I" } : Jvm.MethodName)) ∈ TG := tg 443 rfl rfl
set_option maxRecDepth 20000 in
theorem wd_444 : (Jvm.Cond.code ({ cls := "SlippedBlocks", name := "dxOf", desc := "(I)I" } : Jvm.MethodName) prog_1_method_28_code (1 : Nat) (Option.some Jvm.ClassFile.FieldType.int)) ∈ TG := tg 444 rfl rfl
set_option maxRecDepth 20000 in
theorem wd_445 : (Jvm.Cond.methodLink "SlippedBlocks$Work" (84 : Nat) ({ cls := "SlippedBlocks$Sheet", name := "print", desc := "(JIZ)V" } : Jvm.MethodName)) ∈ TG := tg 445 rfl rfl
set_option maxRecDepth 20000 in
theorem wd_446 : (Jvm.Cond.methodLink "SlippedBlocks" (219 : Nat) ({ cls := "SlippedBlocks$Sheet", name := "unlike", desc := "(LSlippedBlocks$Sheet;)J" } : Jvm.MethodName)) ∈ TG := tg 446 rfl rfl
set_option maxRecDepth 20000 in
theorem wd_447 : (Jvm.Cond.instanceMethod ({ cls := "SlippedBlocks$Sheet", name := "unlike", desc := "(LSlippedBlocks$Sheet;)J" } : Jvm.MethodName)) ∈ TG := tg 447 rfl rfl
set_option maxRecDepth 20000 in
theorem wd_448 : (Jvm.Cond.selects "SlippedBlocks$Sheet" ({ cls := "SlippedBlocks$Sheet", name := "unlike", desc := "(LSlippedBlocks$Sheet;)J" } : Jvm.MethodName) ({ cls := "SlippedBlocks$Sheet", name := "unlike", desc := "(LSlippedBlocks$Sheet;)J" } : Jvm.MethodName)) ∈ TG := tg 448 rfl rfl
set_option maxRecDepth 20000 in
theorem wd_449 : (Jvm.Cond.code ({ cls := "SlippedBlocks$Sheet", name := "unlike", desc := "(LSlippedBlocks$Sheet;)J" } : Jvm.MethodName) prog_4_method_8_code (2 : Nat) (Option.some Jvm.ClassFile.FieldType.long)) ∈ TG := tg 449 rfl rfl
set_option maxRecDepth 20000 in
theorem wd_450 : (Jvm.Cond.methodLink "SlippedBlocks" (161 : Nat) ({ cls := "java/lang/Long", name := "bitCount", desc := "(J)I" } : Jvm.MethodName)) ∈ TG := tg 450 rfl rfl
set_option maxRecDepth 20000 in
theorem wd_451 : (Jvm.Cond.static ({ cls := "java/lang/Long", name := "bitCount", desc := "(J)I" } : Jvm.MethodName)) ∈ TG := tg 451 rfl rfl
set_option maxRecDepth 20000 in
theorem wd_452 : (Jvm.Cond.code ({ cls := "java/lang/Long", name := "bitCount", desc := "(J)I" } : Jvm.MethodName) prog_11_method_50_code (2 : Nat) (Option.some Jvm.ClassFile.FieldType.int)) ∈ TG := tg 452 rfl rfl
set_option maxRecDepth 20000 in
theorem wd_453 : (Jvm.Cond.constantLong "java/lang/Long" (314 : Nat) (6148914691236517205 : Int64)) ∈ TG := tg 453 rfl rfl
set_option maxRecDepth 20000 in
theorem wd_454 : (Jvm.Cond.constantLong "java/lang/Long" (316 : Nat) (3689348814741910323 : Int64)) ∈ TG := tg 454 rfl rfl
set_option maxRecDepth 20000 in
theorem wd_455 : (Jvm.Cond.constantLong "java/lang/Long" (318 : Nat) (1085102592571150095 : Int64)) ∈ TG := tg 455 rfl rfl
set_option maxRecDepth 20000 in
theorem wd_456 : (Jvm.Cond.methodLink "SlippedBlocksLaw" (45 : Nat) ({ cls := "SlippedBlocks", name := "undo", desc := "()I" } : Jvm.MethodName)) ∈ TG := tg 456 rfl rfl
set_option maxRecDepth 20000 in
theorem wd_457 : (Jvm.Cond.instanceMethod ({ cls := "SlippedBlocks", name := "undo", desc := "()I" } : Jvm.MethodName)) ∈ TG := tg 457 rfl rfl
set_option maxRecDepth 20000 in
theorem wd_458 : (Jvm.Cond.selects "SlippedBlocks" ({ cls := "SlippedBlocks", name := "undo", desc := "()I" } : Jvm.MethodName) ({ cls := "SlippedBlocks", name := "undo", desc := "()I" } : Jvm.MethodName)) ∈ TG := tg 458 rfl rfl
set_option maxRecDepth 20000 in
theorem wd_459 : (Jvm.Cond.code ({ cls := "SlippedBlocks", name := "undo", desc := "()I" } : Jvm.MethodName) prog_1_method_9_code (1 : Nat) (Option.some Jvm.ClassFile.FieldType.int)) ∈ TG := tg 459 rfl rfl
set_option maxRecDepth 20000 in
theorem wd_460 : (Jvm.Cond.methodLink "SlippedBlocks" (135 : Nat) ({ cls := "SlippedBlocks$Past", name := "restore", desc := "(LSlippedBlocks$Work;)V" } : Jvm.MethodName)) ∈ TG := tg 460 rfl rfl
set_option maxRecDepth 20000 in
theorem wd_461 : (Jvm.Cond.instanceMethod ({ cls := "SlippedBlocks$Past", name := "restore", desc := "(LSlippedBlocks$Work;)V" } : Jvm.MethodName)) ∈ TG := tg 461 rfl rfl
set_option maxRecDepth 20000 in
theorem wd_462 : (Jvm.Cond.selects "SlippedBlocks$Past" ({ cls := "SlippedBlocks$Past", name := "restore", desc := "(LSlippedBlocks$Work;)V" } : Jvm.MethodName) ({ cls := "SlippedBlocks$Past", name := "restore", desc := "(LSlippedBlocks$Work;)V" } : Jvm.MethodName)) ∈ TG := tg 462 rfl rfl
set_option maxRecDepth 20000 in
theorem wd_463 : (Jvm.Cond.code ({ cls := "SlippedBlocks$Past", name := "restore", desc := "(LSlippedBlocks$Work;)V" } : Jvm.MethodName) prog_2_method_3_code (2 : Nat) (Option.none : Option Jvm.ClassFile.FieldType)) ∈ TG := tg 463 rfl rfl
set_option maxRecDepth 20000 in
theorem wd_464 : (Jvm.Cond.methodLink "SlippedBlocksLaw" (49 : Nat) ({ cls := "SlippedBlocks", name := "cell", desc := "(III)I" } : Jvm.MethodName)) ∈ TG := tg 464 rfl rfl
set_option maxRecDepth 20000 in
theorem wd_465 : (Jvm.Cond.instanceMethod ({ cls := "SlippedBlocks", name := "cell", desc := "(III)I" } : Jvm.MethodName)) ∈ TG := tg 465 rfl rfl
set_option maxRecDepth 20000 in
theorem wd_466 : (Jvm.Cond.selects "SlippedBlocks" ({ cls := "SlippedBlocks", name := "cell", desc := "(III)I" } : Jvm.MethodName) ({ cls := "SlippedBlocks", name := "cell", desc := "(III)I" } : Jvm.MethodName)) ∈ TG := tg 466 rfl rfl
set_option maxRecDepth 20000 in
theorem wd_467 : (Jvm.Cond.code ({ cls := "SlippedBlocks", name := "cell", desc := "(III)I" } : Jvm.MethodName) prog_1_method_10_code (4 : Nat) (Option.some Jvm.ClassFile.FieldType.int)) ∈ TG := tg 467 rfl rfl
set_option maxRecDepth 20000 in
theorem wd_468 : (Jvm.Cond.methodLink "SlippedBlocks" (141 : Nat) ({ cls := "SlippedBlocks$Sheet", name := "at", desc := "(II)I" } : Jvm.MethodName)) ∈ TG := tg 468 rfl rfl
set_option maxRecDepth 20000 in
theorem wd_469 : (Jvm.Cond.instanceMethod ({ cls := "SlippedBlocks$Sheet", name := "at", desc := "(II)I" } : Jvm.MethodName)) ∈ TG := tg 469 rfl rfl
set_option maxRecDepth 20000 in
theorem wd_470 : (Jvm.Cond.selects "SlippedBlocks$Sheet" ({ cls := "SlippedBlocks$Sheet", name := "at", desc := "(II)I" } : Jvm.MethodName) ({ cls := "SlippedBlocks$Sheet", name := "at", desc := "(II)I" } : Jvm.MethodName)) ∈ TG := tg 470 rfl rfl
set_option maxRecDepth 20000 in
theorem wd_471 : (Jvm.Cond.code ({ cls := "SlippedBlocks$Sheet", name := "at", desc := "(II)I" } : Jvm.MethodName) prog_4_method_6_code (5 : Nat) (Option.some Jvm.ClassFile.FieldType.int)) ∈ TG := tg 471 rfl rfl
set_option maxRecDepth 20000 in
theorem wd_473 : (Jvm.Cond.methodLink "SlippedBlocks" (148 : Nat) ({ cls := "SlippedBlocks$Work", name := "inksOf", desc := "(II)I" } : Jvm.MethodName)) ∈ TG := tg 473 rfl rfl
set_option maxRecDepth 20000 in
theorem wd_474 : (Jvm.Cond.instanceMethod ({ cls := "SlippedBlocks$Work", name := "inksOf", desc := "(II)I" } : Jvm.MethodName)) ∈ TG := tg 474 rfl rfl
set_option maxRecDepth 20000 in
theorem wd_475 : (Jvm.Cond.selects "SlippedBlocks$Work" ({ cls := "SlippedBlocks$Work", name := "inksOf", desc := "(II)I" } : Jvm.MethodName) ({ cls := "SlippedBlocks$Work", name := "inksOf", desc := "(II)I" } : Jvm.MethodName)) ∈ TG := tg 475 rfl rfl
set_option maxRecDepth 20000 in
theorem wd_476 : (Jvm.Cond.code ({ cls := "SlippedBlocks$Work", name := "inksOf", desc := "(II)I" } : Jvm.MethodName) prog_7_method_10_code (5 : Nat) (Option.some Jvm.ClassFile.FieldType.int)) ∈ TG := tg 476 rfl rfl
set_option maxRecDepth 20000 in
theorem wd_478 : (Jvm.Cond.methodLink "SlippedBlocksLaw" (53 : Nat) ({ cls := "SlippedBlocks", name := "ink", desc := "(II)I" } : Jvm.MethodName)) ∈ TG := tg 478 rfl rfl
set_option maxRecDepth 20000 in
theorem wd_479 : (Jvm.Cond.instanceMethod ({ cls := "SlippedBlocks", name := "ink", desc := "(II)I" } : Jvm.MethodName)) ∈ TG := tg 479 rfl rfl
set_option maxRecDepth 20000 in
theorem wd_480 : (Jvm.Cond.selects "SlippedBlocks" ({ cls := "SlippedBlocks", name := "ink", desc := "(II)I" } : Jvm.MethodName) ({ cls := "SlippedBlocks", name := "ink", desc := "(II)I" } : Jvm.MethodName)) ∈ TG := tg 480 rfl rfl
set_option maxRecDepth 20000 in
theorem wd_481 : (Jvm.Cond.code ({ cls := "SlippedBlocks", name := "ink", desc := "(II)I" } : Jvm.MethodName) prog_1_method_11_code (3 : Nat) (Option.some Jvm.ClassFile.FieldType.int)) ∈ TG := tg 481 rfl rfl
set_option maxRecDepth 20000 in
theorem wd_482 : (Jvm.Cond.constant "SlippedBlocks" (151 : Nat) (-1000000 : Int32)) ∈ TG := tg 482 rfl rfl
set_option maxRecDepth 20000 in
theorem wd_483 : (Jvm.Cond.methodLink "SlippedBlocks" (155 : Nat) ({ cls := "SlippedBlocks$Work", name := "isDense", desc := "(I)Z" } : Jvm.MethodName)) ∈ TG := tg 483 rfl rfl
set_option maxRecDepth 20000 in
theorem wd_484 : (Jvm.Cond.methodLink "SlippedBlocks" (158 : Nat) ({ cls := "SlippedBlocks$Work", name := "placeOf", desc := "(I)I" } : Jvm.MethodName)) ∈ TG := tg 484 rfl rfl
set_option maxRecDepth 20000 in
theorem wd_485 : (Jvm.Cond.methodLink "SlippedBlocksLaw" (57 : Nat) ({ cls := "SlippedBlocks", name := "made", desc := "(I)I" } : Jvm.MethodName)) ∈ TG := tg 485 rfl rfl
set_option maxRecDepth 20000 in
theorem wd_486 : (Jvm.Cond.instanceMethod ({ cls := "SlippedBlocks", name := "made", desc := "(I)I" } : Jvm.MethodName)) ∈ TG := tg 486 rfl rfl
set_option maxRecDepth 20000 in
theorem wd_487 : (Jvm.Cond.selects "SlippedBlocks" ({ cls := "SlippedBlocks", name := "made", desc := "(I)I" } : Jvm.MethodName) ({ cls := "SlippedBlocks", name := "made", desc := "(I)I" } : Jvm.MethodName)) ∈ TG := tg 487 rfl rfl
set_option maxRecDepth 20000 in
theorem wd_488 : (Jvm.Cond.code ({ cls := "SlippedBlocks", name := "made", desc := "(I)I" } : Jvm.MethodName) prog_1_method_12_code (2 : Nat) (Option.some Jvm.ClassFile.FieldType.int)) ∈ TG := tg 488 rfl rfl
set_option maxRecDepth 20000 in
theorem wd_489 : (Jvm.Cond.methodLink "SlippedBlocks" (172 : Nat) ({ cls := "SlippedBlocks$Work", name := "sets", desc := "()I" } : Jvm.MethodName)) ∈ TG := tg 489 rfl rfl
set_option maxRecDepth 20000 in
theorem wd_490 : (Jvm.Cond.methodLink "SlippedBlocks" (175 : Nat) ({ cls := "SlippedBlocks$Work", name := "coloursBy", desc := "(I)I" } : Jvm.MethodName)) ∈ TG := tg 490 rfl rfl
set_option maxRecDepth 20000 in
theorem wd_491 : (Jvm.Cond.methodLink "SlippedBlocksLaw" (61 : Nat) ({ cls := "SlippedBlocks", name := "least", desc := "(I)I" } : Jvm.MethodName)) ∈ TG := tg 491 rfl rfl
set_option maxRecDepth 20000 in
theorem wd_492 : (Jvm.Cond.instanceMethod ({ cls := "SlippedBlocks", name := "least", desc := "(I)I" } : Jvm.MethodName)) ∈ TG := tg 492 rfl rfl
set_option maxRecDepth 20000 in
theorem wd_493 : (Jvm.Cond.selects "SlippedBlocks" ({ cls := "SlippedBlocks", name := "least", desc := "(I)I" } : Jvm.MethodName) ({ cls := "SlippedBlocks", name := "least", desc := "(I)I" } : Jvm.MethodName)) ∈ TG := tg 493 rfl rfl
set_option maxRecDepth 20000 in
theorem wd_494 : (Jvm.Cond.code ({ cls := "SlippedBlocks", name := "least", desc := "(I)I" } : Jvm.MethodName) prog_1_method_13_code (3 : Nat) (Option.some Jvm.ClassFile.FieldType.int)) ∈ TG := tg 494 rfl rfl
set_option maxRecDepth 20000 in
theorem wd_495 : (Jvm.Cond.methodLink "SlippedBlocksLaw" (65 : Nat) ({ cls := "SlippedBlocks", name := "order", desc := "(I)I" } : Jvm.MethodName)) ∈ TG := tg 495 rfl rfl
set_option maxRecDepth 20000 in
theorem wd_496 : (Jvm.Cond.instanceMethod ({ cls := "SlippedBlocks", name := "order", desc := "(I)I" } : Jvm.MethodName)) ∈ TG := tg 496 rfl rfl
set_option maxRecDepth 20000 in
theorem wd_497 : (Jvm.Cond.selects "SlippedBlocks" ({ cls := "SlippedBlocks", name := "order", desc := "(I)I" } : Jvm.MethodName) ({ cls := "SlippedBlocks", name := "order", desc := "(I)I" } : Jvm.MethodName)) ∈ TG := tg 497 rfl rfl
set_option maxRecDepth 20000 in
theorem wd_498 : (Jvm.Cond.code ({ cls := "SlippedBlocks", name := "order", desc := "(I)I" } : Jvm.MethodName) prog_1_method_14_code (2 : Nat) (Option.some Jvm.ClassFile.FieldType.int)) ∈ TG := tg 498 rfl rfl
set_option maxRecDepth 20000 in
theorem wd_499 : (Jvm.Cond.methodLink "SlippedBlocks" (178 : Nat) ({ cls := "SlippedBlocks$RowSearch", name := "run", desc := "(LSlippedBlocks$Work;)V" } : Jvm.MethodName)) ∈ TG := tg 499 rfl rfl
set_option maxRecDepth 20000 in
theorem wd_500 : (Jvm.Cond.instanceMethod ({ cls := "SlippedBlocks$RowSearch", name := "run", desc := "(LSlippedBlocks$Work;)V" } : Jvm.MethodName)) ∈ TG := tg 500 rfl rfl
set_option maxRecDepth 20000 in
theorem wd_501 : (Jvm.Cond.selects "SlippedBlocks$RowSearch" ({ cls := "SlippedBlocks$RowSearch", name := "run", desc := "(LSlippedBlocks$Work;)V" } : Jvm.MethodName) ({ cls := "SlippedBlocks$RowSearch", name := "run", desc := "(LSlippedBlocks$Work;)V" } : Jvm.MethodName)) ∈ TG := tg 501 rfl rfl
set_option maxRecDepth 20000 in
theorem wd_502 : (Jvm.Cond.code ({ cls := "SlippedBlocks$RowSearch", name := "run", desc := "(LSlippedBlocks$Work;)V" } : Jvm.MethodName) prog_3_method_2_code (2 : Nat) (Option.none : Option Jvm.ClassFile.FieldType)) ∈ TG := tg 502 rfl rfl
set_option maxRecDepth 20000 in
theorem wd_503 : (Jvm.Cond.methodLink "SlippedBlocks$RowSearch" (29 : Nat) ({ cls := "SlippedBlocks$Work", name := "palette", desc := "()I" } : Jvm.MethodName)) ∈ TG := tg 503 rfl rfl
set_option maxRecDepth 20000 in
theorem wd_504 : (Jvm.Cond.methodLink "SlippedBlocks$RowSearch" (34 : Nat) ({ cls := "SlippedBlocks$RowSearch", name := "grow", desc := "(LSlippedBlocks$RowSearch;LSlippedBlocks$Work;III)V" } : Jvm.MethodName)) ∈ TG := tg 504 rfl rfl
set_option maxRecDepth 20000 in
theorem wd_505 : (Jvm.Cond.static ({ cls := "SlippedBlocks$RowSearch", name := "grow", desc := "(LSlippedBlocks$RowSearch;LSlippedBlocks$Work;III)V" } : Jvm.MethodName)) ∈ TG := tg 505 rfl rfl
set_option maxRecDepth 20000 in
theorem wd_506 : (Jvm.Cond.code ({ cls := "SlippedBlocks$RowSearch", name := "grow", desc := "(LSlippedBlocks$RowSearch;LSlippedBlocks$Work;III)V" } : Jvm.MethodName) prog_3_method_4_code (7 : Nat) (Option.none : Option Jvm.ClassFile.FieldType)) ∈ TG := tg 506 rfl rfl
set_option maxRecDepth 20000 in
theorem wd_507 : (Jvm.Cond.methodLink "SlippedBlocks$RowSearch" (41 : Nat) ({ cls := "SlippedBlocks$RowSearch", name := "settle", desc := "(III)V" } : Jvm.MethodName)) ∈ TG := tg 507 rfl rfl
set_option maxRecDepth 20000 in
theorem wd_509 : (Jvm.Cond.instanceMethod ({ cls := "SlippedBlocks$RowSearch", name := "settle", desc := "(III)V" } : Jvm.MethodName)) ∈ TG := tg 509 rfl rfl
set_option maxRecDepth 20000 in
theorem wd_510 : (Jvm.Cond.code ({ cls := "SlippedBlocks$RowSearch", name := "settle", desc := "(III)V" } : Jvm.MethodName) prog_3_method_5_code (5 : Nat) (Option.none : Option Jvm.ClassFile.FieldType)) ∈ TG := tg 510 rfl rfl
set_option maxRecDepth 20000 in
theorem wd_511 : (Jvm.Cond.methodLink "SlippedBlocks$RowSearch" (49 : Nat) ({ cls := "SlippedBlocks$RowSearch", name := "earliestRow", desc := "(III)I" } : Jvm.MethodName)) ∈ TG := tg 511 rfl rfl
set_option maxRecDepth 20000 in
theorem wd_513 : (Jvm.Cond.instanceMethod ({ cls := "SlippedBlocks$RowSearch", name := "earliestRow", desc := "(III)I" } : Jvm.MethodName)) ∈ TG := tg 513 rfl rfl
set_option maxRecDepth 20000 in
theorem wd_514 : (Jvm.Cond.code ({ cls := "SlippedBlocks$RowSearch", name := "earliestRow", desc := "(III)I" } : Jvm.MethodName) prog_3_method_6_code (7 : Nat) (Option.some Jvm.ClassFile.FieldType.int)) ∈ TG := tg 514 rfl rfl
set_option maxRecDepth 20000 in
theorem wd_515 : (Jvm.Cond.methodLink "SlippedBlocks$RowSearch" (45 : Nat) ({ cls := "SlippedBlocks$Work", name := "coloursOver", desc := "(II)I" } : Jvm.MethodName)) ∈ TG := tg 515 rfl rfl
set_option maxRecDepth 20000 in
theorem wd_516 : (Jvm.Cond.methodLink "SlippedBlocks" (188 : Nat) ({ cls := "SlippedBlocks$RowSearch", name := "inkAt", desc := "(II)I" } : Jvm.MethodName)) ∈ TG := tg 516 rfl rfl
set_option maxRecDepth 20000 in
theorem wd_517 : (Jvm.Cond.instanceMethod ({ cls := "SlippedBlocks$RowSearch", name := "inkAt", desc := "(II)I" } : Jvm.MethodName)) ∈ TG := tg 517 rfl rfl
set_option maxRecDepth 20000 in
theorem wd_518 : (Jvm.Cond.selects "SlippedBlocks$RowSearch" ({ cls := "SlippedBlocks$RowSearch", name := "inkAt", desc := "(II)I" } : Jvm.MethodName) ({ cls := "SlippedBlocks$RowSearch", name := "inkAt", desc := "(II)I" } : Jvm.MethodName)) ∈ TG := tg 518 rfl rfl
set_option maxRecDepth 20000 in
theorem wd_519 : (Jvm.Cond.code ({ cls := "SlippedBlocks$RowSearch", name := "inkAt", desc := "(II)I" } : Jvm.MethodName) prog_3_method_3_code (3 : Nat) (Option.some Jvm.ClassFile.FieldType.int)) ∈ TG := tg 519 rfl rfl
set_option maxRecDepth 20000 in
theorem wd_520 : (Jvm.Cond.methodLink "SlippedBlocksLaw" (69 : Nat) ({ cls := "SlippedBlocks", name := "wrong", desc := "()I" } : Jvm.MethodName)) ∈ TG := tg 520 rfl rfl
set_option maxRecDepth 20000 in
theorem wd_521 : (Jvm.Cond.instanceMethod ({ cls := "SlippedBlocks", name := "wrong", desc := "()I" } : Jvm.MethodName)) ∈ TG := tg 521 rfl rfl
set_option maxRecDepth 20000 in
theorem wd_522 : (Jvm.Cond.selects "SlippedBlocks" ({ cls := "SlippedBlocks", name := "wrong", desc := "()I" } : Jvm.MethodName) ({ cls := "SlippedBlocks", name := "wrong", desc := "()I" } : Jvm.MethodName)) ∈ TG := tg 522 rfl rfl
set_option maxRecDepth 20000 in
theorem wd_523 : (Jvm.Cond.code ({ cls := "SlippedBlocks", name := "wrong", desc := "()I" } : Jvm.MethodName) prog_1_method_15_code (1 : Nat) (Option.some Jvm.ClassFile.FieldType.int)) ∈ TG := tg 523 rfl rfl
set_option maxRecDepth 20000 in
theorem wd_524 : (Jvm.Cond.methodLink "SlippedBlocksLaw" (73 : Nat) ({ cls := "SlippedBlocks", name := "hurt", desc := "(I)I" } : Jvm.MethodName)) ∈ TG := tg 524 rfl rfl
set_option maxRecDepth 20000 in
theorem wd_525 : (Jvm.Cond.instanceMethod ({ cls := "SlippedBlocks", name := "hurt", desc := "(I)I" } : Jvm.MethodName)) ∈ TG := tg 525 rfl rfl
set_option maxRecDepth 20000 in
theorem wd_526 : (Jvm.Cond.selects "SlippedBlocks" ({ cls := "SlippedBlocks", name := "hurt", desc := "(I)I" } : Jvm.MethodName) ({ cls := "SlippedBlocks", name := "hurt", desc := "(I)I" } : Jvm.MethodName)) ∈ TG := tg 526 rfl rfl
set_option maxRecDepth 20000 in
theorem wd_527 : (Jvm.Cond.code ({ cls := "SlippedBlocks", name := "hurt", desc := "(I)I" } : Jvm.MethodName) prog_1_method_16_code (4 : Nat) (Option.some Jvm.ClassFile.FieldType.int)) ∈ TG := tg 527 rfl rfl
set_option maxRecDepth 20000 in
theorem wd_528 : (Jvm.Cond.methodLink "SlippedBlocksLaw" (77 : Nat) ({ cls := "SlippedBlocks", name := "sees", desc := "(III)I" } : Jvm.MethodName)) ∈ TG := tg 528 rfl rfl
set_option maxRecDepth 20000 in
theorem wd_529 : (Jvm.Cond.instanceMethod ({ cls := "SlippedBlocks", name := "sees", desc := "(III)I" } : Jvm.MethodName)) ∈ TG := tg 529 rfl rfl
set_option maxRecDepth 20000 in
theorem wd_530 : (Jvm.Cond.selects "SlippedBlocks" ({ cls := "SlippedBlocks", name := "sees", desc := "(III)I" } : Jvm.MethodName) ({ cls := "SlippedBlocks", name := "sees", desc := "(III)I" } : Jvm.MethodName)) ∈ TG := tg 530 rfl rfl
set_option maxRecDepth 20000 in
theorem wd_531 : (Jvm.Cond.code ({ cls := "SlippedBlocks", name := "sees", desc := "(III)I" } : Jvm.MethodName) prog_1_method_17_code (4 : Nat) (Option.some Jvm.ClassFile.FieldType.int)) ∈ TG := tg 531 rfl rfl
set_option maxRecDepth 20000 in
theorem wd_532 : (Jvm.Cond.methodLink "SlippedBlocks" (191 : Nat) ({ cls := "SlippedBlocks", name := "onBoard", desc := "(II)Z" } : Jvm.MethodName)) ∈ TG := tg 532 rfl rfl
set_option maxRecDepth 20000 in
theorem wd_533 : (Jvm.Cond.static ({ cls := "SlippedBlocks", name := "onBoard", desc := "(II)Z" } : Jvm.MethodName)) ∈ TG := tg 533 rfl rfl
set_option maxRecDepth 20000 in
theorem wd_534 : (Jvm.Cond.code ({ cls := "SlippedBlocks", name := "onBoard", desc := "(II)Z" } : Jvm.MethodName) prog_1_method_25_code (2 : Nat) (Option.some Jvm.ClassFile.FieldType.boolean)) ∈ TG := tg 534 rfl rfl
set_option maxRecDepth 20000 in
theorem wd_535 : (Jvm.Cond.methodLink "SlippedBlocks" (194 : Nat) ({ cls := "SlippedBlocks$Sightings", name := "add", desc := "(III)Z" } : Jvm.MethodName)) ∈ TG := tg 535 rfl rfl
set_option maxRecDepth 20000 in
theorem wd_536 : (Jvm.Cond.instanceMethod ({ cls := "SlippedBlocks$Sightings", name := "add", desc := "(III)Z" } : Jvm.MethodName)) ∈ TG := tg 536 rfl rfl
set_option maxRecDepth 20000 in
theorem wd_537 : (Jvm.Cond.selects "SlippedBlocks$Sightings" ({ cls := "SlippedBlocks$Sightings", name := "add", desc := "(III)Z" } : Jvm.MethodName) ({ cls := "SlippedBlocks$Sightings", name := "add", desc := "(III)Z" } : Jvm.MethodName)) ∈ TG := tg 537 rfl rfl
set_option maxRecDepth 20000 in
theorem wd_538 : (Jvm.Cond.code ({ cls := "SlippedBlocks$Sightings", name := "add", desc := "(III)Z" } : Jvm.MethodName) prog_5_method_2_code (4 : Nat) (Option.some Jvm.ClassFile.FieldType.boolean)) ∈ TG := tg 538 rfl rfl
set_option maxRecDepth 20000 in
theorem wd_539 : (Jvm.Cond.methodLink "SlippedBlocksLaw" (81 : Nat) ({ cls := "SlippedBlocks", name := "forget", desc := "()I" } : Jvm.MethodName)) ∈ TG := tg 539 rfl rfl
set_option maxRecDepth 20000 in
theorem wd_540 : (Jvm.Cond.instanceMethod ({ cls := "SlippedBlocks", name := "forget", desc := "()I" } : Jvm.MethodName)) ∈ TG := tg 540 rfl rfl
set_option maxRecDepth 20000 in
theorem wd_541 : (Jvm.Cond.selects "SlippedBlocks" ({ cls := "SlippedBlocks", name := "forget", desc := "()I" } : Jvm.MethodName) ({ cls := "SlippedBlocks", name := "forget", desc := "()I" } : Jvm.MethodName)) ∈ TG := tg 541 rfl rfl
set_option maxRecDepth 20000 in
theorem wd_542 : (Jvm.Cond.code ({ cls := "SlippedBlocks", name := "forget", desc := "()I" } : Jvm.MethodName) prog_1_method_18_code (2 : Nat) (Option.some Jvm.ClassFile.FieldType.int)) ∈ TG := tg 542 rfl rfl
set_option maxRecDepth 20000 in
theorem wd_543 : (Jvm.Cond.methodLink "SlippedBlocksLaw" (85 : Nat) ({ cls := "SlippedBlocks", name := "which", desc := "(I)I" } : Jvm.MethodName)) ∈ TG := tg 543 rfl rfl
set_option maxRecDepth 20000 in
theorem wd_544 : (Jvm.Cond.instanceMethod ({ cls := "SlippedBlocks", name := "which", desc := "(I)I" } : Jvm.MethodName)) ∈ TG := tg 544 rfl rfl
set_option maxRecDepth 20000 in
theorem wd_545 : (Jvm.Cond.selects "SlippedBlocks" ({ cls := "SlippedBlocks", name := "which", desc := "(I)I" } : Jvm.MethodName) ({ cls := "SlippedBlocks", name := "which", desc := "(I)I" } : Jvm.MethodName)) ∈ TG := tg 545 rfl rfl
set_option maxRecDepth 20000 in
theorem wd_546 : (Jvm.Cond.code ({ cls := "SlippedBlocks", name := "which", desc := "(I)I" } : Jvm.MethodName) prog_1_method_19_code (2 : Nat) (Option.some Jvm.ClassFile.FieldType.int)) ∈ TG := tg 546 rfl rfl
set_option maxRecDepth 20000 in
theorem wd_547 : (Jvm.Cond.methodLink "SlippedBlocks" (198 : Nat) ({ cls := "SlippedBlocks$Sightings", name := "howManyExplain", desc := "(LSlippedBlocks$Work;)I" } : Jvm.MethodName)) ∈ TG := tg 547 rfl rfl
set_option maxRecDepth 20000 in
theorem wd_548 : (Jvm.Cond.instanceMethod ({ cls := "SlippedBlocks$Sightings", name := "howManyExplain", desc := "(LSlippedBlocks$Work;)I" } : Jvm.MethodName)) ∈ TG := tg 548 rfl rfl
set_option maxRecDepth 20000 in
theorem wd_549 : (Jvm.Cond.selects "SlippedBlocks$Sightings" ({ cls := "SlippedBlocks$Sightings", name := "howManyExplain", desc := "(LSlippedBlocks$Work;)I" } : Jvm.MethodName) ({ cls := "SlippedBlocks$Sightings", name := "howManyExplain", desc := "(LSlippedBlocks$Work;)I" } : Jvm.MethodName)) ∈ TG := tg 549 rfl rfl
set_option maxRecDepth 20000 in
theorem wd_550 : (Jvm.Cond.code ({ cls := "SlippedBlocks$Sightings", name := "howManyExplain", desc := "(LSlippedBlocks$Work;)I" } : Jvm.MethodName) prog_5_method_3_code (4 : Nat) (Option.some Jvm.ClassFile.FieldType.int)) ∈ TG := tg 550 rfl rfl
set_option maxRecDepth 20000 in
theorem wd_551 : (Jvm.Cond.methodLink "SlippedBlocks$Sightings" (40 : Nat) ({ cls := "SlippedBlocks$Sightings", name := "explains", desc := "(LSlippedBlocks$Work;I)Z" } : Jvm.MethodName)) ∈ TG := tg 551 rfl rfl
set_option maxRecDepth 20000 in
theorem wd_553 : (Jvm.Cond.instanceMethod ({ cls := "SlippedBlocks$Sightings", name := "explains", desc := "(LSlippedBlocks$Work;I)Z" } : Jvm.MethodName)) ∈ TG := tg 553 rfl rfl
set_option maxRecDepth 20000 in
theorem wd_554 : (Jvm.Cond.code ({ cls := "SlippedBlocks$Sightings", name := "explains", desc := "(LSlippedBlocks$Work;I)Z" } : Jvm.MethodName) prog_5_method_5_code (6 : Nat) (Option.some Jvm.ClassFile.FieldType.boolean)) ∈ TG := tg 554 rfl rfl
set_option maxRecDepth 20000 in
theorem wd_555 : (Jvm.Cond.methodLink "SlippedBlocks$Sightings" (45 : Nat) ({ cls := "SlippedBlocks$Work", name := "hasInk", desc := "(I)Z" } : Jvm.MethodName)) ∈ TG := tg 555 rfl rfl
set_option maxRecDepth 20000 in
theorem wd_556 : (Jvm.Cond.methodLink "SlippedBlocks$Sightings" (52 : Nat) ({ cls := "SlippedBlocks$Work", name := "proofInto", desc := "(LSlippedBlocks$Sheet;II)V" } : Jvm.MethodName)) ∈ TG := tg 556 rfl rfl
set_option maxRecDepth 20000 in
theorem wd_557 : (Jvm.Cond.methodLink "SlippedBlocks$Sightings" (56 : Nat) ({ cls := "SlippedBlocks$Work", name := "hasCell", desc := "(II)Z" } : Jvm.MethodName)) ∈ TG := tg 557 rfl rfl
set_option maxRecDepth 20000 in
theorem wd_558 : (Jvm.Cond.methodLink "SlippedBlocks$Sightings" (60 : Nat) ({ cls := "SlippedBlocks$Sheet", name := "at", desc := "(II)I" } : Jvm.MethodName)) ∈ TG := tg 558 rfl rfl
set_option maxRecDepth 20000 in
theorem wd_559 : (Jvm.Cond.methodLink "SlippedBlocks" (201 : Nat) ({ cls := "SlippedBlocks$Sightings", name := "firstExplaining", desc := "(LSlippedBlocks$Work;)I" } : Jvm.MethodName)) ∈ TG := tg 559 rfl rfl
set_option maxRecDepth 20000 in
theorem wd_560 : (Jvm.Cond.instanceMethod ({ cls := "SlippedBlocks$Sightings", name := "firstExplaining", desc := "(LSlippedBlocks$Work;)I" } : Jvm.MethodName)) ∈ TG := tg 560 rfl rfl
set_option maxRecDepth 20000 in
theorem wd_561 : (Jvm.Cond.selects "SlippedBlocks$Sightings" ({ cls := "SlippedBlocks$Sightings", name := "firstExplaining", desc := "(LSlippedBlocks$Work;)I" } : Jvm.MethodName) ({ cls := "SlippedBlocks$Sightings", name := "firstExplaining", desc := "(LSlippedBlocks$Work;)I" } : Jvm.MethodName)) ∈ TG := tg 561 rfl rfl
set_option maxRecDepth 20000 in
theorem wd_562 : (Jvm.Cond.code ({ cls := "SlippedBlocks$Sightings", name := "firstExplaining", desc := "(LSlippedBlocks$Work;)I" } : Jvm.MethodName) prog_5_method_4_code (3 : Nat) (Option.some Jvm.ClassFile.FieldType.int)) ∈ TG := tg 562 rfl rfl
set_option maxRecDepth 20000 in
theorem wd_563 : (Jvm.Cond.constant "SlippedBlocks$Sightings" (44 : Nat) (-2000000 : Int32)) ∈ TG := tg 563 rfl rfl
set_option maxRecDepth 20000 in
theorem wd_564 : (Jvm.Cond.methodLink "SlippedBlocksLaw" (89 : Nat) ({ cls := "SlippedBlocks", name := "ask", desc := "()I" } : Jvm.MethodName)) ∈ TG := tg 564 rfl rfl
set_option maxRecDepth 20000 in
theorem wd_565 : (Jvm.Cond.instanceMethod ({ cls := "SlippedBlocks", name := "ask", desc := "()I" } : Jvm.MethodName)) ∈ TG := tg 565 rfl rfl
set_option maxRecDepth 20000 in
theorem wd_566 : (Jvm.Cond.selects "SlippedBlocks" ({ cls := "SlippedBlocks", name := "ask", desc := "()I" } : Jvm.MethodName) ({ cls := "SlippedBlocks", name := "ask", desc := "()I" } : Jvm.MethodName)) ∈ TG := tg 566 rfl rfl
set_option maxRecDepth 20000 in
theorem wd_567 : (Jvm.Cond.code ({ cls := "SlippedBlocks", name := "ask", desc := "()I" } : Jvm.MethodName) prog_1_method_20_code (1 : Nat) (Option.some Jvm.ClassFile.FieldType.int)) ∈ TG := tg 567 rfl rfl
set_option maxRecDepth 20000 in
theorem wd_568 : (Jvm.Cond.methodLink "SlippedBlocks" (204 : Nat) ({ cls := "SlippedBlocks$Sightings", name := "bestCell", desc := "(LSlippedBlocks$Work;)I" } : Jvm.MethodName)) ∈ TG := tg 568 rfl rfl
set_option maxRecDepth 20000 in
theorem wd_569 : (Jvm.Cond.instanceMethod ({ cls := "SlippedBlocks$Sightings", name := "bestCell", desc := "(LSlippedBlocks$Work;)I" } : Jvm.MethodName)) ∈ TG := tg 569 rfl rfl
set_option maxRecDepth 20000 in
theorem wd_570 : (Jvm.Cond.selects "SlippedBlocks$Sightings" ({ cls := "SlippedBlocks$Sightings", name := "bestCell", desc := "(LSlippedBlocks$Work;)I" } : Jvm.MethodName) ({ cls := "SlippedBlocks$Sightings", name := "bestCell", desc := "(LSlippedBlocks$Work;)I" } : Jvm.MethodName)) ∈ TG := tg 570 rfl rfl
set_option maxRecDepth 20000 in
theorem wd_571 : (Jvm.Cond.code ({ cls := "SlippedBlocks$Sightings", name := "bestCell", desc := "(LSlippedBlocks$Work;)I" } : Jvm.MethodName) prog_5_method_6_code (4 : Nat) (Option.some Jvm.ClassFile.FieldType.int)) ∈ TG := tg 571 rfl rfl
set_option maxRecDepth 20000 in
theorem wd_572 : (Jvm.Cond.methodLink "SlippedBlocks$Sightings" (64 : Nat) ({ cls := "SlippedBlocks$Sightings", name := "addToTally", desc := "(LSlippedBlocks$Work;)V" } : Jvm.MethodName)) ∈ TG := tg 572 rfl rfl
set_option maxRecDepth 20000 in
theorem wd_574 : (Jvm.Cond.instanceMethod ({ cls := "SlippedBlocks$Sightings", name := "addToTally", desc := "(LSlippedBlocks$Work;)V" } : Jvm.MethodName)) ∈ TG := tg 574 rfl rfl
set_option maxRecDepth 20000 in
theorem wd_575 : (Jvm.Cond.code ({ cls := "SlippedBlocks$Sightings", name := "addToTally", desc := "(LSlippedBlocks$Work;)V" } : Jvm.MethodName) prog_5_method_7_code (4 : Nat) (Option.none : Option Jvm.ClassFile.FieldType)) ∈ TG := tg 575 rfl rfl
set_option maxRecDepth 20000 in
theorem wd_576 : (Jvm.Cond.methodLink "SlippedBlocks$Sightings" (68 : Nat) ({ cls := "SlippedBlocks$Sightings", name := "mostTellingCell", desc := "(LSlippedBlocks$Work;)I" } : Jvm.MethodName)) ∈ TG := tg 576 rfl rfl
set_option maxRecDepth 20000 in
theorem wd_578 : (Jvm.Cond.instanceMethod ({ cls := "SlippedBlocks$Sightings", name := "mostTellingCell", desc := "(LSlippedBlocks$Work;)I" } : Jvm.MethodName)) ∈ TG := tg 578 rfl rfl
set_option maxRecDepth 20000 in
theorem wd_579 : (Jvm.Cond.code ({ cls := "SlippedBlocks$Sightings", name := "mostTellingCell", desc := "(LSlippedBlocks$Work;)I" } : Jvm.MethodName) prog_5_method_8_code (8 : Nat) (Option.some Jvm.ClassFile.FieldType.int)) ∈ TG := tg 579 rfl rfl
set_option maxRecDepth 20000 in
theorem wd_580 : (Jvm.Cond.methodLink "SlippedBlocks$Sightings" (78 : Nat) ({ cls := "SlippedBlocks$Sightings", name := "greatestTally", desc := "(I)I" } : Jvm.MethodName)) ∈ TG := tg 580 rfl rfl
set_option maxRecDepth 20000 in
theorem wd_582 : (Jvm.Cond.instanceMethod ({ cls := "SlippedBlocks$Sightings", name := "greatestTally", desc := "(I)I" } : Jvm.MethodName)) ∈ TG := tg 582 rfl rfl
set_option maxRecDepth 20000 in
theorem wd_583 : (Jvm.Cond.code ({ cls := "SlippedBlocks$Sightings", name := "greatestTally", desc := "(I)I" } : Jvm.MethodName) prog_5_method_9_code (4 : Nat) (Option.some Jvm.ClassFile.FieldType.int)) ∈ TG := tg 583 rfl rfl
set_option maxRecDepth 20000 in
theorem wd_584 : (Jvm.Cond.methodLink "SlippedBlocks$Sightings" (82 : Nat) ({ cls := "java/lang/Math", name := "max", desc := "(II)I" } : Jvm.MethodName)) ∈ TG := tg 584 rfl rfl
set_option maxRecDepth 20000 in
theorem wd_585 : (Jvm.Cond.static ({ cls := "java/lang/Math", name := "max", desc := "(II)I" } : Jvm.MethodName)) ∈ TG := tg 585 rfl rfl
set_option maxRecDepth 20000 in
theorem wd_586 : (Jvm.Cond.code ({ cls := "java/lang/Math", name := "max", desc := "(II)I" } : Jvm.MethodName) prog_12_method_65_code (2 : Nat) (Option.some Jvm.ClassFile.FieldType.int)) ∈ TG := tg 586 rfl rfl
set_option maxRecDepth 20000 in
theorem wd_587 : (Jvm.Cond.methodLink "SlippedBlocksLaw" (93 : Nat) ({ cls := "SlippedBlocks", name := "keep", desc := "(I)I" } : Jvm.MethodName)) ∈ TG := tg 587 rfl rfl
set_option maxRecDepth 20000 in
theorem wd_588 : (Jvm.Cond.instanceMethod ({ cls := "SlippedBlocks", name := "keep", desc := "(I)I" } : Jvm.MethodName)) ∈ TG := tg 588 rfl rfl
set_option maxRecDepth 20000 in
theorem wd_589 : (Jvm.Cond.selects "SlippedBlocks" ({ cls := "SlippedBlocks", name := "keep", desc := "(I)I" } : Jvm.MethodName) ({ cls := "SlippedBlocks", name := "keep", desc := "(I)I" } : Jvm.MethodName)) ∈ TG := tg 589 rfl rfl
set_option maxRecDepth 20000 in
theorem wd_590 : (Jvm.Cond.code ({ cls := "SlippedBlocks", name := "keep", desc := "(I)I" } : Jvm.MethodName) prog_1_method_21_code (2 : Nat) (Option.some Jvm.ClassFile.FieldType.int)) ∈ TG := tg 590 rfl rfl
set_option maxRecDepth 20000 in
theorem wd_591 : (Jvm.Cond.methodLink "SlippedBlocksLaw" (97 : Nat) ({ cls := "SlippedBlocks", name := "back", desc := "(I)I" } : Jvm.MethodName)) ∈ TG := tg 591 rfl rfl
set_option maxRecDepth 20000 in
theorem wd_592 : (Jvm.Cond.instanceMethod ({ cls := "SlippedBlocks", name := "back", desc := "(I)I" } : Jvm.MethodName)) ∈ TG := tg 592 rfl rfl
set_option maxRecDepth 20000 in
theorem wd_593 : (Jvm.Cond.selects "SlippedBlocks" ({ cls := "SlippedBlocks", name := "back", desc := "(I)I" } : Jvm.MethodName) ({ cls := "SlippedBlocks", name := "back", desc := "(I)I" } : Jvm.MethodName)) ∈ TG := tg 593 rfl rfl
set_option maxRecDepth 20000 in
theorem wd_594 : (Jvm.Cond.code ({ cls := "SlippedBlocks", name := "back", desc := "(I)I" } : Jvm.MethodName) prog_1_method_22_code (2 : Nat) (Option.some Jvm.ClassFile.FieldType.int)) ∈ TG := tg 594 rfl rfl
set_option maxRecDepth 20000 in
theorem wd_595 : (Jvm.Cond.methodLink "SlippedBlocksLaw" (101 : Nat) ({ cls := "SlippedBlocks", name := "count", desc := "(I)I" } : Jvm.MethodName)) ∈ TG := tg 595 rfl rfl
set_option maxRecDepth 20000 in
theorem wd_596 : (Jvm.Cond.instanceMethod ({ cls := "SlippedBlocks", name := "count", desc := "(I)I" } : Jvm.MethodName)) ∈ TG := tg 596 rfl rfl
set_option maxRecDepth 20000 in
theorem wd_597 : (Jvm.Cond.selects "SlippedBlocks" ({ cls := "SlippedBlocks", name := "count", desc := "(I)I" } : Jvm.MethodName) ({ cls := "SlippedBlocks", name := "count", desc := "(I)I" } : Jvm.MethodName)) ∈ TG := tg 597 rfl rfl
set_option maxRecDepth 20000 in
theorem wd_598 : (Jvm.Cond.code ({ cls := "SlippedBlocks", name := "count", desc := "(I)I" } : Jvm.MethodName) prog_1_method_23_code (2 : Nat) (Option.some Jvm.ClassFile.FieldType.int)) ∈ TG := tg 598 rfl rfl
set_option maxRecDepth 20000 in
theorem wd_599 : (Jvm.Cond.methodLink "SlippedBlocks" (210 : Nat) ({ cls := "SlippedBlocks$Work", name := "palette", desc := "()I" } : Jvm.MethodName)) ∈ TG := tg 599 rfl rfl
set_option maxRecDepth 20000 in
theorem wd_600 : (Jvm.Cond.methodLink "SlippedBlocks" (213 : Nat) ({ cls := "SlippedBlocks$Work", name := "cellsOfBlocks", desc := "()I" } : Jvm.MethodName)) ∈ TG := tg 600 rfl rfl
set_option maxRecDepth 20000 in
theorem wd_601 : (Jvm.Cond.instanceMethod ({ cls := "SlippedBlocks$Work", name := "cellsOfBlocks", desc := "()I" } : Jvm.MethodName)) ∈ TG := tg 601 rfl rfl
set_option maxRecDepth 20000 in
theorem wd_602 : (Jvm.Cond.selects "SlippedBlocks$Work" ({ cls := "SlippedBlocks$Work", name := "cellsOfBlocks", desc := "()I" } : Jvm.MethodName) ({ cls := "SlippedBlocks$Work", name := "cellsOfBlocks", desc := "()I" } : Jvm.MethodName)) ∈ TG := tg 602 rfl rfl
set_option maxRecDepth 20000 in
theorem wd_603 : (Jvm.Cond.code ({ cls := "SlippedBlocks$Work", name := "cellsOfBlocks", desc := "()I" } : Jvm.MethodName) prog_7_method_11_code (3 : Nat) (Option.some Jvm.ClassFile.FieldType.int)) ∈ TG := tg 603 rfl rfl
set_option maxRecDepth 20000 in
theorem wd_604 : (Jvm.Cond.methodLink "SlippedBlocks$Work" (66 : Nat) ({ cls := "java/lang/Long", name := "bitCount", desc := "(J)I" } : Jvm.MethodName)) ∈ TG := tg 604 rfl rfl
set_option maxRecDepth 20000 in
theorem wd_605 : (Jvm.Cond.methodLink "SlippedBlocks" (216 : Nat) ({ cls := "SlippedBlocks$Work", name := "slippedBlocks", desc := "()I" } : Jvm.MethodName)) ∈ TG := tg 605 rfl rfl
set_option maxRecDepth 20000 in
theorem wd_606 : (Jvm.Cond.instanceMethod ({ cls := "SlippedBlocks$Work", name := "slippedBlocks", desc := "()I" } : Jvm.MethodName)) ∈ TG := tg 606 rfl rfl
set_option maxRecDepth 20000 in
theorem wd_607 : (Jvm.Cond.selects "SlippedBlocks$Work" ({ cls := "SlippedBlocks$Work", name := "slippedBlocks", desc := "()I" } : Jvm.MethodName) ({ cls := "SlippedBlocks$Work", name := "slippedBlocks", desc := "()I" } : Jvm.MethodName)) ∈ TG := tg 607 rfl rfl
set_option maxRecDepth 20000 in
theorem wd_608 : (Jvm.Cond.code ({ cls := "SlippedBlocks$Work", name := "slippedBlocks", desc := "()I" } : Jvm.MethodName) prog_7_method_12_code (3 : Nat) (Option.some Jvm.ClassFile.FieldType.int)) ∈ TG := tg 608 rfl rfl
set_option maxRecDepth 20000 in
theorem wd_609 : (Jvm.Cond.classLink "SlippedBlocksLaw" (10 : Nat) "SlippedBlocksModel") ∈ TG := tg 609 rfl rfl
set_option maxRecDepth 20000 in
theorem wd_610 : (Jvm.Cond.instantiable "SlippedBlocksModel" (22 : Nat)) ∈ TG := tg 610 rfl rfl
set_option maxRecDepth 20000 in
theorem wd_611 : (Jvm.Cond.methodLink "SlippedBlocksLaw" (12 : Nat) ({ cls := "SlippedBlocksModel", name := "<init>", desc := "()V" } : Jvm.MethodName)) ∈ TG := tg 611 rfl rfl
set_option maxRecDepth 20000 in
theorem wd_612 : (Jvm.Cond.instanceMethod ({ cls := "SlippedBlocksModel", name := "<init>", desc := "()V" } : Jvm.MethodName)) ∈ TG := tg 612 rfl rfl
set_option maxRecDepth 20000 in
theorem wd_613 : (Jvm.Cond.code ({ cls := "SlippedBlocksModel", name := "<init>", desc := "()V" } : Jvm.MethodName) prog_9_method_1_code (1 : Nat) (Option.none : Option Jvm.ClassFile.FieldType)) ∈ TG := tg 613 rfl rfl
set_option maxRecDepth 20000 in
theorem wd_614 : (Jvm.Cond.methodLink "SlippedBlocksModel" (1 : Nat) ({ cls := "java/lang/Object", name := "<init>", desc := "()V" } : Jvm.MethodName)) ∈ TG := tg 614 rfl rfl
set_option maxRecDepth 20000 in
theorem wd_615 : (Jvm.Cond.fieldLink "SlippedBlocksModel" (50 : Nat) "SlippedBlocksModel" "thrown" "I") ∈ TG := tg 615 rfl rfl
set_option maxRecDepth 20000 in
theorem wd_616 : (Jvm.Cond.fieldLink "SlippedBlocksModel" (7 : Nat) "SlippedBlocksModel" "s" "[I") ∈ TG := tg 616 rfl rfl
set_option maxRecDepth 20000 in
theorem wd_617 : (Jvm.Cond.fieldLink "SlippedBlocksModel" (13 : Nat) "SlippedBlocksModel" "draft" "[I") ∈ TG := tg 617 rfl rfl
set_option maxRecDepth 20000 in
theorem wd_618 : (Jvm.Cond.fieldLink "SlippedBlocksModel" (16 : Nat) "SlippedBlocksModel" "past" "[I") ∈ TG := tg 618 rfl rfl
set_option maxRecDepth 20000 in
theorem wd_619 : (Jvm.Cond.fieldLink "SlippedBlocksModel" (125 : Nat) "SlippedBlocksModel" "undoMany" "I") ∈ TG := tg 619 rfl rfl
set_option maxRecDepth 20000 in
theorem wd_620 : (Jvm.Cond.fieldLink "SlippedBlocksModel" (19 : Nat) "SlippedBlocksModel" "images" "[I") ∈ TG := tg 620 rfl rfl
set_option maxRecDepth 20000 in
theorem wd_621 : (Jvm.Cond.fieldLink "SlippedBlocksModel" (22 : Nat) "SlippedBlocksModel" "isKept" "[Z") ∈ TG := tg 621 rfl rfl
set_option maxRecDepth 20000 in
theorem wd_622 : (Jvm.Cond.fieldLink "SlippedBlocksModel" (26 : Nat) "SlippedBlocksModel" "text" "[I") ∈ TG := tg 622 rfl rfl
set_option maxRecDepth 20000 in
theorem wd_623 : (Jvm.Cond.fieldLink "SlippedBlocksModel" (54 : Nat) "SlippedBlocksModel" "typed" "I") ∈ TG := tg 623 rfl rfl
set_option maxRecDepth 20000 in
theorem wd_624 : (Jvm.Cond.fieldLink "SlippedBlocksModel" (29 : Nat) "SlippedBlocksModel" "seen" "[I") ∈ TG := tg 624 rfl rfl
set_option maxRecDepth 20000 in
theorem wd_625 : (Jvm.Cond.fieldLink "SlippedBlocksModel" (105 : Nat) "SlippedBlocksModel" "seenMany" "I") ∈ TG := tg 625 rfl rfl
set_option maxRecDepth 20000 in
theorem wd_626 : (Jvm.Cond.fieldLink "SlippedBlocksModel" (61 : Nat) "SlippedBlocksModel" "at" "I") ∈ TG := tg 626 rfl rfl
set_option maxRecDepth 20000 in
theorem wd_627 : (Jvm.Cond.fieldLink "SlippedBlocksModel" (68 : Nat) "SlippedBlocksModel" "place" "I") ∈ TG := tg 627 rfl rfl
set_option maxRecDepth 20000 in
theorem wd_628 : (Jvm.Cond.fieldLink "SlippedBlocksModel" (74 : Nat) "SlippedBlocksModel" "token" "I") ∈ TG := tg 628 rfl rfl
set_option maxRecDepth 20000 in
theorem wd_629 : (Jvm.Cond.fieldLink "SlippedBlocksModel" (71 : Nat) "SlippedBlocksModel" "value" "I") ∈ TG := tg 629 rfl rfl
set_option maxRecDepth 20000 in
theorem wd_630 : (Jvm.Cond.fieldLink "SlippedBlocksModel" (77 : Nat) "SlippedBlocksModel" "fault" "I") ∈ TG := tg 630 rfl rfl
set_option maxRecDepth 20000 in
theorem wd_631 : (Jvm.Cond.fieldLink "SlippedBlocksModel" (32 : Nat) "SlippedBlocksModel" "proof" "[I") ∈ TG := tg 631 rfl rfl
set_option maxRecDepth 20000 in
theorem wd_632 : (Jvm.Cond.fieldLink "SlippedBlocksModel" (35 : Nat) "SlippedBlocksModel" "order" "[I") ∈ TG := tg 632 rfl rfl
set_option maxRecDepth 20000 in
theorem wd_633 : (Jvm.Cond.fieldLink "SlippedBlocksModel" (38 : Nat) "SlippedBlocksModel" "gives" "[I") ∈ TG := tg 633 rfl rfl
set_option maxRecDepth 20000 in
theorem wd_634 : (Jvm.Cond.fieldLink "SlippedBlocksModel" (41 : Nat) "SlippedBlocksModel" "makes" "[I") ∈ TG := tg 634 rfl rfl
set_option maxRecDepth 20000 in
theorem wd_635 : (Jvm.Cond.fieldLink "SlippedBlocksModel" (44 : Nat) "SlippedBlocksModel" "bestOrder" "[I") ∈ TG := tg 635 rfl rfl
set_option maxRecDepth 20000 in
theorem wd_636 : (Jvm.Cond.fieldLink "SlippedBlocksModel" (47 : Nat) "SlippedBlocksModel" "by" "[I") ∈ TG := tg 636 rfl rfl
set_option maxRecDepth 20000 in
theorem wd_637 : (Jvm.Cond.lays "SlippedBlocksModel" "SlippedBlocksModel" "thrown" "I") ∈ TG := tg 637 rfl rfl
set_option maxRecDepth 20000 in
theorem wd_639 : (Jvm.Cond.laysFinal "SlippedBlocksModel" "SlippedBlocksModel" "s" "[I") ∈ TG := tg 639 rfl rfl
set_option maxRecDepth 20000 in
theorem wd_641 : (Jvm.Cond.laysFinal "SlippedBlocksModel" "SlippedBlocksModel" "draft" "[I") ∈ TG := tg 641 rfl rfl
set_option maxRecDepth 20000 in
theorem wd_643 : (Jvm.Cond.laysFinal "SlippedBlocksModel" "SlippedBlocksModel" "past" "[I") ∈ TG := tg 643 rfl rfl
set_option maxRecDepth 20000 in
theorem wd_645 : (Jvm.Cond.lays "SlippedBlocksModel" "SlippedBlocksModel" "undoMany" "I") ∈ TG := tg 645 rfl rfl
set_option maxRecDepth 20000 in
theorem wd_647 : (Jvm.Cond.laysFinal "SlippedBlocksModel" "SlippedBlocksModel" "images" "[I") ∈ TG := tg 647 rfl rfl
set_option maxRecDepth 20000 in
theorem wd_649 : (Jvm.Cond.laysFinal "SlippedBlocksModel" "SlippedBlocksModel" "isKept" "[Z") ∈ TG := tg 649 rfl rfl
set_option maxRecDepth 20000 in
theorem wd_651 : (Jvm.Cond.laysFinal "SlippedBlocksModel" "SlippedBlocksModel" "text" "[I") ∈ TG := tg 651 rfl rfl
set_option maxRecDepth 20000 in
theorem wd_653 : (Jvm.Cond.lays "SlippedBlocksModel" "SlippedBlocksModel" "typed" "I") ∈ TG := tg 653 rfl rfl
set_option maxRecDepth 20000 in
theorem wd_655 : (Jvm.Cond.laysFinal "SlippedBlocksModel" "SlippedBlocksModel" "seen" "[I") ∈ TG := tg 655 rfl rfl
set_option maxRecDepth 20000 in
theorem wd_657 : (Jvm.Cond.lays "SlippedBlocksModel" "SlippedBlocksModel" "seenMany" "I") ∈ TG := tg 657 rfl rfl
set_option maxRecDepth 20000 in
theorem wd_659 : (Jvm.Cond.lays "SlippedBlocksModel" "SlippedBlocksModel" "at" "I") ∈ TG := tg 659 rfl rfl
set_option maxRecDepth 20000 in
theorem wd_661 : (Jvm.Cond.lays "SlippedBlocksModel" "SlippedBlocksModel" "place" "I") ∈ TG := tg 661 rfl rfl
set_option maxRecDepth 20000 in
theorem wd_663 : (Jvm.Cond.lays "SlippedBlocksModel" "SlippedBlocksModel" "token" "I") ∈ TG := tg 663 rfl rfl
set_option maxRecDepth 20000 in
theorem wd_665 : (Jvm.Cond.lays "SlippedBlocksModel" "SlippedBlocksModel" "value" "I") ∈ TG := tg 665 rfl rfl
set_option maxRecDepth 20000 in
theorem wd_667 : (Jvm.Cond.lays "SlippedBlocksModel" "SlippedBlocksModel" "fault" "I") ∈ TG := tg 667 rfl rfl
set_option maxRecDepth 20000 in
theorem wd_669 : (Jvm.Cond.laysFinal "SlippedBlocksModel" "SlippedBlocksModel" "proof" "[I") ∈ TG := tg 669 rfl rfl
set_option maxRecDepth 20000 in
theorem wd_671 : (Jvm.Cond.laysFinal "SlippedBlocksModel" "SlippedBlocksModel" "order" "[I") ∈ TG := tg 671 rfl rfl
set_option maxRecDepth 20000 in
theorem wd_673 : (Jvm.Cond.laysFinal "SlippedBlocksModel" "SlippedBlocksModel" "gives" "[I") ∈ TG := tg 673 rfl rfl
set_option maxRecDepth 20000 in
theorem wd_675 : (Jvm.Cond.laysFinal "SlippedBlocksModel" "SlippedBlocksModel" "makes" "[I") ∈ TG := tg 675 rfl rfl
set_option maxRecDepth 20000 in
theorem wd_677 : (Jvm.Cond.laysFinal "SlippedBlocksModel" "SlippedBlocksModel" "bestOrder" "[I") ∈ TG := tg 677 rfl rfl
set_option maxRecDepth 20000 in
theorem wd_679 : (Jvm.Cond.laysFinal "SlippedBlocksModel" "SlippedBlocksModel" "by" "[I") ∈ TG := tg 679 rfl rfl
set_option maxRecDepth 20000 in
theorem wd_682 : (Jvm.Cond.methodLink "SlippedBlocksLaw" (17 : Nat) ({ cls := "SlippedBlocksModel", name := "type", desc := "(I)I" } : Jvm.MethodName)) ∈ TG := tg 682 rfl rfl
set_option maxRecDepth 20000 in
theorem wd_683 : (Jvm.Cond.instanceMethod ({ cls := "SlippedBlocksModel", name := "type", desc := "(I)I" } : Jvm.MethodName)) ∈ TG := tg 683 rfl rfl
set_option maxRecDepth 20000 in
theorem wd_684 : (Jvm.Cond.selects "SlippedBlocksModel" ({ cls := "SlippedBlocksModel", name := "type", desc := "(I)I" } : Jvm.MethodName) ({ cls := "SlippedBlocksModel", name := "type", desc := "(I)I" } : Jvm.MethodName)) ∈ TG := tg 684 rfl rfl
set_option maxRecDepth 20000 in
theorem wd_685 : (Jvm.Cond.code ({ cls := "SlippedBlocksModel", name := "type", desc := "(I)I" } : Jvm.MethodName) prog_9_method_6_code (2 : Nat) (Option.some Jvm.ClassFile.FieldType.int)) ∈ TG := tg 685 rfl rfl
set_option maxRecDepth 20000 in
theorem wd_686 : (Jvm.Cond.methodLink "SlippedBlocksModel" (57 : Nat) ({ cls := "SlippedBlocksModel", name := "in", desc := "(III)Z" } : Jvm.MethodName)) ∈ TG := tg 686 rfl rfl
set_option maxRecDepth 20000 in
theorem wd_687 : (Jvm.Cond.static ({ cls := "SlippedBlocksModel", name := "in", desc := "(III)Z" } : Jvm.MethodName)) ∈ TG := tg 687 rfl rfl
set_option maxRecDepth 20000 in
theorem wd_688 : (Jvm.Cond.code ({ cls := "SlippedBlocksModel", name := "in", desc := "(III)Z" } : Jvm.MethodName) prog_9_method_3_code (3 : Nat) (Option.some Jvm.ClassFile.FieldType.boolean)) ∈ TG := tg 688 rfl rfl
set_option maxRecDepth 20000 in
theorem wd_689 : (Jvm.Cond.methodLink "SlippedBlocksLaw" (22 : Nat) ({ cls := "SlippedBlocksModel", name := "clear", desc := "()I" } : Jvm.MethodName)) ∈ TG := tg 689 rfl rfl
set_option maxRecDepth 20000 in
theorem wd_690 : (Jvm.Cond.instanceMethod ({ cls := "SlippedBlocksModel", name := "clear", desc := "()I" } : Jvm.MethodName)) ∈ TG := tg 690 rfl rfl
set_option maxRecDepth 20000 in
theorem wd_691 : (Jvm.Cond.selects "SlippedBlocksModel" ({ cls := "SlippedBlocksModel", name := "clear", desc := "()I" } : Jvm.MethodName) ({ cls := "SlippedBlocksModel", name := "clear", desc := "()I" } : Jvm.MethodName)) ∈ TG := tg 691 rfl rfl
set_option maxRecDepth 20000 in
theorem wd_692 : (Jvm.Cond.code ({ cls := "SlippedBlocksModel", name := "clear", desc := "()I" } : Jvm.MethodName) prog_9_method_7_code (2 : Nat) (Option.some Jvm.ClassFile.FieldType.int)) ∈ TG := tg 692 rfl rfl
set_option maxRecDepth 20000 in
theorem wd_693 : (Jvm.Cond.methodLink "SlippedBlocksLaw" (26 : Nat) ({ cls := "SlippedBlocksModel", name := "tells", desc := "()I" } : Jvm.MethodName)) ∈ TG := tg 693 rfl rfl
set_option maxRecDepth 20000 in
theorem wd_694 : (Jvm.Cond.instanceMethod ({ cls := "SlippedBlocksModel", name := "tells", desc := "()I" } : Jvm.MethodName)) ∈ TG := tg 694 rfl rfl
set_option maxRecDepth 20000 in
theorem wd_695 : (Jvm.Cond.selects "SlippedBlocksModel" ({ cls := "SlippedBlocksModel", name := "tells", desc := "()I" } : Jvm.MethodName) ({ cls := "SlippedBlocksModel", name := "tells", desc := "()I" } : Jvm.MethodName)) ∈ TG := tg 695 rfl rfl
set_option maxRecDepth 20000 in
theorem wd_696 : (Jvm.Cond.code ({ cls := "SlippedBlocksModel", name := "tells", desc := "()I" } : Jvm.MethodName) prog_9_method_14_code (3 : Nat) (Option.some Jvm.ClassFile.FieldType.int)) ∈ TG := tg 696 rfl rfl
set_option maxRecDepth 20000 in
theorem wd_697 : (Jvm.Cond.methodLink "SlippedBlocksModel" (98 : Nat) ({ cls := "SlippedBlocksModel", name := "readsText", desc := "()I" } : Jvm.MethodName)) ∈ TG := tg 697 rfl rfl
set_option maxRecDepth 20000 in
theorem wd_699 : (Jvm.Cond.instanceMethod ({ cls := "SlippedBlocksModel", name := "readsText", desc := "()I" } : Jvm.MethodName)) ∈ TG := tg 699 rfl rfl
set_option maxRecDepth 20000 in
theorem wd_700 : (Jvm.Cond.code ({ cls := "SlippedBlocksModel", name := "readsText", desc := "()I" } : Jvm.MethodName) prog_9_method_13_code (3 : Nat) (Option.some Jvm.ClassFile.FieldType.int)) ∈ TG := tg 700 rfl rfl
set_option maxRecDepth 20000 in
theorem wd_701 : (Jvm.Cond.methodLink "SlippedBlocksModel" (84 : Nat) ({ cls := "SlippedBlocksModel", name := "advances", desc := "()V" } : Jvm.MethodName)) ∈ TG := tg 701 rfl rfl
set_option maxRecDepth 20000 in
theorem wd_703 : (Jvm.Cond.instanceMethod ({ cls := "SlippedBlocksModel", name := "advances", desc := "()V" } : Jvm.MethodName)) ∈ TG := tg 703 rfl rfl
set_option maxRecDepth 20000 in
theorem wd_704 : (Jvm.Cond.code ({ cls := "SlippedBlocksModel", name := "advances", desc := "()V" } : Jvm.MethodName) prog_9_method_8_code (1 : Nat) (Option.none : Option Jvm.ClassFile.FieldType)) ∈ TG := tg 704 rfl rfl
set_option maxRecDepth 20000 in
theorem wd_705 : (Jvm.Cond.methodLink "SlippedBlocksModel" (64 : Nat) ({ cls := "SlippedBlocksModel", name := "letterAt", desc := "(I)I" } : Jvm.MethodName)) ∈ TG := tg 705 rfl rfl
set_option maxRecDepth 20000 in
theorem wd_707 : (Jvm.Cond.instanceMethod ({ cls := "SlippedBlocksModel", name := "letterAt", desc := "(I)I" } : Jvm.MethodName)) ∈ TG := tg 707 rfl rfl
set_option maxRecDepth 20000 in
theorem wd_708 : (Jvm.Cond.code ({ cls := "SlippedBlocksModel", name := "letterAt", desc := "(I)I" } : Jvm.MethodName) prog_9_method_5_code (2 : Nat) (Option.some Jvm.ClassFile.FieldType.int)) ∈ TG := tg 708 rfl rfl
set_option maxRecDepth 20000 in
theorem wd_709 : (Jvm.Cond.methodLink "SlippedBlocksModel" (80 : Nat) ({ cls := "SlippedBlocksModel", name := "isWell", desc := "()Z" } : Jvm.MethodName)) ∈ TG := tg 709 rfl rfl
set_option maxRecDepth 20000 in
theorem wd_711 : (Jvm.Cond.instanceMethod ({ cls := "SlippedBlocksModel", name := "isWell", desc := "()Z" } : Jvm.MethodName)) ∈ TG := tg 711 rfl rfl
set_option maxRecDepth 20000 in
theorem wd_712 : (Jvm.Cond.code ({ cls := "SlippedBlocksModel", name := "isWell", desc := "()Z" } : Jvm.MethodName) prog_9_method_9_code (1 : Nat) (Option.some Jvm.ClassFile.FieldType.boolean)) ∈ TG := tg 712 rfl rfl
set_option maxRecDepth 20000 in
theorem wd_713 : (Jvm.Cond.methodLink "SlippedBlocksModel" (91 : Nat) ({ cls := "SlippedBlocksModel", name := "readsRow", desc := "()V" } : Jvm.MethodName)) ∈ TG := tg 713 rfl rfl
set_option maxRecDepth 20000 in
theorem wd_715 : (Jvm.Cond.instanceMethod ({ cls := "SlippedBlocksModel", name := "readsRow", desc := "()V" } : Jvm.MethodName)) ∈ TG := tg 715 rfl rfl
set_option maxRecDepth 20000 in
theorem wd_716 : (Jvm.Cond.code ({ cls := "SlippedBlocksModel", name := "readsRow", desc := "()V" } : Jvm.MethodName) prog_9_method_12_code (4 : Nat) (Option.none : Option Jvm.ClassFile.FieldType)) ∈ TG := tg 716 rfl rfl
set_option maxRecDepth 20000 in
theorem wd_717 : (Jvm.Cond.methodLink "SlippedBlocksModel" (87 : Nat) ({ cls := "SlippedBlocksModel", name := "takes", desc := "(Z)I" } : Jvm.MethodName)) ∈ TG := tg 717 rfl rfl
set_option maxRecDepth 20000 in
theorem wd_719 : (Jvm.Cond.instanceMethod ({ cls := "SlippedBlocksModel", name := "takes", desc := "(Z)I" } : Jvm.MethodName)) ∈ TG := tg 719 rfl rfl
set_option maxRecDepth 20000 in
theorem wd_720 : (Jvm.Cond.code ({ cls := "SlippedBlocksModel", name := "takes", desc := "(Z)I" } : Jvm.MethodName) prog_9_method_10_code (3 : Nat) (Option.some Jvm.ClassFile.FieldType.int)) ∈ TG := tg 720 rfl rfl
set_option maxRecDepth 20000 in
theorem wd_721 : (Jvm.Cond.methodLink "SlippedBlocksModel" (94 : Nat) ({ cls := "SlippedBlocksModel", name := "readsInk", desc := "(Z)V" } : Jvm.MethodName)) ∈ TG := tg 721 rfl rfl
set_option maxRecDepth 20000 in
theorem wd_723 : (Jvm.Cond.instanceMethod ({ cls := "SlippedBlocksModel", name := "readsInk", desc := "(Z)V" } : Jvm.MethodName)) ∈ TG := tg 723 rfl rfl
set_option maxRecDepth 20000 in
theorem wd_724 : (Jvm.Cond.code ({ cls := "SlippedBlocksModel", name := "readsInk", desc := "(Z)V" } : Jvm.MethodName) prog_9_method_11_code (3 : Nat) (Option.none : Option Jvm.ClassFile.FieldType)) ∈ TG := tg 724 rfl rfl
set_option maxRecDepth 20000 in
theorem wd_725 : (Jvm.Cond.methodLink "SlippedBlocksModel" (102 : Nat) ({ cls := "SlippedBlocksModel", name := "notes", desc := "()V" } : Jvm.MethodName)) ∈ TG := tg 725 rfl rfl
set_option maxRecDepth 20000 in
theorem wd_727 : (Jvm.Cond.instanceMethod ({ cls := "SlippedBlocksModel", name := "notes", desc := "()V" } : Jvm.MethodName)) ∈ TG := tg 727 rfl rfl
set_option maxRecDepth 20000 in
theorem wd_728 : (Jvm.Cond.code ({ cls := "SlippedBlocksModel", name := "notes", desc := "()V" } : Jvm.MethodName) prog_9_method_23_code (2 : Nat) (Option.none : Option Jvm.ClassFile.FieldType)) ∈ TG := tg 728 rfl rfl
set_option maxRecDepth 20000 in
theorem wd_729 : (Jvm.Cond.methodLink "SlippedBlocksLaw" (30 : Nat) ({ cls := "SlippedBlocksModel", name := "cuts", desc := "()I" } : Jvm.MethodName)) ∈ TG := tg 729 rfl rfl
set_option maxRecDepth 20000 in
theorem wd_730 : (Jvm.Cond.instanceMethod ({ cls := "SlippedBlocksModel", name := "cuts", desc := "()I" } : Jvm.MethodName)) ∈ TG := tg 730 rfl rfl
set_option maxRecDepth 20000 in
theorem wd_731 : (Jvm.Cond.selects "SlippedBlocksModel" ({ cls := "SlippedBlocksModel", name := "cuts", desc := "()I" } : Jvm.MethodName) ({ cls := "SlippedBlocksModel", name := "cuts", desc := "()I" } : Jvm.MethodName)) ∈ TG := tg 731 rfl rfl
set_option maxRecDepth 20000 in
theorem wd_732 : (Jvm.Cond.code ({ cls := "SlippedBlocksModel", name := "cuts", desc := "()I" } : Jvm.MethodName) prog_9_method_27_code (6 : Nat) (Option.some Jvm.ClassFile.FieldType.int)) ∈ TG := tg 732 rfl rfl
set_option maxRecDepth 20000 in
theorem wd_733 : (Jvm.Cond.methodLink "SlippedBlocksModel" (128 : Nat) ({ cls := "SlippedBlocksModel", name := "asOrdered", desc := "()V" } : Jvm.MethodName)) ∈ TG := tg 733 rfl rfl
set_option maxRecDepth 20000 in
theorem wd_735 : (Jvm.Cond.instanceMethod ({ cls := "SlippedBlocksModel", name := "asOrdered", desc := "()V" } : Jvm.MethodName)) ∈ TG := tg 735 rfl rfl
set_option maxRecDepth 20000 in
theorem wd_736 : (Jvm.Cond.code ({ cls := "SlippedBlocksModel", name := "asOrdered", desc := "()V" } : Jvm.MethodName) prog_9_method_20_code (2 : Nat) (Option.none : Option Jvm.ClassFile.FieldType)) ∈ TG := tg 736 rfl rfl
set_option maxRecDepth 20000 in
theorem wd_737 : (Jvm.Cond.methodLink "SlippedBlocksModel" (131 : Nat) ({ cls := "SlippedBlocksModel", name := "leastSet", desc := "()I" } : Jvm.MethodName)) ∈ TG := tg 737 rfl rfl
set_option maxRecDepth 20000 in
theorem wd_739 : (Jvm.Cond.instanceMethod ({ cls := "SlippedBlocksModel", name := "leastSet", desc := "()I" } : Jvm.MethodName)) ∈ TG := tg 739 rfl rfl
set_option maxRecDepth 20000 in
theorem wd_740 : (Jvm.Cond.code ({ cls := "SlippedBlocksModel", name := "leastSet", desc := "()I" } : Jvm.MethodName) prog_9_method_22_code (5 : Nat) (Option.some Jvm.ClassFile.FieldType.int)) ∈ TG := tg 740 rfl rfl
set_option maxRecDepth 20000 in
theorem wd_741 : (Jvm.Cond.methodLink "SlippedBlocksModel" (116 : Nat) ({ cls := "SlippedBlocksModel", name := "mixes", desc := "()V" } : Jvm.MethodName)) ∈ TG := tg 741 rfl rfl
set_option maxRecDepth 20000 in
theorem wd_743 : (Jvm.Cond.instanceMethod ({ cls := "SlippedBlocksModel", name := "mixes", desc := "()V" } : Jvm.MethodName)) ∈ TG := tg 743 rfl rfl
set_option maxRecDepth 20000 in
theorem wd_744 : (Jvm.Cond.code ({ cls := "SlippedBlocksModel", name := "mixes", desc := "()V" } : Jvm.MethodName) prog_9_method_19_code (4 : Nat) (Option.none : Option Jvm.ClassFile.FieldType)) ∈ TG := tg 744 rfl rfl
set_option maxRecDepth 20000 in
theorem wd_745 : (Jvm.Cond.methodLink "SlippedBlocksModel" (112 : Nat) ({ cls := "SlippedBlocksModel", name := "printed", desc := "(II)I" } : Jvm.MethodName)) ∈ TG := tg 745 rfl rfl
set_option maxRecDepth 20000 in
theorem wd_746 : (Jvm.Cond.static ({ cls := "SlippedBlocksModel", name := "printed", desc := "(II)I" } : Jvm.MethodName)) ∈ TG := tg 746 rfl rfl
set_option maxRecDepth 20000 in
theorem wd_747 : (Jvm.Cond.code ({ cls := "SlippedBlocksModel", name := "printed", desc := "(II)I" } : Jvm.MethodName) prog_9_method_15_code (2 : Nat) (Option.some Jvm.ClassFile.FieldType.int)) ∈ TG := tg 747 rfl rfl
set_option maxRecDepth 20000 in
theorem wd_748 : (Jvm.Cond.methodLink "SlippedBlocksModel" (119 : Nat) ({ cls := "SlippedBlocksModel", name := "wanted", desc := "()I" } : Jvm.MethodName)) ∈ TG := tg 748 rfl rfl
set_option maxRecDepth 20000 in
theorem wd_750 : (Jvm.Cond.instanceMethod ({ cls := "SlippedBlocksModel", name := "wanted", desc := "()I" } : Jvm.MethodName)) ∈ TG := tg 750 rfl rfl
set_option maxRecDepth 20000 in
theorem wd_751 : (Jvm.Cond.code ({ cls := "SlippedBlocksModel", name := "wanted", desc := "()I" } : Jvm.MethodName) prog_9_method_21_code (4 : Nat) (Option.some Jvm.ClassFile.FieldType.int)) ∈ TG := tg 751 rfl rfl
set_option maxRecDepth 20000 in
theorem wd_752 : (Jvm.Cond.methodLink "SlippedBlocksModel" (122 : Nat) ({ cls := "SlippedBlocksModel", name := "ones", desc := "(I)I" } : Jvm.MethodName)) ∈ TG := tg 752 rfl rfl
set_option maxRecDepth 20000 in
theorem wd_753 : (Jvm.Cond.static ({ cls := "SlippedBlocksModel", name := "ones", desc := "(I)I" } : Jvm.MethodName)) ∈ TG := tg 753 rfl rfl
set_option maxRecDepth 20000 in
theorem wd_754 : (Jvm.Cond.code ({ cls := "SlippedBlocksModel", name := "ones", desc := "(I)I" } : Jvm.MethodName) prog_9_method_4_code (3 : Nat) (Option.some Jvm.ClassFile.FieldType.int)) ∈ TG := tg 754 rfl rfl
set_option maxRecDepth 20000 in
theorem wd_755 : (Jvm.Cond.methodLink "SlippedBlocksModel" (134 : Nat) ({ cls := "SlippedBlocksModel", name := "partOf", desc := "(II)I" } : Jvm.MethodName)) ∈ TG := tg 755 rfl rfl
set_option maxRecDepth 20000 in
theorem wd_757 : (Jvm.Cond.instanceMethod ({ cls := "SlippedBlocksModel", name := "partOf", desc := "(II)I" } : Jvm.MethodName)) ∈ TG := tg 757 rfl rfl
set_option maxRecDepth 20000 in
theorem wd_758 : (Jvm.Cond.code ({ cls := "SlippedBlocksModel", name := "partOf", desc := "(II)I" } : Jvm.MethodName) prog_9_method_26_code (4 : Nat) (Option.some Jvm.ClassFile.FieldType.int)) ∈ TG := tg 758 rfl rfl
set_option maxRecDepth 20000 in
theorem wd_759 : (Jvm.Cond.methodLink "SlippedBlocksLaw" (35 : Nat) ({ cls := "SlippedBlocksModel", name := "carves", desc := "(III)I" } : Jvm.MethodName)) ∈ TG := tg 759 rfl rfl
set_option maxRecDepth 20000 in
theorem wd_760 : (Jvm.Cond.instanceMethod ({ cls := "SlippedBlocksModel", name := "carves", desc := "(III)I" } : Jvm.MethodName)) ∈ TG := tg 760 rfl rfl
set_option maxRecDepth 20000 in
theorem wd_761 : (Jvm.Cond.selects "SlippedBlocksModel" ({ cls := "SlippedBlocksModel", name := "carves", desc := "(III)I" } : Jvm.MethodName) ({ cls := "SlippedBlocksModel", name := "carves", desc := "(III)I" } : Jvm.MethodName)) ∈ TG := tg 761 rfl rfl
set_option maxRecDepth 20000 in
theorem wd_762 : (Jvm.Cond.code ({ cls := "SlippedBlocksModel", name := "carves", desc := "(III)I" } : Jvm.MethodName) prog_9_method_28_code (4 : Nat) (Option.some Jvm.ClassFile.FieldType.int)) ∈ TG := tg 762 rfl rfl
set_option maxRecDepth 20000 in
theorem wd_763 : (Jvm.Cond.methodLink "SlippedBlocksModel" (137 : Nat) ({ cls := "SlippedBlocksModel", name := "isInk", desc := "(I)Z" } : Jvm.MethodName)) ∈ TG := tg 763 rfl rfl
set_option maxRecDepth 20000 in
theorem wd_765 : (Jvm.Cond.instanceMethod ({ cls := "SlippedBlocksModel", name := "isInk", desc := "(I)Z" } : Jvm.MethodName)) ∈ TG := tg 765 rfl rfl
set_option maxRecDepth 20000 in
theorem wd_766 : (Jvm.Cond.code ({ cls := "SlippedBlocksModel", name := "isInk", desc := "(I)Z" } : Jvm.MethodName) prog_9_method_24_code (2 : Nat) (Option.some Jvm.ClassFile.FieldType.boolean)) ∈ TG := tg 766 rfl rfl
set_option maxRecDepth 20000 in
theorem wd_767 : (Jvm.Cond.methodLink "SlippedBlocksModel" (141 : Nat) ({ cls := "SlippedBlocksModel", name := "isCell", desc := "(II)Z" } : Jvm.MethodName)) ∈ TG := tg 767 rfl rfl
set_option maxRecDepth 20000 in
theorem wd_769 : (Jvm.Cond.instanceMethod ({ cls := "SlippedBlocksModel", name := "isCell", desc := "(II)Z" } : Jvm.MethodName)) ∈ TG := tg 769 rfl rfl
set_option maxRecDepth 20000 in
theorem wd_770 : (Jvm.Cond.code ({ cls := "SlippedBlocksModel", name := "isCell", desc := "(II)Z" } : Jvm.MethodName) prog_9_method_25_code (3 : Nat) (Option.some Jvm.ClassFile.FieldType.boolean)) ∈ TG := tg 770 rfl rfl
set_option maxRecDepth 20000 in
theorem wd_771 : (Jvm.Cond.methodLink "SlippedBlocksLaw" (39 : Nat) ({ cls := "SlippedBlocksModel", name := "slips", desc := "(III)I" } : Jvm.MethodName)) ∈ TG := tg 771 rfl rfl
set_option maxRecDepth 20000 in
theorem wd_772 : (Jvm.Cond.instanceMethod ({ cls := "SlippedBlocksModel", name := "slips", desc := "(III)I" } : Jvm.MethodName)) ∈ TG := tg 772 rfl rfl
set_option maxRecDepth 20000 in
theorem wd_773 : (Jvm.Cond.selects "SlippedBlocksModel" ({ cls := "SlippedBlocksModel", name := "slips", desc := "(III)I" } : Jvm.MethodName) ({ cls := "SlippedBlocksModel", name := "slips", desc := "(III)I" } : Jvm.MethodName)) ∈ TG := tg 773 rfl rfl
set_option maxRecDepth 20000 in
theorem wd_774 : (Jvm.Cond.code ({ cls := "SlippedBlocksModel", name := "slips", desc := "(III)I" } : Jvm.MethodName) prog_9_method_29_code (4 : Nat) (Option.some Jvm.ClassFile.FieldType.int)) ∈ TG := tg 774 rfl rfl
set_option maxRecDepth 20000 in
theorem wd_775 : (Jvm.Cond.methodLink "SlippedBlocksLaw" (44 : Nat) ({ cls := "SlippedBlocksModel", name := "swaps", desc := "(II)I" } : Jvm.MethodName)) ∈ TG := tg 775 rfl rfl
set_option maxRecDepth 20000 in
theorem wd_776 : (Jvm.Cond.instanceMethod ({ cls := "SlippedBlocksModel", name := "swaps", desc := "(II)I" } : Jvm.MethodName)) ∈ TG := tg 776 rfl rfl
set_option maxRecDepth 20000 in
theorem wd_777 : (Jvm.Cond.selects "SlippedBlocksModel" ({ cls := "SlippedBlocksModel", name := "swaps", desc := "(II)I" } : Jvm.MethodName) ({ cls := "SlippedBlocksModel", name := "swaps", desc := "(II)I" } : Jvm.MethodName)) ∈ TG := tg 777 rfl rfl
set_option maxRecDepth 20000 in
theorem wd_778 : (Jvm.Cond.code ({ cls := "SlippedBlocksModel", name := "swaps", desc := "(II)I" } : Jvm.MethodName) prog_9_method_31_code (5 : Nat) (Option.some Jvm.ClassFile.FieldType.int)) ∈ TG := tg 778 rfl rfl
set_option maxRecDepth 20000 in
theorem wd_779 : (Jvm.Cond.methodLink "SlippedBlocksModel" (145 : Nat) ({ cls := "SlippedBlocksModel", name := "placeOf", desc := "(I)I" } : Jvm.MethodName)) ∈ TG := tg 779 rfl rfl
set_option maxRecDepth 20000 in
theorem wd_781 : (Jvm.Cond.instanceMethod ({ cls := "SlippedBlocksModel", name := "placeOf", desc := "(I)I" } : Jvm.MethodName)) ∈ TG := tg 781 rfl rfl
set_option maxRecDepth 20000 in
theorem wd_782 : (Jvm.Cond.code ({ cls := "SlippedBlocksModel", name := "placeOf", desc := "(I)I" } : Jvm.MethodName) prog_9_method_30_code (3 : Nat) (Option.some Jvm.ClassFile.FieldType.int)) ∈ TG := tg 782 rfl rfl
set_option maxRecDepth 20000 in
theorem wd_783 : (Jvm.Cond.methodLink "SlippedBlocksModel" (148 : Nat) ({ cls := "SlippedBlocksModel", name := "proves", desc := "(III)V" } : Jvm.MethodName)) ∈ TG := tg 783 rfl rfl
set_option maxRecDepth 20000 in
theorem wd_785 : (Jvm.Cond.instanceMethod ({ cls := "SlippedBlocksModel", name := "proves", desc := "(III)V" } : Jvm.MethodName)) ∈ TG := tg 785 rfl rfl
set_option maxRecDepth 20000 in
theorem wd_786 : (Jvm.Cond.code ({ cls := "SlippedBlocksModel", name := "proves", desc := "(III)V" } : Jvm.MethodName) prog_9_method_16_code (6 : Nat) (Option.none : Option Jvm.ClassFile.FieldType)) ∈ TG := tg 786 rfl rfl
set_option maxRecDepth 20000 in
theorem wd_787 : (Jvm.Cond.methodLink "SlippedBlocksModel" (108 : Nat) ({ cls := "SlippedBlocksModel", name := "prints", desc := "(III)V" } : Jvm.MethodName)) ∈ TG := tg 787 rfl rfl
set_option maxRecDepth 20000 in
theorem wd_789 : (Jvm.Cond.instanceMethod ({ cls := "SlippedBlocksModel", name := "prints", desc := "(III)V" } : Jvm.MethodName)) ∈ TG := tg 789 rfl rfl
set_option maxRecDepth 20000 in
theorem wd_790 : (Jvm.Cond.code ({ cls := "SlippedBlocksModel", name := "prints", desc := "(III)V" } : Jvm.MethodName) prog_9_method_17_code (8 : Nat) (Option.none : Option Jvm.ClassFile.FieldType)) ∈ TG := tg 790 rfl rfl
set_option maxRecDepth 20000 in
theorem wd_791 : (Jvm.Cond.methodLink "SlippedBlocksModel" (151 : Nat) ({ cls := "SlippedBlocksModel", name := "wrongCells", desc := "()I" } : Jvm.MethodName)) ∈ TG := tg 791 rfl rfl
set_option maxRecDepth 20000 in
theorem wd_793 : (Jvm.Cond.instanceMethod ({ cls := "SlippedBlocksModel", name := "wrongCells", desc := "()I" } : Jvm.MethodName)) ∈ TG := tg 793 rfl rfl
set_option maxRecDepth 20000 in
theorem wd_794 : (Jvm.Cond.code ({ cls := "SlippedBlocksModel", name := "wrongCells", desc := "()I" } : Jvm.MethodName) prog_9_method_18_code (4 : Nat) (Option.some Jvm.ClassFile.FieldType.int)) ∈ TG := tg 794 rfl rfl
set_option maxRecDepth 20000 in
theorem wd_795 : (Jvm.Cond.methodLink "SlippedBlocksLaw" (48 : Nat) ({ cls := "SlippedBlocksModel", name := "undo", desc := "()I" } : Jvm.MethodName)) ∈ TG := tg 795 rfl rfl
set_option maxRecDepth 20000 in
theorem wd_796 : (Jvm.Cond.instanceMethod ({ cls := "SlippedBlocksModel", name := "undo", desc := "()I" } : Jvm.MethodName)) ∈ TG := tg 796 rfl rfl
set_option maxRecDepth 20000 in
theorem wd_797 : (Jvm.Cond.selects "SlippedBlocksModel" ({ cls := "SlippedBlocksModel", name := "undo", desc := "()I" } : Jvm.MethodName) ({ cls := "SlippedBlocksModel", name := "undo", desc := "()I" } : Jvm.MethodName)) ∈ TG := tg 797 rfl rfl
set_option maxRecDepth 20000 in
theorem wd_798 : (Jvm.Cond.code ({ cls := "SlippedBlocksModel", name := "undo", desc := "()I" } : Jvm.MethodName) prog_9_method_32_code (2 : Nat) (Option.some Jvm.ClassFile.FieldType.int)) ∈ TG := tg 798 rfl rfl
set_option maxRecDepth 20000 in
theorem wd_799 : (Jvm.Cond.methodLink "SlippedBlocksLaw" (52 : Nat) ({ cls := "SlippedBlocksModel", name := "cell", desc := "(III)I" } : Jvm.MethodName)) ∈ TG := tg 799 rfl rfl
set_option maxRecDepth 20000 in
theorem wd_800 : (Jvm.Cond.instanceMethod ({ cls := "SlippedBlocksModel", name := "cell", desc := "(III)I" } : Jvm.MethodName)) ∈ TG := tg 800 rfl rfl
set_option maxRecDepth 20000 in
theorem wd_801 : (Jvm.Cond.selects "SlippedBlocksModel" ({ cls := "SlippedBlocksModel", name := "cell", desc := "(III)I" } : Jvm.MethodName) ({ cls := "SlippedBlocksModel", name := "cell", desc := "(III)I" } : Jvm.MethodName)) ∈ TG := tg 801 rfl rfl
set_option maxRecDepth 20000 in
theorem wd_802 : (Jvm.Cond.code ({ cls := "SlippedBlocksModel", name := "cell", desc := "(III)I" } : Jvm.MethodName) prog_9_method_33_code (6 : Nat) (Option.some Jvm.ClassFile.FieldType.int)) ∈ TG := tg 802 rfl rfl
set_option maxRecDepth 20000 in
theorem wd_803 : (Jvm.Cond.methodLink "SlippedBlocksLaw" (56 : Nat) ({ cls := "SlippedBlocksModel", name := "ink", desc := "(II)I" } : Jvm.MethodName)) ∈ TG := tg 803 rfl rfl
set_option maxRecDepth 20000 in
theorem wd_804 : (Jvm.Cond.instanceMethod ({ cls := "SlippedBlocksModel", name := "ink", desc := "(II)I" } : Jvm.MethodName)) ∈ TG := tg 804 rfl rfl
set_option maxRecDepth 20000 in
theorem wd_805 : (Jvm.Cond.selects "SlippedBlocksModel" ({ cls := "SlippedBlocksModel", name := "ink", desc := "(II)I" } : Jvm.MethodName) ({ cls := "SlippedBlocksModel", name := "ink", desc := "(II)I" } : Jvm.MethodName)) ∈ TG := tg 805 rfl rfl
set_option maxRecDepth 20000 in
theorem wd_806 : (Jvm.Cond.code ({ cls := "SlippedBlocksModel", name := "ink", desc := "(II)I" } : Jvm.MethodName) prog_9_method_35_code (3 : Nat) (Option.some Jvm.ClassFile.FieldType.int)) ∈ TG := tg 806 rfl rfl
set_option maxRecDepth 20000 in
theorem wd_807 : (Jvm.Cond.constant "SlippedBlocksModel" (154 : Nat) (-1000000 : Int32)) ∈ TG := tg 807 rfl rfl
set_option maxRecDepth 20000 in
theorem wd_808 : (Jvm.Cond.methodLink "SlippedBlocksModel" (155 : Nat) ({ cls := "SlippedBlocksModel", name := "cellsOf", desc := "(I)I" } : Jvm.MethodName)) ∈ TG := tg 808 rfl rfl
set_option maxRecDepth 20000 in
theorem wd_810 : (Jvm.Cond.instanceMethod ({ cls := "SlippedBlocksModel", name := "cellsOf", desc := "(I)I" } : Jvm.MethodName)) ∈ TG := tg 810 rfl rfl
set_option maxRecDepth 20000 in
theorem wd_811 : (Jvm.Cond.code ({ cls := "SlippedBlocksModel", name := "cellsOf", desc := "(I)I" } : Jvm.MethodName) prog_9_method_34_code (4 : Nat) (Option.some Jvm.ClassFile.FieldType.int)) ∈ TG := tg 811 rfl rfl
set_option maxRecDepth 20000 in
theorem wd_812 : (Jvm.Cond.methodLink "SlippedBlocksLaw" (60 : Nat) ({ cls := "SlippedBlocksModel", name := "made", desc := "(I)I" } : Jvm.MethodName)) ∈ TG := tg 812 rfl rfl
set_option maxRecDepth 20000 in
theorem wd_813 : (Jvm.Cond.instanceMethod ({ cls := "SlippedBlocksModel", name := "made", desc := "(I)I" } : Jvm.MethodName)) ∈ TG := tg 813 rfl rfl
set_option maxRecDepth 20000 in
theorem wd_814 : (Jvm.Cond.selects "SlippedBlocksModel" ({ cls := "SlippedBlocksModel", name := "made", desc := "(I)I" } : Jvm.MethodName) ({ cls := "SlippedBlocksModel", name := "made", desc := "(I)I" } : Jvm.MethodName)) ∈ TG := tg 814 rfl rfl
set_option maxRecDepth 20000 in
theorem wd_815 : (Jvm.Cond.code ({ cls := "SlippedBlocksModel", name := "made", desc := "(I)I" } : Jvm.MethodName) prog_9_method_36_code (2 : Nat) (Option.some Jvm.ClassFile.FieldType.int)) ∈ TG := tg 815 rfl rfl
set_option maxRecDepth 20000 in
theorem wd_816 : (Jvm.Cond.methodLink "SlippedBlocksLaw" (64 : Nat) ({ cls := "SlippedBlocksModel", name := "least", desc := "(I)I" } : Jvm.MethodName)) ∈ TG := tg 816 rfl rfl
set_option maxRecDepth 20000 in
theorem wd_817 : (Jvm.Cond.instanceMethod ({ cls := "SlippedBlocksModel", name := "least", desc := "(I)I" } : Jvm.MethodName)) ∈ TG := tg 817 rfl rfl
set_option maxRecDepth 20000 in
theorem wd_818 : (Jvm.Cond.selects "SlippedBlocksModel" ({ cls := "SlippedBlocksModel", name := "least", desc := "(I)I" } : Jvm.MethodName) ({ cls := "SlippedBlocksModel", name := "least", desc := "(I)I" } : Jvm.MethodName)) ∈ TG := tg 818 rfl rfl
set_option maxRecDepth 20000 in
theorem wd_819 : (Jvm.Cond.code ({ cls := "SlippedBlocksModel", name := "least", desc := "(I)I" } : Jvm.MethodName) prog_9_method_37_code (3 : Nat) (Option.some Jvm.ClassFile.FieldType.int)) ∈ TG := tg 819 rfl rfl
set_option maxRecDepth 20000 in
theorem wd_820 : (Jvm.Cond.methodLink "SlippedBlocksLaw" (68 : Nat) ({ cls := "SlippedBlocksModel", name := "order", desc := "(I)I" } : Jvm.MethodName)) ∈ TG := tg 820 rfl rfl
set_option maxRecDepth 20000 in
theorem wd_821 : (Jvm.Cond.instanceMethod ({ cls := "SlippedBlocksModel", name := "order", desc := "(I)I" } : Jvm.MethodName)) ∈ TG := tg 821 rfl rfl
set_option maxRecDepth 20000 in
theorem wd_822 : (Jvm.Cond.selects "SlippedBlocksModel" ({ cls := "SlippedBlocksModel", name := "order", desc := "(I)I" } : Jvm.MethodName) ({ cls := "SlippedBlocksModel", name := "order", desc := "(I)I" } : Jvm.MethodName)) ∈ TG := tg 822 rfl rfl
set_option maxRecDepth 20000 in
theorem wd_823 : (Jvm.Cond.code ({ cls := "SlippedBlocksModel", name := "order", desc := "(I)I" } : Jvm.MethodName) prog_9_method_41_code (3 : Nat) (Option.some Jvm.ClassFile.FieldType.int)) ∈ TG := tg 823 rfl rfl
set_option maxRecDepth 20000 in
theorem wd_824 : (Jvm.Cond.methodLink "SlippedBlocksModel" (165 : Nat) ({ cls := "SlippedBlocksModel", name := "fewestByOrder", desc := "()I" } : Jvm.MethodName)) ∈ TG := tg 824 rfl rfl
set_option maxRecDepth 20000 in
theorem wd_826 : (Jvm.Cond.instanceMethod ({ cls := "SlippedBlocksModel", name := "fewestByOrder", desc := "()I" } : Jvm.MethodName)) ∈ TG := tg 826 rfl rfl
set_option maxRecDepth 20000 in
theorem wd_827 : (Jvm.Cond.code ({ cls := "SlippedBlocksModel", name := "fewestByOrder", desc := "()I" } : Jvm.MethodName) prog_9_method_40_code (5 : Nat) (Option.some Jvm.ClassFile.FieldType.int)) ∈ TG := tg 827 rfl rfl
set_option maxRecDepth 20000 in
theorem wd_828 : (Jvm.Cond.methodLink "SlippedBlocksModel" (162 : Nat) ({ cls := "SlippedBlocksModel", name := "goesOn", desc := "()Z" } : Jvm.MethodName)) ∈ TG := tg 828 rfl rfl
set_option maxRecDepth 20000 in
theorem wd_830 : (Jvm.Cond.instanceMethod ({ cls := "SlippedBlocksModel", name := "goesOn", desc := "()Z" } : Jvm.MethodName)) ∈ TG := tg 830 rfl rfl
set_option maxRecDepth 20000 in
theorem wd_831 : (Jvm.Cond.code ({ cls := "SlippedBlocksModel", name := "goesOn", desc := "()Z" } : Jvm.MethodName) prog_9_method_38_code (4 : Nat) (Option.some Jvm.ClassFile.FieldType.boolean)) ∈ TG := tg 831 rfl rfl
set_option maxRecDepth 20000 in
theorem wd_832 : (Jvm.Cond.methodLink "SlippedBlocksModel" (158 : Nat) ({ cls := "SlippedBlocksModel", name := "exchanges", desc := "(II)V" } : Jvm.MethodName)) ∈ TG := tg 832 rfl rfl
set_option maxRecDepth 20000 in
theorem wd_834 : (Jvm.Cond.instanceMethod ({ cls := "SlippedBlocksModel", name := "exchanges", desc := "(II)V" } : Jvm.MethodName)) ∈ TG := tg 834 rfl rfl
set_option maxRecDepth 20000 in
theorem wd_835 : (Jvm.Cond.code ({ cls := "SlippedBlocksModel", name := "exchanges", desc := "(II)V" } : Jvm.MethodName) prog_9_method_39_code (4 : Nat) (Option.none : Option Jvm.ClassFile.FieldType)) ∈ TG := tg 835 rfl rfl
set_option maxRecDepth 20000 in
theorem wd_836 : (Jvm.Cond.methodLink "SlippedBlocksLaw" (72 : Nat) ({ cls := "SlippedBlocksModel", name := "wrong", desc := "()I" } : Jvm.MethodName)) ∈ TG := tg 836 rfl rfl
set_option maxRecDepth 20000 in
theorem wd_837 : (Jvm.Cond.instanceMethod ({ cls := "SlippedBlocksModel", name := "wrong", desc := "()I" } : Jvm.MethodName)) ∈ TG := tg 837 rfl rfl
set_option maxRecDepth 20000 in
theorem wd_838 : (Jvm.Cond.selects "SlippedBlocksModel" ({ cls := "SlippedBlocksModel", name := "wrong", desc := "()I" } : Jvm.MethodName) ({ cls := "SlippedBlocksModel", name := "wrong", desc := "()I" } : Jvm.MethodName)) ∈ TG := tg 838 rfl rfl
set_option maxRecDepth 20000 in
theorem wd_839 : (Jvm.Cond.code ({ cls := "SlippedBlocksModel", name := "wrong", desc := "()I" } : Jvm.MethodName) prog_9_method_42_code (1 : Nat) (Option.some Jvm.ClassFile.FieldType.int)) ∈ TG := tg 839 rfl rfl
set_option maxRecDepth 20000 in
theorem wd_840 : (Jvm.Cond.methodLink "SlippedBlocksLaw" (76 : Nat) ({ cls := "SlippedBlocksModel", name := "hurt", desc := "(I)I" } : Jvm.MethodName)) ∈ TG := tg 840 rfl rfl
set_option maxRecDepth 20000 in
theorem wd_841 : (Jvm.Cond.instanceMethod ({ cls := "SlippedBlocksModel", name := "hurt", desc := "(I)I" } : Jvm.MethodName)) ∈ TG := tg 841 rfl rfl
set_option maxRecDepth 20000 in
theorem wd_842 : (Jvm.Cond.selects "SlippedBlocksModel" ({ cls := "SlippedBlocksModel", name := "hurt", desc := "(I)I" } : Jvm.MethodName) ({ cls := "SlippedBlocksModel", name := "hurt", desc := "(I)I" } : Jvm.MethodName)) ∈ TG := tg 842 rfl rfl
set_option maxRecDepth 20000 in
theorem wd_843 : (Jvm.Cond.code ({ cls := "SlippedBlocksModel", name := "hurt", desc := "(I)I" } : Jvm.MethodName) prog_9_method_43_code (3 : Nat) (Option.some Jvm.ClassFile.FieldType.int)) ∈ TG := tg 843 rfl rfl
set_option maxRecDepth 20000 in
theorem wd_844 : (Jvm.Cond.methodLink "SlippedBlocksLaw" (80 : Nat) ({ cls := "SlippedBlocksModel", name := "sees", desc := "(III)I" } : Jvm.MethodName)) ∈ TG := tg 844 rfl rfl
set_option maxRecDepth 20000 in
theorem wd_845 : (Jvm.Cond.instanceMethod ({ cls := "SlippedBlocksModel", name := "sees", desc := "(III)I" } : Jvm.MethodName)) ∈ TG := tg 845 rfl rfl
set_option maxRecDepth 20000 in
theorem wd_846 : (Jvm.Cond.selects "SlippedBlocksModel" ({ cls := "SlippedBlocksModel", name := "sees", desc := "(III)I" } : Jvm.MethodName) ({ cls := "SlippedBlocksModel", name := "sees", desc := "(III)I" } : Jvm.MethodName)) ∈ TG := tg 846 rfl rfl
set_option maxRecDepth 20000 in
theorem wd_847 : (Jvm.Cond.code ({ cls := "SlippedBlocksModel", name := "sees", desc := "(III)I" } : Jvm.MethodName) prog_9_method_44_code (4 : Nat) (Option.some Jvm.ClassFile.FieldType.int)) ∈ TG := tg 847 rfl rfl
set_option maxRecDepth 20000 in
theorem wd_848 : (Jvm.Cond.methodLink "SlippedBlocksLaw" (84 : Nat) ({ cls := "SlippedBlocksModel", name := "forget", desc := "()I" } : Jvm.MethodName)) ∈ TG := tg 848 rfl rfl
set_option maxRecDepth 20000 in
theorem wd_849 : (Jvm.Cond.instanceMethod ({ cls := "SlippedBlocksModel", name := "forget", desc := "()I" } : Jvm.MethodName)) ∈ TG := tg 849 rfl rfl
set_option maxRecDepth 20000 in
theorem wd_850 : (Jvm.Cond.selects "SlippedBlocksModel" ({ cls := "SlippedBlocksModel", name := "forget", desc := "()I" } : Jvm.MethodName) ({ cls := "SlippedBlocksModel", name := "forget", desc := "()I" } : Jvm.MethodName)) ∈ TG := tg 850 rfl rfl
set_option maxRecDepth 20000 in
theorem wd_851 : (Jvm.Cond.code ({ cls := "SlippedBlocksModel", name := "forget", desc := "()I" } : Jvm.MethodName) prog_9_method_45_code (2 : Nat) (Option.some Jvm.ClassFile.FieldType.int)) ∈ TG := tg 851 rfl rfl
set_option maxRecDepth 20000 in
theorem wd_852 : (Jvm.Cond.methodLink "SlippedBlocksLaw" (88 : Nat) ({ cls := "SlippedBlocksModel", name := "which", desc := "(I)I" } : Jvm.MethodName)) ∈ TG := tg 852 rfl rfl
set_option maxRecDepth 20000 in
theorem wd_853 : (Jvm.Cond.instanceMethod ({ cls := "SlippedBlocksModel", name := "which", desc := "(I)I" } : Jvm.MethodName)) ∈ TG := tg 853 rfl rfl
set_option maxRecDepth 20000 in
theorem wd_854 : (Jvm.Cond.selects "SlippedBlocksModel" ({ cls := "SlippedBlocksModel", name := "which", desc := "(I)I" } : Jvm.MethodName) ({ cls := "SlippedBlocksModel", name := "which", desc := "(I)I" } : Jvm.MethodName)) ∈ TG := tg 854 rfl rfl
set_option maxRecDepth 20000 in
theorem wd_855 : (Jvm.Cond.code ({ cls := "SlippedBlocksModel", name := "which", desc := "(I)I" } : Jvm.MethodName) prog_9_method_48_code (5 : Nat) (Option.some Jvm.ClassFile.FieldType.int)) ∈ TG := tg 855 rfl rfl
set_option maxRecDepth 20000 in
theorem wd_856 : (Jvm.Cond.constant "SlippedBlocksModel" (168 : Nat) (-2000000 : Int32)) ∈ TG := tg 856 rfl rfl
set_option maxRecDepth 20000 in
theorem wd_857 : (Jvm.Cond.methodLink "SlippedBlocksModel" (169 : Nat) ({ cls := "SlippedBlocksModel", name := "tries", desc := "(I)Z" } : Jvm.MethodName)) ∈ TG := tg 857 rfl rfl
set_option maxRecDepth 20000 in
theorem wd_859 : (Jvm.Cond.instanceMethod ({ cls := "SlippedBlocksModel", name := "tries", desc := "(I)Z" } : Jvm.MethodName)) ∈ TG := tg 859 rfl rfl
set_option maxRecDepth 20000 in
theorem wd_860 : (Jvm.Cond.code ({ cls := "SlippedBlocksModel", name := "tries", desc := "(I)Z" } : Jvm.MethodName) prog_9_method_46_code (5 : Nat) (Option.some Jvm.ClassFile.FieldType.boolean)) ∈ TG := tg 860 rfl rfl
set_option maxRecDepth 20000 in
theorem wd_861 : (Jvm.Cond.methodLink "SlippedBlocksModel" (172 : Nat) ({ cls := "SlippedBlocksModel", name := "isSeen", desc := "()Z" } : Jvm.MethodName)) ∈ TG := tg 861 rfl rfl
set_option maxRecDepth 20000 in
theorem wd_863 : (Jvm.Cond.instanceMethod ({ cls := "SlippedBlocksModel", name := "isSeen", desc := "()Z" } : Jvm.MethodName)) ∈ TG := tg 863 rfl rfl
set_option maxRecDepth 20000 in
theorem wd_864 : (Jvm.Cond.code ({ cls := "SlippedBlocksModel", name := "isSeen", desc := "()Z" } : Jvm.MethodName) prog_9_method_47_code (5 : Nat) (Option.some Jvm.ClassFile.FieldType.boolean)) ∈ TG := tg 864 rfl rfl
set_option maxRecDepth 20000 in
theorem wd_865 : (Jvm.Cond.methodLink "SlippedBlocksLaw" (92 : Nat) ({ cls := "SlippedBlocksModel", name := "ask", desc := "()I" } : Jvm.MethodName)) ∈ TG := tg 865 rfl rfl
set_option maxRecDepth 20000 in
theorem wd_866 : (Jvm.Cond.instanceMethod ({ cls := "SlippedBlocksModel", name := "ask", desc := "()I" } : Jvm.MethodName)) ∈ TG := tg 866 rfl rfl
set_option maxRecDepth 20000 in
theorem wd_867 : (Jvm.Cond.selects "SlippedBlocksModel" ({ cls := "SlippedBlocksModel", name := "ask", desc := "()I" } : Jvm.MethodName) ({ cls := "SlippedBlocksModel", name := "ask", desc := "()I" } : Jvm.MethodName)) ∈ TG := tg 867 rfl rfl
set_option maxRecDepth 20000 in
theorem wd_868 : (Jvm.Cond.code ({ cls := "SlippedBlocksModel", name := "ask", desc := "()I" } : Jvm.MethodName) prog_9_method_49_code (7 : Nat) (Option.some Jvm.ClassFile.FieldType.int)) ∈ TG := tg 868 rfl rfl
set_option maxRecDepth 20000 in
theorem wd_869 : (Jvm.Cond.methodLink "SlippedBlocksLaw" (96 : Nat) ({ cls := "SlippedBlocksModel", name := "keep", desc := "(I)I" } : Jvm.MethodName)) ∈ TG := tg 869 rfl rfl
set_option maxRecDepth 20000 in
theorem wd_870 : (Jvm.Cond.instanceMethod ({ cls := "SlippedBlocksModel", name := "keep", desc := "(I)I" } : Jvm.MethodName)) ∈ TG := tg 870 rfl rfl
set_option maxRecDepth 20000 in
theorem wd_871 : (Jvm.Cond.selects "SlippedBlocksModel" ({ cls := "SlippedBlocksModel", name := "keep", desc := "(I)I" } : Jvm.MethodName) ({ cls := "SlippedBlocksModel", name := "keep", desc := "(I)I" } : Jvm.MethodName)) ∈ TG := tg 871 rfl rfl
set_option maxRecDepth 20000 in
theorem wd_872 : (Jvm.Cond.code ({ cls := "SlippedBlocksModel", name := "keep", desc := "(I)I" } : Jvm.MethodName) prog_9_method_50_code (3 : Nat) (Option.some Jvm.ClassFile.FieldType.int)) ∈ TG := tg 872 rfl rfl
set_option maxRecDepth 20000 in
theorem wd_873 : (Jvm.Cond.methodLink "SlippedBlocksLaw" (100 : Nat) ({ cls := "SlippedBlocksModel", name := "back", desc := "(I)I" } : Jvm.MethodName)) ∈ TG := tg 873 rfl rfl
set_option maxRecDepth 20000 in
theorem wd_874 : (Jvm.Cond.instanceMethod ({ cls := "SlippedBlocksModel", name := "back", desc := "(I)I" } : Jvm.MethodName)) ∈ TG := tg 874 rfl rfl
set_option maxRecDepth 20000 in
theorem wd_875 : (Jvm.Cond.selects "SlippedBlocksModel" ({ cls := "SlippedBlocksModel", name := "back", desc := "(I)I" } : Jvm.MethodName) ({ cls := "SlippedBlocksModel", name := "back", desc := "(I)I" } : Jvm.MethodName)) ∈ TG := tg 875 rfl rfl
set_option maxRecDepth 20000 in
theorem wd_876 : (Jvm.Cond.code ({ cls := "SlippedBlocksModel", name := "back", desc := "(I)I" } : Jvm.MethodName) prog_9_method_51_code (3 : Nat) (Option.some Jvm.ClassFile.FieldType.int)) ∈ TG := tg 876 rfl rfl
set_option maxRecDepth 20000 in
theorem wd_877 : (Jvm.Cond.methodLink "SlippedBlocksLaw" (104 : Nat) ({ cls := "SlippedBlocksModel", name := "count", desc := "(I)I" } : Jvm.MethodName)) ∈ TG := tg 877 rfl rfl
set_option maxRecDepth 20000 in
theorem wd_878 : (Jvm.Cond.instanceMethod ({ cls := "SlippedBlocksModel", name := "count", desc := "(I)I" } : Jvm.MethodName)) ∈ TG := tg 878 rfl rfl
set_option maxRecDepth 20000 in
theorem wd_879 : (Jvm.Cond.selects "SlippedBlocksModel" ({ cls := "SlippedBlocksModel", name := "count", desc := "(I)I" } : Jvm.MethodName) ({ cls := "SlippedBlocksModel", name := "count", desc := "(I)I" } : Jvm.MethodName)) ∈ TG := tg 879 rfl rfl
set_option maxRecDepth 20000 in
theorem wd_880 : (Jvm.Cond.code ({ cls := "SlippedBlocksModel", name := "count", desc := "(I)I" } : Jvm.MethodName) prog_9_method_54_code (2 : Nat) (Option.some Jvm.ClassFile.FieldType.int)) ∈ TG := tg 880 rfl rfl
set_option maxRecDepth 20000 in
theorem wd_881 : (Jvm.Cond.methodLink "SlippedBlocksModel" (175 : Nat) ({ cls := "SlippedBlocksModel", name := "cellsOfAll", desc := "()I" } : Jvm.MethodName)) ∈ TG := tg 881 rfl rfl
set_option maxRecDepth 20000 in
theorem wd_883 : (Jvm.Cond.instanceMethod ({ cls := "SlippedBlocksModel", name := "cellsOfAll", desc := "()I" } : Jvm.MethodName)) ∈ TG := tg 883 rfl rfl
set_option maxRecDepth 20000 in
theorem wd_884 : (Jvm.Cond.code ({ cls := "SlippedBlocksModel", name := "cellsOfAll", desc := "()I" } : Jvm.MethodName) prog_9_method_52_code (3 : Nat) (Option.some Jvm.ClassFile.FieldType.int)) ∈ TG := tg 884 rfl rfl
set_option maxRecDepth 20000 in
theorem wd_885 : (Jvm.Cond.methodLink "SlippedBlocksModel" (178 : Nat) ({ cls := "SlippedBlocksModel", name := "slipped", desc := "()I" } : Jvm.MethodName)) ∈ TG := tg 885 rfl rfl
set_option maxRecDepth 20000 in
theorem wd_887 : (Jvm.Cond.instanceMethod ({ cls := "SlippedBlocksModel", name := "slipped", desc := "()I" } : Jvm.MethodName)) ∈ TG := tg 887 rfl rfl
set_option maxRecDepth 20000 in
theorem wd_888 : (Jvm.Cond.code ({ cls := "SlippedBlocksModel", name := "slipped", desc := "()I" } : Jvm.MethodName) prog_9_method_53_code (3 : Nat) (Option.some Jvm.ClassFile.FieldType.int)) ∈ TG := tg 888 rfl rfl
theorem fwX0 : ∀ w ∈ u_ws RX0 TX0 3, w ∈ TG := by
  intro w h
  obtain ⟨k, hk, rfl⟩ := List.mem_map.mp h
  have hk := List.mem_range.mp hk
  match k, hk with
  | 0, _ => exact wd_163
  | 1, _ => exact wd_165
  | 2, _ => exact wd_167
  | _ + 3, hk => exact absurd hk (by omega)
theorem fwX1 : ∀ w ∈ u_ws RX1 TX1 5, w ∈ TG := by
  intro w h
  obtain ⟨k, hk, rfl⟩ := List.mem_map.mp h
  have hk := List.mem_range.mp hk
  match k, hk with
  | 0, _ => exact wd_212
  | 1, _ => exact wd_214
  | 2, _ => exact wd_216
  | 3, _ => exact wd_218
  | 4, _ => exact wd_220
  | _ + 5, hk => exact absurd hk (by omega)
theorem fwX2 : ∀ w ∈ u_ws RX2 TX2 3, w ∈ TG := by
  intro w h
  obtain ⟨k, hk, rfl⟩ := List.mem_map.mp h
  have hk := List.mem_range.mp hk
  match k, hk with
  | 0, _ => exact wd_76
  | 1, _ => exact wd_78
  | 2, _ => exact wd_80
  | _ + 3, hk => exact absurd hk (by omega)
theorem fwX3 : ∀ w ∈ u_ws RX3 TX3 6, w ∈ TG := by
  intro w h
  obtain ⟨k, hk, rfl⟩ := List.mem_map.mp h
  have hk := List.mem_range.mp hk
  match k, hk with
  | 0, _ => exact wd_185
  | 1, _ => exact wd_187
  | 2, _ => exact wd_189
  | 3, _ => exact wd_191
  | 4, _ => exact wd_193
  | 5, _ => exact wd_195
  | _ + 6, hk => exact absurd hk (by omega)
theorem fwX4 : ∀ w ∈ u_ws RX4 TX4 4, w ∈ TG := by
  intro w h
  obtain ⟨k, hk, rfl⟩ := List.mem_map.mp h
  have hk := List.mem_range.mp hk
  match k, hk with
  | 0, _ => exact wd_140
  | 1, _ => exact wd_142
  | 2, _ => exact wd_144
  | 3, _ => exact wd_146
  | _ + 4, hk => exact absurd hk (by omega)
theorem fwX5 : ∀ w ∈ u_ws RX5 TX5 9, w ∈ TG := by
  intro w h
  obtain ⟨k, hk, rfl⟩ := List.mem_map.mp h
  have hk := List.mem_range.mp hk
  match k, hk with
  | 0, _ => exact wd_108
  | 1, _ => exact wd_110
  | 2, _ => exact wd_112
  | 3, _ => exact wd_114
  | 4, _ => exact wd_116
  | 5, _ => exact wd_118
  | 6, _ => exact wd_120
  | 7, _ => exact wd_122
  | 8, _ => exact wd_124
  | _ + 9, hk => exact absurd hk (by omega)
theorem fwX6 : ∀ w ∈ u_ws RX6 TX6 9, w ∈ TG := by
  intro w h
  obtain ⟨k, hk, rfl⟩ := List.mem_map.mp h
  have hk := List.mem_range.mp hk
  match k, hk with
  | 0, _ => exact wd_234
  | 1, _ => exact wd_236
  | 2, _ => exact wd_238
  | 3, _ => exact wd_240
  | 4, _ => exact wd_242
  | 5, _ => exact wd_244
  | 6, _ => exact wd_246
  | 7, _ => exact wd_248
  | 8, _ => exact wd_250
  | _ + 9, hk => exact absurd hk (by omega)
theorem fwX7 : ∀ w ∈ u_ws RX7 TX7 22, w ∈ TG := by
  intro w h
  obtain ⟨k, hk, rfl⟩ := List.mem_map.mp h
  have hk := List.mem_range.mp hk
  match k, hk with
  | 0, _ => exact wd_637
  | 1, _ => exact wd_639
  | 2, _ => exact wd_641
  | 3, _ => exact wd_643
  | 4, _ => exact wd_645
  | 5, _ => exact wd_647
  | 6, _ => exact wd_649
  | 7, _ => exact wd_651
  | 8, _ => exact wd_653
  | 9, _ => exact wd_655
  | 10, _ => exact wd_657
  | 11, _ => exact wd_659
  | 12, _ => exact wd_661
  | 13, _ => exact wd_663
  | 14, _ => exact wd_665
  | 15, _ => exact wd_667
  | 16, _ => exact wd_669
  | 17, _ => exact wd_671
  | 18, _ => exact wd_673
  | 19, _ => exact wd_675
  | 20, _ => exact wd_677
  | 21, _ => exact wd_679
  | _ + 22, hk => exact absurd hk (by omega)
end
section
theorem dX0_init_0 : decode cX0_init 0 = .ok (.aload_n 0, 1) := by decide +kernel
theorem dX0_init_1 : decode cX0_init 1 = .ok (.invokespecial 3, 3) := by decide +kernel
theorem dX0_init_4 : decode cX0_init 4 = .ok (.aload_n 0, 1) := by decide +kernel
theorem dX0_init_5 : decode cX0_init 5 = .ok (.bipush 6, 2) := by decide +kernel
theorem dX0_init_7 : decode cX0_init 7 = .ok (.anewarray 9, 3) := by decide +kernel
theorem dX0_init_10 : decode cX0_init 10 = .ok (.putfield 11, 3) := by decide +kernel
theorem dX0_init_13 : decode cX0_init 13 = .ok (.aload_n 0, 1) := by decide +kernel
theorem dX0_init_14 : decode cX0_init 14 = .ok (.iconst 0, 1) := by decide +kernel
theorem dX0_init_15 : decode cX0_init 15 = .ok (.putfield 17, 3) := by decide +kernel
theorem dX0_init_18 : decode cX0_init 18 = .ok (.aload_n 0, 1) := by decide +kernel
theorem dX0_init_19 : decode cX0_init 19 = .ok (.iconst 0, 1) := by decide +kernel
theorem dX0_init_20 : decode cX0_init 20 = .ok (.putfield 21, 3) := by decide +kernel
theorem dX0_init_23 : decode cX0_init 23 = .ok (.iconst 0, 1) := by decide +kernel
theorem dX0_init_24 : decode cX0_init 24 = .ok (.istore_n 1, 1) := by decide +kernel
theorem dX0_init_25 : decode cX0_init 25 = .ok (.iload_n 1, 1) := by decide +kernel
theorem dX0_init_26 : decode cX0_init 26 = .ok (.bipush 6, 2) := by decide +kernel
theorem dX0_init_28 : decode cX0_init 28 = .ok (.if_icmp .ge 22, 3) := by decide +kernel
theorem dX0_init_31 : decode cX0_init 31 = .ok (.aload_n 0, 1) := by decide +kernel
theorem dX0_init_32 : decode cX0_init 32 = .ok (.getfield 11, 3) := by decide +kernel
theorem dX0_init_35 : decode cX0_init 35 = .ok (.iload_n 1, 1) := by decide +kernel
theorem dX0_init_36 : decode cX0_init 36 = .ok (.new 9, 3) := by decide +kernel
theorem dX0_init_39 : decode cX0_init 39 = .ok (.dup, 1) := by decide +kernel
theorem dX0_init_40 : decode cX0_init 40 = .ok (.invokespecial 24, 3) := by decide +kernel
theorem dX0_init_43 : decode cX0_init 43 = .ok (.aastore, 1) := by decide +kernel
theorem dX0_init_44 : decode cX0_init 44 = .ok (.iinc 1 1, 3) := by decide +kernel
theorem dX0_init_47 : decode cX0_init 47 = .ok (.goto (-22), 3) := by decide +kernel
theorem dX0_init_50 : decode cX0_init 50 = .ok (.return_, 1) := by decide +kernel
theorem dX0_remember_0 : decode cX0_remember 0 = .ok (.aload_n 0, 1) := by decide +kernel
theorem dX0_remember_1 : decode cX0_remember 1 = .ok (.getfield 11, 3) := by decide +kernel
theorem dX0_remember_4 : decode cX0_remember 4 = .ok (.aload_n 0, 1) := by decide +kernel
theorem dX0_remember_5 : decode cX0_remember 5 = .ok (.getfield 17, 3) := by decide +kernel
theorem dX0_remember_8 : decode cX0_remember 8 = .ok (.aaload, 1) := by decide +kernel
theorem dX0_remember_9 : decode cX0_remember 9 = .ok (.aload_n 1, 1) := by decide +kernel
theorem dX0_remember_10 : decode cX0_remember 10 = .ok (.invokevirtual 25, 3) := by decide +kernel
theorem dX0_remember_13 : decode cX0_remember 13 = .ok (.aload_n 0, 1) := by decide +kernel
theorem dX0_remember_14 : decode cX0_remember 14 = .ok (.aload_n 0, 1) := by decide +kernel
theorem dX0_remember_15 : decode cX0_remember 15 = .ok (.getfield 17, 3) := by decide +kernel
theorem dX0_remember_18 : decode cX0_remember 18 = .ok (.iconst 1, 1) := by decide +kernel
theorem dX0_remember_19 : decode cX0_remember 19 = .ok (.iadd, 1) := by decide +kernel
theorem dX0_remember_20 : decode cX0_remember 20 = .ok (.bipush 6, 2) := by decide +kernel
theorem dX0_remember_22 : decode cX0_remember 22 = .ok (.irem, 1) := by decide +kernel
theorem dX0_remember_23 : decode cX0_remember 23 = .ok (.putfield 17, 3) := by decide +kernel
theorem dX0_remember_26 : decode cX0_remember 26 = .ok (.aload_n 0, 1) := by decide +kernel
theorem dX0_remember_27 : decode cX0_remember 27 = .ok (.aload_n 0, 1) := by decide +kernel
theorem dX0_remember_28 : decode cX0_remember 28 = .ok (.getfield 21, 3) := by decide +kernel
theorem dX0_remember_31 : decode cX0_remember 31 = .ok (.iconst 1, 1) := by decide +kernel
theorem dX0_remember_32 : decode cX0_remember 32 = .ok (.iadd, 1) := by decide +kernel
theorem dX0_remember_33 : decode cX0_remember 33 = .ok (.bipush 6, 2) := by decide +kernel
theorem dX0_remember_35 : decode cX0_remember 35 = .ok (.invokestatic 29, 3) := by decide +kernel
theorem dX0_remember_38 : decode cX0_remember 38 = .ok (.putfield 21, 3) := by decide +kernel
theorem dX0_remember_41 : decode cX0_remember 41 = .ok (.return_, 1) := by decide +kernel
theorem dX0_restore_0 : decode cX0_restore 0 = .ok (.aload_n 0, 1) := by decide +kernel
theorem dX0_restore_1 : decode cX0_restore 1 = .ok (.getfield 21, 3) := by decide +kernel
theorem dX0_restore_4 : decode cX0_restore 4 = .ok (.ifCond .ne 4, 3) := by decide +kernel
theorem dX0_restore_7 : decode cX0_restore 7 = .ok (.return_, 1) := by decide +kernel
theorem dX0_restore_8 : decode cX0_restore 8 = .ok (.aload_n 0, 1) := by decide +kernel
theorem dX0_restore_9 : decode cX0_restore 9 = .ok (.aload_n 0, 1) := by decide +kernel
theorem dX0_restore_10 : decode cX0_restore 10 = .ok (.getfield 17, 3) := by decide +kernel
theorem dX0_restore_13 : decode cX0_restore 13 = .ok (.bipush 6, 2) := by decide +kernel
theorem dX0_restore_15 : decode cX0_restore 15 = .ok (.iadd, 1) := by decide +kernel
theorem dX0_restore_16 : decode cX0_restore 16 = .ok (.iconst 1, 1) := by decide +kernel
theorem dX0_restore_17 : decode cX0_restore 17 = .ok (.isub, 1) := by decide +kernel
theorem dX0_restore_18 : decode cX0_restore 18 = .ok (.bipush 6, 2) := by decide +kernel
theorem dX0_restore_20 : decode cX0_restore 20 = .ok (.irem, 1) := by decide +kernel
theorem dX0_restore_21 : decode cX0_restore 21 = .ok (.putfield 17, 3) := by decide +kernel
theorem dX0_restore_24 : decode cX0_restore 24 = .ok (.aload_n 0, 1) := by decide +kernel
theorem dX0_restore_25 : decode cX0_restore 25 = .ok (.dup, 1) := by decide +kernel
theorem dX0_restore_26 : decode cX0_restore 26 = .ok (.getfield 21, 3) := by decide +kernel
theorem dX0_restore_29 : decode cX0_restore 29 = .ok (.iconst 1, 1) := by decide +kernel
theorem dX0_restore_30 : decode cX0_restore 30 = .ok (.isub, 1) := by decide +kernel
theorem dX0_restore_31 : decode cX0_restore 31 = .ok (.putfield 21, 3) := by decide +kernel
theorem dX0_restore_34 : decode cX0_restore 34 = .ok (.aload_n 1, 1) := by decide +kernel
theorem dX0_restore_35 : decode cX0_restore 35 = .ok (.aload_n 0, 1) := by decide +kernel
theorem dX0_restore_36 : decode cX0_restore 36 = .ok (.getfield 11, 3) := by decide +kernel
theorem dX0_restore_39 : decode cX0_restore 39 = .ok (.aload_n 0, 1) := by decide +kernel
theorem dX0_restore_40 : decode cX0_restore 40 = .ok (.getfield 17, 3) := by decide +kernel
theorem dX0_restore_43 : decode cX0_restore 43 = .ok (.aaload, 1) := by decide +kernel
theorem dX0_restore_44 : decode cX0_restore 44 = .ok (.invokevirtual 25, 3) := by decide +kernel
theorem dX0_restore_47 : decode cX0_restore 47 = .ok (.return_, 1) := by decide +kernel
theorem dX1_init_0 : decode cX1_init 0 = .ok (.aload_n 0, 1) := by decide +kernel
theorem dX1_init_1 : decode cX1_init 1 = .ok (.invokespecial 3, 3) := by decide +kernel
theorem dX1_init_4 : decode cX1_init 4 = .ok (.aload_n 0, 1) := by decide +kernel
theorem dX1_init_5 : decode cX1_init 5 = .ok (.bipush 6, 2) := by decide +kernel
theorem dX1_init_7 : decode cX1_init 7 = .ok (.newarray .int, 2) := by decide +kernel
theorem dX1_init_9 : decode cX1_init 9 = .ok (.putfield 9, 3) := by decide +kernel
theorem dX1_init_12 : decode cX1_init 12 = .ok (.aload_n 0, 1) := by decide +kernel
theorem dX1_init_13 : decode cX1_init 13 = .ok (.iconst 0, 1) := by decide +kernel
theorem dX1_init_14 : decode cX1_init 14 = .ok (.putfield 15, 3) := by decide +kernel
theorem dX1_init_17 : decode cX1_init 17 = .ok (.aload_n 0, 1) := by decide +kernel
theorem dX1_init_18 : decode cX1_init 18 = .ok (.iconst 0, 1) := by decide +kernel
theorem dX1_init_19 : decode cX1_init 19 = .ok (.putfield 19, 3) := by decide +kernel
theorem dX1_init_22 : decode cX1_init 22 = .ok (.aload_n 0, 1) := by decide +kernel
theorem dX1_init_23 : decode cX1_init 23 = .ok (.iconst 0, 1) := by decide +kernel
theorem dX1_init_24 : decode cX1_init 24 = .ok (.putfield 23, 3) := by decide +kernel
theorem dX1_init_27 : decode cX1_init 27 = .ok (.aload_n 0, 1) := by decide +kernel
theorem dX1_init_28 : decode cX1_init 28 = .ok (.iconst 0, 1) := by decide +kernel
theorem dX1_init_29 : decode cX1_init 29 = .ok (.putfield 26, 3) := by decide +kernel
theorem dX1_init_32 : decode cX1_init 32 = .ok (.return_, 1) := by decide +kernel
theorem dX1_run_0 : decode cX1_run 0 = .ok (.aload_n 0, 1) := by decide +kernel
theorem dX1_run_1 : decode cX1_run 1 = .ok (.iconst 0, 1) := by decide +kernel
theorem dX1_run_2 : decode cX1_run 2 = .ok (.putfield 19, 3) := by decide +kernel
theorem dX1_run_5 : decode cX1_run 5 = .ok (.aload_n 0, 1) := by decide +kernel
theorem dX1_run_6 : decode cX1_run 6 = .ok (.iconst 0, 1) := by decide +kernel
theorem dX1_run_7 : decode cX1_run 7 = .ok (.putfield 23, 3) := by decide +kernel
theorem dX1_run_10 : decode cX1_run 10 = .ok (.aload_n 0, 1) := by decide +kernel
theorem dX1_run_11 : decode cX1_run 11 = .ok (.iconst 0, 1) := by decide +kernel
theorem dX1_run_12 : decode cX1_run 12 = .ok (.putfield 26, 3) := by decide +kernel
theorem dX1_run_15 : decode cX1_run 15 = .ok (.aload_n 0, 1) := by decide +kernel
theorem dX1_run_16 : decode cX1_run 16 = .ok (.aload_n 1, 1) := by decide +kernel
theorem dX1_run_17 : decode cX1_run 17 = .ok (.invokevirtual 29, 3) := by decide +kernel
theorem dX1_run_20 : decode cX1_run 20 = .ok (.putfield 15, 3) := by decide +kernel
theorem dX1_run_23 : decode cX1_run 23 = .ok (.aload_n 0, 1) := by decide +kernel
theorem dX1_run_24 : decode cX1_run 24 = .ok (.aload_n 1, 1) := by decide +kernel
theorem dX1_run_25 : decode cX1_run 25 = .ok (.iconst 0, 1) := by decide +kernel
theorem dX1_run_26 : decode cX1_run 26 = .ok (.iconst 0, 1) := by decide +kernel
theorem dX1_run_27 : decode cX1_run 27 = .ok (.iconst 1, 1) := by decide +kernel
theorem dX1_run_28 : decode cX1_run 28 = .ok (.invokestatic 34, 3) := by decide +kernel
theorem dX1_run_31 : decode cX1_run 31 = .ok (.return_, 1) := by decide +kernel
theorem dX1_inkAt_0 : decode cX1_inkAt 0 = .ok (.aload_n 0, 1) := by decide +kernel
theorem dX1_inkAt_1 : decode cX1_inkAt 1 = .ok (.getfield 26, 3) := by decide +kernel
theorem dX1_inkAt_4 : decode cX1_inkAt 4 = .ok (.iconst 3, 1) := by decide +kernel
theorem dX1_inkAt_5 : decode cX1_inkAt 5 = .ok (.iload_n 2, 1) := by decide +kernel
theorem dX1_inkAt_6 : decode cX1_inkAt 6 = .ok (.iconst 1, 1) := by decide +kernel
theorem dX1_inkAt_7 : decode cX1_inkAt 7 = .ok (.isub, 1) := by decide +kernel
theorem dX1_inkAt_8 : decode cX1_inkAt 8 = .ok (.iload_n 1, 1) := by decide +kernel
theorem dX1_inkAt_9 : decode cX1_inkAt 9 = .ok (.isub, 1) := by decide +kernel
theorem dX1_inkAt_10 : decode cX1_inkAt 10 = .ok (.imul, 1) := by decide +kernel
theorem dX1_inkAt_11 : decode cX1_inkAt 11 = .ok (.ishr, 1) := by decide +kernel
theorem dX1_inkAt_12 : decode cX1_inkAt 12 = .ok (.bipush 7, 2) := by decide +kernel
theorem dX1_inkAt_14 : decode cX1_inkAt 14 = .ok (.iand, 1) := by decide +kernel
theorem dX1_inkAt_15 : decode cX1_inkAt 15 = .ok (.ireturn, 1) := by decide +kernel
theorem dX1_grow_0 : decode cX1_grow 0 = .ok (.aload_n 0, 1) := by decide +kernel
theorem dX1_grow_1 : decode cX1_grow 1 = .ok (.getfield 15, 3) := by decide +kernel
theorem dX1_grow_4 : decode cX1_grow 4 = .ok (.iload 4, 2) := by decide +kernel
theorem dX1_grow_6 : decode cX1_grow 6 = .ok (.iconst (-1), 1) := by decide +kernel
theorem dX1_grow_7 : decode cX1_grow 7 = .ok (.ixor, 1) := by decide +kernel
theorem dX1_grow_8 : decode cX1_grow 8 = .ok (.iand, 1) := by decide +kernel
theorem dX1_grow_9 : decode cX1_grow 9 = .ok (.ifCond .ne 14, 3) := by decide +kernel
theorem dX1_grow_12 : decode cX1_grow 12 = .ok (.aload_n 0, 1) := by decide +kernel
theorem dX1_grow_13 : decode cX1_grow 13 = .ok (.aload_n 1, 1) := by decide +kernel
theorem dX1_grow_14 : decode cX1_grow 14 = .ok (.getfield 38, 3) := by decide +kernel
theorem dX1_grow_17 : decode cX1_grow 17 = .ok (.iload_n 2, 1) := by decide +kernel
theorem dX1_grow_18 : decode cX1_grow 18 = .ok (.iload_n 3, 1) := by decide +kernel
theorem dX1_grow_19 : decode cX1_grow 19 = .ok (.invokevirtual 41, 3) := by decide +kernel
theorem dX1_grow_22 : decode cX1_grow 22 = .ok (.return_, 1) := by decide +kernel
theorem dX1_grow_23 : decode cX1_grow 23 = .ok (.iload_n 2, 1) := by decide +kernel
theorem dX1_grow_24 : decode cX1_grow 24 = .ok (.aload_n 1, 1) := by decide +kernel
theorem dX1_grow_25 : decode cX1_grow 25 = .ok (.getfield 38, 3) := by decide +kernel
theorem dX1_grow_28 : decode cX1_grow 28 = .ok (.if_icmp .ge 18, 3) := by decide +kernel
theorem dX1_grow_31 : decode cX1_grow 31 = .ok (.aload_n 0, 1) := by decide +kernel
theorem dX1_grow_32 : decode cX1_grow 32 = .ok (.getfield 19, 3) := by decide +kernel
theorem dX1_grow_35 : decode cX1_grow 35 = .ok (.ifCond .eq 12, 3) := by decide +kernel
theorem dX1_grow_38 : decode cX1_grow 38 = .ok (.iload_n 2, 1) := by decide +kernel
theorem dX1_grow_39 : decode cX1_grow 39 = .ok (.aload_n 0, 1) := by decide +kernel
theorem dX1_grow_40 : decode cX1_grow 40 = .ok (.getfield 23, 3) := by decide +kernel
theorem dX1_grow_43 : decode cX1_grow 43 = .ok (.if_icmp .lt 4, 3) := by decide +kernel
theorem dX1_grow_46 : decode cX1_grow 46 = .ok (.return_, 1) := by decide +kernel
theorem dX1_grow_47 : decode cX1_grow 47 = .ok (.iconst 0, 1) := by decide +kernel
theorem dX1_grow_48 : decode cX1_grow 48 = .ok (.istore 5, 2) := by decide +kernel
theorem dX1_grow_50 : decode cX1_grow 50 = .ok (.iload 5, 2) := by decide +kernel
theorem dX1_grow_52 : decode cX1_grow 52 = .ok (.aload_n 1, 1) := by decide +kernel
theorem dX1_grow_53 : decode cX1_grow 53 = .ok (.getfield 38, 3) := by decide +kernel
theorem dX1_grow_56 : decode cX1_grow 56 = .ok (.if_icmp .ge 55, 3) := by decide +kernel
theorem dX1_grow_59 : decode cX1_grow 59 = .ok (.iload_n 3, 1) := by decide +kernel
theorem dX1_grow_60 : decode cX1_grow 60 = .ok (.iload 5, 2) := by decide +kernel
theorem dX1_grow_62 : decode cX1_grow 62 = .ok (.ishr, 1) := by decide +kernel
theorem dX1_grow_63 : decode cX1_grow 63 = .ok (.iconst 1, 1) := by decide +kernel
theorem dX1_grow_64 : decode cX1_grow 64 = .ok (.iand, 1) := by decide +kernel
theorem dX1_grow_65 : decode cX1_grow 65 = .ok (.ifCond .ne 40, 3) := by decide +kernel
theorem dX1_grow_68 : decode cX1_grow 68 = .ok (.aload_n 0, 1) := by decide +kernel
theorem dX1_grow_69 : decode cX1_grow 69 = .ok (.getfield 9, 3) := by decide +kernel
theorem dX1_grow_72 : decode cX1_grow 72 = .ok (.iload_n 2, 1) := by decide +kernel
theorem dX1_grow_73 : decode cX1_grow 73 = .ok (.iload 5, 2) := by decide +kernel
theorem dX1_grow_75 : decode cX1_grow 75 = .ok (.iastore, 1) := by decide +kernel
theorem dX1_grow_76 : decode cX1_grow 76 = .ok (.iload 4, 2) := by decide +kernel
theorem dX1_grow_78 : decode cX1_grow 78 = .ok (.aload_n 1, 1) := by decide +kernel
theorem dX1_grow_79 : decode cX1_grow 79 = .ok (.iload 4, 2) := by decide +kernel
theorem dX1_grow_81 : decode cX1_grow 81 = .ok (.iload 5, 2) := by decide +kernel
theorem dX1_grow_83 : decode cX1_grow 83 = .ok (.invokevirtual 45, 3) := by decide +kernel
theorem dX1_grow_86 : decode cX1_grow 86 = .ok (.ior, 1) := by decide +kernel
theorem dX1_grow_87 : decode cX1_grow 87 = .ok (.istore 6, 2) := by decide +kernel
theorem dX1_grow_89 : decode cX1_grow 89 = .ok (.aload_n 0, 1) := by decide +kernel
theorem dX1_grow_90 : decode cX1_grow 90 = .ok (.aload_n 1, 1) := by decide +kernel
theorem dX1_grow_91 : decode cX1_grow 91 = .ok (.iload_n 2, 1) := by decide +kernel
theorem dX1_grow_92 : decode cX1_grow 92 = .ok (.iconst 1, 1) := by decide +kernel
theorem dX1_grow_93 : decode cX1_grow 93 = .ok (.iadd, 1) := by decide +kernel
theorem dX1_grow_94 : decode cX1_grow 94 = .ok (.iload_n 3, 1) := by decide +kernel
theorem dX1_grow_95 : decode cX1_grow 95 = .ok (.iconst 1, 1) := by decide +kernel
theorem dX1_grow_96 : decode cX1_grow 96 = .ok (.iload 5, 2) := by decide +kernel
theorem dX1_grow_98 : decode cX1_grow 98 = .ok (.ishl, 1) := by decide +kernel
theorem dX1_grow_99 : decode cX1_grow 99 = .ok (.ior, 1) := by decide +kernel
theorem dX1_grow_100 : decode cX1_grow 100 = .ok (.iload 6, 2) := by decide +kernel
theorem dX1_grow_102 : decode cX1_grow 102 = .ok (.invokestatic 34, 3) := by decide +kernel
theorem dX1_grow_105 : decode cX1_grow 105 = .ok (.iinc 5 1, 3) := by decide +kernel
theorem dX1_grow_108 : decode cX1_grow 108 = .ok (.goto (-58), 3) := by decide +kernel
theorem dX1_grow_111 : decode cX1_grow 111 = .ok (.return_, 1) := by decide +kernel
theorem dX1_settle_0 : decode cX1_settle 0 = .ok (.aload_n 0, 1) := by decide +kernel
theorem dX1_settle_1 : decode cX1_settle 1 = .ok (.iload_n 1, 1) := by decide +kernel
theorem dX1_settle_2 : decode cX1_settle 2 = .ok (.iload_n 2, 1) := by decide +kernel
theorem dX1_settle_3 : decode cX1_settle 3 = .ok (.iload_n 3, 1) := by decide +kernel
theorem dX1_settle_4 : decode cX1_settle 4 = .ok (.invokevirtual 49, 3) := by decide +kernel
theorem dX1_settle_7 : decode cX1_settle 7 = .ok (.istore 4, 2) := by decide +kernel
theorem dX1_settle_9 : decode cX1_settle 9 = .ok (.aload_n 0, 1) := by decide +kernel
theorem dX1_settle_10 : decode cX1_settle 10 = .ok (.getfield 19, 3) := by decide +kernel
theorem dX1_settle_13 : decode cX1_settle 13 = .ok (.ifCond .eq 28, 3) := by decide +kernel
theorem dX1_settle_16 : decode cX1_settle 16 = .ok (.iload_n 2, 1) := by decide +kernel
theorem dX1_settle_17 : decode cX1_settle 17 = .ok (.aload_n 0, 1) := by decide +kernel
theorem dX1_settle_18 : decode cX1_settle 18 = .ok (.getfield 23, 3) := by decide +kernel
theorem dX1_settle_21 : decode cX1_settle 21 = .ok (.if_icmp .lt 20, 3) := by decide +kernel
theorem dX1_settle_24 : decode cX1_settle 24 = .ok (.iload_n 2, 1) := by decide +kernel
theorem dX1_settle_25 : decode cX1_settle 25 = .ok (.aload_n 0, 1) := by decide +kernel
theorem dX1_settle_26 : decode cX1_settle 26 = .ok (.getfield 23, 3) := by decide +kernel
theorem dX1_settle_29 : decode cX1_settle 29 = .ok (.if_icmp .ne 28, 3) := by decide +kernel
theorem dX1_settle_32 : decode cX1_settle 32 = .ok (.iload 4, 2) := by decide +kernel
theorem dX1_settle_34 : decode cX1_settle 34 = .ok (.aload_n 0, 1) := by decide +kernel
theorem dX1_settle_35 : decode cX1_settle 35 = .ok (.getfield 26, 3) := by decide +kernel
theorem dX1_settle_38 : decode cX1_settle 38 = .ok (.if_icmp .ge 19, 3) := by decide +kernel
theorem dX1_settle_41 : decode cX1_settle 41 = .ok (.aload_n 0, 1) := by decide +kernel
theorem dX1_settle_42 : decode cX1_settle 42 = .ok (.iconst 1, 1) := by decide +kernel
theorem dX1_settle_43 : decode cX1_settle 43 = .ok (.putfield 19, 3) := by decide +kernel
theorem dX1_settle_46 : decode cX1_settle 46 = .ok (.aload_n 0, 1) := by decide +kernel
theorem dX1_settle_47 : decode cX1_settle 47 = .ok (.iload_n 2, 1) := by decide +kernel
theorem dX1_settle_48 : decode cX1_settle 48 = .ok (.putfield 23, 3) := by decide +kernel
theorem dX1_settle_51 : decode cX1_settle 51 = .ok (.aload_n 0, 1) := by decide +kernel
theorem dX1_settle_52 : decode cX1_settle 52 = .ok (.iload 4, 2) := by decide +kernel
theorem dX1_settle_54 : decode cX1_settle 54 = .ok (.putfield 26, 3) := by decide +kernel
theorem dX1_settle_57 : decode cX1_settle 57 = .ok (.return_, 1) := by decide +kernel
theorem dX1_earliestRow_0 : decode cX1_earliestRow 0 = .ok (.iconst 0, 1) := by decide +kernel
theorem dX1_earliestRow_1 : decode cX1_earliestRow 1 = .ok (.istore 4, 2) := by decide +kernel
theorem dX1_earliestRow_3 : decode cX1_earliestRow 3 = .ok (.iconst 0, 1) := by decide +kernel
theorem dX1_earliestRow_4 : decode cX1_earliestRow 4 = .ok (.istore 5, 2) := by decide +kernel
theorem dX1_earliestRow_6 : decode cX1_earliestRow 6 = .ok (.iconst 0, 1) := by decide +kernel
theorem dX1_earliestRow_7 : decode cX1_earliestRow 7 = .ok (.istore 6, 2) := by decide +kernel
theorem dX1_earliestRow_9 : decode cX1_earliestRow 9 = .ok (.iload 6, 2) := by decide +kernel
theorem dX1_earliestRow_11 : decode cX1_earliestRow 11 = .ok (.iload_n 1, 1) := by decide +kernel
theorem dX1_earliestRow_12 : decode cX1_earliestRow 12 = .ok (.if_icmp .ge 65, 3) := by decide +kernel
theorem dX1_earliestRow_15 : decode cX1_earliestRow 15 = .ok (.iload_n 3, 1) := by decide +kernel
theorem dX1_earliestRow_16 : decode cX1_earliestRow 16 = .ok (.iload 6, 2) := by decide +kernel
theorem dX1_earliestRow_18 : decode cX1_earliestRow 18 = .ok (.ishr, 1) := by decide +kernel
theorem dX1_earliestRow_19 : decode cX1_earliestRow 19 = .ok (.iconst 1, 1) := by decide +kernel
theorem dX1_earliestRow_20 : decode cX1_earliestRow 20 = .ok (.iand, 1) := by decide +kernel
theorem dX1_earliestRow_21 : decode cX1_earliestRow 21 = .ok (.ifCond .ne 50, 3) := by decide +kernel
theorem dX1_earliestRow_24 : decode cX1_earliestRow 24 = .ok (.iload 5, 2) := by decide +kernel
theorem dX1_earliestRow_26 : decode cX1_earliestRow 26 = .ok (.iload_n 2, 1) := by decide +kernel
theorem dX1_earliestRow_27 : decode cX1_earliestRow 27 = .ok (.if_icmp .ge 35, 3) := by decide +kernel
theorem dX1_earliestRow_30 : decode cX1_earliestRow 30 = .ok (.aload_n 0, 1) := by decide +kernel
theorem dX1_earliestRow_31 : decode cX1_earliestRow 31 = .ok (.getfield 9, 3) := by decide +kernel
theorem dX1_earliestRow_34 : decode cX1_earliestRow 34 = .ok (.iload 5, 2) := by decide +kernel
theorem dX1_earliestRow_36 : decode cX1_earliestRow 36 = .ok (.iaload, 1) := by decide +kernel
theorem dX1_earliestRow_37 : decode cX1_earliestRow 37 = .ok (.iload 6, 2) := by decide +kernel
theorem dX1_earliestRow_39 : decode cX1_earliestRow 39 = .ok (.if_icmp .ge 23, 3) := by decide +kernel
theorem dX1_earliestRow_42 : decode cX1_earliestRow 42 = .ok (.iload 4, 2) := by decide +kernel
theorem dX1_earliestRow_44 : decode cX1_earliestRow 44 = .ok (.iconst 3, 1) := by decide +kernel
theorem dX1_earliestRow_45 : decode cX1_earliestRow 45 = .ok (.ishl, 1) := by decide +kernel
theorem dX1_earliestRow_46 : decode cX1_earliestRow 46 = .ok (.aload_n 0, 1) := by decide +kernel
theorem dX1_earliestRow_47 : decode cX1_earliestRow 47 = .ok (.getfield 9, 3) := by decide +kernel
theorem dX1_earliestRow_50 : decode cX1_earliestRow 50 = .ok (.iload 5, 2) := by decide +kernel
theorem dX1_earliestRow_52 : decode cX1_earliestRow 52 = .ok (.iaload, 1) := by decide +kernel
theorem dX1_earliestRow_53 : decode cX1_earliestRow 53 = .ok (.ior, 1) := by decide +kernel
theorem dX1_earliestRow_54 : decode cX1_earliestRow 54 = .ok (.istore 4, 2) := by decide +kernel
theorem dX1_earliestRow_56 : decode cX1_earliestRow 56 = .ok (.iinc 5 1, 3) := by decide +kernel
theorem dX1_earliestRow_59 : decode cX1_earliestRow 59 = .ok (.goto (-35), 3) := by decide +kernel
theorem dX1_earliestRow_62 : decode cX1_earliestRow 62 = .ok (.iload 4, 2) := by decide +kernel
theorem dX1_earliestRow_64 : decode cX1_earliestRow 64 = .ok (.iconst 3, 1) := by decide +kernel
theorem dX1_earliestRow_65 : decode cX1_earliestRow 65 = .ok (.ishl, 1) := by decide +kernel
theorem dX1_earliestRow_66 : decode cX1_earliestRow 66 = .ok (.iload 6, 2) := by decide +kernel
theorem dX1_earliestRow_68 : decode cX1_earliestRow 68 = .ok (.ior, 1) := by decide +kernel
theorem dX1_earliestRow_69 : decode cX1_earliestRow 69 = .ok (.istore 4, 2) := by decide +kernel
theorem dX1_earliestRow_71 : decode cX1_earliestRow 71 = .ok (.iinc 6 1, 3) := by decide +kernel
theorem dX1_earliestRow_74 : decode cX1_earliestRow 74 = .ok (.goto (-65), 3) := by decide +kernel
theorem dX1_earliestRow_77 : decode cX1_earliestRow 77 = .ok (.iload 5, 2) := by decide +kernel
theorem dX1_earliestRow_79 : decode cX1_earliestRow 79 = .ok (.istore 6, 2) := by decide +kernel
theorem dX1_earliestRow_81 : decode cX1_earliestRow 81 = .ok (.iload 6, 2) := by decide +kernel
theorem dX1_earliestRow_83 : decode cX1_earliestRow 83 = .ok (.iload_n 2, 1) := by decide +kernel
theorem dX1_earliestRow_84 : decode cX1_earliestRow 84 = .ok (.if_icmp .ge 23, 3) := by decide +kernel
theorem dX1_earliestRow_87 : decode cX1_earliestRow 87 = .ok (.iload 4, 2) := by decide +kernel
theorem dX1_earliestRow_89 : decode cX1_earliestRow 89 = .ok (.iconst 3, 1) := by decide +kernel
theorem dX1_earliestRow_90 : decode cX1_earliestRow 90 = .ok (.ishl, 1) := by decide +kernel
theorem dX1_earliestRow_91 : decode cX1_earliestRow 91 = .ok (.aload_n 0, 1) := by decide +kernel
theorem dX1_earliestRow_92 : decode cX1_earliestRow 92 = .ok (.getfield 9, 3) := by decide +kernel
theorem dX1_earliestRow_95 : decode cX1_earliestRow 95 = .ok (.iload 6, 2) := by decide +kernel
theorem dX1_earliestRow_97 : decode cX1_earliestRow 97 = .ok (.iaload, 1) := by decide +kernel
theorem dX1_earliestRow_98 : decode cX1_earliestRow 98 = .ok (.ior, 1) := by decide +kernel
theorem dX1_earliestRow_99 : decode cX1_earliestRow 99 = .ok (.istore 4, 2) := by decide +kernel
theorem dX1_earliestRow_101 : decode cX1_earliestRow 101 = .ok (.iinc 6 1, 3) := by decide +kernel
theorem dX1_earliestRow_104 : decode cX1_earliestRow 104 = .ok (.goto (-23), 3) := by decide +kernel
theorem dX1_earliestRow_107 : decode cX1_earliestRow 107 = .ok (.iload 4, 2) := by decide +kernel
theorem dX1_earliestRow_109 : decode cX1_earliestRow 109 = .ok (.ireturn, 1) := by decide +kernel
theorem dX2_init_0 : decode cX2_init 0 = .ok (.aload_n 0, 1) := by decide +kernel
theorem dX2_init_1 : decode cX2_init 1 = .ok (.invokespecial 1, 3) := by decide +kernel
theorem dX2_init_4 : decode cX2_init 4 = .ok (.return_, 1) := by decide +kernel
theorem dX2_wipe_0 : decode cX2_wipe 0 = .ok (.aload_n 0, 1) := by decide +kernel
theorem dX2_wipe_1 : decode cX2_wipe 1 = .ok (.lconst 0, 1) := by decide +kernel
theorem dX2_wipe_2 : decode cX2_wipe 2 = .ok (.putfield 7, 3) := by decide +kernel
theorem dX2_wipe_5 : decode cX2_wipe 5 = .ok (.aload_n 0, 1) := by decide +kernel
theorem dX2_wipe_6 : decode cX2_wipe 6 = .ok (.lconst 0, 1) := by decide +kernel
theorem dX2_wipe_7 : decode cX2_wipe 7 = .ok (.putfield 13, 3) := by decide +kernel
theorem dX2_wipe_10 : decode cX2_wipe 10 = .ok (.aload_n 0, 1) := by decide +kernel
theorem dX2_wipe_11 : decode cX2_wipe 11 = .ok (.lconst 0, 1) := by decide +kernel
theorem dX2_wipe_12 : decode cX2_wipe 12 = .ok (.putfield 16, 3) := by decide +kernel
theorem dX2_wipe_15 : decode cX2_wipe 15 = .ok (.return_, 1) := by decide +kernel
theorem dX2_copy_0 : decode cX2_copy 0 = .ok (.aload_n 0, 1) := by decide +kernel
theorem dX2_copy_1 : decode cX2_copy 1 = .ok (.aload_n 1, 1) := by decide +kernel
theorem dX2_copy_2 : decode cX2_copy 2 = .ok (.getfield 7, 3) := by decide +kernel
theorem dX2_copy_5 : decode cX2_copy 5 = .ok (.putfield 7, 3) := by decide +kernel
theorem dX2_copy_8 : decode cX2_copy 8 = .ok (.aload_n 0, 1) := by decide +kernel
theorem dX2_copy_9 : decode cX2_copy 9 = .ok (.aload_n 1, 1) := by decide +kernel
theorem dX2_copy_10 : decode cX2_copy 10 = .ok (.getfield 13, 3) := by decide +kernel
theorem dX2_copy_13 : decode cX2_copy 13 = .ok (.putfield 13, 3) := by decide +kernel
theorem dX2_copy_16 : decode cX2_copy 16 = .ok (.aload_n 0, 1) := by decide +kernel
theorem dX2_copy_17 : decode cX2_copy 17 = .ok (.aload_n 1, 1) := by decide +kernel
theorem dX2_copy_18 : decode cX2_copy 18 = .ok (.getfield 16, 3) := by decide +kernel
theorem dX2_copy_21 : decode cX2_copy 21 = .ok (.putfield 16, 3) := by decide +kernel
theorem dX2_copy_24 : decode cX2_copy 24 = .ok (.return_, 1) := by decide +kernel
theorem dX2_print_0 : decode cX2_print 0 = .ok (.aload_n 0, 1) := by decide +kernel
theorem dX2_print_1 : decode cX2_print 1 = .ok (.aload_n 0, 1) := by decide +kernel
theorem dX2_print_2 : decode cX2_print 2 = .ok (.getfield 7, 3) := by decide +kernel
theorem dX2_print_5 : decode cX2_print 5 = .ok (.lload_n 1, 1) := by decide +kernel
theorem dX2_print_6 : decode cX2_print 6 = .ok (.iload_n 3, 1) := by decide +kernel
theorem dX2_print_7 : decode cX2_print 7 = .ok (.iconst 1, 1) := by decide +kernel
theorem dX2_print_8 : decode cX2_print 8 = .ok (.iand, 1) := by decide +kernel
theorem dX2_print_9 : decode cX2_print 9 = .ok (.ifCond .eq 7, 3) := by decide +kernel
theorem dX2_print_12 : decode cX2_print 12 = .ok (.iconst 1, 1) := by decide +kernel
theorem dX2_print_13 : decode cX2_print 13 = .ok (.goto 4, 3) := by decide +kernel
theorem dX2_print_16 : decode cX2_print 16 = .ok (.iconst 0, 1) := by decide +kernel
theorem dX2_print_17 : decode cX2_print 17 = .ok (.iload 4, 2) := by decide +kernel
theorem dX2_print_19 : decode cX2_print 19 = .ok (.invokestatic 19, 3) := by decide +kernel
theorem dX2_print_22 : decode cX2_print 22 = .ok (.putfield 7, 3) := by decide +kernel
theorem dX2_print_25 : decode cX2_print 25 = .ok (.aload_n 0, 1) := by decide +kernel
theorem dX2_print_26 : decode cX2_print 26 = .ok (.aload_n 0, 1) := by decide +kernel
theorem dX2_print_27 : decode cX2_print 27 = .ok (.getfield 13, 3) := by decide +kernel
theorem dX2_print_30 : decode cX2_print 30 = .ok (.lload_n 1, 1) := by decide +kernel
theorem dX2_print_31 : decode cX2_print 31 = .ok (.iload_n 3, 1) := by decide +kernel
theorem dX2_print_32 : decode cX2_print 32 = .ok (.iconst 2, 1) := by decide +kernel
theorem dX2_print_33 : decode cX2_print 33 = .ok (.iand, 1) := by decide +kernel
theorem dX2_print_34 : decode cX2_print 34 = .ok (.ifCond .eq 7, 3) := by decide +kernel
theorem dX2_print_37 : decode cX2_print 37 = .ok (.iconst 1, 1) := by decide +kernel
theorem dX2_print_38 : decode cX2_print 38 = .ok (.goto 4, 3) := by decide +kernel
theorem dX2_print_41 : decode cX2_print 41 = .ok (.iconst 0, 1) := by decide +kernel
theorem dX2_print_42 : decode cX2_print 42 = .ok (.iload 4, 2) := by decide +kernel
theorem dX2_print_44 : decode cX2_print 44 = .ok (.invokestatic 19, 3) := by decide +kernel
theorem dX2_print_47 : decode cX2_print 47 = .ok (.putfield 13, 3) := by decide +kernel
theorem dX2_print_50 : decode cX2_print 50 = .ok (.aload_n 0, 1) := by decide +kernel
theorem dX2_print_51 : decode cX2_print 51 = .ok (.aload_n 0, 1) := by decide +kernel
theorem dX2_print_52 : decode cX2_print 52 = .ok (.getfield 16, 3) := by decide +kernel
theorem dX2_print_55 : decode cX2_print 55 = .ok (.lload_n 1, 1) := by decide +kernel
theorem dX2_print_56 : decode cX2_print 56 = .ok (.iload_n 3, 1) := by decide +kernel
theorem dX2_print_57 : decode cX2_print 57 = .ok (.iconst 4, 1) := by decide +kernel
theorem dX2_print_58 : decode cX2_print 58 = .ok (.iand, 1) := by decide +kernel
theorem dX2_print_59 : decode cX2_print 59 = .ok (.ifCond .eq 7, 3) := by decide +kernel
theorem dX2_print_62 : decode cX2_print 62 = .ok (.iconst 1, 1) := by decide +kernel
theorem dX2_print_63 : decode cX2_print 63 = .ok (.goto 4, 3) := by decide +kernel
theorem dX2_print_66 : decode cX2_print 66 = .ok (.iconst 0, 1) := by decide +kernel
theorem dX2_print_67 : decode cX2_print 67 = .ok (.iload 4, 2) := by decide +kernel
theorem dX2_print_69 : decode cX2_print 69 = .ok (.invokestatic 19, 3) := by decide +kernel
theorem dX2_print_72 : decode cX2_print 72 = .ok (.putfield 16, 3) := by decide +kernel
theorem dX2_print_75 : decode cX2_print 75 = .ok (.return_, 1) := by decide +kernel
theorem dX2_printed_0 : decode cX2_printed 0 = .ok (.iload 4, 2) := by decide +kernel
theorem dX2_printed_2 : decode cX2_printed 2 = .ok (.ifCond .eq 7, 3) := by decide +kernel
theorem dX2_printed_5 : decode cX2_printed 5 = .ok (.lload_n 0, 1) := by decide +kernel
theorem dX2_printed_6 : decode cX2_printed 6 = .ok (.lload_n 2, 1) := by decide +kernel
theorem dX2_printed_7 : decode cX2_printed 7 = .ok (.lor, 1) := by decide +kernel
theorem dX2_printed_8 : decode cX2_printed 8 = .ok (.lreturn, 1) := by decide +kernel
theorem dX2_printed_9 : decode cX2_printed 9 = .ok (.iload 5, 2) := by decide +kernel
theorem dX2_printed_11 : decode cX2_printed 11 = .ok (.ifCond .eq 13, 3) := by decide +kernel
theorem dX2_printed_14 : decode cX2_printed 14 = .ok (.lload_n 0, 1) := by decide +kernel
theorem dX2_printed_15 : decode cX2_printed 15 = .ok (.lload_n 2, 1) := by decide +kernel
theorem dX2_printed_16 : decode cX2_printed 16 = .ok (.ldc2_w 23, 3) := by decide +kernel
theorem dX2_printed_19 : decode cX2_printed 19 = .ok (.lxor, 1) := by decide +kernel
theorem dX2_printed_20 : decode cX2_printed 20 = .ok (.land, 1) := by decide +kernel
theorem dX2_printed_21 : decode cX2_printed 21 = .ok (.goto 4, 3) := by decide +kernel
theorem dX2_printed_24 : decode cX2_printed 24 = .ok (.lload_n 0, 1) := by decide +kernel
theorem dX2_printed_25 : decode cX2_printed 25 = .ok (.lreturn, 1) := by decide +kernel
theorem dX2_at_0 : decode cX2_at 0 = .ok (.iload_n 1, 1) := by decide +kernel
theorem dX2_at_1 : decode cX2_at 1 = .ok (.iload_n 2, 1) := by decide +kernel
theorem dX2_at_2 : decode cX2_at 2 = .ok (.invokestatic 25, 3) := by decide +kernel
theorem dX2_at_5 : decode cX2_at 5 = .ok (.lstore_n 3, 1) := by decide +kernel
theorem dX2_at_6 : decode cX2_at 6 = .ok (.aload_n 0, 1) := by decide +kernel
theorem dX2_at_7 : decode cX2_at 7 = .ok (.getfield 7, 3) := by decide +kernel
theorem dX2_at_10 : decode cX2_at 10 = .ok (.lload_n 3, 1) := by decide +kernel
theorem dX2_at_11 : decode cX2_at 11 = .ok (.land, 1) := by decide +kernel
theorem dX2_at_12 : decode cX2_at 12 = .ok (.lconst 0, 1) := by decide +kernel
theorem dX2_at_13 : decode cX2_at 13 = .ok (.lcmp, 1) := by decide +kernel
theorem dX2_at_14 : decode cX2_at 14 = .ok (.ifCond .eq 7, 3) := by decide +kernel
theorem dX2_at_17 : decode cX2_at 17 = .ok (.iconst 1, 1) := by decide +kernel
theorem dX2_at_18 : decode cX2_at 18 = .ok (.goto 4, 3) := by decide +kernel
theorem dX2_at_21 : decode cX2_at 21 = .ok (.iconst 0, 1) := by decide +kernel
theorem dX2_at_22 : decode cX2_at 22 = .ok (.aload_n 0, 1) := by decide +kernel
theorem dX2_at_23 : decode cX2_at 23 = .ok (.getfield 13, 3) := by decide +kernel
theorem dX2_at_26 : decode cX2_at 26 = .ok (.lload_n 3, 1) := by decide +kernel
theorem dX2_at_27 : decode cX2_at 27 = .ok (.land, 1) := by decide +kernel
theorem dX2_at_28 : decode cX2_at 28 = .ok (.lconst 0, 1) := by decide +kernel
theorem dX2_at_29 : decode cX2_at 29 = .ok (.lcmp, 1) := by decide +kernel
theorem dX2_at_30 : decode cX2_at 30 = .ok (.ifCond .eq 7, 3) := by decide +kernel
theorem dX2_at_33 : decode cX2_at 33 = .ok (.iconst 2, 1) := by decide +kernel
theorem dX2_at_34 : decode cX2_at 34 = .ok (.goto 4, 3) := by decide +kernel
theorem dX2_at_37 : decode cX2_at 37 = .ok (.iconst 0, 1) := by decide +kernel
theorem dX2_at_38 : decode cX2_at 38 = .ok (.ior, 1) := by decide +kernel
theorem dX2_at_39 : decode cX2_at 39 = .ok (.aload_n 0, 1) := by decide +kernel
theorem dX2_at_40 : decode cX2_at 40 = .ok (.getfield 16, 3) := by decide +kernel
theorem dX2_at_43 : decode cX2_at 43 = .ok (.lload_n 3, 1) := by decide +kernel
theorem dX2_at_44 : decode cX2_at 44 = .ok (.land, 1) := by decide +kernel
theorem dX2_at_45 : decode cX2_at 45 = .ok (.lconst 0, 1) := by decide +kernel
theorem dX2_at_46 : decode cX2_at 46 = .ok (.lcmp, 1) := by decide +kernel
theorem dX2_at_47 : decode cX2_at 47 = .ok (.ifCond .eq 7, 3) := by decide +kernel
theorem dX2_at_50 : decode cX2_at 50 = .ok (.iconst 4, 1) := by decide +kernel
theorem dX2_at_51 : decode cX2_at 51 = .ok (.goto 4, 3) := by decide +kernel
theorem dX2_at_54 : decode cX2_at 54 = .ok (.iconst 0, 1) := by decide +kernel
theorem dX2_at_55 : decode cX2_at 55 = .ok (.ior, 1) := by decide +kernel
theorem dX2_at_56 : decode cX2_at 56 = .ok (.ireturn, 1) := by decide +kernel
theorem dX2_cellsOf_0 : decode cX2_cellsOf 0 = .ok (.iload_n 1, 1) := by decide +kernel
theorem dX2_cellsOf_1 : decode cX2_cellsOf 1 = .ok (.iconst 1, 1) := by decide +kernel
theorem dX2_cellsOf_2 : decode cX2_cellsOf 2 = .ok (.iand, 1) := by decide +kernel
theorem dX2_cellsOf_3 : decode cX2_cellsOf 3 = .ok (.ifCond .eq 10, 3) := by decide +kernel
theorem dX2_cellsOf_6 : decode cX2_cellsOf 6 = .ok (.aload_n 0, 1) := by decide +kernel
theorem dX2_cellsOf_7 : decode cX2_cellsOf 7 = .ok (.getfield 7, 3) := by decide +kernel
theorem dX2_cellsOf_10 : decode cX2_cellsOf 10 = .ok (.goto 11, 3) := by decide +kernel
theorem dX2_cellsOf_13 : decode cX2_cellsOf 13 = .ok (.aload_n 0, 1) := by decide +kernel
theorem dX2_cellsOf_14 : decode cX2_cellsOf 14 = .ok (.getfield 7, 3) := by decide +kernel
theorem dX2_cellsOf_17 : decode cX2_cellsOf 17 = .ok (.ldc2_w 23, 3) := by decide +kernel
theorem dX2_cellsOf_20 : decode cX2_cellsOf 20 = .ok (.lxor, 1) := by decide +kernel
theorem dX2_cellsOf_21 : decode cX2_cellsOf 21 = .ok (.iload_n 1, 1) := by decide +kernel
theorem dX2_cellsOf_22 : decode cX2_cellsOf 22 = .ok (.iconst 2, 1) := by decide +kernel
theorem dX2_cellsOf_23 : decode cX2_cellsOf 23 = .ok (.iand, 1) := by decide +kernel
theorem dX2_cellsOf_24 : decode cX2_cellsOf 24 = .ok (.ifCond .eq 10, 3) := by decide +kernel
theorem dX2_cellsOf_27 : decode cX2_cellsOf 27 = .ok (.aload_n 0, 1) := by decide +kernel
theorem dX2_cellsOf_28 : decode cX2_cellsOf 28 = .ok (.getfield 13, 3) := by decide +kernel
theorem dX2_cellsOf_31 : decode cX2_cellsOf 31 = .ok (.goto 11, 3) := by decide +kernel
theorem dX2_cellsOf_34 : decode cX2_cellsOf 34 = .ok (.aload_n 0, 1) := by decide +kernel
theorem dX2_cellsOf_35 : decode cX2_cellsOf 35 = .ok (.getfield 13, 3) := by decide +kernel
theorem dX2_cellsOf_38 : decode cX2_cellsOf 38 = .ok (.ldc2_w 23, 3) := by decide +kernel
theorem dX2_cellsOf_41 : decode cX2_cellsOf 41 = .ok (.lxor, 1) := by decide +kernel
theorem dX2_cellsOf_42 : decode cX2_cellsOf 42 = .ok (.land, 1) := by decide +kernel
theorem dX2_cellsOf_43 : decode cX2_cellsOf 43 = .ok (.iload_n 1, 1) := by decide +kernel
theorem dX2_cellsOf_44 : decode cX2_cellsOf 44 = .ok (.iconst 4, 1) := by decide +kernel
theorem dX2_cellsOf_45 : decode cX2_cellsOf 45 = .ok (.iand, 1) := by decide +kernel
theorem dX2_cellsOf_46 : decode cX2_cellsOf 46 = .ok (.ifCond .eq 10, 3) := by decide +kernel
theorem dX2_cellsOf_49 : decode cX2_cellsOf 49 = .ok (.aload_n 0, 1) := by decide +kernel
theorem dX2_cellsOf_50 : decode cX2_cellsOf 50 = .ok (.getfield 16, 3) := by decide +kernel
theorem dX2_cellsOf_53 : decode cX2_cellsOf 53 = .ok (.goto 11, 3) := by decide +kernel
theorem dX2_cellsOf_56 : decode cX2_cellsOf 56 = .ok (.aload_n 0, 1) := by decide +kernel
theorem dX2_cellsOf_57 : decode cX2_cellsOf 57 = .ok (.getfield 16, 3) := by decide +kernel
theorem dX2_cellsOf_60 : decode cX2_cellsOf 60 = .ok (.ldc2_w 23, 3) := by decide +kernel
theorem dX2_cellsOf_63 : decode cX2_cellsOf 63 = .ok (.lxor, 1) := by decide +kernel
theorem dX2_cellsOf_64 : decode cX2_cellsOf 64 = .ok (.land, 1) := by decide +kernel
theorem dX2_cellsOf_65 : decode cX2_cellsOf 65 = .ok (.lreturn, 1) := by decide +kernel
theorem dX2_unlike_0 : decode cX2_unlike 0 = .ok (.aload_n 0, 1) := by decide +kernel
theorem dX2_unlike_1 : decode cX2_unlike 1 = .ok (.getfield 7, 3) := by decide +kernel
theorem dX2_unlike_4 : decode cX2_unlike 4 = .ok (.aload_n 1, 1) := by decide +kernel
theorem dX2_unlike_5 : decode cX2_unlike 5 = .ok (.getfield 7, 3) := by decide +kernel
theorem dX2_unlike_8 : decode cX2_unlike 8 = .ok (.lxor, 1) := by decide +kernel
theorem dX2_unlike_9 : decode cX2_unlike 9 = .ok (.aload_n 0, 1) := by decide +kernel
theorem dX2_unlike_10 : decode cX2_unlike 10 = .ok (.getfield 13, 3) := by decide +kernel
theorem dX2_unlike_13 : decode cX2_unlike 13 = .ok (.aload_n 1, 1) := by decide +kernel
theorem dX2_unlike_14 : decode cX2_unlike 14 = .ok (.getfield 13, 3) := by decide +kernel
theorem dX2_unlike_17 : decode cX2_unlike 17 = .ok (.lxor, 1) := by decide +kernel
theorem dX2_unlike_18 : decode cX2_unlike 18 = .ok (.lor, 1) := by decide +kernel
theorem dX2_unlike_19 : decode cX2_unlike 19 = .ok (.aload_n 0, 1) := by decide +kernel
theorem dX2_unlike_20 : decode cX2_unlike 20 = .ok (.getfield 16, 3) := by decide +kernel
theorem dX2_unlike_23 : decode cX2_unlike 23 = .ok (.aload_n 1, 1) := by decide +kernel
theorem dX2_unlike_24 : decode cX2_unlike 24 = .ok (.getfield 16, 3) := by decide +kernel
theorem dX2_unlike_27 : decode cX2_unlike 27 = .ok (.lxor, 1) := by decide +kernel
theorem dX2_unlike_28 : decode cX2_unlike 28 = .ok (.lor, 1) := by decide +kernel
theorem dX2_unlike_29 : decode cX2_unlike 29 = .ok (.lreturn, 1) := by decide +kernel
theorem dX3_init_0 : decode cX3_init 0 = .ok (.aload_n 0, 1) := by decide +kernel
theorem dX3_init_1 : decode cX3_init 1 = .ok (.invokespecial 3, 3) := by decide +kernel
theorem dX3_init_4 : decode cX3_init 4 = .ok (.aload_n 0, 1) := by decide +kernel
theorem dX3_init_5 : decode cX3_init 5 = .ok (.bipush 6, 2) := by decide +kernel
theorem dX3_init_7 : decode cX3_init 7 = .ok (.newarray .int, 2) := by decide +kernel
theorem dX3_init_9 : decode cX3_init 9 = .ok (.putfield 9, 3) := by decide +kernel
theorem dX3_init_12 : decode cX3_init 12 = .ok (.aload_n 0, 1) := by decide +kernel
theorem dX3_init_13 : decode cX3_init 13 = .ok (.bipush 6, 2) := by decide +kernel
theorem dX3_init_15 : decode cX3_init 15 = .ok (.newarray .int, 2) := by decide +kernel
theorem dX3_init_17 : decode cX3_init 17 = .ok (.putfield 15, 3) := by decide +kernel
theorem dX3_init_20 : decode cX3_init 20 = .ok (.aload_n 0, 1) := by decide +kernel
theorem dX3_init_21 : decode cX3_init 21 = .ok (.bipush 6, 2) := by decide +kernel
theorem dX3_init_23 : decode cX3_init 23 = .ok (.newarray .int, 2) := by decide +kernel
theorem dX3_init_25 : decode cX3_init 25 = .ok (.putfield 18, 3) := by decide +kernel
theorem dX3_init_28 : decode cX3_init 28 = .ok (.aload_n 0, 1) := by decide +kernel
theorem dX3_init_29 : decode cX3_init 29 = .ok (.iconst 0, 1) := by decide +kernel
theorem dX3_init_30 : decode cX3_init 30 = .ok (.putfield 21, 3) := by decide +kernel
theorem dX3_init_33 : decode cX3_init 33 = .ok (.aload_n 0, 1) := by decide +kernel
theorem dX3_init_34 : decode cX3_init 34 = .ok (.new 25, 3) := by decide +kernel
theorem dX3_init_37 : decode cX3_init 37 = .ok (.dup, 1) := by decide +kernel
theorem dX3_init_38 : decode cX3_init 38 = .ok (.invokespecial 27, 3) := by decide +kernel
theorem dX3_init_41 : decode cX3_init 41 = .ok (.putfield 28, 3) := by decide +kernel
theorem dX3_init_44 : decode cX3_init 44 = .ok (.aload_n 0, 1) := by decide +kernel
theorem dX3_init_45 : decode cX3_init 45 = .ok (.sipush 288, 3) := by decide +kernel
theorem dX3_init_48 : decode cX3_init 48 = .ok (.newarray .int, 2) := by decide +kernel
theorem dX3_init_50 : decode cX3_init 50 = .ok (.putfield 32, 3) := by decide +kernel
theorem dX3_init_53 : decode cX3_init 53 = .ok (.return_, 1) := by decide +kernel
theorem dX3_add_0 : decode cX3_add 0 = .ok (.aload_n 0, 1) := by decide +kernel
theorem dX3_add_1 : decode cX3_add 1 = .ok (.getfield 21, 3) := by decide +kernel
theorem dX3_add_4 : decode cX3_add 4 = .ok (.bipush 6, 2) := by decide +kernel
theorem dX3_add_6 : decode cX3_add 6 = .ok (.if_icmp .lt 5, 3) := by decide +kernel
theorem dX3_add_9 : decode cX3_add 9 = .ok (.iconst 0, 1) := by decide +kernel
theorem dX3_add_10 : decode cX3_add 10 = .ok (.ireturn, 1) := by decide +kernel
theorem dX3_add_11 : decode cX3_add 11 = .ok (.aload_n 0, 1) := by decide +kernel
theorem dX3_add_12 : decode cX3_add 12 = .ok (.getfield 9, 3) := by decide +kernel
theorem dX3_add_15 : decode cX3_add 15 = .ok (.aload_n 0, 1) := by decide +kernel
theorem dX3_add_16 : decode cX3_add 16 = .ok (.getfield 21, 3) := by decide +kernel
theorem dX3_add_19 : decode cX3_add 19 = .ok (.iload_n 1, 1) := by decide +kernel
theorem dX3_add_20 : decode cX3_add 20 = .ok (.iastore, 1) := by decide +kernel
theorem dX3_add_21 : decode cX3_add 21 = .ok (.aload_n 0, 1) := by decide +kernel
theorem dX3_add_22 : decode cX3_add 22 = .ok (.getfield 15, 3) := by decide +kernel
theorem dX3_add_25 : decode cX3_add 25 = .ok (.aload_n 0, 1) := by decide +kernel
theorem dX3_add_26 : decode cX3_add 26 = .ok (.getfield 21, 3) := by decide +kernel
theorem dX3_add_29 : decode cX3_add 29 = .ok (.iload_n 2, 1) := by decide +kernel
theorem dX3_add_30 : decode cX3_add 30 = .ok (.iastore, 1) := by decide +kernel
theorem dX3_add_31 : decode cX3_add 31 = .ok (.aload_n 0, 1) := by decide +kernel
theorem dX3_add_32 : decode cX3_add 32 = .ok (.getfield 18, 3) := by decide +kernel
theorem dX3_add_35 : decode cX3_add 35 = .ok (.aload_n 0, 1) := by decide +kernel
theorem dX3_add_36 : decode cX3_add 36 = .ok (.getfield 21, 3) := by decide +kernel
theorem dX3_add_39 : decode cX3_add 39 = .ok (.iload_n 3, 1) := by decide +kernel
theorem dX3_add_40 : decode cX3_add 40 = .ok (.iastore, 1) := by decide +kernel
theorem dX3_add_41 : decode cX3_add 41 = .ok (.aload_n 0, 1) := by decide +kernel
theorem dX3_add_42 : decode cX3_add 42 = .ok (.dup, 1) := by decide +kernel
theorem dX3_add_43 : decode cX3_add 43 = .ok (.getfield 21, 3) := by decide +kernel
theorem dX3_add_46 : decode cX3_add 46 = .ok (.iconst 1, 1) := by decide +kernel
theorem dX3_add_47 : decode cX3_add 47 = .ok (.iadd, 1) := by decide +kernel
theorem dX3_add_48 : decode cX3_add 48 = .ok (.putfield 21, 3) := by decide +kernel
theorem dX3_add_51 : decode cX3_add 51 = .ok (.iconst 1, 1) := by decide +kernel
theorem dX3_add_52 : decode cX3_add 52 = .ok (.ireturn, 1) := by decide +kernel
theorem dX3_howManyExplain_0 : decode cX3_howManyExplain 0 = .ok (.iconst 0, 1) := by decide +kernel
theorem dX3_howManyExplain_1 : decode cX3_howManyExplain 1 = .ok (.istore_n 2, 1) := by decide +kernel
theorem dX3_howManyExplain_2 : decode cX3_howManyExplain 2 = .ok (.iconst (-1), 1) := by decide +kernel
theorem dX3_howManyExplain_3 : decode cX3_howManyExplain 3 = .ok (.istore_n 3, 1) := by decide +kernel
theorem dX3_howManyExplain_4 : decode cX3_howManyExplain 4 = .ok (.iload_n 3, 1) := by decide +kernel
theorem dX3_howManyExplain_5 : decode cX3_howManyExplain 5 = .ok (.bipush 9, 2) := by decide +kernel
theorem dX3_howManyExplain_7 : decode cX3_howManyExplain 7 = .ok (.aload_n 1, 1) := by decide +kernel
theorem dX3_howManyExplain_8 : decode cX3_howManyExplain 8 = .ok (.getfield 35, 3) := by decide +kernel
theorem dX3_howManyExplain_11 : decode cX3_howManyExplain 11 = .ok (.imul, 1) := by decide +kernel
theorem dX3_howManyExplain_12 : decode cX3_howManyExplain 12 = .ok (.if_icmp .ge 21, 3) := by decide +kernel
theorem dX3_howManyExplain_15 : decode cX3_howManyExplain 15 = .ok (.aload_n 0, 1) := by decide +kernel
theorem dX3_howManyExplain_16 : decode cX3_howManyExplain 16 = .ok (.aload_n 1, 1) := by decide +kernel
theorem dX3_howManyExplain_17 : decode cX3_howManyExplain 17 = .ok (.iload_n 3, 1) := by decide +kernel
theorem dX3_howManyExplain_18 : decode cX3_howManyExplain 18 = .ok (.invokevirtual 40, 3) := by decide +kernel
theorem dX3_howManyExplain_21 : decode cX3_howManyExplain 21 = .ok (.ifCond .eq 6, 3) := by decide +kernel
theorem dX3_howManyExplain_24 : decode cX3_howManyExplain 24 = .ok (.iinc 2 1, 3) := by decide +kernel
theorem dX3_howManyExplain_27 : decode cX3_howManyExplain 27 = .ok (.iinc 3 1, 3) := by decide +kernel
theorem dX3_howManyExplain_30 : decode cX3_howManyExplain 30 = .ok (.goto (-26), 3) := by decide +kernel
theorem dX3_howManyExplain_33 : decode cX3_howManyExplain 33 = .ok (.iload_n 2, 1) := by decide +kernel
theorem dX3_howManyExplain_34 : decode cX3_howManyExplain 34 = .ok (.ireturn, 1) := by decide +kernel
theorem dX3_firstExplaining_0 : decode cX3_firstExplaining 0 = .ok (.iconst (-1), 1) := by decide +kernel
theorem dX3_firstExplaining_1 : decode cX3_firstExplaining 1 = .ok (.istore_n 2, 1) := by decide +kernel
theorem dX3_firstExplaining_2 : decode cX3_firstExplaining 2 = .ok (.iload_n 2, 1) := by decide +kernel
theorem dX3_firstExplaining_3 : decode cX3_firstExplaining 3 = .ok (.bipush 9, 2) := by decide +kernel
theorem dX3_firstExplaining_5 : decode cX3_firstExplaining 5 = .ok (.aload_n 1, 1) := by decide +kernel
theorem dX3_firstExplaining_6 : decode cX3_firstExplaining 6 = .ok (.getfield 35, 3) := by decide +kernel
theorem dX3_firstExplaining_9 : decode cX3_firstExplaining 9 = .ok (.imul, 1) := by decide +kernel
theorem dX3_firstExplaining_10 : decode cX3_firstExplaining 10 = .ok (.if_icmp .ge 20, 3) := by decide +kernel
theorem dX3_firstExplaining_13 : decode cX3_firstExplaining 13 = .ok (.aload_n 0, 1) := by decide +kernel
theorem dX3_firstExplaining_14 : decode cX3_firstExplaining 14 = .ok (.aload_n 1, 1) := by decide +kernel
theorem dX3_firstExplaining_15 : decode cX3_firstExplaining 15 = .ok (.iload_n 2, 1) := by decide +kernel
theorem dX3_firstExplaining_16 : decode cX3_firstExplaining 16 = .ok (.invokevirtual 40, 3) := by decide +kernel
theorem dX3_firstExplaining_19 : decode cX3_firstExplaining 19 = .ok (.ifCond .eq 5, 3) := by decide +kernel
theorem dX3_firstExplaining_22 : decode cX3_firstExplaining 22 = .ok (.iload_n 2, 1) := by decide +kernel
theorem dX3_firstExplaining_23 : decode cX3_firstExplaining 23 = .ok (.ireturn, 1) := by decide +kernel
theorem dX3_firstExplaining_24 : decode cX3_firstExplaining 24 = .ok (.iinc 2 1, 3) := by decide +kernel
theorem dX3_firstExplaining_27 : decode cX3_firstExplaining 27 = .ok (.goto (-25), 3) := by decide +kernel
theorem dX3_firstExplaining_30 : decode cX3_firstExplaining 30 = .ok (.ldc 44, 2) := by decide +kernel
theorem dX3_firstExplaining_32 : decode cX3_firstExplaining 32 = .ok (.ireturn, 1) := by decide +kernel
theorem dX3_explains_0 : decode cX3_explains 0 = .ok (.iload_n 2, 1) := by decide +kernel
theorem dX3_explains_1 : decode cX3_explains 1 = .ok (.ifCond .ge 7, 3) := by decide +kernel
theorem dX3_explains_4 : decode cX3_explains 4 = .ok (.iconst (-1), 1) := by decide +kernel
theorem dX3_explains_5 : decode cX3_explains 5 = .ok (.goto 7, 3) := by decide +kernel
theorem dX3_explains_8 : decode cX3_explains 8 = .ok (.iload_n 2, 1) := by decide +kernel
theorem dX3_explains_9 : decode cX3_explains 9 = .ok (.bipush 9, 2) := by decide +kernel
theorem dX3_explains_11 : decode cX3_explains 11 = .ok (.idiv, 1) := by decide +kernel
theorem dX3_explains_12 : decode cX3_explains 12 = .ok (.istore_n 3, 1) := by decide +kernel
theorem dX3_explains_13 : decode cX3_explains 13 = .ok (.iload_n 2, 1) := by decide +kernel
theorem dX3_explains_14 : decode cX3_explains 14 = .ok (.ifCond .ge 7, 3) := by decide +kernel
theorem dX3_explains_17 : decode cX3_explains 17 = .ok (.iconst 4, 1) := by decide +kernel
theorem dX3_explains_18 : decode cX3_explains 18 = .ok (.goto 7, 3) := by decide +kernel
theorem dX3_explains_21 : decode cX3_explains 21 = .ok (.iload_n 2, 1) := by decide +kernel
theorem dX3_explains_22 : decode cX3_explains 22 = .ok (.bipush 9, 2) := by decide +kernel
theorem dX3_explains_24 : decode cX3_explains 24 = .ok (.irem, 1) := by decide +kernel
theorem dX3_explains_25 : decode cX3_explains 25 = .ok (.istore 4, 2) := by decide +kernel
theorem dX3_explains_27 : decode cX3_explains 27 = .ok (.aload_n 1, 1) := by decide +kernel
theorem dX3_explains_28 : decode cX3_explains 28 = .ok (.iload_n 3, 1) := by decide +kernel
theorem dX3_explains_29 : decode cX3_explains 29 = .ok (.invokevirtual 45, 3) := by decide +kernel
theorem dX3_explains_32 : decode cX3_explains 32 = .ok (.ifCond .eq 16, 3) := by decide +kernel
theorem dX3_explains_35 : decode cX3_explains 35 = .ok (.aload_n 1, 1) := by decide +kernel
theorem dX3_explains_36 : decode cX3_explains 36 = .ok (.getfield 49, 3) := by decide +kernel
theorem dX3_explains_39 : decode cX3_explains 39 = .ok (.iload_n 3, 1) := by decide +kernel
theorem dX3_explains_40 : decode cX3_explains 40 = .ok (.iaload, 1) := by decide +kernel
theorem dX3_explains_41 : decode cX3_explains 41 = .ok (.iload 4, 2) := by decide +kernel
theorem dX3_explains_43 : decode cX3_explains 43 = .ok (.if_icmp .ne 5, 3) := by decide +kernel
theorem dX3_explains_46 : decode cX3_explains 46 = .ok (.iconst 0, 1) := by decide +kernel
theorem dX3_explains_47 : decode cX3_explains 47 = .ok (.ireturn, 1) := by decide +kernel
theorem dX3_explains_48 : decode cX3_explains 48 = .ok (.aload_n 1, 1) := by decide +kernel
theorem dX3_explains_49 : decode cX3_explains 49 = .ok (.aload_n 0, 1) := by decide +kernel
theorem dX3_explains_50 : decode cX3_explains 50 = .ok (.getfield 28, 3) := by decide +kernel
theorem dX3_explains_53 : decode cX3_explains 53 = .ok (.iload_n 3, 1) := by decide +kernel
theorem dX3_explains_54 : decode cX3_explains 54 = .ok (.iload 4, 2) := by decide +kernel
theorem dX3_explains_56 : decode cX3_explains 56 = .ok (.invokevirtual 52, 3) := by decide +kernel
theorem dX3_explains_59 : decode cX3_explains 59 = .ok (.iconst 0, 1) := by decide +kernel
theorem dX3_explains_60 : decode cX3_explains 60 = .ok (.istore 5, 2) := by decide +kernel
theorem dX3_explains_62 : decode cX3_explains 62 = .ok (.iload 5, 2) := by decide +kernel
theorem dX3_explains_64 : decode cX3_explains 64 = .ok (.aload_n 0, 1) := by decide +kernel
theorem dX3_explains_65 : decode cX3_explains 65 = .ok (.getfield 21, 3) := by decide +kernel
theorem dX3_explains_68 : decode cX3_explains 68 = .ok (.if_icmp .ge 63, 3) := by decide +kernel
theorem dX3_explains_71 : decode cX3_explains 71 = .ok (.aload_n 1, 1) := by decide +kernel
theorem dX3_explains_72 : decode cX3_explains 72 = .ok (.aload_n 0, 1) := by decide +kernel
theorem dX3_explains_73 : decode cX3_explains 73 = .ok (.getfield 9, 3) := by decide +kernel
theorem dX3_explains_76 : decode cX3_explains 76 = .ok (.iload 5, 2) := by decide +kernel
theorem dX3_explains_78 : decode cX3_explains 78 = .ok (.iaload, 1) := by decide +kernel
theorem dX3_explains_79 : decode cX3_explains 79 = .ok (.aload_n 0, 1) := by decide +kernel
theorem dX3_explains_80 : decode cX3_explains 80 = .ok (.getfield 15, 3) := by decide +kernel
theorem dX3_explains_83 : decode cX3_explains 83 = .ok (.iload 5, 2) := by decide +kernel
theorem dX3_explains_85 : decode cX3_explains 85 = .ok (.iaload, 1) := by decide +kernel
theorem dX3_explains_86 : decode cX3_explains 86 = .ok (.invokevirtual 56, 3) := by decide +kernel
theorem dX3_explains_89 : decode cX3_explains 89 = .ok (.ifCond .eq 34, 3) := by decide +kernel
theorem dX3_explains_92 : decode cX3_explains 92 = .ok (.aload_n 0, 1) := by decide +kernel
theorem dX3_explains_93 : decode cX3_explains 93 = .ok (.getfield 28, 3) := by decide +kernel
theorem dX3_explains_96 : decode cX3_explains 96 = .ok (.aload_n 0, 1) := by decide +kernel
theorem dX3_explains_97 : decode cX3_explains 97 = .ok (.getfield 9, 3) := by decide +kernel
theorem dX3_explains_100 : decode cX3_explains 100 = .ok (.iload 5, 2) := by decide +kernel
theorem dX3_explains_102 : decode cX3_explains 102 = .ok (.iaload, 1) := by decide +kernel
theorem dX3_explains_103 : decode cX3_explains 103 = .ok (.aload_n 0, 1) := by decide +kernel
theorem dX3_explains_104 : decode cX3_explains 104 = .ok (.getfield 15, 3) := by decide +kernel
theorem dX3_explains_107 : decode cX3_explains 107 = .ok (.iload 5, 2) := by decide +kernel
theorem dX3_explains_109 : decode cX3_explains 109 = .ok (.iaload, 1) := by decide +kernel
theorem dX3_explains_110 : decode cX3_explains 110 = .ok (.invokevirtual 60, 3) := by decide +kernel
theorem dX3_explains_113 : decode cX3_explains 113 = .ok (.aload_n 0, 1) := by decide +kernel
theorem dX3_explains_114 : decode cX3_explains 114 = .ok (.getfield 18, 3) := by decide +kernel
theorem dX3_explains_117 : decode cX3_explains 117 = .ok (.iload 5, 2) := by decide +kernel
theorem dX3_explains_119 : decode cX3_explains 119 = .ok (.iaload, 1) := by decide +kernel
theorem dX3_explains_120 : decode cX3_explains 120 = .ok (.if_icmp .eq 5, 3) := by decide +kernel
theorem dX3_explains_123 : decode cX3_explains 123 = .ok (.iconst 0, 1) := by decide +kernel
theorem dX3_explains_124 : decode cX3_explains 124 = .ok (.ireturn, 1) := by decide +kernel
theorem dX3_explains_125 : decode cX3_explains 125 = .ok (.iinc 5 1, 3) := by decide +kernel
theorem dX3_explains_128 : decode cX3_explains 128 = .ok (.goto (-66), 3) := by decide +kernel
theorem dX3_explains_131 : decode cX3_explains 131 = .ok (.iconst 1, 1) := by decide +kernel
theorem dX3_explains_132 : decode cX3_explains 132 = .ok (.ireturn, 1) := by decide +kernel
theorem dX3_bestCell_0 : decode cX3_bestCell 0 = .ok (.iconst 0, 1) := by decide +kernel
theorem dX3_bestCell_1 : decode cX3_bestCell 1 = .ok (.istore_n 2, 1) := by decide +kernel
theorem dX3_bestCell_2 : decode cX3_bestCell 2 = .ok (.iload_n 2, 1) := by decide +kernel
theorem dX3_bestCell_3 : decode cX3_bestCell 3 = .ok (.aload_n 0, 1) := by decide +kernel
theorem dX3_bestCell_4 : decode cX3_bestCell 4 = .ok (.getfield 32, 3) := by decide +kernel
theorem dX3_bestCell_7 : decode cX3_bestCell 7 = .ok (.arraylength, 1) := by decide +kernel
theorem dX3_bestCell_8 : decode cX3_bestCell 8 = .ok (.if_icmp .ge 16, 3) := by decide +kernel
theorem dX3_bestCell_11 : decode cX3_bestCell 11 = .ok (.aload_n 0, 1) := by decide +kernel
theorem dX3_bestCell_12 : decode cX3_bestCell 12 = .ok (.getfield 32, 3) := by decide +kernel
theorem dX3_bestCell_15 : decode cX3_bestCell 15 = .ok (.iload_n 2, 1) := by decide +kernel
theorem dX3_bestCell_16 : decode cX3_bestCell 16 = .ok (.iconst 0, 1) := by decide +kernel
theorem dX3_bestCell_17 : decode cX3_bestCell 17 = .ok (.iastore, 1) := by decide +kernel
theorem dX3_bestCell_18 : decode cX3_bestCell 18 = .ok (.iinc 2 1, 3) := by decide +kernel
theorem dX3_bestCell_21 : decode cX3_bestCell 21 = .ok (.goto (-19), 3) := by decide +kernel
theorem dX3_bestCell_24 : decode cX3_bestCell 24 = .ok (.iconst 0, 1) := by decide +kernel
theorem dX3_bestCell_25 : decode cX3_bestCell 25 = .ok (.istore_n 2, 1) := by decide +kernel
theorem dX3_bestCell_26 : decode cX3_bestCell 26 = .ok (.iconst (-1), 1) := by decide +kernel
theorem dX3_bestCell_27 : decode cX3_bestCell 27 = .ok (.istore_n 3, 1) := by decide +kernel
theorem dX3_bestCell_28 : decode cX3_bestCell 28 = .ok (.iload_n 3, 1) := by decide +kernel
theorem dX3_bestCell_29 : decode cX3_bestCell 29 = .ok (.bipush 9, 2) := by decide +kernel
theorem dX3_bestCell_31 : decode cX3_bestCell 31 = .ok (.aload_n 1, 1) := by decide +kernel
theorem dX3_bestCell_32 : decode cX3_bestCell 32 = .ok (.getfield 35, 3) := by decide +kernel
theorem dX3_bestCell_35 : decode cX3_bestCell 35 = .ok (.imul, 1) := by decide +kernel
theorem dX3_bestCell_36 : decode cX3_bestCell 36 = .ok (.if_icmp .ge 26, 3) := by decide +kernel
theorem dX3_bestCell_39 : decode cX3_bestCell 39 = .ok (.aload_n 0, 1) := by decide +kernel
theorem dX3_bestCell_40 : decode cX3_bestCell 40 = .ok (.aload_n 1, 1) := by decide +kernel
theorem dX3_bestCell_41 : decode cX3_bestCell 41 = .ok (.iload_n 3, 1) := by decide +kernel
theorem dX3_bestCell_42 : decode cX3_bestCell 42 = .ok (.invokevirtual 40, 3) := by decide +kernel
theorem dX3_bestCell_45 : decode cX3_bestCell 45 = .ok (.ifCond .eq 11, 3) := by decide +kernel
theorem dX3_bestCell_48 : decode cX3_bestCell 48 = .ok (.iinc 2 1, 3) := by decide +kernel
theorem dX3_bestCell_51 : decode cX3_bestCell 51 = .ok (.aload_n 0, 1) := by decide +kernel
theorem dX3_bestCell_52 : decode cX3_bestCell 52 = .ok (.aload_n 1, 1) := by decide +kernel
theorem dX3_bestCell_53 : decode cX3_bestCell 53 = .ok (.invokevirtual 64, 3) := by decide +kernel
theorem dX3_bestCell_56 : decode cX3_bestCell 56 = .ok (.iinc 3 1, 3) := by decide +kernel
theorem dX3_bestCell_59 : decode cX3_bestCell 59 = .ok (.goto (-31), 3) := by decide +kernel
theorem dX3_bestCell_62 : decode cX3_bestCell 62 = .ok (.iload_n 2, 1) := by decide +kernel
theorem dX3_bestCell_63 : decode cX3_bestCell 63 = .ok (.iconst 1, 1) := by decide +kernel
theorem dX3_bestCell_64 : decode cX3_bestCell 64 = .ok (.if_icmp .le 11, 3) := by decide +kernel
theorem dX3_bestCell_67 : decode cX3_bestCell 67 = .ok (.aload_n 0, 1) := by decide +kernel
theorem dX3_bestCell_68 : decode cX3_bestCell 68 = .ok (.aload_n 1, 1) := by decide +kernel
theorem dX3_bestCell_69 : decode cX3_bestCell 69 = .ok (.invokevirtual 68, 3) := by decide +kernel
theorem dX3_bestCell_72 : decode cX3_bestCell 72 = .ok (.goto 5, 3) := by decide +kernel
theorem dX3_bestCell_75 : decode cX3_bestCell 75 = .ok (.bipush (-9), 2) := by decide +kernel
theorem dX3_bestCell_77 : decode cX3_bestCell 77 = .ok (.ireturn, 1) := by decide +kernel
theorem dX3_addToTally_0 : decode cX3_addToTally 0 = .ok (.iconst 0, 1) := by decide +kernel
theorem dX3_addToTally_1 : decode cX3_addToTally 1 = .ok (.istore_n 2, 1) := by decide +kernel
theorem dX3_addToTally_2 : decode cX3_addToTally 2 = .ok (.iload_n 2, 1) := by decide +kernel
theorem dX3_addToTally_3 : decode cX3_addToTally 3 = .ok (.aload_n 1, 1) := by decide +kernel
theorem dX3_addToTally_4 : decode cX3_addToTally 4 = .ok (.getfield 72, 3) := by decide +kernel
theorem dX3_addToTally_7 : decode cX3_addToTally 7 = .ok (.if_icmp .ge 53, 3) := by decide +kernel
theorem dX3_addToTally_10 : decode cX3_addToTally 10 = .ok (.iconst 0, 1) := by decide +kernel
theorem dX3_addToTally_11 : decode cX3_addToTally 11 = .ok (.istore_n 3, 1) := by decide +kernel
theorem dX3_addToTally_12 : decode cX3_addToTally 12 = .ok (.iload_n 3, 1) := by decide +kernel
theorem dX3_addToTally_13 : decode cX3_addToTally 13 = .ok (.aload_n 1, 1) := by decide +kernel
theorem dX3_addToTally_14 : decode cX3_addToTally 14 = .ok (.getfield 75, 3) := by decide +kernel
theorem dX3_addToTally_17 : decode cX3_addToTally 17 = .ok (.if_icmp .ge 37, 3) := by decide +kernel
theorem dX3_addToTally_20 : decode cX3_addToTally 20 = .ok (.aload_n 0, 1) := by decide +kernel
theorem dX3_addToTally_21 : decode cX3_addToTally 21 = .ok (.getfield 32, 3) := by decide +kernel
theorem dX3_addToTally_24 : decode cX3_addToTally 24 = .ok (.bipush 6, 2) := by decide +kernel
theorem dX3_addToTally_26 : decode cX3_addToTally 26 = .ok (.iload_n 2, 1) := by decide +kernel
theorem dX3_addToTally_27 : decode cX3_addToTally 27 = .ok (.imul, 1) := by decide +kernel
theorem dX3_addToTally_28 : decode cX3_addToTally 28 = .ok (.iload_n 3, 1) := by decide +kernel
theorem dX3_addToTally_29 : decode cX3_addToTally 29 = .ok (.iadd, 1) := by decide +kernel
theorem dX3_addToTally_30 : decode cX3_addToTally 30 = .ok (.bipush 8, 2) := by decide +kernel
theorem dX3_addToTally_32 : decode cX3_addToTally 32 = .ok (.imul, 1) := by decide +kernel
theorem dX3_addToTally_33 : decode cX3_addToTally 33 = .ok (.aload_n 0, 1) := by decide +kernel
theorem dX3_addToTally_34 : decode cX3_addToTally 34 = .ok (.getfield 28, 3) := by decide +kernel
theorem dX3_addToTally_37 : decode cX3_addToTally 37 = .ok (.iload_n 3, 1) := by decide +kernel
theorem dX3_addToTally_38 : decode cX3_addToTally 38 = .ok (.iload_n 2, 1) := by decide +kernel
theorem dX3_addToTally_39 : decode cX3_addToTally 39 = .ok (.invokevirtual 60, 3) := by decide +kernel
theorem dX3_addToTally_42 : decode cX3_addToTally 42 = .ok (.iadd, 1) := by decide +kernel
theorem dX3_addToTally_43 : decode cX3_addToTally 43 = .ok (.dup2, 1) := by decide +kernel
theorem dX3_addToTally_44 : decode cX3_addToTally 44 = .ok (.iaload, 1) := by decide +kernel
theorem dX3_addToTally_45 : decode cX3_addToTally 45 = .ok (.iconst 1, 1) := by decide +kernel
theorem dX3_addToTally_46 : decode cX3_addToTally 46 = .ok (.iadd, 1) := by decide +kernel
theorem dX3_addToTally_47 : decode cX3_addToTally 47 = .ok (.iastore, 1) := by decide +kernel
theorem dX3_addToTally_48 : decode cX3_addToTally 48 = .ok (.iinc 3 1, 3) := by decide +kernel
theorem dX3_addToTally_51 : decode cX3_addToTally 51 = .ok (.goto (-39), 3) := by decide +kernel
theorem dX3_addToTally_54 : decode cX3_addToTally 54 = .ok (.iinc 2 1, 3) := by decide +kernel
theorem dX3_addToTally_57 : decode cX3_addToTally 57 = .ok (.goto (-55), 3) := by decide +kernel
theorem dX3_addToTally_60 : decode cX3_addToTally 60 = .ok (.return_, 1) := by decide +kernel
theorem dX3_mostTellingCell_0 : decode cX3_mostTellingCell 0 = .ok (.bipush (-9), 2) := by decide +kernel
theorem dX3_mostTellingCell_2 : decode cX3_mostTellingCell 2 = .ok (.istore_n 2, 1) := by decide +kernel
theorem dX3_mostTellingCell_3 : decode cX3_mostTellingCell 3 = .ok (.iconst 0, 1) := by decide +kernel
theorem dX3_mostTellingCell_4 : decode cX3_mostTellingCell 4 = .ok (.istore_n 3, 1) := by decide +kernel
theorem dX3_mostTellingCell_5 : decode cX3_mostTellingCell 5 = .ok (.iconst 0, 1) := by decide +kernel
theorem dX3_mostTellingCell_6 : decode cX3_mostTellingCell 6 = .ok (.istore 4, 2) := by decide +kernel
theorem dX3_mostTellingCell_8 : decode cX3_mostTellingCell 8 = .ok (.iload 4, 2) := by decide +kernel
theorem dX3_mostTellingCell_10 : decode cX3_mostTellingCell 10 = .ok (.aload_n 1, 1) := by decide +kernel
theorem dX3_mostTellingCell_11 : decode cX3_mostTellingCell 11 = .ok (.getfield 72, 3) := by decide +kernel
theorem dX3_mostTellingCell_14 : decode cX3_mostTellingCell 14 = .ok (.if_icmp .ge 63, 3) := by decide +kernel
theorem dX3_mostTellingCell_17 : decode cX3_mostTellingCell 17 = .ok (.iconst 0, 1) := by decide +kernel
theorem dX3_mostTellingCell_18 : decode cX3_mostTellingCell 18 = .ok (.istore 5, 2) := by decide +kernel
theorem dX3_mostTellingCell_20 : decode cX3_mostTellingCell 20 = .ok (.iload 5, 2) := by decide +kernel
theorem dX3_mostTellingCell_22 : decode cX3_mostTellingCell 22 = .ok (.aload_n 1, 1) := by decide +kernel
theorem dX3_mostTellingCell_23 : decode cX3_mostTellingCell 23 = .ok (.getfield 75, 3) := by decide +kernel
theorem dX3_mostTellingCell_26 : decode cX3_mostTellingCell 26 = .ok (.if_icmp .ge 45, 3) := by decide +kernel
theorem dX3_mostTellingCell_29 : decode cX3_mostTellingCell 29 = .ok (.bipush 6, 2) := by decide +kernel
theorem dX3_mostTellingCell_31 : decode cX3_mostTellingCell 31 = .ok (.iload 4, 2) := by decide +kernel
theorem dX3_mostTellingCell_33 : decode cX3_mostTellingCell 33 = .ok (.imul, 1) := by decide +kernel
theorem dX3_mostTellingCell_34 : decode cX3_mostTellingCell 34 = .ok (.iload 5, 2) := by decide +kernel
theorem dX3_mostTellingCell_36 : decode cX3_mostTellingCell 36 = .ok (.iadd, 1) := by decide +kernel
theorem dX3_mostTellingCell_37 : decode cX3_mostTellingCell 37 = .ok (.istore 6, 2) := by decide +kernel
theorem dX3_mostTellingCell_39 : decode cX3_mostTellingCell 39 = .ok (.aload_n 0, 1) := by decide +kernel
theorem dX3_mostTellingCell_40 : decode cX3_mostTellingCell 40 = .ok (.iload 6, 2) := by decide +kernel
theorem dX3_mostTellingCell_42 : decode cX3_mostTellingCell 42 = .ok (.invokevirtual 78, 3) := by decide +kernel
theorem dX3_mostTellingCell_45 : decode cX3_mostTellingCell 45 = .ok (.istore 7, 2) := by decide +kernel
theorem dX3_mostTellingCell_47 : decode cX3_mostTellingCell 47 = .ok (.iload_n 2, 1) := by decide +kernel
theorem dX3_mostTellingCell_48 : decode cX3_mostTellingCell 48 = .ok (.bipush (-9), 2) := by decide +kernel
theorem dX3_mostTellingCell_50 : decode cX3_mostTellingCell 50 = .ok (.if_icmp .eq 9, 3) := by decide +kernel
theorem dX3_mostTellingCell_53 : decode cX3_mostTellingCell 53 = .ok (.iload 7, 2) := by decide +kernel
theorem dX3_mostTellingCell_55 : decode cX3_mostTellingCell 55 = .ok (.iload_n 3, 1) := by decide +kernel
theorem dX3_mostTellingCell_56 : decode cX3_mostTellingCell 56 = .ok (.if_icmp .ge 9, 3) := by decide +kernel
theorem dX3_mostTellingCell_59 : decode cX3_mostTellingCell 59 = .ok (.iload 6, 2) := by decide +kernel
theorem dX3_mostTellingCell_61 : decode cX3_mostTellingCell 61 = .ok (.istore_n 2, 1) := by decide +kernel
theorem dX3_mostTellingCell_62 : decode cX3_mostTellingCell 62 = .ok (.iload 7, 2) := by decide +kernel
theorem dX3_mostTellingCell_64 : decode cX3_mostTellingCell 64 = .ok (.istore_n 3, 1) := by decide +kernel
theorem dX3_mostTellingCell_65 : decode cX3_mostTellingCell 65 = .ok (.iinc 5 1, 3) := by decide +kernel
theorem dX3_mostTellingCell_68 : decode cX3_mostTellingCell 68 = .ok (.goto (-48), 3) := by decide +kernel
theorem dX3_mostTellingCell_71 : decode cX3_mostTellingCell 71 = .ok (.iinc 4 1, 3) := by decide +kernel
theorem dX3_mostTellingCell_74 : decode cX3_mostTellingCell 74 = .ok (.goto (-66), 3) := by decide +kernel
theorem dX3_mostTellingCell_77 : decode cX3_mostTellingCell 77 = .ok (.iload_n 2, 1) := by decide +kernel
theorem dX3_mostTellingCell_78 : decode cX3_mostTellingCell 78 = .ok (.ireturn, 1) := by decide +kernel
theorem dX3_greatestTally_0 : decode cX3_greatestTally 0 = .ok (.iconst 0, 1) := by decide +kernel
theorem dX3_greatestTally_1 : decode cX3_greatestTally 1 = .ok (.istore_n 2, 1) := by decide +kernel
theorem dX3_greatestTally_2 : decode cX3_greatestTally 2 = .ok (.iconst 0, 1) := by decide +kernel
theorem dX3_greatestTally_3 : decode cX3_greatestTally 3 = .ok (.istore_n 3, 1) := by decide +kernel
theorem dX3_greatestTally_4 : decode cX3_greatestTally 4 = .ok (.iload_n 3, 1) := by decide +kernel
theorem dX3_greatestTally_5 : decode cX3_greatestTally 5 = .ok (.bipush 8, 2) := by decide +kernel
theorem dX3_greatestTally_7 : decode cX3_greatestTally 7 = .ok (.if_icmp .ge 25, 3) := by decide +kernel
theorem dX3_greatestTally_10 : decode cX3_greatestTally 10 = .ok (.iload_n 2, 1) := by decide +kernel
theorem dX3_greatestTally_11 : decode cX3_greatestTally 11 = .ok (.aload_n 0, 1) := by decide +kernel
theorem dX3_greatestTally_12 : decode cX3_greatestTally 12 = .ok (.getfield 32, 3) := by decide +kernel
theorem dX3_greatestTally_15 : decode cX3_greatestTally 15 = .ok (.iload_n 1, 1) := by decide +kernel
theorem dX3_greatestTally_16 : decode cX3_greatestTally 16 = .ok (.bipush 8, 2) := by decide +kernel
theorem dX3_greatestTally_18 : decode cX3_greatestTally 18 = .ok (.imul, 1) := by decide +kernel
theorem dX3_greatestTally_19 : decode cX3_greatestTally 19 = .ok (.iload_n 3, 1) := by decide +kernel
theorem dX3_greatestTally_20 : decode cX3_greatestTally 20 = .ok (.iadd, 1) := by decide +kernel
theorem dX3_greatestTally_21 : decode cX3_greatestTally 21 = .ok (.iaload, 1) := by decide +kernel
theorem dX3_greatestTally_22 : decode cX3_greatestTally 22 = .ok (.invokestatic 82, 3) := by decide +kernel
theorem dX3_greatestTally_25 : decode cX3_greatestTally 25 = .ok (.istore_n 2, 1) := by decide +kernel
theorem dX3_greatestTally_26 : decode cX3_greatestTally 26 = .ok (.iinc 3 1, 3) := by decide +kernel
theorem dX3_greatestTally_29 : decode cX3_greatestTally 29 = .ok (.goto (-25), 3) := by decide +kernel
theorem dX3_greatestTally_32 : decode cX3_greatestTally 32 = .ok (.iload_n 2, 1) := by decide +kernel
theorem dX3_greatestTally_33 : decode cX3_greatestTally 33 = .ok (.ireturn, 1) := by decide +kernel
theorem dX4_init_0 : decode cX4_init 0 = .ok (.aload_n 0, 1) := by decide +kernel
theorem dX4_init_1 : decode cX4_init 1 = .ok (.invokespecial 3, 3) := by decide +kernel
theorem dX4_init_4 : decode cX4_init 4 = .ok (.aload_n 0, 1) := by decide +kernel
theorem dX4_init_5 : decode cX4_init 5 = .ok (.bipush 100, 2) := by decide +kernel
theorem dX4_init_7 : decode cX4_init 7 = .ok (.newarray .char, 2) := by decide +kernel
theorem dX4_init_9 : decode cX4_init 9 = .ok (.putfield 9, 3) := by decide +kernel
theorem dX4_init_12 : decode cX4_init 12 = .ok (.aload_n 0, 1) := by decide +kernel
theorem dX4_init_13 : decode cX4_init 13 = .ok (.iconst 0, 1) := by decide +kernel
theorem dX4_init_14 : decode cX4_init 14 = .ok (.putfield 15, 3) := by decide +kernel
theorem dX4_init_17 : decode cX4_init 17 = .ok (.aload_n 0, 1) := by decide +kernel
theorem dX4_init_18 : decode cX4_init 18 = .ok (.bipush 32, 2) := by decide +kernel
theorem dX4_init_20 : decode cX4_init 20 = .ok (.putfield 19, 3) := by decide +kernel
theorem dX4_init_23 : decode cX4_init 23 = .ok (.aload_n 0, 1) := by decide +kernel
theorem dX4_init_24 : decode cX4_init 24 = .ok (.iconst 0, 1) := by decide +kernel
theorem dX4_init_25 : decode cX4_init 25 = .ok (.putfield 23, 3) := by decide +kernel
theorem dX4_init_28 : decode cX4_init 28 = .ok (.return_, 1) := by decide +kernel
theorem dX4_append_0 : decode cX4_append 0 = .ok (.aload_n 0, 1) := by decide +kernel
theorem dX4_append_1 : decode cX4_append 1 = .ok (.getfield 15, 3) := by decide +kernel
theorem dX4_append_4 : decode cX4_append 4 = .ok (.bipush 100, 2) := by decide +kernel
theorem dX4_append_6 : decode cX4_append 6 = .ok (.if_icmp .lt 5, 3) := by decide +kernel
theorem dX4_append_9 : decode cX4_append 9 = .ok (.iconst 0, 1) := by decide +kernel
theorem dX4_append_10 : decode cX4_append 10 = .ok (.ireturn, 1) := by decide +kernel
theorem dX4_append_11 : decode cX4_append 11 = .ok (.aload_n 0, 1) := by decide +kernel
theorem dX4_append_12 : decode cX4_append 12 = .ok (.getfield 9, 3) := by decide +kernel
theorem dX4_append_15 : decode cX4_append 15 = .ok (.aload_n 0, 1) := by decide +kernel
theorem dX4_append_16 : decode cX4_append 16 = .ok (.getfield 15, 3) := by decide +kernel
theorem dX4_append_19 : decode cX4_append 19 = .ok (.iload_n 1, 1) := by decide +kernel
theorem dX4_append_20 : decode cX4_append 20 = .ok (.i2c, 1) := by decide +kernel
theorem dX4_append_21 : decode cX4_append 21 = .ok (.castore, 1) := by decide +kernel
theorem dX4_append_22 : decode cX4_append 22 = .ok (.aload_n 0, 1) := by decide +kernel
theorem dX4_append_23 : decode cX4_append 23 = .ok (.dup, 1) := by decide +kernel
theorem dX4_append_24 : decode cX4_append 24 = .ok (.getfield 15, 3) := by decide +kernel
theorem dX4_append_27 : decode cX4_append 27 = .ok (.iconst 1, 1) := by decide +kernel
theorem dX4_append_28 : decode cX4_append 28 = .ok (.iadd, 1) := by decide +kernel
theorem dX4_append_29 : decode cX4_append 29 = .ok (.putfield 15, 3) := by decide +kernel
theorem dX4_append_32 : decode cX4_append 32 = .ok (.iconst 1, 1) := by decide +kernel
theorem dX4_append_33 : decode cX4_append 33 = .ok (.ireturn, 1) := by decide +kernel
theorem dX4_readInto_0 : decode cX4_readInto 0 = .ok (.aload_n 1, 1) := by decide +kernel
theorem dX4_readInto_1 : decode cX4_readInto 1 = .ok (.invokevirtual 26, 3) := by decide +kernel
theorem dX4_readInto_4 : decode cX4_readInto 4 = .ok (.aload_n 0, 1) := by decide +kernel
theorem dX4_readInto_5 : decode cX4_readInto 5 = .ok (.bipush 32, 2) := by decide +kernel
theorem dX4_readInto_7 : decode cX4_readInto 7 = .ok (.putfield 19, 3) := by decide +kernel
theorem dX4_readInto_10 : decode cX4_readInto 10 = .ok (.aload_n 0, 1) := by decide +kernel
theorem dX4_readInto_11 : decode cX4_readInto 11 = .ok (.iconst 0, 1) := by decide +kernel
theorem dX4_readInto_12 : decode cX4_readInto 12 = .ok (.putfield 23, 3) := by decide +kernel
theorem dX4_readInto_15 : decode cX4_readInto 15 = .ok (.iconst 0, 1) := by decide +kernel
theorem dX4_readInto_16 : decode cX4_readInto 16 = .ok (.istore_n 2, 1) := by decide +kernel
theorem dX4_readInto_17 : decode cX4_readInto 17 = .ok (.iload_n 2, 1) := by decide +kernel
theorem dX4_readInto_18 : decode cX4_readInto 18 = .ok (.aload_n 0, 1) := by decide +kernel
theorem dX4_readInto_19 : decode cX4_readInto 19 = .ok (.getfield 15, 3) := by decide +kernel
theorem dX4_readInto_22 : decode cX4_readInto 22 = .ok (.if_icmp .ge 36, 3) := by decide +kernel
theorem dX4_readInto_25 : decode cX4_readInto 25 = .ok (.aload_n 0, 1) := by decide +kernel
theorem dX4_readInto_26 : decode cX4_readInto 26 = .ok (.getfield 9, 3) := by decide +kernel
theorem dX4_readInto_29 : decode cX4_readInto 29 = .ok (.iload_n 2, 1) := by decide +kernel
theorem dX4_readInto_30 : decode cX4_readInto 30 = .ok (.caload, 1) := by decide +kernel
theorem dX4_readInto_31 : decode cX4_readInto 31 = .ok (.bipush 32, 2) := by decide +kernel
theorem dX4_readInto_33 : decode cX4_readInto 33 = .ok (.if_icmp .eq 19, 3) := by decide +kernel
theorem dX4_readInto_36 : decode cX4_readInto 36 = .ok (.aload_n 0, 1) := by decide +kernel
theorem dX4_readInto_37 : decode cX4_readInto 37 = .ok (.aload_n 0, 1) := by decide +kernel
theorem dX4_readInto_38 : decode cX4_readInto 38 = .ok (.getfield 9, 3) := by decide +kernel
theorem dX4_readInto_41 : decode cX4_readInto 41 = .ok (.iload_n 2, 1) := by decide +kernel
theorem dX4_readInto_42 : decode cX4_readInto 42 = .ok (.caload, 1) := by decide +kernel
theorem dX4_readInto_43 : decode cX4_readInto 43 = .ok (.aload_n 1, 1) := by decide +kernel
theorem dX4_readInto_44 : decode cX4_readInto 44 = .ok (.invokevirtual 31, 3) := by decide +kernel
theorem dX4_readInto_47 : decode cX4_readInto 47 = .ok (.ifCond .ne 5, 3) := by decide +kernel
theorem dX4_readInto_50 : decode cX4_readInto 50 = .ok (.iload_n 2, 1) := by decide +kernel
theorem dX4_readInto_51 : decode cX4_readInto 51 = .ok (.ireturn, 1) := by decide +kernel
theorem dX4_readInto_52 : decode cX4_readInto 52 = .ok (.iinc 2 1, 3) := by decide +kernel
theorem dX4_readInto_55 : decode cX4_readInto 55 = .ok (.goto (-38), 3) := by decide +kernel
theorem dX4_readInto_58 : decode cX4_readInto 58 = .ok (.aload_n 0, 1) := by decide +kernel
theorem dX4_readInto_59 : decode cX4_readInto 59 = .ok (.getfield 19, 3) := by decide +kernel
theorem dX4_readInto_62 : decode cX4_readInto 62 = .ok (.bipush 32, 2) := by decide +kernel
theorem dX4_readInto_64 : decode cX4_readInto 64 = .ok (.if_icmp .ne 15, 3) := by decide +kernel
theorem dX4_readInto_67 : decode cX4_readInto 67 = .ok (.aload_n 1, 1) := by decide +kernel
theorem dX4_readInto_68 : decode cX4_readInto 68 = .ok (.getfield 35, 3) := by decide +kernel
theorem dX4_readInto_71 : decode cX4_readInto 71 = .ok (.ifCond .le 8, 3) := by decide +kernel
theorem dX4_readInto_74 : decode cX4_readInto 74 = .ok (.bipush (-9), 2) := by decide +kernel
theorem dX4_readInto_76 : decode cX4_readInto 76 = .ok (.goto 7, 3) := by decide +kernel
theorem dX4_readInto_79 : decode cX4_readInto 79 = .ok (.aload_n 0, 1) := by decide +kernel
theorem dX4_readInto_80 : decode cX4_readInto 80 = .ok (.getfield 15, 3) := by decide +kernel
theorem dX4_readInto_83 : decode cX4_readInto 83 = .ok (.ireturn, 1) := by decide +kernel
theorem dX4_takes_0 : decode cX4_takes 0 = .ok (.iload_n 1, 1) := by decide +kernel
theorem dX4_takes_1 : decode cX4_takes 1 = .ok (.bipush 59, 2) := by decide +kernel
theorem dX4_takes_3 : decode cX4_takes 3 = .ok (.if_icmp .ne 9, 3) := by decide +kernel
theorem dX4_takes_6 : decode cX4_takes 6 = .ok (.aload_n 0, 1) := by decide +kernel
theorem dX4_takes_7 : decode cX4_takes 7 = .ok (.aload_n 2, 1) := by decide +kernel
theorem dX4_takes_8 : decode cX4_takes 8 = .ok (.invokevirtual 38, 3) := by decide +kernel
theorem dX4_takes_11 : decode cX4_takes 11 = .ok (.ireturn, 1) := by decide +kernel
theorem dX4_takes_12 : decode cX4_takes 12 = .ok (.iload_n 1, 1) := by decide +kernel
theorem dX4_takes_13 : decode cX4_takes 13 = .ok (.bipush 48, 2) := by decide +kernel
theorem dX4_takes_15 : decode cX4_takes 15 = .ok (.if_icmp .lt 40, 3) := by decide +kernel
theorem dX4_takes_18 : decode cX4_takes 18 = .ok (.iload_n 1, 1) := by decide +kernel
theorem dX4_takes_19 : decode cX4_takes 19 = .ok (.bipush 55, 2) := by decide +kernel
theorem dX4_takes_21 : decode cX4_takes 21 = .ok (.if_icmp .gt 34, 3) := by decide +kernel
theorem dX4_takes_24 : decode cX4_takes 24 = .ok (.aload_n 0, 1) := by decide +kernel
theorem dX4_takes_25 : decode cX4_takes 25 = .ok (.getfield 19, 3) := by decide +kernel
theorem dX4_takes_28 : decode cX4_takes 28 = .ok (.bipush 114, 2) := by decide +kernel
theorem dX4_takes_30 : decode cX4_takes 30 = .ok (.if_icmp .ne 15, 3) := by decide +kernel
theorem dX4_takes_33 : decode cX4_takes 33 = .ok (.aload_n 0, 1) := by decide +kernel
theorem dX4_takes_34 : decode cX4_takes 34 = .ok (.iload_n 1, 1) := by decide +kernel
theorem dX4_takes_35 : decode cX4_takes 35 = .ok (.bipush 48, 2) := by decide +kernel
theorem dX4_takes_37 : decode cX4_takes 37 = .ok (.isub, 1) := by decide +kernel
theorem dX4_takes_38 : decode cX4_takes 38 = .ok (.aload_n 2, 1) := by decide +kernel
theorem dX4_takes_39 : decode cX4_takes 39 = .ok (.invokevirtual 42, 3) := by decide +kernel
theorem dX4_takes_42 : decode cX4_takes 42 = .ok (.goto 12, 3) := by decide +kernel
theorem dX4_takes_45 : decode cX4_takes 45 = .ok (.aload_n 0, 1) := by decide +kernel
theorem dX4_takes_46 : decode cX4_takes 46 = .ok (.iload_n 1, 1) := by decide +kernel
theorem dX4_takes_47 : decode cX4_takes 47 = .ok (.bipush 48, 2) := by decide +kernel
theorem dX4_takes_49 : decode cX4_takes 49 = .ok (.isub, 1) := by decide +kernel
theorem dX4_takes_50 : decode cX4_takes 50 = .ok (.aload_n 2, 1) := by decide +kernel
theorem dX4_takes_51 : decode cX4_takes 51 = .ok (.invokevirtual 46, 3) := by decide +kernel
theorem dX4_takes_54 : decode cX4_takes 54 = .ok (.ireturn, 1) := by decide +kernel
theorem dX4_takes_55 : decode cX4_takes 55 = .ok (.aload_n 0, 1) := by decide +kernel
theorem dX4_takes_56 : decode cX4_takes 56 = .ok (.iload_n 1, 1) := by decide +kernel
theorem dX4_takes_57 : decode cX4_takes 57 = .ok (.aload_n 2, 1) := by decide +kernel
theorem dX4_takes_58 : decode cX4_takes 58 = .ok (.invokevirtual 49, 3) := by decide +kernel
theorem dX4_takes_61 : decode cX4_takes 61 = .ok (.ireturn, 1) := by decide +kernel
theorem dX4_beginsItem_0 : decode cX4_beginsItem 0 = .ok (.iload_n 1, 1) := by decide +kernel
theorem dX4_beginsItem_1 : decode cX4_beginsItem 1 = .ok (.bipush 99, 2) := by decide +kernel
theorem dX4_beginsItem_3 : decode cX4_beginsItem 3 = .ok (.if_icmp .eq 9, 3) := by decide +kernel
end
section
theorem dX4_beginsItem_6 : decode cX4_beginsItem 6 = .ok (.iload_n 1, 1) := by decide +kernel
theorem dX4_beginsItem_7 : decode cX4_beginsItem 7 = .ok (.bipush 100, 2) := by decide +kernel
theorem dX4_beginsItem_9 : decode cX4_beginsItem 9 = .ok (.if_icmp .ne 7, 3) := by decide +kernel
theorem dX4_beginsItem_12 : decode cX4_beginsItem 12 = .ok (.iconst 1, 1) := by decide +kernel
theorem dX4_beginsItem_13 : decode cX4_beginsItem 13 = .ok (.goto 4, 3) := by decide +kernel
theorem dX4_beginsItem_16 : decode cX4_beginsItem 16 = .ok (.iconst 0, 1) := by decide +kernel
theorem dX4_beginsItem_17 : decode cX4_beginsItem 17 = .ok (.istore_n 3, 1) := by decide +kernel
theorem dX4_beginsItem_18 : decode cX4_beginsItem 18 = .ok (.iload_n 3, 1) := by decide +kernel
theorem dX4_beginsItem_19 : decode cX4_beginsItem 19 = .ok (.ifCond .eq 12, 3) := by decide +kernel
theorem dX4_beginsItem_22 : decode cX4_beginsItem 22 = .ok (.aload_n 2, 1) := by decide +kernel
theorem dX4_beginsItem_23 : decode cX4_beginsItem 23 = .ok (.getfield 52, 3) := by decide +kernel
theorem dX4_beginsItem_26 : decode cX4_beginsItem 26 = .ok (.bipush 6, 2) := by decide +kernel
theorem dX4_beginsItem_28 : decode cX4_beginsItem 28 = .ok (.if_icmp .lt 18, 3) := by decide +kernel
theorem dX4_beginsItem_31 : decode cX4_beginsItem 31 = .ok (.iload_n 1, 1) := by decide +kernel
theorem dX4_beginsItem_32 : decode cX4_beginsItem 32 = .ok (.bipush 114, 2) := by decide +kernel
theorem dX4_beginsItem_34 : decode cX4_beginsItem 34 = .ok (.if_icmp .ne 16, 3) := by decide +kernel
theorem dX4_beginsItem_37 : decode cX4_beginsItem 37 = .ok (.aload_n 2, 1) := by decide +kernel
theorem dX4_beginsItem_38 : decode cX4_beginsItem 38 = .ok (.getfield 35, 3) := by decide +kernel
theorem dX4_beginsItem_41 : decode cX4_beginsItem 41 = .ok (.bipush 6, 2) := by decide +kernel
theorem dX4_beginsItem_43 : decode cX4_beginsItem 43 = .ok (.if_icmp .ge 7, 3) := by decide +kernel
theorem dX4_beginsItem_46 : decode cX4_beginsItem 46 = .ok (.iconst 1, 1) := by decide +kernel
theorem dX4_beginsItem_47 : decode cX4_beginsItem 47 = .ok (.goto 4, 3) := by decide +kernel
theorem dX4_beginsItem_50 : decode cX4_beginsItem 50 = .ok (.iconst 0, 1) := by decide +kernel
theorem dX4_beginsItem_51 : decode cX4_beginsItem 51 = .ok (.istore 4, 2) := by decide +kernel
theorem dX4_beginsItem_53 : decode cX4_beginsItem 53 = .ok (.aload_n 0, 1) := by decide +kernel
theorem dX4_beginsItem_54 : decode cX4_beginsItem 54 = .ok (.getfield 19, 3) := by decide +kernel
theorem dX4_beginsItem_57 : decode cX4_beginsItem 57 = .ok (.bipush 32, 2) := by decide +kernel
theorem dX4_beginsItem_59 : decode cX4_beginsItem 59 = .ok (.if_icmp .ne 8, 3) := by decide +kernel
theorem dX4_beginsItem_62 : decode cX4_beginsItem 62 = .ok (.iload 4, 2) := by decide +kernel
theorem dX4_beginsItem_64 : decode cX4_beginsItem 64 = .ok (.ifCond .ne 5, 3) := by decide +kernel
theorem dX4_beginsItem_67 : decode cX4_beginsItem 67 = .ok (.iconst 0, 1) := by decide +kernel
theorem dX4_beginsItem_68 : decode cX4_beginsItem 68 = .ok (.ireturn, 1) := by decide +kernel
theorem dX4_beginsItem_69 : decode cX4_beginsItem 69 = .ok (.aload_n 0, 1) := by decide +kernel
theorem dX4_beginsItem_70 : decode cX4_beginsItem 70 = .ok (.iload_n 1, 1) := by decide +kernel
theorem dX4_beginsItem_71 : decode cX4_beginsItem 71 = .ok (.putfield 19, 3) := by decide +kernel
theorem dX4_beginsItem_74 : decode cX4_beginsItem 74 = .ok (.aload_n 0, 1) := by decide +kernel
theorem dX4_beginsItem_75 : decode cX4_beginsItem 75 = .ok (.iconst 0, 1) := by decide +kernel
theorem dX4_beginsItem_76 : decode cX4_beginsItem 76 = .ok (.putfield 23, 3) := by decide +kernel
theorem dX4_beginsItem_79 : decode cX4_beginsItem 79 = .ok (.iconst 1, 1) := by decide +kernel
theorem dX4_beginsItem_80 : decode cX4_beginsItem 80 = .ok (.ireturn, 1) := by decide +kernel
theorem dX4_takesInk_0 : decode cX4_takesInk 0 = .ok (.aload_n 0, 1) := by decide +kernel
theorem dX4_takesInk_1 : decode cX4_takesInk 1 = .ok (.getfield 19, 3) := by decide +kernel
theorem dX4_takesInk_4 : decode cX4_takesInk 4 = .ok (.bipush 32, 2) := by decide +kernel
theorem dX4_takesInk_6 : decode cX4_takesInk 6 = .ok (.if_icmp .eq 14, 3) := by decide +kernel
theorem dX4_takesInk_9 : decode cX4_takesInk 9 = .ok (.aload_n 0, 1) := by decide +kernel
theorem dX4_takesInk_10 : decode cX4_takesInk 10 = .ok (.getfield 23, 3) := by decide +kernel
theorem dX4_takesInk_13 : decode cX4_takesInk 13 = .ok (.ifCond .ne 7, 3) := by decide +kernel
theorem dX4_takesInk_16 : decode cX4_takesInk 16 = .ok (.iload_n 1, 1) := by decide +kernel
theorem dX4_takesInk_17 : decode cX4_takesInk 17 = .ok (.ifCond .ne 5, 3) := by decide +kernel
theorem dX4_takesInk_20 : decode cX4_takesInk 20 = .ok (.iconst 0, 1) := by decide +kernel
theorem dX4_takesInk_21 : decode cX4_takesInk 21 = .ok (.ireturn, 1) := by decide +kernel
theorem dX4_takesInk_22 : decode cX4_takesInk 22 = .ok (.aload_n 2, 1) := by decide +kernel
theorem dX4_takesInk_23 : decode cX4_takesInk 23 = .ok (.iload_n 1, 1) := by decide +kernel
theorem dX4_takesInk_24 : decode cX4_takesInk 24 = .ok (.aload_n 0, 1) := by decide +kernel
theorem dX4_takesInk_25 : decode cX4_takesInk 25 = .ok (.getfield 19, 3) := by decide +kernel
theorem dX4_takesInk_28 : decode cX4_takesInk 28 = .ok (.bipush 100, 2) := by decide +kernel
theorem dX4_takesInk_30 : decode cX4_takesInk 30 = .ok (.if_icmp .ne 7, 3) := by decide +kernel
theorem dX4_takesInk_33 : decode cX4_takesInk 33 = .ok (.iconst 1, 1) := by decide +kernel
theorem dX4_takesInk_34 : decode cX4_takesInk 34 = .ok (.goto 4, 3) := by decide +kernel
theorem dX4_takesInk_37 : decode cX4_takesInk 37 = .ok (.iconst 0, 1) := by decide +kernel
theorem dX4_takesInk_38 : decode cX4_takesInk 38 = .ok (.invokevirtual 55, 3) := by decide +kernel
theorem dX4_takesInk_41 : decode cX4_takesInk 41 = .ok (.aload_n 0, 1) := by decide +kernel
theorem dX4_takesInk_42 : decode cX4_takesInk 42 = .ok (.iconst 1, 1) := by decide +kernel
theorem dX4_takesInk_43 : decode cX4_takesInk 43 = .ok (.putfield 23, 3) := by decide +kernel
theorem dX4_takesInk_46 : decode cX4_takesInk 46 = .ok (.iconst 1, 1) := by decide +kernel
theorem dX4_takesInk_47 : decode cX4_takesInk 47 = .ok (.ireturn, 1) := by decide +kernel
theorem dX4_takesCell_0 : decode cX4_takesCell 0 = .ok (.aload_n 2, 1) := by decide +kernel
theorem dX4_takesCell_1 : decode cX4_takesCell 1 = .ok (.getfield 35, 3) := by decide +kernel
theorem dX4_takesCell_4 : decode cX4_takesCell 4 = .ok (.ifCond .ne 8, 3) := by decide +kernel
theorem dX4_takesCell_7 : decode cX4_takesCell 7 = .ok (.bipush 6, 2) := by decide +kernel
theorem dX4_takesCell_9 : decode cX4_takesCell 9 = .ok (.goto 7, 3) := by decide +kernel
theorem dX4_takesCell_12 : decode cX4_takesCell 12 = .ok (.aload_n 2, 1) := by decide +kernel
theorem dX4_takesCell_13 : decode cX4_takesCell 13 = .ok (.getfield 59, 3) := by decide +kernel
theorem dX4_takesCell_16 : decode cX4_takesCell 16 = .ok (.istore_n 3, 1) := by decide +kernel
theorem dX4_takesCell_17 : decode cX4_takesCell 17 = .ok (.aload_n 0, 1) := by decide +kernel
theorem dX4_takesCell_18 : decode cX4_takesCell 18 = .ok (.getfield 23, 3) := by decide +kernel
theorem dX4_takesCell_21 : decode cX4_takesCell 21 = .ok (.iload_n 3, 1) := by decide +kernel
theorem dX4_takesCell_22 : decode cX4_takesCell 22 = .ok (.if_icmp .lt 5, 3) := by decide +kernel
theorem dX4_takesCell_25 : decode cX4_takesCell 25 = .ok (.iconst 0, 1) := by decide +kernel
theorem dX4_takesCell_26 : decode cX4_takesCell 26 = .ok (.ireturn, 1) := by decide +kernel
theorem dX4_takesCell_27 : decode cX4_takesCell 27 = .ok (.aload_n 2, 1) := by decide +kernel
theorem dX4_takesCell_28 : decode cX4_takesCell 28 = .ok (.getfield 62, 3) := by decide +kernel
theorem dX4_takesCell_31 : decode cX4_takesCell 31 = .ok (.aload_n 0, 1) := by decide +kernel
theorem dX4_takesCell_32 : decode cX4_takesCell 32 = .ok (.getfield 23, 3) := by decide +kernel
theorem dX4_takesCell_35 : decode cX4_takesCell 35 = .ok (.aload_n 2, 1) := by decide +kernel
theorem dX4_takesCell_36 : decode cX4_takesCell 36 = .ok (.getfield 35, 3) := by decide +kernel
theorem dX4_takesCell_39 : decode cX4_takesCell 39 = .ok (.invokestatic 66, 3) := by decide +kernel
theorem dX4_takesCell_42 : decode cX4_takesCell 42 = .ok (.iload_n 1, 1) := by decide +kernel
theorem dX4_takesCell_43 : decode cX4_takesCell 43 = .ok (.iconst 1, 1) := by decide +kernel
theorem dX4_takesCell_44 : decode cX4_takesCell 44 = .ok (.invokevirtual 70, 3) := by decide +kernel
theorem dX4_takesCell_47 : decode cX4_takesCell 47 = .ok (.aload_n 0, 1) := by decide +kernel
theorem dX4_takesCell_48 : decode cX4_takesCell 48 = .ok (.dup, 1) := by decide +kernel
theorem dX4_takesCell_49 : decode cX4_takesCell 49 = .ok (.getfield 23, 3) := by decide +kernel
theorem dX4_takesCell_52 : decode cX4_takesCell 52 = .ok (.iconst 1, 1) := by decide +kernel
theorem dX4_takesCell_53 : decode cX4_takesCell 53 = .ok (.iadd, 1) := by decide +kernel
theorem dX4_takesCell_54 : decode cX4_takesCell 54 = .ok (.putfield 23, 3) := by decide +kernel
theorem dX4_takesCell_57 : decode cX4_takesCell 57 = .ok (.iconst 1, 1) := by decide +kernel
theorem dX4_takesCell_58 : decode cX4_takesCell 58 = .ok (.ireturn, 1) := by decide +kernel
theorem dX4_endsItem_0 : decode cX4_endsItem 0 = .ok (.aload_n 0, 1) := by decide +kernel
theorem dX4_endsItem_1 : decode cX4_endsItem 1 = .ok (.getfield 19, 3) := by decide +kernel
theorem dX4_endsItem_4 : decode cX4_endsItem 4 = .ok (.bipush 32, 2) := by decide +kernel
theorem dX4_endsItem_6 : decode cX4_endsItem 6 = .ok (.if_icmp .eq 10, 3) := by decide +kernel
theorem dX4_endsItem_9 : decode cX4_endsItem 9 = .ok (.aload_n 0, 1) := by decide +kernel
theorem dX4_endsItem_10 : decode cX4_endsItem 10 = .ok (.getfield 23, 3) := by decide +kernel
theorem dX4_endsItem_13 : decode cX4_endsItem 13 = .ok (.ifCond .ne 5, 3) := by decide +kernel
theorem dX4_endsItem_16 : decode cX4_endsItem 16 = .ok (.iconst 0, 1) := by decide +kernel
theorem dX4_endsItem_17 : decode cX4_endsItem 17 = .ok (.ireturn, 1) := by decide +kernel
theorem dX4_endsItem_18 : decode cX4_endsItem 18 = .ok (.aload_n 0, 1) := by decide +kernel
theorem dX4_endsItem_19 : decode cX4_endsItem 19 = .ok (.getfield 19, 3) := by decide +kernel
theorem dX4_endsItem_22 : decode cX4_endsItem 22 = .ok (.bipush 114, 2) := by decide +kernel
theorem dX4_endsItem_24 : decode cX4_endsItem 24 = .ok (.if_icmp .ne 41, 3) := by decide +kernel
theorem dX4_endsItem_27 : decode cX4_endsItem 27 = .ok (.aload_n 1, 1) := by decide +kernel
theorem dX4_endsItem_28 : decode cX4_endsItem 28 = .ok (.getfield 35, 3) := by decide +kernel
theorem dX4_endsItem_31 : decode cX4_endsItem 31 = .ok (.ifCond .le 16, 3) := by decide +kernel
theorem dX4_endsItem_34 : decode cX4_endsItem 34 = .ok (.aload_n 0, 1) := by decide +kernel
theorem dX4_endsItem_35 : decode cX4_endsItem 35 = .ok (.getfield 23, 3) := by decide +kernel
theorem dX4_endsItem_38 : decode cX4_endsItem 38 = .ok (.aload_n 1, 1) := by decide +kernel
theorem dX4_endsItem_39 : decode cX4_endsItem 39 = .ok (.getfield 59, 3) := by decide +kernel
theorem dX4_endsItem_42 : decode cX4_endsItem 42 = .ok (.if_icmp .eq 5, 3) := by decide +kernel
theorem dX4_endsItem_45 : decode cX4_endsItem 45 = .ok (.iconst 0, 1) := by decide +kernel
theorem dX4_endsItem_46 : decode cX4_endsItem 46 = .ok (.ireturn, 1) := by decide +kernel
theorem dX4_endsItem_47 : decode cX4_endsItem 47 = .ok (.aload_n 1, 1) := by decide +kernel
theorem dX4_endsItem_48 : decode cX4_endsItem 48 = .ok (.aload_n 0, 1) := by decide +kernel
theorem dX4_endsItem_49 : decode cX4_endsItem 49 = .ok (.getfield 23, 3) := by decide +kernel
theorem dX4_endsItem_52 : decode cX4_endsItem 52 = .ok (.putfield 59, 3) := by decide +kernel
theorem dX4_endsItem_55 : decode cX4_endsItem 55 = .ok (.aload_n 1, 1) := by decide +kernel
theorem dX4_endsItem_56 : decode cX4_endsItem 56 = .ok (.dup, 1) := by decide +kernel
theorem dX4_endsItem_57 : decode cX4_endsItem 57 = .ok (.getfield 35, 3) := by decide +kernel
theorem dX4_endsItem_60 : decode cX4_endsItem 60 = .ok (.iconst 1, 1) := by decide +kernel
theorem dX4_endsItem_61 : decode cX4_endsItem 61 = .ok (.iadd, 1) := by decide +kernel
theorem dX4_endsItem_62 : decode cX4_endsItem 62 = .ok (.putfield 35, 3) := by decide +kernel
theorem dX4_endsItem_65 : decode cX4_endsItem 65 = .ok (.aload_n 0, 1) := by decide +kernel
theorem dX4_endsItem_66 : decode cX4_endsItem 66 = .ok (.bipush 32, 2) := by decide +kernel
theorem dX4_endsItem_68 : decode cX4_endsItem 68 = .ok (.putfield 19, 3) := by decide +kernel
theorem dX4_endsItem_71 : decode cX4_endsItem 71 = .ok (.iconst 1, 1) := by decide +kernel
theorem dX4_endsItem_72 : decode cX4_endsItem 72 = .ok (.ireturn, 1) := by decide +kernel
theorem dX5_init_0 : decode cX5_init 0 = .ok (.aload_n 0, 1) := by decide +kernel
theorem dX5_init_1 : decode cX5_init 1 = .ok (.invokespecial 3, 3) := by decide +kernel
theorem dX5_init_4 : decode cX5_init 4 = .ok (.aload_n 0, 1) := by decide +kernel
theorem dX5_init_5 : decode cX5_init 5 = .ok (.iconst 1, 1) := by decide +kernel
theorem dX5_init_6 : decode cX5_init 6 = .ok (.putfield 9, 3) := by decide +kernel
theorem dX5_init_9 : decode cX5_init 9 = .ok (.aload_n 0, 1) := by decide +kernel
theorem dX5_init_10 : decode cX5_init 10 = .ok (.iconst 1, 1) := by decide +kernel
theorem dX5_init_11 : decode cX5_init 11 = .ok (.putfield 15, 3) := by decide +kernel
theorem dX5_init_14 : decode cX5_init 14 = .ok (.aload_n 0, 1) := by decide +kernel
theorem dX5_init_15 : decode cX5_init 15 = .ok (.iconst 0, 1) := by decide +kernel
theorem dX5_init_16 : decode cX5_init 16 = .ok (.putfield 18, 3) := by decide +kernel
theorem dX5_init_19 : decode cX5_init 19 = .ok (.aload_n 0, 1) := by decide +kernel
theorem dX5_init_20 : decode cX5_init 20 = .ok (.iconst 0, 1) := by decide +kernel
theorem dX5_init_21 : decode cX5_init 21 = .ok (.putfield 21, 3) := by decide +kernel
theorem dX5_init_24 : decode cX5_init 24 = .ok (.aload_n 0, 1) := by decide +kernel
theorem dX5_init_25 : decode cX5_init 25 = .ok (.new 24, 3) := by decide +kernel
theorem dX5_init_28 : decode cX5_init 28 = .ok (.dup, 1) := by decide +kernel
theorem dX5_init_29 : decode cX5_init 29 = .ok (.invokespecial 26, 3) := by decide +kernel
theorem dX5_init_32 : decode cX5_init 32 = .ok (.putfield 27, 3) := by decide +kernel
theorem dX5_init_35 : decode cX5_init 35 = .ok (.aload_n 0, 1) := by decide +kernel
theorem dX5_init_36 : decode cX5_init 36 = .ok (.bipush 6, 2) := by decide +kernel
theorem dX5_init_38 : decode cX5_init 38 = .ok (.newarray .int, 2) := by decide +kernel
theorem dX5_init_40 : decode cX5_init 40 = .ok (.putfield 31, 3) := by decide +kernel
theorem dX5_init_43 : decode cX5_init 43 = .ok (.aload_n 0, 1) := by decide +kernel
theorem dX5_init_44 : decode cX5_init 44 = .ok (.bipush 6, 2) := by decide +kernel
theorem dX5_init_46 : decode cX5_init 46 = .ok (.newarray .int, 2) := by decide +kernel
theorem dX5_init_48 : decode cX5_init 48 = .ok (.putfield 35, 3) := by decide +kernel
theorem dX5_init_51 : decode cX5_init 51 = .ok (.aload_n 0, 1) := by decide +kernel
theorem dX5_init_52 : decode cX5_init 52 = .ok (.bipush 6, 2) := by decide +kernel
theorem dX5_init_54 : decode cX5_init 54 = .ok (.newarray .long, 2) := by decide +kernel
theorem dX5_init_56 : decode cX5_init 56 = .ok (.putfield 38, 3) := by decide +kernel
theorem dX5_init_59 : decode cX5_init 59 = .ok (.aload_n 0, 1) := by decide +kernel
theorem dX5_init_60 : decode cX5_init 60 = .ok (.bipush 6, 2) := by decide +kernel
theorem dX5_init_62 : decode cX5_init 62 = .ok (.newarray .int, 2) := by decide +kernel
theorem dX5_init_64 : decode cX5_init 64 = .ok (.putfield 42, 3) := by decide +kernel
theorem dX5_init_67 : decode cX5_init 67 = .ok (.return_, 1) := by decide +kernel
theorem dX5_copy_0 : decode cX5_copy 0 = .ok (.aload_n 0, 1) := by decide +kernel
theorem dX5_copy_1 : decode cX5_copy 1 = .ok (.aload_n 1, 1) := by decide +kernel
theorem dX5_copy_2 : decode cX5_copy 2 = .ok (.getfield 9, 3) := by decide +kernel
theorem dX5_copy_5 : decode cX5_copy 5 = .ok (.putfield 9, 3) := by decide +kernel
theorem dX5_copy_8 : decode cX5_copy 8 = .ok (.aload_n 0, 1) := by decide +kernel
theorem dX5_copy_9 : decode cX5_copy 9 = .ok (.aload_n 1, 1) := by decide +kernel
theorem dX5_copy_10 : decode cX5_copy 10 = .ok (.getfield 15, 3) := by decide +kernel
theorem dX5_copy_13 : decode cX5_copy 13 = .ok (.putfield 15, 3) := by decide +kernel
theorem dX5_copy_16 : decode cX5_copy 16 = .ok (.aload_n 0, 1) := by decide +kernel
theorem dX5_copy_17 : decode cX5_copy 17 = .ok (.aload_n 1, 1) := by decide +kernel
theorem dX5_copy_18 : decode cX5_copy 18 = .ok (.getfield 18, 3) := by decide +kernel
theorem dX5_copy_21 : decode cX5_copy 21 = .ok (.putfield 18, 3) := by decide +kernel
theorem dX5_copy_24 : decode cX5_copy 24 = .ok (.aload_n 0, 1) := by decide +kernel
theorem dX5_copy_25 : decode cX5_copy 25 = .ok (.aload_n 1, 1) := by decide +kernel
theorem dX5_copy_26 : decode cX5_copy 26 = .ok (.getfield 21, 3) := by decide +kernel
theorem dX5_copy_29 : decode cX5_copy 29 = .ok (.putfield 21, 3) := by decide +kernel
theorem dX5_copy_32 : decode cX5_copy 32 = .ok (.aload_n 0, 1) := by decide +kernel
theorem dX5_copy_33 : decode cX5_copy 33 = .ok (.getfield 27, 3) := by decide +kernel
theorem dX5_copy_36 : decode cX5_copy 36 = .ok (.aload_n 1, 1) := by decide +kernel
theorem dX5_copy_37 : decode cX5_copy 37 = .ok (.getfield 27, 3) := by decide +kernel
theorem dX5_copy_40 : decode cX5_copy 40 = .ok (.invokevirtual 45, 3) := by decide +kernel
theorem dX5_copy_43 : decode cX5_copy 43 = .ok (.aload_n 1, 1) := by decide +kernel
theorem dX5_copy_44 : decode cX5_copy 44 = .ok (.getfield 31, 3) := by decide +kernel
theorem dX5_copy_47 : decode cX5_copy 47 = .ok (.iconst 0, 1) := by decide +kernel
theorem dX5_copy_48 : decode cX5_copy 48 = .ok (.aload_n 0, 1) := by decide +kernel
theorem dX5_copy_49 : decode cX5_copy 49 = .ok (.getfield 31, 3) := by decide +kernel
theorem dX5_copy_52 : decode cX5_copy 52 = .ok (.iconst 0, 1) := by decide +kernel
theorem dX5_copy_53 : decode cX5_copy 53 = .ok (.bipush 6, 2) := by decide +kernel
theorem dX5_copy_55 : decode cX5_copy 55 = .ok (.invokestatic 49, 3) := by decide +kernel
theorem dX5_copy_58 : decode cX5_copy 58 = .ok (.aload_n 1, 1) := by decide +kernel
theorem dX5_copy_59 : decode cX5_copy 59 = .ok (.getfield 35, 3) := by decide +kernel
theorem dX5_copy_62 : decode cX5_copy 62 = .ok (.iconst 0, 1) := by decide +kernel
theorem dX5_copy_63 : decode cX5_copy 63 = .ok (.aload_n 0, 1) := by decide +kernel
theorem dX5_copy_64 : decode cX5_copy 64 = .ok (.getfield 35, 3) := by decide +kernel
theorem dX5_copy_67 : decode cX5_copy 67 = .ok (.iconst 0, 1) := by decide +kernel
theorem dX5_copy_68 : decode cX5_copy 68 = .ok (.bipush 6, 2) := by decide +kernel
theorem dX5_copy_70 : decode cX5_copy 70 = .ok (.invokestatic 49, 3) := by decide +kernel
theorem dX5_copy_73 : decode cX5_copy 73 = .ok (.aload_n 1, 1) := by decide +kernel
theorem dX5_copy_74 : decode cX5_copy 74 = .ok (.getfield 38, 3) := by decide +kernel
theorem dX5_copy_77 : decode cX5_copy 77 = .ok (.iconst 0, 1) := by decide +kernel
theorem dX5_copy_78 : decode cX5_copy 78 = .ok (.aload_n 0, 1) := by decide +kernel
theorem dX5_copy_79 : decode cX5_copy 79 = .ok (.getfield 38, 3) := by decide +kernel
theorem dX5_copy_82 : decode cX5_copy 82 = .ok (.iconst 0, 1) := by decide +kernel
theorem dX5_copy_83 : decode cX5_copy 83 = .ok (.bipush 6, 2) := by decide +kernel
theorem dX5_copy_85 : decode cX5_copy 85 = .ok (.invokestatic 49, 3) := by decide +kernel
theorem dX5_copy_88 : decode cX5_copy 88 = .ok (.aload_n 1, 1) := by decide +kernel
theorem dX5_copy_89 : decode cX5_copy 89 = .ok (.getfield 42, 3) := by decide +kernel
theorem dX5_copy_92 : decode cX5_copy 92 = .ok (.iconst 0, 1) := by decide +kernel
theorem dX5_copy_93 : decode cX5_copy 93 = .ok (.aload_n 0, 1) := by decide +kernel
theorem dX5_copy_94 : decode cX5_copy 94 = .ok (.getfield 42, 3) := by decide +kernel
theorem dX5_copy_97 : decode cX5_copy 97 = .ok (.iconst 0, 1) := by decide +kernel
theorem dX5_copy_98 : decode cX5_copy 98 = .ok (.bipush 6, 2) := by decide +kernel
theorem dX5_copy_100 : decode cX5_copy 100 = .ok (.invokestatic 49, 3) := by decide +kernel
theorem dX5_copy_103 : decode cX5_copy 103 = .ok (.return_, 1) := by decide +kernel
theorem dX5_empty_0 : decode cX5_empty 0 = .ok (.aload_n 0, 1) := by decide +kernel
theorem dX5_empty_1 : decode cX5_empty 1 = .ok (.iconst 0, 1) := by decide +kernel
theorem dX5_empty_2 : decode cX5_empty 2 = .ok (.putfield 9, 3) := by decide +kernel
theorem dX5_empty_5 : decode cX5_empty 5 = .ok (.aload_n 0, 1) := by decide +kernel
theorem dX5_empty_6 : decode cX5_empty 6 = .ok (.iconst 0, 1) := by decide +kernel
theorem dX5_empty_7 : decode cX5_empty 7 = .ok (.putfield 15, 3) := by decide +kernel
theorem dX5_empty_10 : decode cX5_empty 10 = .ok (.aload_n 0, 1) := by decide +kernel
theorem dX5_empty_11 : decode cX5_empty 11 = .ok (.iconst 0, 1) := by decide +kernel
theorem dX5_empty_12 : decode cX5_empty 12 = .ok (.putfield 18, 3) := by decide +kernel
theorem dX5_empty_15 : decode cX5_empty 15 = .ok (.aload_n 0, 1) := by decide +kernel
theorem dX5_empty_16 : decode cX5_empty 16 = .ok (.iconst 0, 1) := by decide +kernel
theorem dX5_empty_17 : decode cX5_empty 17 = .ok (.putfield 21, 3) := by decide +kernel
theorem dX5_empty_20 : decode cX5_empty 20 = .ok (.aload_n 0, 1) := by decide +kernel
theorem dX5_empty_21 : decode cX5_empty 21 = .ok (.getfield 27, 3) := by decide +kernel
theorem dX5_empty_24 : decode cX5_empty 24 = .ok (.invokevirtual 55, 3) := by decide +kernel
theorem dX5_empty_27 : decode cX5_empty 27 = .ok (.return_, 1) := by decide +kernel
theorem dX5_addInk_0 : decode cX5_addInk 0 = .ok (.aload_n 0, 1) := by decide +kernel
theorem dX5_addInk_1 : decode cX5_addInk 1 = .ok (.getfield 18, 3) := by decide +kernel
theorem dX5_addInk_4 : decode cX5_addInk 4 = .ok (.bipush 6, 2) := by decide +kernel
theorem dX5_addInk_6 : decode cX5_addInk 6 = .ok (.if_icmp .lt 4, 3) := by decide +kernel
theorem dX5_addInk_9 : decode cX5_addInk 9 = .ok (.return_, 1) := by decide +kernel
theorem dX5_addInk_10 : decode cX5_addInk 10 = .ok (.aload_n 0, 1) := by decide +kernel
theorem dX5_addInk_11 : decode cX5_addInk 11 = .ok (.getfield 31, 3) := by decide +kernel
theorem dX5_addInk_14 : decode cX5_addInk 14 = .ok (.aload_n 0, 1) := by decide +kernel
theorem dX5_addInk_15 : decode cX5_addInk 15 = .ok (.getfield 18, 3) := by decide +kernel
theorem dX5_addInk_18 : decode cX5_addInk 18 = .ok (.iload_n 1, 1) := by decide +kernel
theorem dX5_addInk_19 : decode cX5_addInk 19 = .ok (.iastore, 1) := by decide +kernel
theorem dX5_addInk_20 : decode cX5_addInk 20 = .ok (.aload_n 0, 1) := by decide +kernel
theorem dX5_addInk_21 : decode cX5_addInk 21 = .ok (.getfield 35, 3) := by decide +kernel
theorem dX5_addInk_24 : decode cX5_addInk 24 = .ok (.aload_n 0, 1) := by decide +kernel
theorem dX5_addInk_25 : decode cX5_addInk 25 = .ok (.getfield 18, 3) := by decide +kernel
theorem dX5_addInk_28 : decode cX5_addInk 28 = .ok (.aload_n 0, 1) := by decide +kernel
theorem dX5_addInk_29 : decode cX5_addInk 29 = .ok (.getfield 18, 3) := by decide +kernel
theorem dX5_addInk_32 : decode cX5_addInk 32 = .ok (.iastore, 1) := by decide +kernel
theorem dX5_addInk_33 : decode cX5_addInk 33 = .ok (.aload_n 0, 1) := by decide +kernel
theorem dX5_addInk_34 : decode cX5_addInk 34 = .ok (.getfield 38, 3) := by decide +kernel
theorem dX5_addInk_37 : decode cX5_addInk 37 = .ok (.aload_n 0, 1) := by decide +kernel
theorem dX5_addInk_38 : decode cX5_addInk 38 = .ok (.getfield 18, 3) := by decide +kernel
theorem dX5_addInk_41 : decode cX5_addInk 41 = .ok (.lconst 0, 1) := by decide +kernel
theorem dX5_addInk_42 : decode cX5_addInk 42 = .ok (.lastore, 1) := by decide +kernel
theorem dX5_addInk_43 : decode cX5_addInk 43 = .ok (.aload_n 0, 1) := by decide +kernel
theorem dX5_addInk_44 : decode cX5_addInk 44 = .ok (.getfield 42, 3) := by decide +kernel
theorem dX5_addInk_47 : decode cX5_addInk 47 = .ok (.aload_n 0, 1) := by decide +kernel
theorem dX5_addInk_48 : decode cX5_addInk 48 = .ok (.getfield 18, 3) := by decide +kernel
theorem dX5_addInk_51 : decode cX5_addInk 51 = .ok (.iconst 4, 1) := by decide +kernel
theorem dX5_addInk_52 : decode cX5_addInk 52 = .ok (.iastore, 1) := by decide +kernel
theorem dX5_addInk_53 : decode cX5_addInk 53 = .ok (.iload_n 2, 1) := by decide +kernel
theorem dX5_addInk_54 : decode cX5_addInk 54 = .ok (.ifCond .eq 18, 3) := by decide +kernel
theorem dX5_addInk_57 : decode cX5_addInk 57 = .ok (.aload_n 0, 1) := by decide +kernel
theorem dX5_addInk_58 : decode cX5_addInk 58 = .ok (.dup, 1) := by decide +kernel
theorem dX5_addInk_59 : decode cX5_addInk 59 = .ok (.getfield 21, 3) := by decide +kernel
theorem dX5_addInk_62 : decode cX5_addInk 62 = .ok (.iconst 1, 1) := by decide +kernel
theorem dX5_addInk_63 : decode cX5_addInk 63 = .ok (.aload_n 0, 1) := by decide +kernel
theorem dX5_addInk_64 : decode cX5_addInk 64 = .ok (.getfield 18, 3) := by decide +kernel
theorem dX5_addInk_67 : decode cX5_addInk 67 = .ok (.ishl, 1) := by decide +kernel
theorem dX5_addInk_68 : decode cX5_addInk 68 = .ok (.ior, 1) := by decide +kernel
theorem dX5_addInk_69 : decode cX5_addInk 69 = .ok (.putfield 21, 3) := by decide +kernel
theorem dX5_addInk_72 : decode cX5_addInk 72 = .ok (.aload_n 0, 1) := by decide +kernel
theorem dX5_addInk_73 : decode cX5_addInk 73 = .ok (.dup, 1) := by decide +kernel
theorem dX5_addInk_74 : decode cX5_addInk 74 = .ok (.getfield 18, 3) := by decide +kernel
theorem dX5_addInk_77 : decode cX5_addInk 77 = .ok (.iconst 1, 1) := by decide +kernel
theorem dX5_addInk_78 : decode cX5_addInk 78 = .ok (.iadd, 1) := by decide +kernel
theorem dX5_addInk_79 : decode cX5_addInk 79 = .ok (.putfield 18, 3) := by decide +kernel
theorem dX5_addInk_82 : decode cX5_addInk 82 = .ok (.return_, 1) := by decide +kernel
theorem dX5_hasInk_0 : decode cX5_hasInk 0 = .ok (.iload_n 1, 1) := by decide +kernel
theorem dX5_hasInk_1 : decode cX5_hasInk 1 = .ok (.ifCond .lt 15, 3) := by decide +kernel
theorem dX5_hasInk_4 : decode cX5_hasInk 4 = .ok (.iload_n 1, 1) := by decide +kernel
theorem dX5_hasInk_5 : decode cX5_hasInk 5 = .ok (.aload_n 0, 1) := by decide +kernel
theorem dX5_hasInk_6 : decode cX5_hasInk 6 = .ok (.getfield 18, 3) := by decide +kernel
theorem dX5_hasInk_9 : decode cX5_hasInk 9 = .ok (.if_icmp .ge 7, 3) := by decide +kernel
theorem dX5_hasInk_12 : decode cX5_hasInk 12 = .ok (.iconst 1, 1) := by decide +kernel
theorem dX5_hasInk_13 : decode cX5_hasInk 13 = .ok (.goto 4, 3) := by decide +kernel
theorem dX5_hasInk_16 : decode cX5_hasInk 16 = .ok (.iconst 0, 1) := by decide +kernel
theorem dX5_hasInk_17 : decode cX5_hasInk 17 = .ok (.ireturn, 1) := by decide +kernel
theorem dX5_hasCell_0 : decode cX5_hasCell 0 = .ok (.iload_n 1, 1) := by decide +kernel
theorem dX5_hasCell_1 : decode cX5_hasCell 1 = .ok (.ifCond .lt 27, 3) := by decide +kernel
theorem dX5_hasCell_4 : decode cX5_hasCell 4 = .ok (.iload_n 1, 1) := by decide +kernel
theorem dX5_hasCell_5 : decode cX5_hasCell 5 = .ok (.aload_n 0, 1) := by decide +kernel
theorem dX5_hasCell_6 : decode cX5_hasCell 6 = .ok (.getfield 9, 3) := by decide +kernel
theorem dX5_hasCell_9 : decode cX5_hasCell 9 = .ok (.if_icmp .ge 19, 3) := by decide +kernel
theorem dX5_hasCell_12 : decode cX5_hasCell 12 = .ok (.iload_n 2, 1) := by decide +kernel
theorem dX5_hasCell_13 : decode cX5_hasCell 13 = .ok (.ifCond .lt 15, 3) := by decide +kernel
theorem dX5_hasCell_16 : decode cX5_hasCell 16 = .ok (.iload_n 2, 1) := by decide +kernel
theorem dX5_hasCell_17 : decode cX5_hasCell 17 = .ok (.aload_n 0, 1) := by decide +kernel
theorem dX5_hasCell_18 : decode cX5_hasCell 18 = .ok (.getfield 15, 3) := by decide +kernel
theorem dX5_hasCell_21 : decode cX5_hasCell 21 = .ok (.if_icmp .ge 7, 3) := by decide +kernel
theorem dX5_hasCell_24 : decode cX5_hasCell 24 = .ok (.iconst 1, 1) := by decide +kernel
theorem dX5_hasCell_25 : decode cX5_hasCell 25 = .ok (.goto 4, 3) := by decide +kernel
theorem dX5_hasCell_28 : decode cX5_hasCell 28 = .ok (.iconst 0, 1) := by decide +kernel
theorem dX5_hasCell_29 : decode cX5_hasCell 29 = .ok (.ireturn, 1) := by decide +kernel
theorem dX5_isDense_0 : decode cX5_isDense 0 = .ok (.aload_n 0, 1) := by decide +kernel
theorem dX5_isDense_1 : decode cX5_isDense 1 = .ok (.getfield 21, 3) := by decide +kernel
theorem dX5_isDense_4 : decode cX5_isDense 4 = .ok (.iload_n 1, 1) := by decide +kernel
theorem dX5_isDense_5 : decode cX5_isDense 5 = .ok (.ishr, 1) := by decide +kernel
theorem dX5_isDense_6 : decode cX5_isDense 6 = .ok (.iconst 1, 1) := by decide +kernel
theorem dX5_isDense_7 : decode cX5_isDense 7 = .ok (.iand, 1) := by decide +kernel
theorem dX5_isDense_8 : decode cX5_isDense 8 = .ok (.ifCond .eq 7, 3) := by decide +kernel
theorem dX5_isDense_11 : decode cX5_isDense 11 = .ok (.iconst 1, 1) := by decide +kernel
theorem dX5_isDense_12 : decode cX5_isDense 12 = .ok (.goto 4, 3) := by decide +kernel
theorem dX5_isDense_15 : decode cX5_isDense 15 = .ok (.iconst 0, 1) := by decide +kernel
theorem dX5_isDense_16 : decode cX5_isDense 16 = .ok (.ireturn, 1) := by decide +kernel
theorem dX5_placeOf_0 : decode cX5_placeOf 0 = .ok (.iconst 0, 1) := by decide +kernel
theorem dX5_placeOf_1 : decode cX5_placeOf 1 = .ok (.istore_n 2, 1) := by decide +kernel
theorem dX5_placeOf_2 : decode cX5_placeOf 2 = .ok (.iload_n 2, 1) := by decide +kernel
theorem dX5_placeOf_3 : decode cX5_placeOf 3 = .ok (.aload_n 0, 1) := by decide +kernel
theorem dX5_placeOf_4 : decode cX5_placeOf 4 = .ok (.getfield 18, 3) := by decide +kernel
theorem dX5_placeOf_7 : decode cX5_placeOf 7 = .ok (.if_icmp .ge 21, 3) := by decide +kernel
theorem dX5_placeOf_10 : decode cX5_placeOf 10 = .ok (.aload_n 0, 1) := by decide +kernel
theorem dX5_placeOf_11 : decode cX5_placeOf 11 = .ok (.getfield 35, 3) := by decide +kernel
theorem dX5_placeOf_14 : decode cX5_placeOf 14 = .ok (.iload_n 2, 1) := by decide +kernel
theorem dX5_placeOf_15 : decode cX5_placeOf 15 = .ok (.iaload, 1) := by decide +kernel
theorem dX5_placeOf_16 : decode cX5_placeOf 16 = .ok (.iload_n 1, 1) := by decide +kernel
theorem dX5_placeOf_17 : decode cX5_placeOf 17 = .ok (.if_icmp .ne 5, 3) := by decide +kernel
theorem dX5_placeOf_20 : decode cX5_placeOf 20 = .ok (.iload_n 2, 1) := by decide +kernel
theorem dX5_placeOf_21 : decode cX5_placeOf 21 = .ok (.ireturn, 1) := by decide +kernel
theorem dX5_placeOf_22 : decode cX5_placeOf 22 = .ok (.iinc 2 1, 3) := by decide +kernel
theorem dX5_placeOf_25 : decode cX5_placeOf 25 = .ok (.goto (-23), 3) := by decide +kernel
theorem dX5_placeOf_28 : decode cX5_placeOf 28 = .ok (.iconst (-1), 1) := by decide +kernel
theorem dX5_placeOf_29 : decode cX5_placeOf 29 = .ok (.ireturn, 1) := by decide +kernel
theorem dX5_exchange_0 : decode cX5_exchange 0 = .ok (.aload_n 0, 1) := by decide +kernel
theorem dX5_exchange_1 : decode cX5_exchange 1 = .ok (.iload_n 1, 1) := by decide +kernel
theorem dX5_exchange_2 : decode cX5_exchange 2 = .ok (.invokevirtual 58, 3) := by decide +kernel
theorem dX5_exchange_5 : decode cX5_exchange 5 = .ok (.istore_n 3, 1) := by decide +kernel
theorem dX5_exchange_6 : decode cX5_exchange 6 = .ok (.aload_n 0, 1) := by decide +kernel
theorem dX5_exchange_7 : decode cX5_exchange 7 = .ok (.iload_n 2, 1) := by decide +kernel
theorem dX5_exchange_8 : decode cX5_exchange 8 = .ok (.invokevirtual 58, 3) := by decide +kernel
theorem dX5_exchange_11 : decode cX5_exchange 11 = .ok (.istore 4, 2) := by decide +kernel
theorem dX5_exchange_13 : decode cX5_exchange 13 = .ok (.iload_n 3, 1) := by decide +kernel
theorem dX5_exchange_14 : decode cX5_exchange 14 = .ok (.ifCond .lt 23, 3) := by decide +kernel
theorem dX5_exchange_17 : decode cX5_exchange 17 = .ok (.iload 4, 2) := by decide +kernel
theorem dX5_exchange_19 : decode cX5_exchange 19 = .ok (.ifCond .lt 18, 3) := by decide +kernel
theorem dX5_exchange_22 : decode cX5_exchange 22 = .ok (.aload_n 0, 1) := by decide +kernel
theorem dX5_exchange_23 : decode cX5_exchange 23 = .ok (.getfield 35, 3) := by decide +kernel
theorem dX5_exchange_26 : decode cX5_exchange 26 = .ok (.iload_n 3, 1) := by decide +kernel
theorem dX5_exchange_27 : decode cX5_exchange 27 = .ok (.iload_n 2, 1) := by decide +kernel
theorem dX5_exchange_28 : decode cX5_exchange 28 = .ok (.iastore, 1) := by decide +kernel
theorem dX5_exchange_29 : decode cX5_exchange 29 = .ok (.aload_n 0, 1) := by decide +kernel
theorem dX5_exchange_30 : decode cX5_exchange 30 = .ok (.getfield 35, 3) := by decide +kernel
theorem dX5_exchange_33 : decode cX5_exchange 33 = .ok (.iload 4, 2) := by decide +kernel
theorem dX5_exchange_35 : decode cX5_exchange 35 = .ok (.iload_n 1, 1) := by decide +kernel
theorem dX5_exchange_36 : decode cX5_exchange 36 = .ok (.iastore, 1) := by decide +kernel
theorem dX5_exchange_37 : decode cX5_exchange 37 = .ok (.return_, 1) := by decide +kernel
theorem dX5_inksOf_0 : decode cX5_inksOf 0 = .ok (.iconst 0, 1) := by decide +kernel
theorem dX5_inksOf_1 : decode cX5_inksOf 1 = .ok (.istore_n 3, 1) := by decide +kernel
theorem dX5_inksOf_2 : decode cX5_inksOf 2 = .ok (.iconst 0, 1) := by decide +kernel
theorem dX5_inksOf_3 : decode cX5_inksOf 3 = .ok (.istore 4, 2) := by decide +kernel
theorem dX5_inksOf_5 : decode cX5_inksOf 5 = .ok (.iload 4, 2) := by decide +kernel
theorem dX5_inksOf_7 : decode cX5_inksOf 7 = .ok (.aload_n 0, 1) := by decide +kernel
theorem dX5_inksOf_8 : decode cX5_inksOf 8 = .ok (.getfield 18, 3) := by decide +kernel
theorem dX5_inksOf_11 : decode cX5_inksOf 11 = .ok (.if_icmp .ge 34, 3) := by decide +kernel
theorem dX5_inksOf_14 : decode cX5_inksOf 14 = .ok (.aload_n 0, 1) := by decide +kernel
theorem dX5_inksOf_15 : decode cX5_inksOf 15 = .ok (.getfield 38, 3) := by decide +kernel
theorem dX5_inksOf_18 : decode cX5_inksOf 18 = .ok (.iload 4, 2) := by decide +kernel
theorem dX5_inksOf_20 : decode cX5_inksOf 20 = .ok (.laload, 1) := by decide +kernel
theorem dX5_inksOf_21 : decode cX5_inksOf 21 = .ok (.iload_n 1, 1) := by decide +kernel
theorem dX5_inksOf_22 : decode cX5_inksOf 22 = .ok (.iload_n 2, 1) := by decide +kernel
theorem dX5_inksOf_23 : decode cX5_inksOf 23 = .ok (.invokestatic 62, 3) := by decide +kernel
theorem dX5_inksOf_26 : decode cX5_inksOf 26 = .ok (.land, 1) := by decide +kernel
theorem dX5_inksOf_27 : decode cX5_inksOf 27 = .ok (.lconst 0, 1) := by decide +kernel
theorem dX5_inksOf_28 : decode cX5_inksOf 28 = .ok (.lcmp, 1) := by decide +kernel
theorem dX5_inksOf_29 : decode cX5_inksOf 29 = .ok (.ifCond .eq 10, 3) := by decide +kernel
theorem dX5_inksOf_32 : decode cX5_inksOf 32 = .ok (.iload_n 3, 1) := by decide +kernel
theorem dX5_inksOf_33 : decode cX5_inksOf 33 = .ok (.iconst 1, 1) := by decide +kernel
theorem dX5_inksOf_34 : decode cX5_inksOf 34 = .ok (.iload 4, 2) := by decide +kernel
theorem dX5_inksOf_36 : decode cX5_inksOf 36 = .ok (.ishl, 1) := by decide +kernel
theorem dX5_inksOf_37 : decode cX5_inksOf 37 = .ok (.ior, 1) := by decide +kernel
theorem dX5_inksOf_38 : decode cX5_inksOf 38 = .ok (.istore_n 3, 1) := by decide +kernel
theorem dX5_inksOf_39 : decode cX5_inksOf 39 = .ok (.iinc 4 1, 3) := by decide +kernel
theorem dX5_inksOf_42 : decode cX5_inksOf 42 = .ok (.goto (-37), 3) := by decide +kernel
theorem dX5_inksOf_45 : decode cX5_inksOf 45 = .ok (.iload_n 3, 1) := by decide +kernel
theorem dX5_inksOf_46 : decode cX5_inksOf 46 = .ok (.ireturn, 1) := by decide +kernel
theorem dX5_cellsOfBlocks_0 : decode cX5_cellsOfBlocks 0 = .ok (.iconst 0, 1) := by decide +kernel
theorem dX5_cellsOfBlocks_1 : decode cX5_cellsOfBlocks 1 = .ok (.istore_n 1, 1) := by decide +kernel
theorem dX5_cellsOfBlocks_2 : decode cX5_cellsOfBlocks 2 = .ok (.iconst 0, 1) := by decide +kernel
theorem dX5_cellsOfBlocks_3 : decode cX5_cellsOfBlocks 3 = .ok (.istore_n 2, 1) := by decide +kernel
theorem dX5_cellsOfBlocks_4 : decode cX5_cellsOfBlocks 4 = .ok (.iload_n 2, 1) := by decide +kernel
theorem dX5_cellsOfBlocks_5 : decode cX5_cellsOfBlocks 5 = .ok (.aload_n 0, 1) := by decide +kernel
theorem dX5_cellsOfBlocks_6 : decode cX5_cellsOfBlocks 6 = .ok (.getfield 18, 3) := by decide +kernel
theorem dX5_cellsOfBlocks_9 : decode cX5_cellsOfBlocks 9 = .ok (.if_icmp .ge 21, 3) := by decide +kernel
theorem dX5_cellsOfBlocks_12 : decode cX5_cellsOfBlocks 12 = .ok (.iload_n 1, 1) := by decide +kernel
theorem dX5_cellsOfBlocks_13 : decode cX5_cellsOfBlocks 13 = .ok (.aload_n 0, 1) := by decide +kernel
theorem dX5_cellsOfBlocks_14 : decode cX5_cellsOfBlocks 14 = .ok (.getfield 38, 3) := by decide +kernel
theorem dX5_cellsOfBlocks_17 : decode cX5_cellsOfBlocks 17 = .ok (.iload_n 2, 1) := by decide +kernel
theorem dX5_cellsOfBlocks_18 : decode cX5_cellsOfBlocks 18 = .ok (.laload, 1) := by decide +kernel
theorem dX5_cellsOfBlocks_19 : decode cX5_cellsOfBlocks 19 = .ok (.invokestatic 66, 3) := by decide +kernel
theorem dX5_cellsOfBlocks_22 : decode cX5_cellsOfBlocks 22 = .ok (.iadd, 1) := by decide +kernel
theorem dX5_cellsOfBlocks_23 : decode cX5_cellsOfBlocks 23 = .ok (.istore_n 1, 1) := by decide +kernel
theorem dX5_cellsOfBlocks_24 : decode cX5_cellsOfBlocks 24 = .ok (.iinc 2 1, 3) := by decide +kernel
theorem dX5_cellsOfBlocks_27 : decode cX5_cellsOfBlocks 27 = .ok (.goto (-23), 3) := by decide +kernel
theorem dX5_cellsOfBlocks_30 : decode cX5_cellsOfBlocks 30 = .ok (.iload_n 1, 1) := by decide +kernel
theorem dX5_cellsOfBlocks_31 : decode cX5_cellsOfBlocks 31 = .ok (.ireturn, 1) := by decide +kernel
theorem dX5_slippedBlocks_0 : decode cX5_slippedBlocks 0 = .ok (.iconst 0, 1) := by decide +kernel
theorem dX5_slippedBlocks_1 : decode cX5_slippedBlocks 1 = .ok (.istore_n 1, 1) := by decide +kernel
theorem dX5_slippedBlocks_2 : decode cX5_slippedBlocks 2 = .ok (.iconst 0, 1) := by decide +kernel
theorem dX5_slippedBlocks_3 : decode cX5_slippedBlocks 3 = .ok (.istore_n 2, 1) := by decide +kernel
theorem dX5_slippedBlocks_4 : decode cX5_slippedBlocks 4 = .ok (.iload_n 2, 1) := by decide +kernel
theorem dX5_slippedBlocks_5 : decode cX5_slippedBlocks 5 = .ok (.aload_n 0, 1) := by decide +kernel
theorem dX5_slippedBlocks_6 : decode cX5_slippedBlocks 6 = .ok (.getfield 18, 3) := by decide +kernel
theorem dX5_slippedBlocks_9 : decode cX5_slippedBlocks 9 = .ok (.if_icmp .ge 22, 3) := by decide +kernel
theorem dX5_slippedBlocks_12 : decode cX5_slippedBlocks 12 = .ok (.aload_n 0, 1) := by decide +kernel
theorem dX5_slippedBlocks_13 : decode cX5_slippedBlocks 13 = .ok (.getfield 42, 3) := by decide +kernel
theorem dX5_slippedBlocks_16 : decode cX5_slippedBlocks 16 = .ok (.iload_n 2, 1) := by decide +kernel
theorem dX5_slippedBlocks_17 : decode cX5_slippedBlocks 17 = .ok (.iaload, 1) := by decide +kernel
theorem dX5_slippedBlocks_18 : decode cX5_slippedBlocks 18 = .ok (.iconst 4, 1) := by decide +kernel
theorem dX5_slippedBlocks_19 : decode cX5_slippedBlocks 19 = .ok (.if_icmp .eq 6, 3) := by decide +kernel
theorem dX5_slippedBlocks_22 : decode cX5_slippedBlocks 22 = .ok (.iinc 1 1, 3) := by decide +kernel
theorem dX5_slippedBlocks_25 : decode cX5_slippedBlocks 25 = .ok (.iinc 2 1, 3) := by decide +kernel
theorem dX5_slippedBlocks_28 : decode cX5_slippedBlocks 28 = .ok (.goto (-24), 3) := by decide +kernel
theorem dX5_slippedBlocks_31 : decode cX5_slippedBlocks 31 = .ok (.iload_n 1, 1) := by decide +kernel
theorem dX5_slippedBlocks_32 : decode cX5_slippedBlocks 32 = .ok (.ireturn, 1) := by decide +kernel
theorem dX5_paper_0 : decode cX5_paper 0 = .ok (.lconst 1, 1) := by decide +kernel
theorem dX5_paper_1 : decode cX5_paper 1 = .ok (.aload_n 0, 1) := by decide +kernel
theorem dX5_paper_2 : decode cX5_paper 2 = .ok (.getfield 9, 3) := by decide +kernel
theorem dX5_paper_5 : decode cX5_paper 5 = .ok (.lshl, 1) := by decide +kernel
theorem dX5_paper_6 : decode cX5_paper 6 = .ok (.lconst 1, 1) := by decide +kernel
theorem dX5_paper_7 : decode cX5_paper 7 = .ok (.lsub, 1) := by decide +kernel
theorem dX5_paper_8 : decode cX5_paper 8 = .ok (.lstore_n 1, 1) := by decide +kernel
theorem dX5_paper_9 : decode cX5_paper 9 = .ok (.lconst 0, 1) := by decide +kernel
theorem dX5_paper_10 : decode cX5_paper 10 = .ok (.lstore_n 3, 1) := by decide +kernel
theorem dX5_paper_11 : decode cX5_paper 11 = .ok (.iconst 0, 1) := by decide +kernel
theorem dX5_paper_12 : decode cX5_paper 12 = .ok (.istore 5, 2) := by decide +kernel
theorem dX5_paper_14 : decode cX5_paper 14 = .ok (.iload 5, 2) := by decide +kernel
theorem dX5_paper_16 : decode cX5_paper 16 = .ok (.aload_n 0, 1) := by decide +kernel
theorem dX5_paper_17 : decode cX5_paper 17 = .ok (.getfield 15, 3) := by decide +kernel
theorem dX5_paper_20 : decode cX5_paper 20 = .ok (.if_icmp .ge 19, 3) := by decide +kernel
theorem dX5_paper_23 : decode cX5_paper 23 = .ok (.lload_n 3, 1) := by decide +kernel
theorem dX5_paper_24 : decode cX5_paper 24 = .ok (.lload_n 1, 1) := by decide +kernel
theorem dX5_paper_25 : decode cX5_paper 25 = .ok (.bipush 8, 2) := by decide +kernel
theorem dX5_paper_27 : decode cX5_paper 27 = .ok (.iload 5, 2) := by decide +kernel
theorem dX5_paper_29 : decode cX5_paper 29 = .ok (.imul, 1) := by decide +kernel
theorem dX5_paper_30 : decode cX5_paper 30 = .ok (.lshl, 1) := by decide +kernel
theorem dX5_paper_31 : decode cX5_paper 31 = .ok (.lor, 1) := by decide +kernel
theorem dX5_paper_32 : decode cX5_paper 32 = .ok (.lstore_n 3, 1) := by decide +kernel
theorem dX5_paper_33 : decode cX5_paper 33 = .ok (.iinc 5 1, 3) := by decide +kernel
theorem dX5_paper_36 : decode cX5_paper 36 = .ok (.goto (-22), 3) := by decide +kernel
theorem dX5_paper_39 : decode cX5_paper 39 = .ok (.lload_n 3, 1) := by decide +kernel
theorem dX5_paper_40 : decode cX5_paper 40 = .ok (.lreturn, 1) := by decide +kernel
theorem dX5_proofInto_0 : decode cX5_proofInto 0 = .ok (.aload_n 0, 1) := by decide +kernel
theorem dX5_proofInto_1 : decode cX5_proofInto 1 = .ok (.invokevirtual 72, 3) := by decide +kernel
theorem dX5_proofInto_4 : decode cX5_proofInto 4 = .ok (.lstore 4, 2) := by decide +kernel
theorem dX5_proofInto_6 : decode cX5_proofInto 6 = .ok (.aload_n 1, 1) := by decide +kernel
theorem dX5_proofInto_7 : decode cX5_proofInto 7 = .ok (.invokevirtual 55, 3) := by decide +kernel
theorem dX5_proofInto_10 : decode cX5_proofInto 10 = .ok (.iconst 0, 1) := by decide +kernel
theorem dX5_proofInto_11 : decode cX5_proofInto 11 = .ok (.istore 6, 2) := by decide +kernel
theorem dX5_proofInto_13 : decode cX5_proofInto 13 = .ok (.iload 6, 2) := by decide +kernel
theorem dX5_proofInto_15 : decode cX5_proofInto 15 = .ok (.aload_n 0, 1) := by decide +kernel
theorem dX5_proofInto_16 : decode cX5_proofInto 16 = .ok (.getfield 18, 3) := by decide +kernel
theorem dX5_proofInto_19 : decode cX5_proofInto 19 = .ok (.if_icmp .ge 69, 3) := by decide +kernel
theorem dX5_proofInto_22 : decode cX5_proofInto 22 = .ok (.aload_n 0, 1) := by decide +kernel
theorem dX5_proofInto_23 : decode cX5_proofInto 23 = .ok (.getfield 35, 3) := by decide +kernel
theorem dX5_proofInto_26 : decode cX5_proofInto 26 = .ok (.iload 6, 2) := by decide +kernel
theorem dX5_proofInto_28 : decode cX5_proofInto 28 = .ok (.iaload, 1) := by decide +kernel
theorem dX5_proofInto_29 : decode cX5_proofInto 29 = .ok (.istore 7, 2) := by decide +kernel
theorem dX5_proofInto_31 : decode cX5_proofInto 31 = .ok (.aload_n 0, 1) := by decide +kernel
theorem dX5_proofInto_32 : decode cX5_proofInto 32 = .ok (.getfield 38, 3) := by decide +kernel
theorem dX5_proofInto_35 : decode cX5_proofInto 35 = .ok (.iload 7, 2) := by decide +kernel
theorem dX5_proofInto_37 : decode cX5_proofInto 37 = .ok (.laload, 1) := by decide +kernel
theorem dX5_proofInto_38 : decode cX5_proofInto 38 = .ok (.iload 7, 2) := by decide +kernel
theorem dX5_proofInto_40 : decode cX5_proofInto 40 = .ok (.iload_n 2, 1) := by decide +kernel
theorem dX5_proofInto_41 : decode cX5_proofInto 41 = .ok (.if_icmp .ne 7, 3) := by decide +kernel
theorem dX5_proofInto_44 : decode cX5_proofInto 44 = .ok (.iload_n 3, 1) := by decide +kernel
theorem dX5_proofInto_45 : decode cX5_proofInto 45 = .ok (.goto 10, 3) := by decide +kernel
theorem dX5_proofInto_48 : decode cX5_proofInto 48 = .ok (.aload_n 0, 1) := by decide +kernel
theorem dX5_proofInto_49 : decode cX5_proofInto 49 = .ok (.getfield 42, 3) := by decide +kernel
theorem dX5_proofInto_52 : decode cX5_proofInto 52 = .ok (.iload 7, 2) := by decide +kernel
theorem dX5_proofInto_54 : decode cX5_proofInto 54 = .ok (.iaload, 1) := by decide +kernel
theorem dX5_proofInto_55 : decode cX5_proofInto 55 = .ok (.invokestatic 76, 3) := by decide +kernel
theorem dX5_proofInto_58 : decode cX5_proofInto 58 = .ok (.lstore 8, 2) := by decide +kernel
theorem dX5_proofInto_60 : decode cX5_proofInto 60 = .ok (.aload_n 1, 1) := by decide +kernel
theorem dX5_proofInto_61 : decode cX5_proofInto 61 = .ok (.lload 8, 2) := by decide +kernel
theorem dX5_proofInto_63 : decode cX5_proofInto 63 = .ok (.lload 4, 2) := by decide +kernel
theorem dX5_proofInto_65 : decode cX5_proofInto 65 = .ok (.land, 1) := by decide +kernel
theorem dX5_proofInto_66 : decode cX5_proofInto 66 = .ok (.aload_n 0, 1) := by decide +kernel
theorem dX5_proofInto_67 : decode cX5_proofInto 67 = .ok (.getfield 31, 3) := by decide +kernel
theorem dX5_proofInto_70 : decode cX5_proofInto 70 = .ok (.iload 7, 2) := by decide +kernel
theorem dX5_proofInto_72 : decode cX5_proofInto 72 = .ok (.iaload, 1) := by decide +kernel
theorem dX5_proofInto_73 : decode cX5_proofInto 73 = .ok (.aload_n 0, 1) := by decide +kernel
theorem dX5_proofInto_74 : decode cX5_proofInto 74 = .ok (.iload 7, 2) := by decide +kernel
theorem dX5_proofInto_76 : decode cX5_proofInto 76 = .ok (.invokevirtual 80, 3) := by decide +kernel
theorem dX5_proofInto_79 : decode cX5_proofInto 79 = .ok (.invokevirtual 84, 3) := by decide +kernel
theorem dX5_proofInto_82 : decode cX5_proofInto 82 = .ok (.iinc 6 1, 3) := by decide +kernel
theorem dX5_proofInto_85 : decode cX5_proofInto 85 = .ok (.goto (-72), 3) := by decide +kernel
theorem dX5_proofInto_88 : decode cX5_proofInto 88 = .ok (.return_, 1) := by decide +kernel
theorem dX5_palette_0 : decode cX5_palette 0 = .ok (.aload_n 0, 1) := by decide +kernel
theorem dX5_palette_1 : decode cX5_palette 1 = .ok (.invokevirtual 72, 3) := by decide +kernel
theorem dX5_palette_4 : decode cX5_palette 4 = .ok (.lstore_n 1, 1) := by decide +kernel
theorem dX5_palette_5 : decode cX5_palette 5 = .ok (.iconst 0, 1) := by decide +kernel
theorem dX5_palette_6 : decode cX5_palette 6 = .ok (.istore_n 3, 1) := by decide +kernel
theorem dX5_palette_7 : decode cX5_palette 7 = .ok (.iconst 0, 1) := by decide +kernel
theorem dX5_palette_8 : decode cX5_palette 8 = .ok (.istore 4, 2) := by decide +kernel
theorem dX5_palette_10 : decode cX5_palette 10 = .ok (.iload 4, 2) := by decide +kernel
theorem dX5_palette_12 : decode cX5_palette 12 = .ok (.bipush 8, 2) := by decide +kernel
theorem dX5_palette_14 : decode cX5_palette 14 = .ok (.if_icmp .ge 32, 3) := by decide +kernel
theorem dX5_palette_17 : decode cX5_palette 17 = .ok (.aload_n 0, 1) := by decide +kernel
theorem dX5_palette_18 : decode cX5_palette 18 = .ok (.getfield 27, 3) := by decide +kernel
theorem dX5_palette_21 : decode cX5_palette 21 = .ok (.iload 4, 2) := by decide +kernel
theorem dX5_palette_23 : decode cX5_palette 23 = .ok (.invokevirtual 88, 3) := by decide +kernel
theorem dX5_palette_26 : decode cX5_palette 26 = .ok (.lload_n 1, 1) := by decide +kernel
theorem dX5_palette_27 : decode cX5_palette 27 = .ok (.land, 1) := by decide +kernel
theorem dX5_palette_28 : decode cX5_palette 28 = .ok (.lconst 0, 1) := by decide +kernel
theorem dX5_palette_29 : decode cX5_palette 29 = .ok (.lcmp, 1) := by decide +kernel
theorem dX5_palette_30 : decode cX5_palette 30 = .ok (.ifCond .eq 10, 3) := by decide +kernel
theorem dX5_palette_33 : decode cX5_palette 33 = .ok (.iload_n 3, 1) := by decide +kernel
theorem dX5_palette_34 : decode cX5_palette 34 = .ok (.iconst 1, 1) := by decide +kernel
theorem dX5_palette_35 : decode cX5_palette 35 = .ok (.iload 4, 2) := by decide +kernel
theorem dX5_palette_37 : decode cX5_palette 37 = .ok (.ishl, 1) := by decide +kernel
theorem dX5_palette_38 : decode cX5_palette 38 = .ok (.ior, 1) := by decide +kernel
theorem dX5_palette_39 : decode cX5_palette 39 = .ok (.istore_n 3, 1) := by decide +kernel
theorem dX5_palette_40 : decode cX5_palette 40 = .ok (.iinc 4 1, 3) := by decide +kernel
theorem dX5_palette_43 : decode cX5_palette 43 = .ok (.goto (-33), 3) := by decide +kernel
theorem dX5_palette_46 : decode cX5_palette 46 = .ok (.iload_n 3, 1) := by decide +kernel
theorem dX5_palette_47 : decode cX5_palette 47 = .ok (.ireturn, 1) := by decide +kernel
theorem dX5_sets_0 : decode cX5_sets 0 = .ok (.iconst 1, 1) := by decide +kernel
theorem dX5_sets_1 : decode cX5_sets 1 = .ok (.aload_n 0, 1) := by decide +kernel
theorem dX5_sets_2 : decode cX5_sets 2 = .ok (.getfield 18, 3) := by decide +kernel
theorem dX5_sets_5 : decode cX5_sets 5 = .ok (.ishl, 1) := by decide +kernel
theorem dX5_sets_6 : decode cX5_sets 6 = .ok (.ireturn, 1) := by decide +kernel
theorem dX5_coloursOver_0 : decode cX5_coloursOver 0 = .ok (.aload_n 0, 1) := by decide +kernel
theorem dX5_coloursOver_1 : decode cX5_coloursOver 1 = .ok (.iload_n 2, 1) := by decide +kernel
theorem dX5_coloursOver_2 : decode cX5_coloursOver 2 = .ok (.invokevirtual 80, 3) := by decide +kernel
theorem dX5_coloursOver_5 : decode cX5_coloursOver 5 = .ok (.ifCond .eq 12, 3) := by decide +kernel
theorem dX5_coloursOver_8 : decode cX5_coloursOver 8 = .ok (.iconst 1, 1) := by decide +kernel
theorem dX5_coloursOver_9 : decode cX5_coloursOver 9 = .ok (.aload_n 0, 1) := by decide +kernel
theorem dX5_coloursOver_10 : decode cX5_coloursOver 10 = .ok (.getfield 31, 3) := by decide +kernel
theorem dX5_coloursOver_13 : decode cX5_coloursOver 13 = .ok (.iload_n 2, 1) := by decide +kernel
theorem dX5_coloursOver_14 : decode cX5_coloursOver 14 = .ok (.iaload, 1) := by decide +kernel
theorem dX5_coloursOver_15 : decode cX5_coloursOver 15 = .ok (.ishl, 1) := by decide +kernel
theorem dX5_coloursOver_16 : decode cX5_coloursOver 16 = .ok (.ireturn, 1) := by decide +kernel
theorem dX5_coloursOver_17 : decode cX5_coloursOver 17 = .ok (.iload_n 1, 1) := by decide +kernel
theorem dX5_coloursOver_18 : decode cX5_coloursOver 18 = .ok (.istore_n 3, 1) := by decide +kernel
theorem dX5_coloursOver_19 : decode cX5_coloursOver 19 = .ok (.iconst 0, 1) := by decide +kernel
theorem dX5_coloursOver_20 : decode cX5_coloursOver 20 = .ok (.istore 4, 2) := by decide +kernel
theorem dX5_coloursOver_22 : decode cX5_coloursOver 22 = .ok (.iload 4, 2) := by decide +kernel
theorem dX5_coloursOver_24 : decode cX5_coloursOver 24 = .ok (.getstatic 92, 3) := by decide +kernel
theorem dX5_coloursOver_27 : decode cX5_coloursOver 27 = .ok (.arraylength, 1) := by decide +kernel
theorem dX5_coloursOver_28 : decode cX5_coloursOver 28 = .ok (.if_icmp .ge 48, 3) := by decide +kernel
theorem dX5_coloursOver_31 : decode cX5_coloursOver 31 = .ok (.aload_n 0, 1) := by decide +kernel
theorem dX5_coloursOver_32 : decode cX5_coloursOver 32 = .ok (.getfield 31, 3) := by decide +kernel
theorem dX5_coloursOver_35 : decode cX5_coloursOver 35 = .ok (.iload_n 2, 1) := by decide +kernel
theorem dX5_coloursOver_36 : decode cX5_coloursOver 36 = .ok (.iaload, 1) := by decide +kernel
theorem dX5_coloursOver_37 : decode cX5_coloursOver 37 = .ok (.iload 4, 2) := by decide +kernel
theorem dX5_coloursOver_39 : decode cX5_coloursOver 39 = .ok (.ishr, 1) := by decide +kernel
theorem dX5_coloursOver_40 : decode cX5_coloursOver 40 = .ok (.iconst 1, 1) := by decide +kernel
theorem dX5_coloursOver_41 : decode cX5_coloursOver 41 = .ok (.iand, 1) := by decide +kernel
theorem dX5_coloursOver_42 : decode cX5_coloursOver 42 = .ok (.ifCond .eq 28, 3) := by decide +kernel
theorem dX5_coloursOver_45 : decode cX5_coloursOver 45 = .ok (.getstatic 92, 3) := by decide +kernel
theorem dX5_coloursOver_48 : decode cX5_coloursOver 48 = .ok (.iload 4, 2) := by decide +kernel
theorem dX5_coloursOver_50 : decode cX5_coloursOver 50 = .ok (.iaload, 1) := by decide +kernel
theorem dX5_coloursOver_51 : decode cX5_coloursOver 51 = .ok (.istore 5, 2) := by decide +kernel
theorem dX5_coloursOver_53 : decode cX5_coloursOver 53 = .ok (.iload_n 3, 1) := by decide +kernel
theorem dX5_coloursOver_54 : decode cX5_coloursOver 54 = .ok (.iload 5, 2) := by decide +kernel
theorem dX5_coloursOver_56 : decode cX5_coloursOver 56 = .ok (.iand, 1) := by decide +kernel
theorem dX5_coloursOver_57 : decode cX5_coloursOver 57 = .ok (.iload_n 3, 1) := by decide +kernel
theorem dX5_coloursOver_58 : decode cX5_coloursOver 58 = .ok (.iload 5, 2) := by decide +kernel
theorem dX5_coloursOver_60 : decode cX5_coloursOver 60 = .ok (.iconst (-1), 1) := by decide +kernel
theorem dX5_coloursOver_61 : decode cX5_coloursOver 61 = .ok (.ixor, 1) := by decide +kernel
theorem dX5_coloursOver_62 : decode cX5_coloursOver 62 = .ok (.iand, 1) := by decide +kernel
theorem dX5_coloursOver_63 : decode cX5_coloursOver 63 = .ok (.iconst 1, 1) := by decide +kernel
theorem dX5_coloursOver_64 : decode cX5_coloursOver 64 = .ok (.iload 4, 2) := by decide +kernel
theorem dX5_coloursOver_66 : decode cX5_coloursOver 66 = .ok (.ishl, 1) := by decide +kernel
theorem dX5_coloursOver_67 : decode cX5_coloursOver 67 = .ok (.ishl, 1) := by decide +kernel
theorem dX5_coloursOver_68 : decode cX5_coloursOver 68 = .ok (.ior, 1) := by decide +kernel
theorem dX5_coloursOver_69 : decode cX5_coloursOver 69 = .ok (.istore_n 3, 1) := by decide +kernel
theorem dX5_coloursOver_70 : decode cX5_coloursOver 70 = .ok (.iinc 4 1, 3) := by decide +kernel
theorem dX5_coloursOver_73 : decode cX5_coloursOver 73 = .ok (.goto (-51), 3) := by decide +kernel
theorem dX5_coloursOver_76 : decode cX5_coloursOver 76 = .ok (.iload_n 3, 1) := by decide +kernel
theorem dX5_coloursOver_77 : decode cX5_coloursOver 77 = .ok (.ireturn, 1) := by decide +kernel
theorem dX5_coloursBy_0 : decode cX5_coloursBy 0 = .ok (.iconst 1, 1) := by decide +kernel
theorem dX5_coloursBy_1 : decode cX5_coloursBy 1 = .ok (.istore_n 2, 1) := by decide +kernel
theorem dX5_coloursBy_2 : decode cX5_coloursBy 2 = .ok (.iconst 0, 1) := by decide +kernel
theorem dX5_coloursBy_3 : decode cX5_coloursBy 3 = .ok (.istore_n 3, 1) := by decide +kernel
theorem dX5_coloursBy_4 : decode cX5_coloursBy 4 = .ok (.iload_n 3, 1) := by decide +kernel
theorem dX5_coloursBy_5 : decode cX5_coloursBy 5 = .ok (.aload_n 0, 1) := by decide +kernel
theorem dX5_coloursBy_6 : decode cX5_coloursBy 6 = .ok (.getfield 18, 3) := by decide +kernel
theorem dX5_coloursBy_9 : decode cX5_coloursBy 9 = .ok (.if_icmp .ge 36, 3) := by decide +kernel
theorem dX5_coloursBy_12 : decode cX5_coloursBy 12 = .ok (.aload_n 0, 1) := by decide +kernel
theorem dX5_coloursBy_13 : decode cX5_coloursBy 13 = .ok (.getfield 35, 3) := by decide +kernel
theorem dX5_coloursBy_16 : decode cX5_coloursBy 16 = .ok (.iload_n 3, 1) := by decide +kernel
theorem dX5_coloursBy_17 : decode cX5_coloursBy 17 = .ok (.iaload, 1) := by decide +kernel
theorem dX5_coloursBy_18 : decode cX5_coloursBy 18 = .ok (.istore 4, 2) := by decide +kernel
theorem dX5_coloursBy_20 : decode cX5_coloursBy 20 = .ok (.iload_n 1, 1) := by decide +kernel
theorem dX5_coloursBy_21 : decode cX5_coloursBy 21 = .ok (.iload 4, 2) := by decide +kernel
theorem dX5_coloursBy_23 : decode cX5_coloursBy 23 = .ok (.ishr, 1) := by decide +kernel
theorem dX5_coloursBy_24 : decode cX5_coloursBy 24 = .ok (.iconst 1, 1) := by decide +kernel
theorem dX5_coloursBy_25 : decode cX5_coloursBy 25 = .ok (.iand, 1) := by decide +kernel
theorem dX5_coloursBy_26 : decode cX5_coloursBy 26 = .ok (.ifCond .eq 13, 3) := by decide +kernel
theorem dX5_coloursBy_29 : decode cX5_coloursBy 29 = .ok (.iload_n 2, 1) := by decide +kernel
theorem dX5_coloursBy_30 : decode cX5_coloursBy 30 = .ok (.aload_n 0, 1) := by decide +kernel
theorem dX5_coloursBy_31 : decode cX5_coloursBy 31 = .ok (.iload_n 2, 1) := by decide +kernel
theorem dX5_coloursBy_32 : decode cX5_coloursBy 32 = .ok (.iload 4, 2) := by decide +kernel
theorem dX5_coloursBy_34 : decode cX5_coloursBy 34 = .ok (.invokevirtual 95, 3) := by decide +kernel
theorem dX5_coloursBy_37 : decode cX5_coloursBy 37 = .ok (.ior, 1) := by decide +kernel
theorem dX5_coloursBy_38 : decode cX5_coloursBy 38 = .ok (.istore_n 2, 1) := by decide +kernel
theorem dX5_coloursBy_39 : decode cX5_coloursBy 39 = .ok (.iinc 3 1, 3) := by decide +kernel
theorem dX5_coloursBy_42 : decode cX5_coloursBy 42 = .ok (.goto (-38), 3) := by decide +kernel
theorem dX5_coloursBy_45 : decode cX5_coloursBy 45 = .ok (.iload_n 2, 1) := by decide +kernel
theorem dX5_coloursBy_46 : decode cX5_coloursBy 46 = .ok (.ireturn, 1) := by decide +kernel
theorem dX5_leastSet_0 : decode cX5_leastSet 0 = .ok (.aload_n 0, 1) := by decide +kernel
theorem dX5_leastSet_1 : decode cX5_leastSet 1 = .ok (.invokevirtual 99, 3) := by decide +kernel
theorem dX5_leastSet_4 : decode cX5_leastSet 4 = .ok (.istore_n 1, 1) := by decide +kernel
theorem dX5_leastSet_5 : decode cX5_leastSet 5 = .ok (.bipush (-9), 2) := by decide +kernel
theorem dX5_leastSet_7 : decode cX5_leastSet 7 = .ok (.istore_n 2, 1) := by decide +kernel
theorem dX5_leastSet_8 : decode cX5_leastSet 8 = .ok (.iconst 0, 1) := by decide +kernel
theorem dX5_leastSet_9 : decode cX5_leastSet 9 = .ok (.istore_n 3, 1) := by decide +kernel
theorem dX5_leastSet_10 : decode cX5_leastSet 10 = .ok (.iload_n 3, 1) := by decide +kernel
theorem dX5_leastSet_11 : decode cX5_leastSet 11 = .ok (.aload_n 0, 1) := by decide +kernel
theorem dX5_leastSet_12 : decode cX5_leastSet 12 = .ok (.invokevirtual 103, 3) := by decide +kernel
theorem dX5_leastSet_15 : decode cX5_leastSet 15 = .ok (.if_icmp .ge 52, 3) := by decide +kernel
theorem dX5_leastSet_18 : decode cX5_leastSet 18 = .ok (.iload_n 2, 1) := by decide +kernel
theorem dX5_leastSet_19 : decode cX5_leastSet 19 = .ok (.bipush (-9), 2) := by decide +kernel
theorem dX5_leastSet_21 : decode cX5_leastSet 21 = .ok (.if_icmp .eq 14, 3) := by decide +kernel
theorem dX5_leastSet_24 : decode cX5_leastSet 24 = .ok (.iload_n 3, 1) := by decide +kernel
theorem dX5_leastSet_25 : decode cX5_leastSet 25 = .ok (.invokestatic 106, 3) := by decide +kernel
theorem dX5_leastSet_28 : decode cX5_leastSet 28 = .ok (.iload_n 2, 1) := by decide +kernel
theorem dX5_leastSet_29 : decode cX5_leastSet 29 = .ok (.invokestatic 106, 3) := by decide +kernel
theorem dX5_leastSet_32 : decode cX5_leastSet 32 = .ok (.if_icmp .ge 7, 3) := by decide +kernel
theorem dX5_leastSet_35 : decode cX5_leastSet 35 = .ok (.iconst 1, 1) := by decide +kernel
theorem dX5_leastSet_36 : decode cX5_leastSet 36 = .ok (.goto 4, 3) := by decide +kernel
theorem dX5_leastSet_39 : decode cX5_leastSet 39 = .ok (.iconst 0, 1) := by decide +kernel
theorem dX5_leastSet_40 : decode cX5_leastSet 40 = .ok (.istore 4, 2) := by decide +kernel
theorem dX5_leastSet_42 : decode cX5_leastSet 42 = .ok (.iload 4, 2) := by decide +kernel
theorem dX5_leastSet_44 : decode cX5_leastSet 44 = .ok (.ifCond .eq 17, 3) := by decide +kernel
theorem dX5_leastSet_47 : decode cX5_leastSet 47 = .ok (.iload_n 1, 1) := by decide +kernel
theorem dX5_leastSet_48 : decode cX5_leastSet 48 = .ok (.aload_n 0, 1) := by decide +kernel
theorem dX5_leastSet_49 : decode cX5_leastSet 49 = .ok (.iload_n 3, 1) := by decide +kernel
theorem dX5_leastSet_50 : decode cX5_leastSet 50 = .ok (.invokevirtual 110, 3) := by decide +kernel
theorem dX5_leastSet_53 : decode cX5_leastSet 53 = .ok (.iconst (-1), 1) := by decide +kernel
theorem dX5_leastSet_54 : decode cX5_leastSet 54 = .ok (.ixor, 1) := by decide +kernel
theorem dX5_leastSet_55 : decode cX5_leastSet 55 = .ok (.iand, 1) := by decide +kernel
theorem dX5_leastSet_56 : decode cX5_leastSet 56 = .ok (.ifCond .ne 5, 3) := by decide +kernel
theorem dX5_leastSet_59 : decode cX5_leastSet 59 = .ok (.iload_n 3, 1) := by decide +kernel
theorem dX5_leastSet_60 : decode cX5_leastSet 60 = .ok (.istore_n 2, 1) := by decide +kernel
theorem dX5_leastSet_61 : decode cX5_leastSet 61 = .ok (.iinc 3 1, 3) := by decide +kernel
theorem dX5_leastSet_64 : decode cX5_leastSet 64 = .ok (.goto (-54), 3) := by decide +kernel
theorem dX5_leastSet_67 : decode cX5_leastSet 67 = .ok (.iload_n 2, 1) := by decide +kernel
theorem dX5_leastSet_68 : decode cX5_leastSet 68 = .ok (.ireturn, 1) := by decide +kernel
theorem dX5_colourOfAll_0 : decode cX5_colourOfAll 0 = .ok (.iconst 0, 1) := by decide +kernel
theorem dX5_colourOfAll_1 : decode cX5_colourOfAll 1 = .ok (.istore_n 2, 1) := by decide +kernel
theorem dX5_colourOfAll_2 : decode cX5_colourOfAll 2 = .ok (.iconst 0, 1) := by decide +kernel
theorem dX5_colourOfAll_3 : decode cX5_colourOfAll 3 = .ok (.istore_n 3, 1) := by decide +kernel
theorem dX5_colourOfAll_4 : decode cX5_colourOfAll 4 = .ok (.iload_n 3, 1) := by decide +kernel
theorem dX5_colourOfAll_5 : decode cX5_colourOfAll 5 = .ok (.aload_n 0, 1) := by decide +kernel
theorem dX5_colourOfAll_6 : decode cX5_colourOfAll 6 = .ok (.getfield 18, 3) := by decide +kernel
theorem dX5_colourOfAll_9 : decode cX5_colourOfAll 9 = .ok (.if_icmp .ge 55, 3) := by decide +kernel
theorem dX5_colourOfAll_12 : decode cX5_colourOfAll 12 = .ok (.aload_n 0, 1) := by decide +kernel
theorem dX5_colourOfAll_13 : decode cX5_colourOfAll 13 = .ok (.getfield 35, 3) := by decide +kernel
theorem dX5_colourOfAll_16 : decode cX5_colourOfAll 16 = .ok (.iload_n 3, 1) := by decide +kernel
theorem dX5_colourOfAll_17 : decode cX5_colourOfAll 17 = .ok (.iaload, 1) := by decide +kernel
theorem dX5_colourOfAll_18 : decode cX5_colourOfAll 18 = .ok (.istore 4, 2) := by decide +kernel
theorem dX5_colourOfAll_20 : decode cX5_colourOfAll 20 = .ok (.iload_n 1, 1) := by decide +kernel
theorem dX5_colourOfAll_21 : decode cX5_colourOfAll 21 = .ok (.iload 4, 2) := by decide +kernel
theorem dX5_colourOfAll_23 : decode cX5_colourOfAll 23 = .ok (.ishr, 1) := by decide +kernel
theorem dX5_colourOfAll_24 : decode cX5_colourOfAll 24 = .ok (.iconst 1, 1) := by decide +kernel
theorem dX5_colourOfAll_25 : decode cX5_colourOfAll 25 = .ok (.iand, 1) := by decide +kernel
theorem dX5_colourOfAll_26 : decode cX5_colourOfAll 26 = .ok (.ifCond .eq 32, 3) := by decide +kernel
theorem dX5_colourOfAll_29 : decode cX5_colourOfAll 29 = .ok (.aload_n 0, 1) := by decide +kernel
theorem dX5_colourOfAll_30 : decode cX5_colourOfAll 30 = .ok (.iload 4, 2) := by decide +kernel
theorem dX5_colourOfAll_32 : decode cX5_colourOfAll 32 = .ok (.invokevirtual 80, 3) := by decide +kernel
theorem dX5_colourOfAll_35 : decode cX5_colourOfAll 35 = .ok (.ifCond .eq 13, 3) := by decide +kernel
theorem dX5_colourOfAll_38 : decode cX5_colourOfAll 38 = .ok (.aload_n 0, 1) := by decide +kernel
theorem dX5_colourOfAll_39 : decode cX5_colourOfAll 39 = .ok (.getfield 31, 3) := by decide +kernel
theorem dX5_colourOfAll_42 : decode cX5_colourOfAll 42 = .ok (.iload 4, 2) := by decide +kernel
theorem dX5_colourOfAll_44 : decode cX5_colourOfAll 44 = .ok (.iaload, 1) := by decide +kernel
theorem dX5_colourOfAll_45 : decode cX5_colourOfAll 45 = .ok (.goto 12, 3) := by decide +kernel
theorem dX5_colourOfAll_48 : decode cX5_colourOfAll 48 = .ok (.iload_n 2, 1) := by decide +kernel
theorem dX5_colourOfAll_49 : decode cX5_colourOfAll 49 = .ok (.aload_n 0, 1) := by decide +kernel
theorem dX5_colourOfAll_50 : decode cX5_colourOfAll 50 = .ok (.getfield 31, 3) := by decide +kernel
theorem dX5_colourOfAll_53 : decode cX5_colourOfAll 53 = .ok (.iload 4, 2) := by decide +kernel
theorem dX5_colourOfAll_55 : decode cX5_colourOfAll 55 = .ok (.iaload, 1) := by decide +kernel
theorem dX5_colourOfAll_56 : decode cX5_colourOfAll 56 = .ok (.ior, 1) := by decide +kernel
theorem dX5_colourOfAll_57 : decode cX5_colourOfAll 57 = .ok (.istore_n 2, 1) := by decide +kernel
theorem dX5_colourOfAll_58 : decode cX5_colourOfAll 58 = .ok (.iinc 3 1, 3) := by decide +kernel
theorem dX5_colourOfAll_61 : decode cX5_colourOfAll 61 = .ok (.goto (-57), 3) := by decide +kernel
theorem dX5_colourOfAll_64 : decode cX5_colourOfAll 64 = .ok (.iload_n 2, 1) := by decide +kernel
theorem dX5_colourOfAll_65 : decode cX5_colourOfAll 65 = .ok (.ireturn, 1) := by decide +kernel
theorem dX5_firstSetGiving_0 : decode cX5_firstSetGiving 0 = .ok (.iconst 0, 1) := by decide +kernel
theorem dX5_firstSetGiving_1 : decode cX5_firstSetGiving 1 = .ok (.istore_n 3, 1) := by decide +kernel
theorem dX5_firstSetGiving_2 : decode cX5_firstSetGiving 2 = .ok (.iload_n 3, 1) := by decide +kernel
theorem dX5_firstSetGiving_3 : decode cX5_firstSetGiving 3 = .ok (.aload_n 0, 1) := by decide +kernel
theorem dX5_firstSetGiving_4 : decode cX5_firstSetGiving 4 = .ok (.invokevirtual 103, 3) := by decide +kernel
theorem dX5_firstSetGiving_7 : decode cX5_firstSetGiving 7 = .ok (.if_icmp .ge 28, 3) := by decide +kernel
theorem dX5_firstSetGiving_10 : decode cX5_firstSetGiving 10 = .ok (.iload_n 3, 1) := by decide +kernel
theorem dX5_firstSetGiving_11 : decode cX5_firstSetGiving 11 = .ok (.iload_n 2, 1) := by decide +kernel
theorem dX5_firstSetGiving_12 : decode cX5_firstSetGiving 12 = .ok (.iconst (-1), 1) := by decide +kernel
theorem dX5_firstSetGiving_13 : decode cX5_firstSetGiving 13 = .ok (.ixor, 1) := by decide +kernel
theorem dX5_firstSetGiving_14 : decode cX5_firstSetGiving 14 = .ok (.iand, 1) := by decide +kernel
theorem dX5_firstSetGiving_15 : decode cX5_firstSetGiving 15 = .ok (.ifCond .ne 14, 3) := by decide +kernel
theorem dX5_firstSetGiving_18 : decode cX5_firstSetGiving 18 = .ok (.aload_n 0, 1) := by decide +kernel
theorem dX5_firstSetGiving_19 : decode cX5_firstSetGiving 19 = .ok (.iload_n 3, 1) := by decide +kernel
theorem dX5_firstSetGiving_20 : decode cX5_firstSetGiving 20 = .ok (.invokevirtual 113, 3) := by decide +kernel
theorem dX5_firstSetGiving_23 : decode cX5_firstSetGiving 23 = .ok (.iload_n 1, 1) := by decide +kernel
theorem dX5_firstSetGiving_24 : decode cX5_firstSetGiving 24 = .ok (.if_icmp .ne 5, 3) := by decide +kernel
theorem dX5_firstSetGiving_27 : decode cX5_firstSetGiving 27 = .ok (.iload_n 3, 1) := by decide +kernel
theorem dX5_firstSetGiving_28 : decode cX5_firstSetGiving 28 = .ok (.ireturn, 1) := by decide +kernel
theorem dX5_firstSetGiving_29 : decode cX5_firstSetGiving 29 = .ok (.iinc 3 1, 3) := by decide +kernel
theorem dX5_firstSetGiving_32 : decode cX5_firstSetGiving 32 = .ok (.goto (-30), 3) := by decide +kernel
theorem dX5_firstSetGiving_35 : decode cX5_firstSetGiving 35 = .ok (.bipush (-9), 2) := by decide +kernel
theorem dX5_firstSetGiving_37 : decode cX5_firstSetGiving 37 = .ok (.ireturn, 1) := by decide +kernel
theorem dX5_cutFor_0 : decode cX5_cutFor 0 = .ok (.iconst 0, 1) := by decide +kernel
theorem dX5_cutFor_1 : decode cX5_cutFor 1 = .ok (.istore_n 2, 1) := by decide +kernel
theorem dX5_cutFor_2 : decode cX5_cutFor 2 = .ok (.iload_n 2, 1) := by decide +kernel
theorem dX5_cutFor_3 : decode cX5_cutFor 3 = .ok (.aload_n 0, 1) := by decide +kernel
theorem dX5_cutFor_4 : decode cX5_cutFor 4 = .ok (.getfield 18, 3) := by decide +kernel
theorem dX5_cutFor_7 : decode cX5_cutFor 7 = .ok (.if_icmp .ge 23, 3) := by decide +kernel
theorem dX5_cutFor_10 : decode cX5_cutFor 10 = .ok (.aload_n 0, 1) := by decide +kernel
theorem dX5_cutFor_11 : decode cX5_cutFor 11 = .ok (.getfield 38, 3) := by decide +kernel
theorem dX5_cutFor_14 : decode cX5_cutFor 14 = .ok (.iload_n 2, 1) := by decide +kernel
theorem dX5_cutFor_15 : decode cX5_cutFor 15 = .ok (.lconst 0, 1) := by decide +kernel
theorem dX5_cutFor_16 : decode cX5_cutFor 16 = .ok (.lastore, 1) := by decide +kernel
theorem dX5_cutFor_17 : decode cX5_cutFor 17 = .ok (.aload_n 0, 1) := by decide +kernel
theorem dX5_cutFor_18 : decode cX5_cutFor 18 = .ok (.getfield 42, 3) := by decide +kernel
theorem dX5_cutFor_21 : decode cX5_cutFor 21 = .ok (.iload_n 2, 1) := by decide +kernel
theorem dX5_cutFor_22 : decode cX5_cutFor 22 = .ok (.iconst 4, 1) := by decide +kernel
theorem dX5_cutFor_23 : decode cX5_cutFor 23 = .ok (.iastore, 1) := by decide +kernel
theorem dX5_cutFor_24 : decode cX5_cutFor 24 = .ok (.iinc 2 1, 3) := by decide +kernel
theorem dX5_cutFor_27 : decode cX5_cutFor 27 = .ok (.goto (-25), 3) := by decide +kernel
theorem dX5_cutFor_30 : decode cX5_cutFor 30 = .ok (.aload_n 0, 1) := by decide +kernel
theorem dX5_cutFor_31 : decode cX5_cutFor 31 = .ok (.invokevirtual 72, 3) := by decide +kernel
theorem dX5_cutFor_34 : decode cX5_cutFor 34 = .ok (.lstore_n 2, 1) := by decide +kernel
theorem dX5_cutFor_35 : decode cX5_cutFor 35 = .ok (.iconst 0, 1) := by decide +kernel
theorem dX5_cutFor_36 : decode cX5_cutFor 36 = .ok (.istore 4, 2) := by decide +kernel
theorem dX5_cutFor_38 : decode cX5_cutFor 38 = .ok (.iload 4, 2) := by decide +kernel
theorem dX5_cutFor_40 : decode cX5_cutFor 40 = .ok (.bipush 8, 2) := by decide +kernel
theorem dX5_cutFor_42 : decode cX5_cutFor 42 = .ok (.if_icmp .ge 42, 3) := by decide +kernel
theorem dX5_cutFor_45 : decode cX5_cutFor 45 = .ok (.aload_n 0, 1) := by decide +kernel
theorem dX5_cutFor_46 : decode cX5_cutFor 46 = .ok (.getfield 27, 3) := by decide +kernel
theorem dX5_cutFor_49 : decode cX5_cutFor 49 = .ok (.iload 4, 2) := by decide +kernel
theorem dX5_cutFor_51 : decode cX5_cutFor 51 = .ok (.invokevirtual 88, 3) := by decide +kernel
theorem dX5_cutFor_54 : decode cX5_cutFor 54 = .ok (.lload_n 2, 1) := by decide +kernel
theorem dX5_cutFor_55 : decode cX5_cutFor 55 = .ok (.land, 1) := by decide +kernel
theorem dX5_cutFor_56 : decode cX5_cutFor 56 = .ok (.lstore 5, 2) := by decide +kernel
theorem dX5_cutFor_58 : decode cX5_cutFor 58 = .ok (.lload 5, 2) := by decide +kernel
theorem dX5_cutFor_60 : decode cX5_cutFor 60 = .ok (.lconst 0, 1) := by decide +kernel
theorem dX5_cutFor_61 : decode cX5_cutFor 61 = .ok (.lcmp, 1) := by decide +kernel
theorem dX5_cutFor_62 : decode cX5_cutFor 62 = .ok (.ifCond .eq 16, 3) := by decide +kernel
theorem dX5_cutFor_65 : decode cX5_cutFor 65 = .ok (.aload_n 0, 1) := by decide +kernel
theorem dX5_cutFor_66 : decode cX5_cutFor 66 = .ok (.aload_n 0, 1) := by decide +kernel
theorem dX5_cutFor_67 : decode cX5_cutFor 67 = .ok (.iload 4, 2) := by decide +kernel
theorem dX5_cutFor_69 : decode cX5_cutFor 69 = .ok (.iload_n 1, 1) := by decide +kernel
theorem dX5_cutFor_70 : decode cX5_cutFor 70 = .ok (.invokevirtual 116, 3) := by decide +kernel
theorem dX5_cutFor_73 : decode cX5_cutFor 73 = .ok (.lload 5, 2) := by decide +kernel
theorem dX5_cutFor_75 : decode cX5_cutFor 75 = .ok (.invokevirtual 119, 3) := by decide +kernel
theorem dX5_cutFor_78 : decode cX5_cutFor 78 = .ok (.iinc 4 1, 3) := by decide +kernel
theorem dX5_cutFor_81 : decode cX5_cutFor 81 = .ok (.goto (-43), 3) := by decide +kernel
theorem dX5_cutFor_84 : decode cX5_cutFor 84 = .ok (.return_, 1) := by decide +kernel
theorem dX5_addToBlocks_0 : decode cX5_addToBlocks 0 = .ok (.iload_n 1, 1) := by decide +kernel
theorem dX5_addToBlocks_1 : decode cX5_addToBlocks 1 = .ok (.bipush (-9), 2) := by decide +kernel
theorem dX5_addToBlocks_3 : decode cX5_addToBlocks 3 = .ok (.if_icmp .ne 4, 3) := by decide +kernel
theorem dX5_addToBlocks_6 : decode cX5_addToBlocks 6 = .ok (.return_, 1) := by decide +kernel
theorem dX5_addToBlocks_7 : decode cX5_addToBlocks 7 = .ok (.iconst 0, 1) := by decide +kernel
theorem dX5_addToBlocks_8 : decode cX5_addToBlocks 8 = .ok (.istore 4, 2) := by decide +kernel
theorem dX5_addToBlocks_10 : decode cX5_addToBlocks 10 = .ok (.iload 4, 2) := by decide +kernel
theorem dX5_addToBlocks_12 : decode cX5_addToBlocks 12 = .ok (.aload_n 0, 1) := by decide +kernel
theorem dX5_addToBlocks_13 : decode cX5_addToBlocks 13 = .ok (.getfield 18, 3) := by decide +kernel
theorem dX5_addToBlocks_16 : decode cX5_addToBlocks 16 = .ok (.if_icmp .ge 29, 3) := by decide +kernel
theorem dX5_addToBlocks_19 : decode cX5_addToBlocks 19 = .ok (.iload_n 1, 1) := by decide +kernel
theorem dX5_addToBlocks_20 : decode cX5_addToBlocks 20 = .ok (.iload 4, 2) := by decide +kernel
theorem dX5_addToBlocks_22 : decode cX5_addToBlocks 22 = .ok (.ishr, 1) := by decide +kernel
theorem dX5_addToBlocks_23 : decode cX5_addToBlocks 23 = .ok (.iconst 1, 1) := by decide +kernel
theorem dX5_addToBlocks_24 : decode cX5_addToBlocks 24 = .ok (.iand, 1) := by decide +kernel
theorem dX5_addToBlocks_25 : decode cX5_addToBlocks 25 = .ok (.ifCond .eq 14, 3) := by decide +kernel
theorem dX5_addToBlocks_28 : decode cX5_addToBlocks 28 = .ok (.aload_n 0, 1) := by decide +kernel
theorem dX5_addToBlocks_29 : decode cX5_addToBlocks 29 = .ok (.getfield 38, 3) := by decide +kernel
theorem dX5_addToBlocks_32 : decode cX5_addToBlocks 32 = .ok (.iload 4, 2) := by decide +kernel
theorem dX5_addToBlocks_34 : decode cX5_addToBlocks 34 = .ok (.dup2, 1) := by decide +kernel
theorem dX5_addToBlocks_35 : decode cX5_addToBlocks 35 = .ok (.laload, 1) := by decide +kernel
theorem dX5_addToBlocks_36 : decode cX5_addToBlocks 36 = .ok (.lload_n 2, 1) := by decide +kernel
theorem dX5_addToBlocks_37 : decode cX5_addToBlocks 37 = .ok (.lor, 1) := by decide +kernel
theorem dX5_addToBlocks_38 : decode cX5_addToBlocks 38 = .ok (.lastore, 1) := by decide +kernel
theorem dX5_addToBlocks_39 : decode cX5_addToBlocks 39 = .ok (.iinc 4 1, 3) := by decide +kernel
theorem dX5_addToBlocks_42 : decode cX5_addToBlocks 42 = .ok (.goto (-32), 3) := by decide +kernel
theorem dX5_addToBlocks_45 : decode cX5_addToBlocks 45 = .ok (.return_, 1) := by decide +kernel
theorem dX6_init_0 : decode cX6_init 0 = .ok (.aload_n 0, 1) := by decide +kernel
theorem dX6_init_1 : decode cX6_init 1 = .ok (.invokespecial 1, 3) := by decide +kernel
theorem dX6_init_4 : decode cX6_init 4 = .ok (.aload_n 0, 1) := by decide +kernel
theorem dX6_init_5 : decode cX6_init 5 = .ok (.new 7, 3) := by decide +kernel
theorem dX6_init_8 : decode cX6_init 8 = .ok (.dup, 1) := by decide +kernel
theorem dX6_init_9 : decode cX6_init 9 = .ok (.invokespecial 9, 3) := by decide +kernel
theorem dX6_init_12 : decode cX6_init 12 = .ok (.putfield 10, 3) := by decide +kernel
theorem dX6_init_15 : decode cX6_init 15 = .ok (.aload_n 0, 1) := by decide +kernel
theorem dX6_init_16 : decode cX6_init 16 = .ok (.new 7, 3) := by decide +kernel
theorem dX6_init_19 : decode cX6_init 19 = .ok (.dup, 1) := by decide +kernel
theorem dX6_init_20 : decode cX6_init 20 = .ok (.invokespecial 9, 3) := by decide +kernel
theorem dX6_init_23 : decode cX6_init 23 = .ok (.putfield 16, 3) := by decide +kernel
theorem dX6_init_26 : decode cX6_init 26 = .ok (.aload_n 0, 1) := by decide +kernel
theorem dX6_init_27 : decode cX6_init 27 = .ok (.new 19, 3) := by decide +kernel
theorem dX6_init_30 : decode cX6_init 30 = .ok (.dup, 1) := by decide +kernel
theorem dX6_init_31 : decode cX6_init 31 = .ok (.invokespecial 21, 3) := by decide +kernel
theorem dX6_init_34 : decode cX6_init 34 = .ok (.putfield 22, 3) := by decide +kernel
theorem dX6_init_37 : decode cX6_init 37 = .ok (.aload_n 0, 1) := by decide +kernel
theorem dX6_init_38 : decode cX6_init 38 = .ok (.new 26, 3) := by decide +kernel
theorem dX6_init_41 : decode cX6_init 41 = .ok (.dup, 1) := by decide +kernel
theorem dX6_init_42 : decode cX6_init 42 = .ok (.invokespecial 28, 3) := by decide +kernel
theorem dX6_init_45 : decode cX6_init 45 = .ok (.putfield 29, 3) := by decide +kernel
theorem dX6_init_48 : decode cX6_init 48 = .ok (.aload_n 0, 1) := by decide +kernel
theorem dX6_init_49 : decode cX6_init 49 = .ok (.iconst 2, 1) := by decide +kernel
theorem dX6_init_50 : decode cX6_init 50 = .ok (.anewarray 7, 3) := by decide +kernel
theorem dX6_init_53 : decode cX6_init 53 = .ok (.putfield 33, 3) := by decide +kernel
theorem dX6_init_56 : decode cX6_init 56 = .ok (.aload_n 0, 1) := by decide +kernel
theorem dX6_init_57 : decode cX6_init 57 = .ok (.iconst 2, 1) := by decide +kernel
theorem dX6_init_58 : decode cX6_init 58 = .ok (.newarray .boolean, 2) := by decide +kernel
theorem dX6_init_60 : decode cX6_init 60 = .ok (.putfield 37, 3) := by decide +kernel
theorem dX6_init_63 : decode cX6_init 63 = .ok (.aload_n 0, 1) := by decide +kernel
theorem dX6_init_64 : decode cX6_init 64 = .ok (.new 41, 3) := by decide +kernel
theorem dX6_init_67 : decode cX6_init 67 = .ok (.dup, 1) := by decide +kernel
theorem dX6_init_68 : decode cX6_init 68 = .ok (.invokespecial 43, 3) := by decide +kernel
theorem dX6_init_71 : decode cX6_init 71 = .ok (.putfield 44, 3) := by decide +kernel
theorem dX6_init_74 : decode cX6_init 74 = .ok (.aload_n 0, 1) := by decide +kernel
theorem dX6_init_75 : decode cX6_init 75 = .ok (.new 48, 3) := by decide +kernel
theorem dX6_init_78 : decode cX6_init 78 = .ok (.dup, 1) := by decide +kernel
theorem dX6_init_79 : decode cX6_init 79 = .ok (.invokespecial 50, 3) := by decide +kernel
theorem dX6_init_82 : decode cX6_init 82 = .ok (.putfield 51, 3) := by decide +kernel
theorem dX6_init_85 : decode cX6_init 85 = .ok (.aload_n 0, 1) := by decide +kernel
theorem dX6_init_86 : decode cX6_init 86 = .ok (.new 55, 3) := by decide +kernel
theorem dX6_init_89 : decode cX6_init 89 = .ok (.dup, 1) := by decide +kernel
theorem dX6_init_90 : decode cX6_init 90 = .ok (.invokespecial 57, 3) := by decide +kernel
theorem dX6_init_93 : decode cX6_init 93 = .ok (.putfield 58, 3) := by decide +kernel
theorem dX6_init_96 : decode cX6_init 96 = .ok (.iconst 0, 1) := by decide +kernel
theorem dX6_init_97 : decode cX6_init 97 = .ok (.istore_n 1, 1) := by decide +kernel
theorem dX6_init_98 : decode cX6_init 98 = .ok (.iload_n 1, 1) := by decide +kernel
theorem dX6_init_99 : decode cX6_init 99 = .ok (.iconst 2, 1) := by decide +kernel
theorem dX6_init_100 : decode cX6_init 100 = .ok (.if_icmp .ge 22, 3) := by decide +kernel
theorem dX6_init_103 : decode cX6_init 103 = .ok (.aload_n 0, 1) := by decide +kernel
theorem dX6_init_104 : decode cX6_init 104 = .ok (.getfield 33, 3) := by decide +kernel
theorem dX6_init_107 : decode cX6_init 107 = .ok (.iload_n 1, 1) := by decide +kernel
theorem dX6_init_108 : decode cX6_init 108 = .ok (.new 7, 3) := by decide +kernel
theorem dX6_init_111 : decode cX6_init 111 = .ok (.dup, 1) := by decide +kernel
theorem dX6_init_112 : decode cX6_init 112 = .ok (.invokespecial 9, 3) := by decide +kernel
theorem dX6_init_115 : decode cX6_init 115 = .ok (.aastore, 1) := by decide +kernel
theorem dX6_init_116 : decode cX6_init 116 = .ok (.iinc 1 1, 3) := by decide +kernel
theorem dX6_init_119 : decode cX6_init 119 = .ok (.goto (-21), 3) := by decide +kernel
theorem dX6_init_122 : decode cX6_init 122 = .ok (.return_, 1) := by decide +kernel
theorem dX6_type_0 : decode cX6_type 0 = .ok (.iload_n 1, 1) := by decide +kernel
theorem dX6_type_1 : decode cX6_type 1 = .ok (.ifCond .lt 10, 3) := by decide +kernel
theorem dX6_type_4 : decode cX6_type 4 = .ok (.iload_n 1, 1) := by decide +kernel
theorem dX6_type_5 : decode cX6_type 5 = .ok (.sipush 255, 3) := by decide +kernel
theorem dX6_type_8 : decode cX6_type 8 = .ok (.if_icmp .le 5, 3) := by decide +kernel
theorem dX6_type_11 : decode cX6_type 11 = .ok (.iconst (-1), 1) := by decide +kernel
theorem dX6_type_12 : decode cX6_type 12 = .ok (.ireturn, 1) := by decide +kernel
theorem dX6_type_13 : decode cX6_type 13 = .ok (.aload_n 0, 1) := by decide +kernel
theorem dX6_type_14 : decode cX6_type 14 = .ok (.getfield 22, 3) := by decide +kernel
theorem dX6_type_17 : decode cX6_type 17 = .ok (.iload_n 1, 1) := by decide +kernel
theorem dX6_type_18 : decode cX6_type 18 = .ok (.invokevirtual 62, 3) := by decide +kernel
theorem dX6_type_21 : decode cX6_type 21 = .ok (.ifCond .eq 13, 3) := by decide +kernel
theorem dX6_type_24 : decode cX6_type 24 = .ok (.aload_n 0, 1) := by decide +kernel
theorem dX6_type_25 : decode cX6_type 25 = .ok (.getfield 22, 3) := by decide +kernel
theorem dX6_type_28 : decode cX6_type 28 = .ok (.getfield 66, 3) := by decide +kernel
theorem dX6_type_31 : decode cX6_type 31 = .ok (.goto 5, 3) := by decide +kernel
theorem dX6_type_34 : decode cX6_type 34 = .ok (.bipush (-3), 2) := by decide +kernel
theorem dX6_type_36 : decode cX6_type 36 = .ok (.ireturn, 1) := by decide +kernel
theorem dX6_clear_0 : decode cX6_clear 0 = .ok (.aload_n 0, 1) := by decide +kernel
theorem dX6_clear_1 : decode cX6_clear 1 = .ok (.getfield 22, 3) := by decide +kernel
theorem dX6_clear_4 : decode cX6_clear 4 = .ok (.getfield 66, 3) := by decide +kernel
theorem dX6_clear_7 : decode cX6_clear 7 = .ok (.istore_n 1, 1) := by decide +kernel
theorem dX6_clear_8 : decode cX6_clear 8 = .ok (.aload_n 0, 1) := by decide +kernel
theorem dX6_clear_9 : decode cX6_clear 9 = .ok (.getfield 22, 3) := by decide +kernel
theorem dX6_clear_12 : decode cX6_clear 12 = .ok (.iconst 0, 1) := by decide +kernel
theorem dX6_clear_13 : decode cX6_clear 13 = .ok (.putfield 66, 3) := by decide +kernel
theorem dX6_clear_16 : decode cX6_clear 16 = .ok (.iload_n 1, 1) := by decide +kernel
theorem dX6_clear_17 : decode cX6_clear 17 = .ok (.ireturn, 1) := by decide +kernel
theorem dX6_tells_0 : decode cX6_tells 0 = .ok (.aload_n 0, 1) := by decide +kernel
theorem dX6_tells_1 : decode cX6_tells 1 = .ok (.getfield 22, 3) := by decide +kernel
theorem dX6_tells_4 : decode cX6_tells 4 = .ok (.aload_n 0, 1) := by decide +kernel
theorem dX6_tells_5 : decode cX6_tells 5 = .ok (.getfield 16, 3) := by decide +kernel
theorem dX6_tells_8 : decode cX6_tells 8 = .ok (.invokevirtual 70, 3) := by decide +kernel
theorem dX6_tells_11 : decode cX6_tells 11 = .ok (.istore_n 1, 1) := by decide +kernel
theorem dX6_tells_12 : decode cX6_tells 12 = .ok (.iload_n 1, 1) := by decide +kernel
theorem dX6_tells_13 : decode cX6_tells 13 = .ok (.bipush (-9), 2) := by decide +kernel
theorem dX6_tells_15 : decode cX6_tells 15 = .ok (.if_icmp .eq 8, 3) := by decide +kernel
theorem dX6_tells_18 : decode cX6_tells 18 = .ok (.bipush (-10), 2) := by decide +kernel
theorem dX6_tells_20 : decode cX6_tells 20 = .ok (.iload_n 1, 1) := by decide +kernel
theorem dX6_tells_21 : decode cX6_tells 21 = .ok (.isub, 1) := by decide +kernel
theorem dX6_tells_22 : decode cX6_tells 22 = .ok (.ireturn, 1) := by decide +kernel
theorem dX6_tells_23 : decode cX6_tells 23 = .ok (.aload_n 0, 1) := by decide +kernel
end
section
theorem dX6_tells_24 : decode cX6_tells 24 = .ok (.getfield 29, 3) := by decide +kernel
theorem dX6_tells_27 : decode cX6_tells 27 = .ok (.aload_n 0, 1) := by decide +kernel
theorem dX6_tells_28 : decode cX6_tells 28 = .ok (.getfield 10, 3) := by decide +kernel
theorem dX6_tells_31 : decode cX6_tells 31 = .ok (.invokevirtual 74, 3) := by decide +kernel
theorem dX6_tells_34 : decode cX6_tells 34 = .ok (.aload_n 0, 1) := by decide +kernel
theorem dX6_tells_35 : decode cX6_tells 35 = .ok (.getfield 10, 3) := by decide +kernel
theorem dX6_tells_38 : decode cX6_tells 38 = .ok (.aload_n 0, 1) := by decide +kernel
theorem dX6_tells_39 : decode cX6_tells 39 = .ok (.getfield 16, 3) := by decide +kernel
theorem dX6_tells_42 : decode cX6_tells 42 = .ok (.invokevirtual 78, 3) := by decide +kernel
theorem dX6_tells_45 : decode cX6_tells 45 = .ok (.aload_n 0, 1) := by decide +kernel
theorem dX6_tells_46 : decode cX6_tells 46 = .ok (.getfield 22, 3) := by decide +kernel
theorem dX6_tells_49 : decode cX6_tells 49 = .ok (.iconst 0, 1) := by decide +kernel
theorem dX6_tells_50 : decode cX6_tells 50 = .ok (.putfield 66, 3) := by decide +kernel
theorem dX6_tells_53 : decode cX6_tells 53 = .ok (.aload_n 0, 1) := by decide +kernel
theorem dX6_tells_54 : decode cX6_tells 54 = .ok (.getfield 44, 3) := by decide +kernel
theorem dX6_tells_57 : decode cX6_tells 57 = .ok (.iconst 0, 1) := by decide +kernel
theorem dX6_tells_58 : decode cX6_tells 58 = .ok (.putfield 81, 3) := by decide +kernel
theorem dX6_tells_61 : decode cX6_tells 61 = .ok (.iconst 0, 1) := by decide +kernel
theorem dX6_tells_62 : decode cX6_tells 62 = .ok (.istore_n 2, 1) := by decide +kernel
theorem dX6_tells_63 : decode cX6_tells 63 = .ok (.iload_n 2, 1) := by decide +kernel
theorem dX6_tells_64 : decode cX6_tells 64 = .ok (.iconst 2, 1) := by decide +kernel
theorem dX6_tells_65 : decode cX6_tells 65 = .ok (.if_icmp .ge 16, 3) := by decide +kernel
theorem dX6_tells_68 : decode cX6_tells 68 = .ok (.aload_n 0, 1) := by decide +kernel
theorem dX6_tells_69 : decode cX6_tells 69 = .ok (.getfield 37, 3) := by decide +kernel
theorem dX6_tells_72 : decode cX6_tells 72 = .ok (.iload_n 2, 1) := by decide +kernel
theorem dX6_tells_73 : decode cX6_tells 73 = .ok (.iconst 0, 1) := by decide +kernel
theorem dX6_tells_74 : decode cX6_tells 74 = .ok (.bastore, 1) := by decide +kernel
theorem dX6_tells_75 : decode cX6_tells 75 = .ok (.iinc 2 1, 3) := by decide +kernel
theorem dX6_tells_78 : decode cX6_tells 78 = .ok (.goto (-15), 3) := by decide +kernel
theorem dX6_tells_81 : decode cX6_tells 81 = .ok (.aload_n 0, 1) := by decide +kernel
theorem dX6_tells_82 : decode cX6_tells 82 = .ok (.getfield 16, 3) := by decide +kernel
theorem dX6_tells_85 : decode cX6_tells 85 = .ok (.getfield 84, 3) := by decide +kernel
theorem dX6_tells_88 : decode cX6_tells 88 = .ok (.aload_n 0, 1) := by decide +kernel
theorem dX6_tells_89 : decode cX6_tells 89 = .ok (.getfield 16, 3) := by decide +kernel
theorem dX6_tells_92 : decode cX6_tells 92 = .ok (.getfield 87, 3) := by decide +kernel
theorem dX6_tells_95 : decode cX6_tells 95 = .ok (.iadd, 1) := by decide +kernel
theorem dX6_tells_96 : decode cX6_tells 96 = .ok (.ireturn, 1) := by decide +kernel
theorem dX6_cuts_0 : decode cX6_cuts 0 = .ok (.aload_n 0, 1) := by decide +kernel
theorem dX6_cuts_1 : decode cX6_cuts 1 = .ok (.getfield 10, 3) := by decide +kernel
theorem dX6_cuts_4 : decode cX6_cuts 4 = .ok (.invokevirtual 90, 3) := by decide +kernel
theorem dX6_cuts_7 : decode cX6_cuts 7 = .ok (.istore_n 1, 1) := by decide +kernel
theorem dX6_cuts_8 : decode cX6_cuts 8 = .ok (.iload_n 1, 1) := by decide +kernel
theorem dX6_cuts_9 : decode cX6_cuts 9 = .ok (.bipush (-9), 2) := by decide +kernel
theorem dX6_cuts_11 : decode cX6_cuts 11 = .ok (.if_icmp .ne 6, 3) := by decide +kernel
theorem dX6_cuts_14 : decode cX6_cuts 14 = .ok (.bipush (-2), 2) := by decide +kernel
theorem dX6_cuts_16 : decode cX6_cuts 16 = .ok (.ireturn, 1) := by decide +kernel
theorem dX6_cuts_17 : decode cX6_cuts 17 = .ok (.aload_n 0, 1) := by decide +kernel
theorem dX6_cuts_18 : decode cX6_cuts 18 = .ok (.getfield 29, 3) := by decide +kernel
theorem dX6_cuts_21 : decode cX6_cuts 21 = .ok (.aload_n 0, 1) := by decide +kernel
theorem dX6_cuts_22 : decode cX6_cuts 22 = .ok (.getfield 10, 3) := by decide +kernel
theorem dX6_cuts_25 : decode cX6_cuts 25 = .ok (.invokevirtual 74, 3) := by decide +kernel
theorem dX6_cuts_28 : decode cX6_cuts 28 = .ok (.aload_n 0, 1) := by decide +kernel
theorem dX6_cuts_29 : decode cX6_cuts 29 = .ok (.getfield 10, 3) := by decide +kernel
theorem dX6_cuts_32 : decode cX6_cuts 32 = .ok (.iload_n 1, 1) := by decide +kernel
theorem dX6_cuts_33 : decode cX6_cuts 33 = .ok (.invokevirtual 94, 3) := by decide +kernel
theorem dX6_cuts_36 : decode cX6_cuts 36 = .ok (.iload_n 1, 1) := by decide +kernel
theorem dX6_cuts_37 : decode cX6_cuts 37 = .ok (.invokestatic 98, 3) := by decide +kernel
theorem dX6_cuts_40 : decode cX6_cuts 40 = .ok (.ireturn, 1) := by decide +kernel
theorem dX6_carves_0 : decode cX6_carves 0 = .ok (.aload_n 0, 1) := by decide +kernel
theorem dX6_carves_1 : decode cX6_carves 1 = .ok (.getfield 10, 3) := by decide +kernel
theorem dX6_carves_4 : decode cX6_carves 4 = .ok (.iload_n 1, 1) := by decide +kernel
theorem dX6_carves_5 : decode cX6_carves 5 = .ok (.invokevirtual 104, 3) := by decide +kernel
theorem dX6_carves_8 : decode cX6_carves 8 = .ok (.ifCond .eq 15, 3) := by decide +kernel
theorem dX6_carves_11 : decode cX6_carves 11 = .ok (.aload_n 0, 1) := by decide +kernel
theorem dX6_carves_12 : decode cX6_carves 12 = .ok (.getfield 10, 3) := by decide +kernel
theorem dX6_carves_15 : decode cX6_carves 15 = .ok (.iload_n 2, 1) := by decide +kernel
theorem dX6_carves_16 : decode cX6_carves 16 = .ok (.iload_n 3, 1) := by decide +kernel
theorem dX6_carves_17 : decode cX6_carves 17 = .ok (.invokevirtual 107, 3) := by decide +kernel
theorem dX6_carves_20 : decode cX6_carves 20 = .ok (.ifCond .ne 5, 3) := by decide +kernel
theorem dX6_carves_23 : decode cX6_carves 23 = .ok (.iconst (-1), 1) := by decide +kernel
theorem dX6_carves_24 : decode cX6_carves 24 = .ok (.ireturn, 1) := by decide +kernel
theorem dX6_carves_25 : decode cX6_carves 25 = .ok (.aload_n 0, 1) := by decide +kernel
theorem dX6_carves_26 : decode cX6_carves 26 = .ok (.getfield 29, 3) := by decide +kernel
theorem dX6_carves_29 : decode cX6_carves 29 = .ok (.aload_n 0, 1) := by decide +kernel
theorem dX6_carves_30 : decode cX6_carves 30 = .ok (.getfield 10, 3) := by decide +kernel
theorem dX6_carves_33 : decode cX6_carves 33 = .ok (.invokevirtual 74, 3) := by decide +kernel
theorem dX6_carves_36 : decode cX6_carves 36 = .ok (.aload_n 0, 1) := by decide +kernel
theorem dX6_carves_37 : decode cX6_carves 37 = .ok (.getfield 10, 3) := by decide +kernel
theorem dX6_carves_40 : decode cX6_carves 40 = .ok (.getfield 111, 3) := by decide +kernel
theorem dX6_carves_43 : decode cX6_carves 43 = .ok (.iload_n 1, 1) := by decide +kernel
theorem dX6_carves_44 : decode cX6_carves 44 = .ok (.dup2, 1) := by decide +kernel
theorem dX6_carves_45 : decode cX6_carves 45 = .ok (.laload, 1) := by decide +kernel
theorem dX6_carves_46 : decode cX6_carves 46 = .ok (.iload_n 2, 1) := by decide +kernel
theorem dX6_carves_47 : decode cX6_carves 47 = .ok (.iload_n 3, 1) := by decide +kernel
theorem dX6_carves_48 : decode cX6_carves 48 = .ok (.invokestatic 115, 3) := by decide +kernel
theorem dX6_carves_51 : decode cX6_carves 51 = .ok (.lxor, 1) := by decide +kernel
theorem dX6_carves_52 : decode cX6_carves 52 = .ok (.lastore, 1) := by decide +kernel
theorem dX6_carves_53 : decode cX6_carves 53 = .ok (.aload_n 0, 1) := by decide +kernel
theorem dX6_carves_54 : decode cX6_carves 54 = .ok (.getfield 10, 3) := by decide +kernel
theorem dX6_carves_57 : decode cX6_carves 57 = .ok (.getfield 111, 3) := by decide +kernel
theorem dX6_carves_60 : decode cX6_carves 60 = .ok (.iload_n 1, 1) := by decide +kernel
theorem dX6_carves_61 : decode cX6_carves 61 = .ok (.laload, 1) := by decide +kernel
theorem dX6_carves_62 : decode cX6_carves 62 = .ok (.iload_n 2, 1) := by decide +kernel
theorem dX6_carves_63 : decode cX6_carves 63 = .ok (.iload_n 3, 1) := by decide +kernel
theorem dX6_carves_64 : decode cX6_carves 64 = .ok (.invokestatic 115, 3) := by decide +kernel
theorem dX6_carves_67 : decode cX6_carves 67 = .ok (.land, 1) := by decide +kernel
theorem dX6_carves_68 : decode cX6_carves 68 = .ok (.lconst 0, 1) := by decide +kernel
theorem dX6_carves_69 : decode cX6_carves 69 = .ok (.lcmp, 1) := by decide +kernel
theorem dX6_carves_70 : decode cX6_carves 70 = .ok (.ifCond .eq 7, 3) := by decide +kernel
theorem dX6_carves_73 : decode cX6_carves 73 = .ok (.iconst 1, 1) := by decide +kernel
theorem dX6_carves_74 : decode cX6_carves 74 = .ok (.goto 4, 3) := by decide +kernel
theorem dX6_carves_77 : decode cX6_carves 77 = .ok (.iconst 0, 1) := by decide +kernel
theorem dX6_carves_78 : decode cX6_carves 78 = .ok (.ireturn, 1) := by decide +kernel
theorem dX6_slips_0 : decode cX6_slips 0 = .ok (.aload_n 0, 1) := by decide +kernel
theorem dX6_slips_1 : decode cX6_slips 1 = .ok (.getfield 10, 3) := by decide +kernel
theorem dX6_slips_4 : decode cX6_slips 4 = .ok (.iload_n 1, 1) := by decide +kernel
theorem dX6_slips_5 : decode cX6_slips 5 = .ok (.invokevirtual 104, 3) := by decide +kernel
theorem dX6_slips_8 : decode cX6_slips 8 = .ok (.ifCond .eq 23, 3) := by decide +kernel
theorem dX6_slips_11 : decode cX6_slips 11 = .ok (.iload_n 2, 1) := by decide +kernel
theorem dX6_slips_12 : decode cX6_slips 12 = .ok (.iconst (-1), 1) := by decide +kernel
theorem dX6_slips_13 : decode cX6_slips 13 = .ok (.if_icmp .lt 18, 3) := by decide +kernel
theorem dX6_slips_16 : decode cX6_slips 16 = .ok (.iload_n 2, 1) := by decide +kernel
theorem dX6_slips_17 : decode cX6_slips 17 = .ok (.iconst 1, 1) := by decide +kernel
theorem dX6_slips_18 : decode cX6_slips 18 = .ok (.if_icmp .gt 13, 3) := by decide +kernel
theorem dX6_slips_21 : decode cX6_slips 21 = .ok (.iload_n 3, 1) := by decide +kernel
theorem dX6_slips_22 : decode cX6_slips 22 = .ok (.iconst (-1), 1) := by decide +kernel
theorem dX6_slips_23 : decode cX6_slips 23 = .ok (.if_icmp .lt 8, 3) := by decide +kernel
theorem dX6_slips_26 : decode cX6_slips 26 = .ok (.iload_n 3, 1) := by decide +kernel
theorem dX6_slips_27 : decode cX6_slips 27 = .ok (.iconst 1, 1) := by decide +kernel
theorem dX6_slips_28 : decode cX6_slips 28 = .ok (.if_icmp .le 5, 3) := by decide +kernel
theorem dX6_slips_31 : decode cX6_slips 31 = .ok (.iconst (-1), 1) := by decide +kernel
theorem dX6_slips_32 : decode cX6_slips 32 = .ok (.ireturn, 1) := by decide +kernel
theorem dX6_slips_33 : decode cX6_slips 33 = .ok (.iload_n 2, 1) := by decide +kernel
theorem dX6_slips_34 : decode cX6_slips 34 = .ok (.iload_n 3, 1) := by decide +kernel
theorem dX6_slips_35 : decode cX6_slips 35 = .ok (.invokestatic 119, 3) := by decide +kernel
theorem dX6_slips_38 : decode cX6_slips 38 = .ok (.istore 4, 2) := by decide +kernel
theorem dX6_slips_40 : decode cX6_slips 40 = .ok (.aload_n 0, 1) := by decide +kernel
theorem dX6_slips_41 : decode cX6_slips 41 = .ok (.getfield 10, 3) := by decide +kernel
theorem dX6_slips_44 : decode cX6_slips 44 = .ok (.getfield 123, 3) := by decide +kernel
theorem dX6_slips_47 : decode cX6_slips 47 = .ok (.iload_n 1, 1) := by decide +kernel
theorem dX6_slips_48 : decode cX6_slips 48 = .ok (.iaload, 1) := by decide +kernel
theorem dX6_slips_49 : decode cX6_slips 49 = .ok (.iload 4, 2) := by decide +kernel
theorem dX6_slips_51 : decode cX6_slips 51 = .ok (.if_icmp .ne 6, 3) := by decide +kernel
theorem dX6_slips_54 : decode cX6_slips 54 = .ok (.bipush (-2), 2) := by decide +kernel
theorem dX6_slips_56 : decode cX6_slips 56 = .ok (.ireturn, 1) := by decide +kernel
theorem dX6_slips_57 : decode cX6_slips 57 = .ok (.aload_n 0, 1) := by decide +kernel
theorem dX6_slips_58 : decode cX6_slips 58 = .ok (.getfield 29, 3) := by decide +kernel
theorem dX6_slips_61 : decode cX6_slips 61 = .ok (.aload_n 0, 1) := by decide +kernel
theorem dX6_slips_62 : decode cX6_slips 62 = .ok (.getfield 10, 3) := by decide +kernel
theorem dX6_slips_65 : decode cX6_slips 65 = .ok (.invokevirtual 74, 3) := by decide +kernel
theorem dX6_slips_68 : decode cX6_slips 68 = .ok (.aload_n 0, 1) := by decide +kernel
theorem dX6_slips_69 : decode cX6_slips 69 = .ok (.getfield 10, 3) := by decide +kernel
theorem dX6_slips_72 : decode cX6_slips 72 = .ok (.getfield 123, 3) := by decide +kernel
theorem dX6_slips_75 : decode cX6_slips 75 = .ok (.iload_n 1, 1) := by decide +kernel
theorem dX6_slips_76 : decode cX6_slips 76 = .ok (.iload 4, 2) := by decide +kernel
theorem dX6_slips_78 : decode cX6_slips 78 = .ok (.iastore, 1) := by decide +kernel
theorem dX6_slips_79 : decode cX6_slips 79 = .ok (.iconst 1, 1) := by decide +kernel
theorem dX6_slips_80 : decode cX6_slips 80 = .ok (.ireturn, 1) := by decide +kernel
theorem dX6_swaps_0 : decode cX6_swaps 0 = .ok (.aload_n 0, 1) := by decide +kernel
theorem dX6_swaps_1 : decode cX6_swaps 1 = .ok (.getfield 10, 3) := by decide +kernel
theorem dX6_swaps_4 : decode cX6_swaps 4 = .ok (.iload_n 1, 1) := by decide +kernel
theorem dX6_swaps_5 : decode cX6_swaps 5 = .ok (.invokevirtual 104, 3) := by decide +kernel
theorem dX6_swaps_8 : decode cX6_swaps 8 = .ok (.ifCond .eq 19, 3) := by decide +kernel
theorem dX6_swaps_11 : decode cX6_swaps 11 = .ok (.aload_n 0, 1) := by decide +kernel
theorem dX6_swaps_12 : decode cX6_swaps 12 = .ok (.getfield 10, 3) := by decide +kernel
theorem dX6_swaps_15 : decode cX6_swaps 15 = .ok (.iload_n 2, 1) := by decide +kernel
theorem dX6_swaps_16 : decode cX6_swaps 16 = .ok (.invokevirtual 104, 3) := by decide +kernel
theorem dX6_swaps_19 : decode cX6_swaps 19 = .ok (.ifCond .eq 8, 3) := by decide +kernel
theorem dX6_swaps_22 : decode cX6_swaps 22 = .ok (.iload_n 1, 1) := by decide +kernel
theorem dX6_swaps_23 : decode cX6_swaps 23 = .ok (.iload_n 2, 1) := by decide +kernel
theorem dX6_swaps_24 : decode cX6_swaps 24 = .ok (.if_icmp .ne 5, 3) := by decide +kernel
theorem dX6_swaps_27 : decode cX6_swaps 27 = .ok (.iconst (-1), 1) := by decide +kernel
theorem dX6_swaps_28 : decode cX6_swaps 28 = .ok (.ireturn, 1) := by decide +kernel
theorem dX6_swaps_29 : decode cX6_swaps 29 = .ok (.aload_n 0, 1) := by decide +kernel
theorem dX6_swaps_30 : decode cX6_swaps 30 = .ok (.getfield 29, 3) := by decide +kernel
theorem dX6_swaps_33 : decode cX6_swaps 33 = .ok (.aload_n 0, 1) := by decide +kernel
theorem dX6_swaps_34 : decode cX6_swaps 34 = .ok (.getfield 10, 3) := by decide +kernel
theorem dX6_swaps_37 : decode cX6_swaps 37 = .ok (.invokevirtual 74, 3) := by decide +kernel
theorem dX6_swaps_40 : decode cX6_swaps 40 = .ok (.aload_n 0, 1) := by decide +kernel
theorem dX6_swaps_41 : decode cX6_swaps 41 = .ok (.getfield 10, 3) := by decide +kernel
theorem dX6_swaps_44 : decode cX6_swaps 44 = .ok (.iload_n 1, 1) := by decide +kernel
theorem dX6_swaps_45 : decode cX6_swaps 45 = .ok (.iload_n 2, 1) := by decide +kernel
theorem dX6_swaps_46 : decode cX6_swaps 46 = .ok (.invokevirtual 127, 3) := by decide +kernel
theorem dX6_swaps_49 : decode cX6_swaps 49 = .ok (.aload_n 0, 1) := by decide +kernel
theorem dX6_swaps_50 : decode cX6_swaps 50 = .ok (.iconst (-1), 1) := by decide +kernel
theorem dX6_swaps_51 : decode cX6_swaps 51 = .ok (.iconst 4, 1) := by decide +kernel
theorem dX6_swaps_52 : decode cX6_swaps 52 = .ok (.invokevirtual 131, 3) := by decide +kernel
theorem dX6_swaps_55 : decode cX6_swaps 55 = .ok (.ireturn, 1) := by decide +kernel
theorem dX6_undo_0 : decode cX6_undo 0 = .ok (.aload_n 0, 1) := by decide +kernel
theorem dX6_undo_1 : decode cX6_undo 1 = .ok (.getfield 29, 3) := by decide +kernel
theorem dX6_undo_4 : decode cX6_undo 4 = .ok (.getfield 134, 3) := by decide +kernel
theorem dX6_undo_7 : decode cX6_undo 7 = .ok (.ifCond .ne 6, 3) := by decide +kernel
theorem dX6_undo_10 : decode cX6_undo 10 = .ok (.bipush (-2), 2) := by decide +kernel
theorem dX6_undo_12 : decode cX6_undo 12 = .ok (.ireturn, 1) := by decide +kernel
theorem dX6_undo_13 : decode cX6_undo 13 = .ok (.aload_n 0, 1) := by decide +kernel
theorem dX6_undo_14 : decode cX6_undo 14 = .ok (.getfield 29, 3) := by decide +kernel
theorem dX6_undo_17 : decode cX6_undo 17 = .ok (.aload_n 0, 1) := by decide +kernel
theorem dX6_undo_18 : decode cX6_undo 18 = .ok (.getfield 10, 3) := by decide +kernel
theorem dX6_undo_21 : decode cX6_undo 21 = .ok (.invokevirtual 135, 3) := by decide +kernel
theorem dX6_undo_24 : decode cX6_undo 24 = .ok (.aload_n 0, 1) := by decide +kernel
theorem dX6_undo_25 : decode cX6_undo 25 = .ok (.getfield 29, 3) := by decide +kernel
theorem dX6_undo_28 : decode cX6_undo 28 = .ok (.getfield 134, 3) := by decide +kernel
theorem dX6_undo_31 : decode cX6_undo 31 = .ok (.ireturn, 1) := by decide +kernel
theorem dX6_cell_0 : decode cX6_cell 0 = .ok (.aload_n 0, 1) := by decide +kernel
theorem dX6_cell_1 : decode cX6_cell 1 = .ok (.getfield 10, 3) := by decide +kernel
theorem dX6_cell_4 : decode cX6_cell 4 = .ok (.iload_n 1, 1) := by decide +kernel
theorem dX6_cell_5 : decode cX6_cell 5 = .ok (.iload_n 2, 1) := by decide +kernel
theorem dX6_cell_6 : decode cX6_cell 6 = .ok (.invokevirtual 107, 3) := by decide +kernel
theorem dX6_cell_9 : decode cX6_cell 9 = .ok (.ifCond .ne 5, 3) := by decide +kernel
theorem dX6_cell_12 : decode cX6_cell 12 = .ok (.iconst (-1), 1) := by decide +kernel
theorem dX6_cell_13 : decode cX6_cell 13 = .ok (.ireturn, 1) := by decide +kernel
theorem dX6_cell_14 : decode cX6_cell 14 = .ok (.iload_n 3, 1) := by decide +kernel
theorem dX6_cell_15 : decode cX6_cell 15 = .ok (.tableswitch 71 0 2 #[25, 38, 61], 25) := by decide +kernel
theorem dX6_cell_40 : decode cX6_cell 40 = .ok (.aload_n 0, 1) := by decide +kernel
theorem dX6_cell_41 : decode cX6_cell 41 = .ok (.getfield 10, 3) := by decide +kernel
theorem dX6_cell_44 : decode cX6_cell 44 = .ok (.getfield 138, 3) := by decide +kernel
theorem dX6_cell_47 : decode cX6_cell 47 = .ok (.iload_n 1, 1) := by decide +kernel
theorem dX6_cell_48 : decode cX6_cell 48 = .ok (.iload_n 2, 1) := by decide +kernel
theorem dX6_cell_49 : decode cX6_cell 49 = .ok (.invokevirtual 141, 3) := by decide +kernel
theorem dX6_cell_52 : decode cX6_cell 52 = .ok (.ireturn, 1) := by decide +kernel
theorem dX6_cell_53 : decode cX6_cell 53 = .ok (.aload_n 0, 1) := by decide +kernel
theorem dX6_cell_54 : decode cX6_cell 54 = .ok (.getfield 10, 3) := by decide +kernel
theorem dX6_cell_57 : decode cX6_cell 57 = .ok (.aload_n 0, 1) := by decide +kernel
theorem dX6_cell_58 : decode cX6_cell 58 = .ok (.getfield 58, 3) := by decide +kernel
theorem dX6_cell_61 : decode cX6_cell 61 = .ok (.iconst (-1), 1) := by decide +kernel
theorem dX6_cell_62 : decode cX6_cell 62 = .ok (.iconst 4, 1) := by decide +kernel
theorem dX6_cell_63 : decode cX6_cell 63 = .ok (.invokevirtual 144, 3) := by decide +kernel
theorem dX6_cell_66 : decode cX6_cell 66 = .ok (.aload_n 0, 1) := by decide +kernel
theorem dX6_cell_67 : decode cX6_cell 67 = .ok (.getfield 58, 3) := by decide +kernel
theorem dX6_cell_70 : decode cX6_cell 70 = .ok (.iload_n 1, 1) := by decide +kernel
theorem dX6_cell_71 : decode cX6_cell 71 = .ok (.iload_n 2, 1) := by decide +kernel
theorem dX6_cell_72 : decode cX6_cell 72 = .ok (.invokevirtual 141, 3) := by decide +kernel
theorem dX6_cell_75 : decode cX6_cell 75 = .ok (.ireturn, 1) := by decide +kernel
theorem dX6_cell_76 : decode cX6_cell 76 = .ok (.aload_n 0, 1) := by decide +kernel
theorem dX6_cell_77 : decode cX6_cell 77 = .ok (.getfield 10, 3) := by decide +kernel
theorem dX6_cell_80 : decode cX6_cell 80 = .ok (.iload_n 1, 1) := by decide +kernel
theorem dX6_cell_81 : decode cX6_cell 81 = .ok (.iload_n 2, 1) := by decide +kernel
theorem dX6_cell_82 : decode cX6_cell 82 = .ok (.invokevirtual 148, 3) := by decide +kernel
theorem dX6_cell_85 : decode cX6_cell 85 = .ok (.ireturn, 1) := by decide +kernel
theorem dX6_cell_86 : decode cX6_cell 86 = .ok (.iconst (-1), 1) := by decide +kernel
theorem dX6_cell_87 : decode cX6_cell 87 = .ok (.ireturn, 1) := by decide +kernel
theorem dX6_ink_0 : decode cX6_ink 0 = .ok (.aload_n 0, 1) := by decide +kernel
theorem dX6_ink_1 : decode cX6_ink 1 = .ok (.getfield 10, 3) := by decide +kernel
theorem dX6_ink_4 : decode cX6_ink 4 = .ok (.iload_n 1, 1) := by decide +kernel
theorem dX6_ink_5 : decode cX6_ink 5 = .ok (.invokevirtual 104, 3) := by decide +kernel
theorem dX6_ink_8 : decode cX6_ink 8 = .ok (.ifCond .ne 6, 3) := by decide +kernel
theorem dX6_ink_11 : decode cX6_ink 11 = .ok (.ldc 151, 2) := by decide +kernel
theorem dX6_ink_13 : decode cX6_ink 13 = .ok (.ireturn, 1) := by decide +kernel
theorem dX6_ink_14 : decode cX6_ink 14 = .ok (.iload_n 2, 1) := by decide +kernel
theorem dX6_ink_15 : decode cX6_ink 15 = .ok (.tableswitch 112 0 5 #[37, 47, 64, 73, 86, 99], 37) := by decide +kernel
theorem dX6_ink_52 : decode cX6_ink 52 = .ok (.aload_n 0, 1) := by decide +kernel
theorem dX6_ink_53 : decode cX6_ink 53 = .ok (.getfield 10, 3) := by decide +kernel
theorem dX6_ink_56 : decode cX6_ink 56 = .ok (.getfield 152, 3) := by decide +kernel
theorem dX6_ink_59 : decode cX6_ink 59 = .ok (.iload_n 1, 1) := by decide +kernel
theorem dX6_ink_60 : decode cX6_ink 60 = .ok (.iaload, 1) := by decide +kernel
theorem dX6_ink_61 : decode cX6_ink 61 = .ok (.ireturn, 1) := by decide +kernel
theorem dX6_ink_62 : decode cX6_ink 62 = .ok (.aload_n 0, 1) := by decide +kernel
theorem dX6_ink_63 : decode cX6_ink 63 = .ok (.getfield 10, 3) := by decide +kernel
theorem dX6_ink_66 : decode cX6_ink 66 = .ok (.iload_n 1, 1) := by decide +kernel
theorem dX6_ink_67 : decode cX6_ink 67 = .ok (.invokevirtual 155, 3) := by decide +kernel
theorem dX6_ink_70 : decode cX6_ink 70 = .ok (.ifCond .eq 7, 3) := by decide +kernel
theorem dX6_ink_73 : decode cX6_ink 73 = .ok (.iconst 1, 1) := by decide +kernel
theorem dX6_ink_74 : decode cX6_ink 74 = .ok (.goto 4, 3) := by decide +kernel
theorem dX6_ink_77 : decode cX6_ink 77 = .ok (.iconst 0, 1) := by decide +kernel
theorem dX6_ink_78 : decode cX6_ink 78 = .ok (.ireturn, 1) := by decide +kernel
theorem dX6_ink_79 : decode cX6_ink 79 = .ok (.aload_n 0, 1) := by decide +kernel
theorem dX6_ink_80 : decode cX6_ink 80 = .ok (.getfield 10, 3) := by decide +kernel
theorem dX6_ink_83 : decode cX6_ink 83 = .ok (.iload_n 1, 1) := by decide +kernel
theorem dX6_ink_84 : decode cX6_ink 84 = .ok (.invokevirtual 158, 3) := by decide +kernel
theorem dX6_ink_87 : decode cX6_ink 87 = .ok (.ireturn, 1) := by decide +kernel
theorem dX6_ink_88 : decode cX6_ink 88 = .ok (.aload_n 0, 1) := by decide +kernel
theorem dX6_ink_89 : decode cX6_ink 89 = .ok (.getfield 10, 3) := by decide +kernel
theorem dX6_ink_92 : decode cX6_ink 92 = .ok (.getfield 111, 3) := by decide +kernel
theorem dX6_ink_95 : decode cX6_ink 95 = .ok (.iload_n 1, 1) := by decide +kernel
theorem dX6_ink_96 : decode cX6_ink 96 = .ok (.laload, 1) := by decide +kernel
theorem dX6_ink_97 : decode cX6_ink 97 = .ok (.invokestatic 161, 3) := by decide +kernel
theorem dX6_ink_100 : decode cX6_ink 100 = .ok (.ireturn, 1) := by decide +kernel
theorem dX6_ink_101 : decode cX6_ink 101 = .ok (.aload_n 0, 1) := by decide +kernel
theorem dX6_ink_102 : decode cX6_ink 102 = .ok (.getfield 10, 3) := by decide +kernel
theorem dX6_ink_105 : decode cX6_ink 105 = .ok (.getfield 123, 3) := by decide +kernel
theorem dX6_ink_108 : decode cX6_ink 108 = .ok (.iload_n 1, 1) := by decide +kernel
theorem dX6_ink_109 : decode cX6_ink 109 = .ok (.iaload, 1) := by decide +kernel
theorem dX6_ink_110 : decode cX6_ink 110 = .ok (.invokestatic 166, 3) := by decide +kernel
theorem dX6_ink_113 : decode cX6_ink 113 = .ok (.ireturn, 1) := by decide +kernel
theorem dX6_ink_114 : decode cX6_ink 114 = .ok (.aload_n 0, 1) := by decide +kernel
theorem dX6_ink_115 : decode cX6_ink 115 = .ok (.getfield 10, 3) := by decide +kernel
theorem dX6_ink_118 : decode cX6_ink 118 = .ok (.getfield 123, 3) := by decide +kernel
theorem dX6_ink_121 : decode cX6_ink 121 = .ok (.iload_n 1, 1) := by decide +kernel
theorem dX6_ink_122 : decode cX6_ink 122 = .ok (.iaload, 1) := by decide +kernel
theorem dX6_ink_123 : decode cX6_ink 123 = .ok (.invokestatic 169, 3) := by decide +kernel
theorem dX6_ink_126 : decode cX6_ink 126 = .ok (.ireturn, 1) := by decide +kernel
theorem dX6_ink_127 : decode cX6_ink 127 = .ok (.ldc 151, 2) := by decide +kernel
theorem dX6_ink_129 : decode cX6_ink 129 = .ok (.ireturn, 1) := by decide +kernel
theorem dX6_made_0 : decode cX6_made 0 = .ok (.iload_n 1, 1) := by decide +kernel
theorem dX6_made_1 : decode cX6_made 1 = .ok (.ifCond .lt 14, 3) := by decide +kernel
theorem dX6_made_4 : decode cX6_made 4 = .ok (.iload_n 1, 1) := by decide +kernel
theorem dX6_made_5 : decode cX6_made 5 = .ok (.aload_n 0, 1) := by decide +kernel
theorem dX6_made_6 : decode cX6_made 6 = .ok (.getfield 10, 3) := by decide +kernel
theorem dX6_made_9 : decode cX6_made 9 = .ok (.invokevirtual 172, 3) := by decide +kernel
theorem dX6_made_12 : decode cX6_made 12 = .ok (.if_icmp .lt 5, 3) := by decide +kernel
theorem dX6_made_15 : decode cX6_made 15 = .ok (.iconst (-1), 1) := by decide +kernel
theorem dX6_made_16 : decode cX6_made 16 = .ok (.ireturn, 1) := by decide +kernel
theorem dX6_made_17 : decode cX6_made 17 = .ok (.aload_n 0, 1) := by decide +kernel
theorem dX6_made_18 : decode cX6_made 18 = .ok (.getfield 10, 3) := by decide +kernel
theorem dX6_made_21 : decode cX6_made 21 = .ok (.iload_n 1, 1) := by decide +kernel
theorem dX6_made_22 : decode cX6_made 22 = .ok (.invokevirtual 175, 3) := by decide +kernel
theorem dX6_made_25 : decode cX6_made 25 = .ok (.ireturn, 1) := by decide +kernel
theorem dX6_least_0 : decode cX6_least 0 = .ok (.iload_n 1, 1) := by decide +kernel
theorem dX6_least_1 : decode cX6_least 1 = .ok (.ifCond .lt 8, 3) := by decide +kernel
theorem dX6_least_4 : decode cX6_least 4 = .ok (.iload_n 1, 1) := by decide +kernel
theorem dX6_least_5 : decode cX6_least 5 = .ok (.iconst 1, 1) := by decide +kernel
theorem dX6_least_6 : decode cX6_least 6 = .ok (.if_icmp .le 5, 3) := by decide +kernel
theorem dX6_least_9 : decode cX6_least 9 = .ok (.iconst (-1), 1) := by decide +kernel
theorem dX6_least_10 : decode cX6_least 10 = .ok (.ireturn, 1) := by decide +kernel
theorem dX6_least_11 : decode cX6_least 11 = .ok (.aload_n 0, 1) := by decide +kernel
theorem dX6_least_12 : decode cX6_least 12 = .ok (.getfield 10, 3) := by decide +kernel
theorem dX6_least_15 : decode cX6_least 15 = .ok (.invokevirtual 90, 3) := by decide +kernel
theorem dX6_least_18 : decode cX6_least 18 = .ok (.istore_n 2, 1) := by decide +kernel
theorem dX6_least_19 : decode cX6_least 19 = .ok (.iload_n 2, 1) := by decide +kernel
theorem dX6_least_20 : decode cX6_least 20 = .ok (.bipush (-9), 2) := by decide +kernel
theorem dX6_least_22 : decode cX6_least 22 = .ok (.if_icmp .eq 8, 3) := by decide +kernel
theorem dX6_least_25 : decode cX6_least 25 = .ok (.iload_n 1, 1) := by decide +kernel
theorem dX6_least_26 : decode cX6_least 26 = .ok (.iconst 1, 1) := by decide +kernel
theorem dX6_least_27 : decode cX6_least 27 = .ok (.if_icmp .ne 5, 3) := by decide +kernel
theorem dX6_least_30 : decode cX6_least 30 = .ok (.iload_n 2, 1) := by decide +kernel
theorem dX6_least_31 : decode cX6_least 31 = .ok (.ireturn, 1) := by decide +kernel
theorem dX6_least_32 : decode cX6_least 32 = .ok (.iload_n 2, 1) := by decide +kernel
theorem dX6_least_33 : decode cX6_least 33 = .ok (.invokestatic 98, 3) := by decide +kernel
theorem dX6_least_36 : decode cX6_least 36 = .ok (.ireturn, 1) := by decide +kernel
theorem dX6_order_0 : decode cX6_order 0 = .ok (.iload_n 1, 1) := by decide +kernel
theorem dX6_order_1 : decode cX6_order 1 = .ok (.iconst (-1), 1) := by decide +kernel
theorem dX6_order_2 : decode cX6_order 2 = .ok (.if_icmp .ge 5, 3) := by decide +kernel
theorem dX6_order_5 : decode cX6_order 5 = .ok (.iconst (-1), 1) := by decide +kernel
theorem dX6_order_6 : decode cX6_order 6 = .ok (.ireturn, 1) := by decide +kernel
theorem dX6_order_7 : decode cX6_order 7 = .ok (.iload_n 1, 1) := by decide +kernel
theorem dX6_order_8 : decode cX6_order 8 = .ok (.aload_n 0, 1) := by decide +kernel
theorem dX6_order_9 : decode cX6_order 9 = .ok (.getfield 10, 3) := by decide +kernel
theorem dX6_order_12 : decode cX6_order 12 = .ok (.getfield 84, 3) := by decide +kernel
theorem dX6_order_15 : decode cX6_order 15 = .ok (.if_icmp .lt 6, 3) := by decide +kernel
theorem dX6_order_18 : decode cX6_order 18 = .ok (.bipush (-9), 2) := by decide +kernel
theorem dX6_order_20 : decode cX6_order 20 = .ok (.ireturn, 1) := by decide +kernel
theorem dX6_order_21 : decode cX6_order 21 = .ok (.aload_n 0, 1) := by decide +kernel
theorem dX6_order_22 : decode cX6_order 22 = .ok (.getfield 51, 3) := by decide +kernel
theorem dX6_order_25 : decode cX6_order 25 = .ok (.aload_n 0, 1) := by decide +kernel
theorem dX6_order_26 : decode cX6_order 26 = .ok (.getfield 10, 3) := by decide +kernel
theorem dX6_order_29 : decode cX6_order 29 = .ok (.invokevirtual 178, 3) := by decide +kernel
theorem dX6_order_32 : decode cX6_order 32 = .ok (.aload_n 0, 1) := by decide +kernel
theorem dX6_order_33 : decode cX6_order 33 = .ok (.getfield 51, 3) := by decide +kernel
theorem dX6_order_36 : decode cX6_order 36 = .ok (.getfield 181, 3) := by decide +kernel
theorem dX6_order_39 : decode cX6_order 39 = .ok (.ifCond .ne 6, 3) := by decide +kernel
theorem dX6_order_42 : decode cX6_order 42 = .ok (.bipush (-9), 2) := by decide +kernel
theorem dX6_order_44 : decode cX6_order 44 = .ok (.ireturn, 1) := by decide +kernel
theorem dX6_order_45 : decode cX6_order 45 = .ok (.iload_n 1, 1) := by decide +kernel
theorem dX6_order_46 : decode cX6_order 46 = .ok (.iconst (-1), 1) := by decide +kernel
theorem dX6_order_47 : decode cX6_order 47 = .ok (.if_icmp .ne 13, 3) := by decide +kernel
theorem dX6_order_50 : decode cX6_order 50 = .ok (.aload_n 0, 1) := by decide +kernel
theorem dX6_order_51 : decode cX6_order 51 = .ok (.getfield 51, 3) := by decide +kernel
theorem dX6_order_54 : decode cX6_order 54 = .ok (.getfield 185, 3) := by decide +kernel
theorem dX6_order_57 : decode cX6_order 57 = .ok (.goto 18, 3) := by decide +kernel
theorem dX6_order_60 : decode cX6_order 60 = .ok (.aload_n 0, 1) := by decide +kernel
theorem dX6_order_61 : decode cX6_order 61 = .ok (.getfield 51, 3) := by decide +kernel
theorem dX6_order_64 : decode cX6_order 64 = .ok (.iload_n 1, 1) := by decide +kernel
theorem dX6_order_65 : decode cX6_order 65 = .ok (.aload_n 0, 1) := by decide +kernel
theorem dX6_order_66 : decode cX6_order 66 = .ok (.getfield 10, 3) := by decide +kernel
theorem dX6_order_69 : decode cX6_order 69 = .ok (.getfield 84, 3) := by decide +kernel
theorem dX6_order_72 : decode cX6_order 72 = .ok (.invokevirtual 188, 3) := by decide +kernel
theorem dX6_order_75 : decode cX6_order 75 = .ok (.ireturn, 1) := by decide +kernel
theorem dX6_wrong_0 : decode cX6_wrong 0 = .ok (.aload_n 0, 1) := by decide +kernel
theorem dX6_wrong_1 : decode cX6_wrong 1 = .ok (.iconst (-1), 1) := by decide +kernel
theorem dX6_wrong_2 : decode cX6_wrong 2 = .ok (.iconst 4, 1) := by decide +kernel
theorem dX6_wrong_3 : decode cX6_wrong 3 = .ok (.invokevirtual 131, 3) := by decide +kernel
theorem dX6_wrong_6 : decode cX6_wrong 6 = .ok (.ireturn, 1) := by decide +kernel
theorem dX6_hurt_0 : decode cX6_hurt 0 = .ok (.aload_n 0, 1) := by decide +kernel
theorem dX6_hurt_1 : decode cX6_hurt 1 = .ok (.getfield 10, 3) := by decide +kernel
theorem dX6_hurt_4 : decode cX6_hurt 4 = .ok (.iload_n 1, 1) := by decide +kernel
theorem dX6_hurt_5 : decode cX6_hurt 5 = .ok (.invokevirtual 104, 3) := by decide +kernel
theorem dX6_hurt_8 : decode cX6_hurt 8 = .ok (.ifCond .ne 6, 3) := by decide +kernel
theorem dX6_hurt_11 : decode cX6_hurt 11 = .ok (.ldc 151, 2) := by decide +kernel
theorem dX6_hurt_13 : decode cX6_hurt 13 = .ok (.ireturn, 1) := by decide +kernel
theorem dX6_hurt_14 : decode cX6_hurt 14 = .ok (.aload_n 0, 1) := by decide +kernel
theorem dX6_hurt_15 : decode cX6_hurt 15 = .ok (.getfield 10, 3) := by decide +kernel
theorem dX6_hurt_18 : decode cX6_hurt 18 = .ok (.getfield 123, 3) := by decide +kernel
theorem dX6_hurt_21 : decode cX6_hurt 21 = .ok (.iload_n 1, 1) := by decide +kernel
theorem dX6_hurt_22 : decode cX6_hurt 22 = .ok (.iaload, 1) := by decide +kernel
theorem dX6_hurt_23 : decode cX6_hurt 23 = .ok (.invokestatic 166, 3) := by decide +kernel
theorem dX6_hurt_26 : decode cX6_hurt 26 = .ok (.istore_n 2, 1) := by decide +kernel
theorem dX6_hurt_27 : decode cX6_hurt 27 = .ok (.iload_n 2, 1) := by decide +kernel
theorem dX6_hurt_28 : decode cX6_hurt 28 = .ok (.iconst 1, 1) := by decide +kernel
theorem dX6_hurt_29 : decode cX6_hurt 29 = .ok (.if_icmp .ne 7, 3) := by decide +kernel
theorem dX6_hurt_32 : decode cX6_hurt 32 = .ok (.iconst 0, 1) := by decide +kernel
theorem dX6_hurt_33 : decode cX6_hurt 33 = .ok (.goto 6, 3) := by decide +kernel
theorem dX6_hurt_36 : decode cX6_hurt 36 = .ok (.iload_n 2, 1) := by decide +kernel
theorem dX6_hurt_37 : decode cX6_hurt 37 = .ok (.iconst 1, 1) := by decide +kernel
theorem dX6_hurt_38 : decode cX6_hurt 38 = .ok (.iadd, 1) := by decide +kernel
theorem dX6_hurt_39 : decode cX6_hurt 39 = .ok (.aload_n 0, 1) := by decide +kernel
theorem dX6_hurt_40 : decode cX6_hurt 40 = .ok (.getfield 10, 3) := by decide +kernel
theorem dX6_hurt_43 : decode cX6_hurt 43 = .ok (.getfield 123, 3) := by decide +kernel
theorem dX6_hurt_46 : decode cX6_hurt 46 = .ok (.iload_n 1, 1) := by decide +kernel
theorem dX6_hurt_47 : decode cX6_hurt 47 = .ok (.iaload, 1) := by decide +kernel
theorem dX6_hurt_48 : decode cX6_hurt 48 = .ok (.invokestatic 169, 3) := by decide +kernel
theorem dX6_hurt_51 : decode cX6_hurt 51 = .ok (.invokestatic 119, 3) := by decide +kernel
theorem dX6_hurt_54 : decode cX6_hurt 54 = .ok (.istore_n 3, 1) := by decide +kernel
theorem dX6_hurt_55 : decode cX6_hurt 55 = .ok (.aload_n 0, 1) := by decide +kernel
theorem dX6_hurt_56 : decode cX6_hurt 56 = .ok (.iload_n 1, 1) := by decide +kernel
theorem dX6_hurt_57 : decode cX6_hurt 57 = .ok (.iload_n 3, 1) := by decide +kernel
theorem dX6_hurt_58 : decode cX6_hurt 58 = .ok (.invokevirtual 131, 3) := by decide +kernel
theorem dX6_hurt_61 : decode cX6_hurt 61 = .ok (.aload_n 0, 1) := by decide +kernel
theorem dX6_hurt_62 : decode cX6_hurt 62 = .ok (.iconst (-1), 1) := by decide +kernel
theorem dX6_hurt_63 : decode cX6_hurt 63 = .ok (.iconst 4, 1) := by decide +kernel
theorem dX6_hurt_64 : decode cX6_hurt 64 = .ok (.invokevirtual 131, 3) := by decide +kernel
theorem dX6_hurt_67 : decode cX6_hurt 67 = .ok (.isub, 1) := by decide +kernel
theorem dX6_hurt_68 : decode cX6_hurt 68 = .ok (.ireturn, 1) := by decide +kernel
theorem dX6_sees_0 : decode cX6_sees 0 = .ok (.iload_n 1, 1) := by decide +kernel
theorem dX6_sees_1 : decode cX6_sees 1 = .ok (.iload_n 2, 1) := by decide +kernel
theorem dX6_sees_2 : decode cX6_sees 2 = .ok (.invokestatic 191, 3) := by decide +kernel
theorem dX6_sees_5 : decode cX6_sees 5 = .ok (.ifCond .eq 13, 3) := by decide +kernel
theorem dX6_sees_8 : decode cX6_sees 8 = .ok (.iload_n 3, 1) := by decide +kernel
theorem dX6_sees_9 : decode cX6_sees 9 = .ok (.ifCond .lt 9, 3) := by decide +kernel
theorem dX6_sees_12 : decode cX6_sees 12 = .ok (.iload_n 3, 1) := by decide +kernel
theorem dX6_sees_13 : decode cX6_sees 13 = .ok (.bipush 8, 2) := by decide +kernel
theorem dX6_sees_15 : decode cX6_sees 15 = .ok (.if_icmp .lt 5, 3) := by decide +kernel
theorem dX6_sees_18 : decode cX6_sees 18 = .ok (.iconst (-1), 1) := by decide +kernel
theorem dX6_sees_19 : decode cX6_sees 19 = .ok (.ireturn, 1) := by decide +kernel
theorem dX6_sees_20 : decode cX6_sees 20 = .ok (.aload_n 0, 1) := by decide +kernel
theorem dX6_sees_21 : decode cX6_sees 21 = .ok (.getfield 44, 3) := by decide +kernel
theorem dX6_sees_24 : decode cX6_sees 24 = .ok (.iload_n 1, 1) := by decide +kernel
theorem dX6_sees_25 : decode cX6_sees 25 = .ok (.iload_n 2, 1) := by decide +kernel
theorem dX6_sees_26 : decode cX6_sees 26 = .ok (.iload_n 3, 1) := by decide +kernel
theorem dX6_sees_27 : decode cX6_sees 27 = .ok (.invokevirtual 194, 3) := by decide +kernel
theorem dX6_sees_30 : decode cX6_sees 30 = .ok (.ifCond .eq 13, 3) := by decide +kernel
theorem dX6_sees_33 : decode cX6_sees 33 = .ok (.aload_n 0, 1) := by decide +kernel
theorem dX6_sees_34 : decode cX6_sees 34 = .ok (.getfield 44, 3) := by decide +kernel
theorem dX6_sees_37 : decode cX6_sees 37 = .ok (.getfield 81, 3) := by decide +kernel
theorem dX6_sees_40 : decode cX6_sees 40 = .ok (.goto 5, 3) := by decide +kernel
theorem dX6_sees_43 : decode cX6_sees 43 = .ok (.bipush (-3), 2) := by decide +kernel
theorem dX6_sees_45 : decode cX6_sees 45 = .ok (.ireturn, 1) := by decide +kernel
theorem dX6_forget_0 : decode cX6_forget 0 = .ok (.aload_n 0, 1) := by decide +kernel
theorem dX6_forget_1 : decode cX6_forget 1 = .ok (.getfield 44, 3) := by decide +kernel
theorem dX6_forget_4 : decode cX6_forget 4 = .ok (.getfield 81, 3) := by decide +kernel
theorem dX6_forget_7 : decode cX6_forget 7 = .ok (.istore_n 1, 1) := by decide +kernel
theorem dX6_forget_8 : decode cX6_forget 8 = .ok (.aload_n 0, 1) := by decide +kernel
theorem dX6_forget_9 : decode cX6_forget 9 = .ok (.getfield 44, 3) := by decide +kernel
theorem dX6_forget_12 : decode cX6_forget 12 = .ok (.iconst 0, 1) := by decide +kernel
theorem dX6_forget_13 : decode cX6_forget 13 = .ok (.putfield 81, 3) := by decide +kernel
theorem dX6_forget_16 : decode cX6_forget 16 = .ok (.iload_n 1, 1) := by decide +kernel
theorem dX6_forget_17 : decode cX6_forget 17 = .ok (.ireturn, 1) := by decide +kernel
theorem dX6_which_0 : decode cX6_which 0 = .ok (.iload_n 1, 1) := by decide +kernel
theorem dX6_which_1 : decode cX6_which 1 = .ok (.lookupswitch 51 #[(0, 27), (1, 39)], 27) := by decide +kernel
theorem dX6_which_28 : decode cX6_which 28 = .ok (.aload_n 0, 1) := by decide +kernel
theorem dX6_which_29 : decode cX6_which 29 = .ok (.getfield 44, 3) := by decide +kernel
theorem dX6_which_32 : decode cX6_which 32 = .ok (.aload_n 0, 1) := by decide +kernel
theorem dX6_which_33 : decode cX6_which 33 = .ok (.getfield 10, 3) := by decide +kernel
theorem dX6_which_36 : decode cX6_which 36 = .ok (.invokevirtual 198, 3) := by decide +kernel
theorem dX6_which_39 : decode cX6_which 39 = .ok (.ireturn, 1) := by decide +kernel
theorem dX6_which_40 : decode cX6_which 40 = .ok (.aload_n 0, 1) := by decide +kernel
theorem dX6_which_41 : decode cX6_which 41 = .ok (.getfield 44, 3) := by decide +kernel
theorem dX6_which_44 : decode cX6_which 44 = .ok (.aload_n 0, 1) := by decide +kernel
theorem dX6_which_45 : decode cX6_which 45 = .ok (.getfield 10, 3) := by decide +kernel
theorem dX6_which_48 : decode cX6_which 48 = .ok (.invokevirtual 201, 3) := by decide +kernel
theorem dX6_which_51 : decode cX6_which 51 = .ok (.ireturn, 1) := by decide +kernel
theorem dX6_which_52 : decode cX6_which 52 = .ok (.ldc 151, 2) := by decide +kernel
theorem dX6_which_54 : decode cX6_which 54 = .ok (.ireturn, 1) := by decide +kernel
theorem dX6_ask_0 : decode cX6_ask 0 = .ok (.aload_n 0, 1) := by decide +kernel
theorem dX6_ask_1 : decode cX6_ask 1 = .ok (.getfield 44, 3) := by decide +kernel
theorem dX6_ask_4 : decode cX6_ask 4 = .ok (.aload_n 0, 1) := by decide +kernel
theorem dX6_ask_5 : decode cX6_ask 5 = .ok (.getfield 10, 3) := by decide +kernel
theorem dX6_ask_8 : decode cX6_ask 8 = .ok (.invokevirtual 204, 3) := by decide +kernel
theorem dX6_ask_11 : decode cX6_ask 11 = .ok (.ireturn, 1) := by decide +kernel
theorem dX6_keep_0 : decode cX6_keep 0 = .ok (.iload_n 1, 1) := by decide +kernel
theorem dX6_keep_1 : decode cX6_keep 1 = .ok (.ifCond .lt 8, 3) := by decide +kernel
theorem dX6_keep_4 : decode cX6_keep 4 = .ok (.iload_n 1, 1) := by decide +kernel
theorem dX6_keep_5 : decode cX6_keep 5 = .ok (.iconst 2, 1) := by decide +kernel
theorem dX6_keep_6 : decode cX6_keep 6 = .ok (.if_icmp .lt 5, 3) := by decide +kernel
theorem dX6_keep_9 : decode cX6_keep 9 = .ok (.iconst (-1), 1) := by decide +kernel
theorem dX6_keep_10 : decode cX6_keep 10 = .ok (.ireturn, 1) := by decide +kernel
theorem dX6_keep_11 : decode cX6_keep 11 = .ok (.aload_n 0, 1) := by decide +kernel
theorem dX6_keep_12 : decode cX6_keep 12 = .ok (.getfield 33, 3) := by decide +kernel
theorem dX6_keep_15 : decode cX6_keep 15 = .ok (.iload_n 1, 1) := by decide +kernel
theorem dX6_keep_16 : decode cX6_keep 16 = .ok (.aaload, 1) := by decide +kernel
theorem dX6_keep_17 : decode cX6_keep 17 = .ok (.aload_n 0, 1) := by decide +kernel
theorem dX6_keep_18 : decode cX6_keep 18 = .ok (.getfield 10, 3) := by decide +kernel
theorem dX6_keep_21 : decode cX6_keep 21 = .ok (.invokevirtual 78, 3) := by decide +kernel
theorem dX6_keep_24 : decode cX6_keep 24 = .ok (.aload_n 0, 1) := by decide +kernel
theorem dX6_keep_25 : decode cX6_keep 25 = .ok (.getfield 37, 3) := by decide +kernel
theorem dX6_keep_28 : decode cX6_keep 28 = .ok (.iload_n 1, 1) := by decide +kernel
theorem dX6_keep_29 : decode cX6_keep 29 = .ok (.iconst 1, 1) := by decide +kernel
theorem dX6_keep_30 : decode cX6_keep 30 = .ok (.bastore, 1) := by decide +kernel
theorem dX6_keep_31 : decode cX6_keep 31 = .ok (.aload_n 0, 1) := by decide +kernel
theorem dX6_keep_32 : decode cX6_keep 32 = .ok (.getfield 10, 3) := by decide +kernel
theorem dX6_keep_35 : decode cX6_keep 35 = .ok (.getfield 84, 3) := by decide +kernel
theorem dX6_keep_38 : decode cX6_keep 38 = .ok (.ireturn, 1) := by decide +kernel
theorem dX6_back_0 : decode cX6_back 0 = .ok (.iload_n 1, 1) := by decide +kernel
theorem dX6_back_1 : decode cX6_back 1 = .ok (.ifCond .lt 8, 3) := by decide +kernel
theorem dX6_back_4 : decode cX6_back 4 = .ok (.iload_n 1, 1) := by decide +kernel
theorem dX6_back_5 : decode cX6_back 5 = .ok (.iconst 2, 1) := by decide +kernel
theorem dX6_back_6 : decode cX6_back 6 = .ok (.if_icmp .lt 5, 3) := by decide +kernel
theorem dX6_back_9 : decode cX6_back 9 = .ok (.iconst (-1), 1) := by decide +kernel
theorem dX6_back_10 : decode cX6_back 10 = .ok (.ireturn, 1) := by decide +kernel
theorem dX6_back_11 : decode cX6_back 11 = .ok (.aload_n 0, 1) := by decide +kernel
theorem dX6_back_12 : decode cX6_back 12 = .ok (.getfield 37, 3) := by decide +kernel
theorem dX6_back_15 : decode cX6_back 15 = .ok (.iload_n 1, 1) := by decide +kernel
theorem dX6_back_16 : decode cX6_back 16 = .ok (.baload, 1) := by decide +kernel
theorem dX6_back_17 : decode cX6_back 17 = .ok (.ifCond .ne 6, 3) := by decide +kernel
theorem dX6_back_20 : decode cX6_back 20 = .ok (.bipush (-2), 2) := by decide +kernel
theorem dX6_back_22 : decode cX6_back 22 = .ok (.ireturn, 1) := by decide +kernel
theorem dX6_back_23 : decode cX6_back 23 = .ok (.aload_n 0, 1) := by decide +kernel
theorem dX6_back_24 : decode cX6_back 24 = .ok (.getfield 10, 3) := by decide +kernel
theorem dX6_back_27 : decode cX6_back 27 = .ok (.aload_n 0, 1) := by decide +kernel
theorem dX6_back_28 : decode cX6_back 28 = .ok (.getfield 33, 3) := by decide +kernel
theorem dX6_back_31 : decode cX6_back 31 = .ok (.iload_n 1, 1) := by decide +kernel
theorem dX6_back_32 : decode cX6_back 32 = .ok (.aaload, 1) := by decide +kernel
theorem dX6_back_33 : decode cX6_back 33 = .ok (.invokevirtual 78, 3) := by decide +kernel
theorem dX6_back_36 : decode cX6_back 36 = .ok (.aload_n 0, 1) := by decide +kernel
theorem dX6_back_37 : decode cX6_back 37 = .ok (.getfield 29, 3) := by decide +kernel
theorem dX6_back_40 : decode cX6_back 40 = .ok (.iconst 0, 1) := by decide +kernel
theorem dX6_back_41 : decode cX6_back 41 = .ok (.putfield 134, 3) := by decide +kernel
theorem dX6_back_44 : decode cX6_back 44 = .ok (.aload_n 0, 1) := by decide +kernel
theorem dX6_back_45 : decode cX6_back 45 = .ok (.getfield 10, 3) := by decide +kernel
theorem dX6_back_48 : decode cX6_back 48 = .ok (.getfield 84, 3) := by decide +kernel
theorem dX6_back_51 : decode cX6_back 51 = .ok (.ireturn, 1) := by decide +kernel
theorem dX6_count_0 : decode cX6_count 0 = .ok (.iload_n 1, 1) := by decide +kernel
theorem dX6_count_1 : decode cX6_count 1 = .ok (.tableswitch 123 0 8 #[51, 59, 67, 75, 83, 91, 99, 107, 115], 51) := by decide +kernel
theorem dX6_count_52 : decode cX6_count 52 = .ok (.aload_n 0, 1) := by decide +kernel
theorem dX6_count_53 : decode cX6_count 53 = .ok (.getfield 10, 3) := by decide +kernel
theorem dX6_count_56 : decode cX6_count 56 = .ok (.getfield 207, 3) := by decide +kernel
theorem dX6_count_59 : decode cX6_count 59 = .ok (.ireturn, 1) := by decide +kernel
theorem dX6_count_60 : decode cX6_count 60 = .ok (.aload_n 0, 1) := by decide +kernel
theorem dX6_count_61 : decode cX6_count 61 = .ok (.getfield 10, 3) := by decide +kernel
theorem dX6_count_64 : decode cX6_count 64 = .ok (.getfield 87, 3) := by decide +kernel
theorem dX6_count_67 : decode cX6_count 67 = .ok (.ireturn, 1) := by decide +kernel
theorem dX6_count_68 : decode cX6_count 68 = .ok (.aload_n 0, 1) := by decide +kernel
theorem dX6_count_69 : decode cX6_count 69 = .ok (.getfield 10, 3) := by decide +kernel
theorem dX6_count_72 : decode cX6_count 72 = .ok (.getfield 84, 3) := by decide +kernel
theorem dX6_count_75 : decode cX6_count 75 = .ok (.ireturn, 1) := by decide +kernel
theorem dX6_count_76 : decode cX6_count 76 = .ok (.aload_n 0, 1) := by decide +kernel
theorem dX6_count_77 : decode cX6_count 77 = .ok (.getfield 10, 3) := by decide +kernel
theorem dX6_count_80 : decode cX6_count 80 = .ok (.invokevirtual 210, 3) := by decide +kernel
theorem dX6_count_83 : decode cX6_count 83 = .ok (.ireturn, 1) := by decide +kernel
theorem dX6_count_84 : decode cX6_count 84 = .ok (.aload_n 0, 1) := by decide +kernel
theorem dX6_count_85 : decode cX6_count 85 = .ok (.getfield 10, 3) := by decide +kernel
theorem dX6_count_88 : decode cX6_count 88 = .ok (.invokevirtual 213, 3) := by decide +kernel
theorem dX6_count_91 : decode cX6_count 91 = .ok (.ireturn, 1) := by decide +kernel
theorem dX6_count_92 : decode cX6_count 92 = .ok (.aload_n 0, 1) := by decide +kernel
theorem dX6_count_93 : decode cX6_count 93 = .ok (.getfield 10, 3) := by decide +kernel
theorem dX6_count_96 : decode cX6_count 96 = .ok (.invokevirtual 216, 3) := by decide +kernel
theorem dX6_count_99 : decode cX6_count 99 = .ok (.ireturn, 1) := by decide +kernel
theorem dX6_count_100 : decode cX6_count 100 = .ok (.aload_n 0, 1) := by decide +kernel
theorem dX6_count_101 : decode cX6_count 101 = .ok (.getfield 44, 3) := by decide +kernel
theorem dX6_count_104 : decode cX6_count 104 = .ok (.getfield 81, 3) := by decide +kernel
theorem dX6_count_107 : decode cX6_count 107 = .ok (.ireturn, 1) := by decide +kernel
theorem dX6_count_108 : decode cX6_count 108 = .ok (.aload_n 0, 1) := by decide +kernel
theorem dX6_count_109 : decode cX6_count 109 = .ok (.getfield 22, 3) := by decide +kernel
theorem dX6_count_112 : decode cX6_count 112 = .ok (.getfield 66, 3) := by decide +kernel
theorem dX6_count_115 : decode cX6_count 115 = .ok (.ireturn, 1) := by decide +kernel
theorem dX6_count_116 : decode cX6_count 116 = .ok (.aload_n 0, 1) := by decide +kernel
theorem dX6_count_117 : decode cX6_count 117 = .ok (.getfield 29, 3) := by decide +kernel
theorem dX6_count_120 : decode cX6_count 120 = .ok (.getfield 134, 3) := by decide +kernel
theorem dX6_count_123 : decode cX6_count 123 = .ok (.ireturn, 1) := by decide +kernel
theorem dX6_count_124 : decode cX6_count 124 = .ok (.iconst (-1), 1) := by decide +kernel
theorem dX6_count_125 : decode cX6_count 125 = .ok (.ireturn, 1) := by decide +kernel
theorem dX6_wrongCells_0 : decode cX6_wrongCells 0 = .ok (.aload_n 0, 1) := by decide +kernel
theorem dX6_wrongCells_1 : decode cX6_wrongCells 1 = .ok (.getfield 10, 3) := by decide +kernel
theorem dX6_wrongCells_4 : decode cX6_wrongCells 4 = .ok (.aload_n 0, 1) := by decide +kernel
theorem dX6_wrongCells_5 : decode cX6_wrongCells 5 = .ok (.getfield 58, 3) := by decide +kernel
theorem dX6_wrongCells_8 : decode cX6_wrongCells 8 = .ok (.iload_n 1, 1) := by decide +kernel
theorem dX6_wrongCells_9 : decode cX6_wrongCells 9 = .ok (.iload_n 2, 1) := by decide +kernel
theorem dX6_wrongCells_10 : decode cX6_wrongCells 10 = .ok (.invokevirtual 144, 3) := by decide +kernel
theorem dX6_wrongCells_13 : decode cX6_wrongCells 13 = .ok (.aload_n 0, 1) := by decide +kernel
theorem dX6_wrongCells_14 : decode cX6_wrongCells 14 = .ok (.getfield 10, 3) := by decide +kernel
theorem dX6_wrongCells_17 : decode cX6_wrongCells 17 = .ok (.getfield 138, 3) := by decide +kernel
theorem dX6_wrongCells_20 : decode cX6_wrongCells 20 = .ok (.aload_n 0, 1) := by decide +kernel
theorem dX6_wrongCells_21 : decode cX6_wrongCells 21 = .ok (.getfield 58, 3) := by decide +kernel
theorem dX6_wrongCells_24 : decode cX6_wrongCells 24 = .ok (.invokevirtual 219, 3) := by decide +kernel
theorem dX6_wrongCells_27 : decode cX6_wrongCells 27 = .ok (.invokestatic 161, 3) := by decide +kernel
theorem dX6_wrongCells_30 : decode cX6_wrongCells 30 = .ok (.ireturn, 1) := by decide +kernel
theorem dX6_onBoard_0 : decode cX6_onBoard 0 = .ok (.iload_n 0, 1) := by decide +kernel
theorem dX6_onBoard_1 : decode cX6_onBoard 1 = .ok (.ifCond .lt 23, 3) := by decide +kernel
theorem dX6_onBoard_4 : decode cX6_onBoard 4 = .ok (.iload_n 0, 1) := by decide +kernel
theorem dX6_onBoard_5 : decode cX6_onBoard 5 = .ok (.bipush 6, 2) := by decide +kernel
theorem dX6_onBoard_7 : decode cX6_onBoard 7 = .ok (.if_icmp .ge 17, 3) := by decide +kernel
theorem dX6_onBoard_10 : decode cX6_onBoard 10 = .ok (.iload_n 1, 1) := by decide +kernel
theorem dX6_onBoard_11 : decode cX6_onBoard 11 = .ok (.ifCond .lt 13, 3) := by decide +kernel
theorem dX6_onBoard_14 : decode cX6_onBoard 14 = .ok (.iload_n 1, 1) := by decide +kernel
theorem dX6_onBoard_15 : decode cX6_onBoard 15 = .ok (.bipush 6, 2) := by decide +kernel
theorem dX6_onBoard_17 : decode cX6_onBoard 17 = .ok (.if_icmp .ge 7, 3) := by decide +kernel
theorem dX6_onBoard_20 : decode cX6_onBoard 20 = .ok (.iconst 1, 1) := by decide +kernel
theorem dX6_onBoard_21 : decode cX6_onBoard 21 = .ok (.goto 4, 3) := by decide +kernel
theorem dX6_onBoard_24 : decode cX6_onBoard 24 = .ok (.iconst 0, 1) := by decide +kernel
theorem dX6_onBoard_25 : decode cX6_onBoard 25 = .ok (.ireturn, 1) := by decide +kernel
theorem dX6_cellBit_0 : decode cX6_cellBit 0 = .ok (.lconst 1, 1) := by decide +kernel
theorem dX6_cellBit_1 : decode cX6_cellBit 1 = .ok (.bipush 8, 2) := by decide +kernel
theorem dX6_cellBit_3 : decode cX6_cellBit 3 = .ok (.iload_n 1, 1) := by decide +kernel
theorem dX6_cellBit_4 : decode cX6_cellBit 4 = .ok (.imul, 1) := by decide +kernel
theorem dX6_cellBit_5 : decode cX6_cellBit 5 = .ok (.iload_n 0, 1) := by decide +kernel
theorem dX6_cellBit_6 : decode cX6_cellBit 6 = .ok (.iadd, 1) := by decide +kernel
theorem dX6_cellBit_7 : decode cX6_cellBit 7 = .ok (.lshl, 1) := by decide +kernel
theorem dX6_cellBit_8 : decode cX6_cellBit 8 = .ok (.lreturn, 1) := by decide +kernel
theorem dX6_slipOf_0 : decode cX6_slipOf 0 = .ok (.iconst 3, 1) := by decide +kernel
theorem dX6_slipOf_1 : decode cX6_slipOf 1 = .ok (.iload_n 1, 1) := by decide +kernel
theorem dX6_slipOf_2 : decode cX6_slipOf 2 = .ok (.iconst 1, 1) := by decide +kernel
theorem dX6_slipOf_3 : decode cX6_slipOf 3 = .ok (.iadd, 1) := by decide +kernel
theorem dX6_slipOf_4 : decode cX6_slipOf 4 = .ok (.imul, 1) := by decide +kernel
theorem dX6_slipOf_5 : decode cX6_slipOf 5 = .ok (.iload_n 0, 1) := by decide +kernel
theorem dX6_slipOf_6 : decode cX6_slipOf 6 = .ok (.iadd, 1) := by decide +kernel
theorem dX6_slipOf_7 : decode cX6_slipOf 7 = .ok (.iconst 1, 1) := by decide +kernel
theorem dX6_slipOf_8 : decode cX6_slipOf 8 = .ok (.iadd, 1) := by decide +kernel
theorem dX6_slipOf_9 : decode cX6_slipOf 9 = .ok (.ireturn, 1) := by decide +kernel
theorem dX6_dxOf_0 : decode cX6_dxOf 0 = .ok (.iload_n 0, 1) := by decide +kernel
theorem dX6_dxOf_1 : decode cX6_dxOf 1 = .ok (.iconst 3, 1) := by decide +kernel
theorem dX6_dxOf_2 : decode cX6_dxOf 2 = .ok (.irem, 1) := by decide +kernel
theorem dX6_dxOf_3 : decode cX6_dxOf 3 = .ok (.iconst 1, 1) := by decide +kernel
theorem dX6_dxOf_4 : decode cX6_dxOf 4 = .ok (.isub, 1) := by decide +kernel
theorem dX6_dxOf_5 : decode cX6_dxOf 5 = .ok (.ireturn, 1) := by decide +kernel
theorem dX6_dyOf_0 : decode cX6_dyOf 0 = .ok (.iload_n 0, 1) := by decide +kernel
theorem dX6_dyOf_1 : decode cX6_dyOf 1 = .ok (.iconst 3, 1) := by decide +kernel
theorem dX6_dyOf_2 : decode cX6_dyOf 2 = .ok (.idiv, 1) := by decide +kernel
theorem dX6_dyOf_3 : decode cX6_dyOf 3 = .ok (.iconst 1, 1) := by decide +kernel
theorem dX6_dyOf_4 : decode cX6_dyOf 4 = .ok (.isub, 1) := by decide +kernel
theorem dX6_dyOf_5 : decode cX6_dyOf 5 = .ok (.ireturn, 1) := by decide +kernel
theorem dX6_slipped_0 : decode cX6_slipped 0 = .ok (.bipush 8, 2) := by decide +kernel
theorem dX6_slipped_2 : decode cX6_slipped 2 = .ok (.iload_n 2, 1) := by decide +kernel
theorem dX6_slipped_3 : decode cX6_slipped 3 = .ok (.invokestatic 169, 3) := by decide +kernel
theorem dX6_slipped_6 : decode cX6_slipped 6 = .ok (.imul, 1) := by decide +kernel
theorem dX6_slipped_7 : decode cX6_slipped 7 = .ok (.iload_n 2, 1) := by decide +kernel
theorem dX6_slipped_8 : decode cX6_slipped 8 = .ok (.invokestatic 166, 3) := by decide +kernel
theorem dX6_slipped_11 : decode cX6_slipped 11 = .ok (.iadd, 1) := by decide +kernel
theorem dX6_slipped_12 : decode cX6_slipped 12 = .ok (.istore_n 3, 1) := by decide +kernel
theorem dX6_slipped_13 : decode cX6_slipped 13 = .ok (.iload_n 3, 1) := by decide +kernel
theorem dX6_slipped_14 : decode cX6_slipped 14 = .ok (.ifCond .lt 9, 3) := by decide +kernel
theorem dX6_slipped_17 : decode cX6_slipped 17 = .ok (.lload_n 0, 1) := by decide +kernel
theorem dX6_slipped_18 : decode cX6_slipped 18 = .ok (.iload_n 3, 1) := by decide +kernel
theorem dX6_slipped_19 : decode cX6_slipped 19 = .ok (.lshl, 1) := by decide +kernel
theorem dX6_slipped_20 : decode cX6_slipped 20 = .ok (.goto 7, 3) := by decide +kernel
theorem dX6_slipped_23 : decode cX6_slipped 23 = .ok (.lload_n 0, 1) := by decide +kernel
theorem dX6_slipped_24 : decode cX6_slipped 24 = .ok (.iload_n 3, 1) := by decide +kernel
theorem dX6_slipped_25 : decode cX6_slipped 25 = .ok (.ineg, 1) := by decide +kernel
theorem dX6_slipped_26 : decode cX6_slipped 26 = .ok (.lushr, 1) := by decide +kernel
theorem dX6_slipped_27 : decode cX6_slipped 27 = .ok (.lreturn, 1) := by decide +kernel
theorem dX7_init_0 : decode cX7_init 0 = .ok (.aload_n 0, 1) := by decide +kernel
theorem dX7_init_1 : decode cX7_init 1 = .ok (.invokespecial 1, 3) := by decide +kernel
theorem dX7_init_4 : decode cX7_init 4 = .ok (.aload_n 0, 1) := by decide +kernel
theorem dX7_init_5 : decode cX7_init 5 = .ok (.bipush 99, 2) := by decide +kernel
theorem dX7_init_7 : decode cX7_init 7 = .ok (.newarray .int, 2) := by decide +kernel
theorem dX7_init_9 : decode cX7_init 9 = .ok (.putfield 7, 3) := by decide +kernel
theorem dX7_init_12 : decode cX7_init 12 = .ok (.aload_n 0, 1) := by decide +kernel
theorem dX7_init_13 : decode cX7_init 13 = .ok (.bipush 99, 2) := by decide +kernel
theorem dX7_init_15 : decode cX7_init 15 = .ok (.newarray .int, 2) := by decide +kernel
theorem dX7_init_17 : decode cX7_init 17 = .ok (.putfield 13, 3) := by decide +kernel
theorem dX7_init_20 : decode cX7_init 20 = .ok (.aload_n 0, 1) := by decide +kernel
theorem dX7_init_21 : decode cX7_init 21 = .ok (.sipush 594, 3) := by decide +kernel
theorem dX7_init_24 : decode cX7_init 24 = .ok (.newarray .int, 2) := by decide +kernel
theorem dX7_init_26 : decode cX7_init 26 = .ok (.putfield 16, 3) := by decide +kernel
theorem dX7_init_29 : decode cX7_init 29 = .ok (.aload_n 0, 1) := by decide +kernel
theorem dX7_init_30 : decode cX7_init 30 = .ok (.sipush 198, 3) := by decide +kernel
theorem dX7_init_33 : decode cX7_init 33 = .ok (.newarray .int, 2) := by decide +kernel
theorem dX7_init_35 : decode cX7_init 35 = .ok (.putfield 19, 3) := by decide +kernel
theorem dX7_init_38 : decode cX7_init 38 = .ok (.aload_n 0, 1) := by decide +kernel
theorem dX7_init_39 : decode cX7_init 39 = .ok (.iconst 2, 1) := by decide +kernel
theorem dX7_init_40 : decode cX7_init 40 = .ok (.newarray .boolean, 2) := by decide +kernel
theorem dX7_init_42 : decode cX7_init 42 = .ok (.putfield 22, 3) := by decide +kernel
theorem dX7_init_45 : decode cX7_init 45 = .ok (.aload_n 0, 1) := by decide +kernel
theorem dX7_init_46 : decode cX7_init 46 = .ok (.bipush 100, 2) := by decide +kernel
theorem dX7_init_48 : decode cX7_init 48 = .ok (.newarray .int, 2) := by decide +kernel
theorem dX7_init_50 : decode cX7_init 50 = .ok (.putfield 26, 3) := by decide +kernel
theorem dX7_init_53 : decode cX7_init 53 = .ok (.aload_n 0, 1) := by decide +kernel
theorem dX7_init_54 : decode cX7_init 54 = .ok (.bipush 18, 2) := by decide +kernel
theorem dX7_init_56 : decode cX7_init 56 = .ok (.newarray .int, 2) := by decide +kernel
theorem dX7_init_58 : decode cX7_init 58 = .ok (.putfield 29, 3) := by decide +kernel
theorem dX7_init_61 : decode cX7_init 61 = .ok (.aload_n 0, 1) := by decide +kernel
theorem dX7_init_62 : decode cX7_init 62 = .ok (.bipush 36, 2) := by decide +kernel
theorem dX7_init_64 : decode cX7_init 64 = .ok (.newarray .int, 2) := by decide +kernel
theorem dX7_init_66 : decode cX7_init 66 = .ok (.putfield 32, 3) := by decide +kernel
theorem dX7_init_69 : decode cX7_init 69 = .ok (.aload_n 0, 1) := by decide +kernel
theorem dX7_init_70 : decode cX7_init 70 = .ok (.bipush 6, 2) := by decide +kernel
theorem dX7_init_72 : decode cX7_init 72 = .ok (.newarray .int, 2) := by decide +kernel
theorem dX7_init_74 : decode cX7_init 74 = .ok (.putfield 35, 3) := by decide +kernel
theorem dX7_init_77 : decode cX7_init 77 = .ok (.aload_n 0, 1) := by decide +kernel
theorem dX7_init_78 : decode cX7_init 78 = .ok (.bipush 64, 2) := by decide +kernel
theorem dX7_init_80 : decode cX7_init 80 = .ok (.newarray .int, 2) := by decide +kernel
theorem dX7_init_82 : decode cX7_init 82 = .ok (.putfield 38, 3) := by decide +kernel
theorem dX7_init_85 : decode cX7_init 85 = .ok (.aload_n 0, 1) := by decide +kernel
theorem dX7_init_86 : decode cX7_init 86 = .ok (.bipush 64, 2) := by decide +kernel
theorem dX7_init_88 : decode cX7_init 88 = .ok (.newarray .int, 2) := by decide +kernel
theorem dX7_init_90 : decode cX7_init 90 = .ok (.putfield 41, 3) := by decide +kernel
theorem dX7_init_93 : decode cX7_init 93 = .ok (.aload_n 0, 1) := by decide +kernel
theorem dX7_init_94 : decode cX7_init 94 = .ok (.bipush 6, 2) := by decide +kernel
theorem dX7_init_96 : decode cX7_init 96 = .ok (.newarray .int, 2) := by decide +kernel
theorem dX7_init_98 : decode cX7_init 98 = .ok (.putfield 44, 3) := by decide +kernel
theorem dX7_init_101 : decode cX7_init 101 = .ok (.aload_n 0, 1) := by decide +kernel
theorem dX7_init_102 : decode cX7_init 102 = .ok (.sipush 288, 3) := by decide +kernel
theorem dX7_init_105 : decode cX7_init 105 = .ok (.newarray .int, 2) := by decide +kernel
theorem dX7_init_107 : decode cX7_init 107 = .ok (.putfield 47, 3) := by decide +kernel
theorem dX7_init_110 : decode cX7_init 110 = .ok (.aload_n 0, 1) := by decide +kernel
theorem dX7_init_111 : decode cX7_init 111 = .ok (.getfield 7, 3) := by decide +kernel
theorem dX7_init_114 : decode cX7_init 114 = .ok (.iconst 0, 1) := by decide +kernel
theorem dX7_init_115 : decode cX7_init 115 = .ok (.iconst 1, 1) := by decide +kernel
theorem dX7_init_116 : decode cX7_init 116 = .ok (.iastore, 1) := by decide +kernel
theorem dX7_init_117 : decode cX7_init 117 = .ok (.aload_n 0, 1) := by decide +kernel
theorem dX7_init_118 : decode cX7_init 118 = .ok (.getfield 7, 3) := by decide +kernel
theorem dX7_init_121 : decode cX7_init 121 = .ok (.iconst 1, 1) := by decide +kernel
theorem dX7_init_122 : decode cX7_init 122 = .ok (.iconst 1, 1) := by decide +kernel
theorem dX7_init_123 : decode cX7_init 123 = .ok (.iastore, 1) := by decide +kernel
theorem dX7_init_124 : decode cX7_init 124 = .ok (.return_, 1) := by decide +kernel
theorem dX7_in_0 : decode cX7_in 0 = .ok (.iload_n 0, 1) := by decide +kernel
theorem dX7_in_1 : decode cX7_in 1 = .ok (.iload_n 1, 1) := by decide +kernel
theorem dX7_in_2 : decode cX7_in 2 = .ok (.if_icmp .lt 12, 3) := by decide +kernel
theorem dX7_in_5 : decode cX7_in 5 = .ok (.iload_n 0, 1) := by decide +kernel
theorem dX7_in_6 : decode cX7_in 6 = .ok (.iload_n 2, 1) := by decide +kernel
theorem dX7_in_7 : decode cX7_in 7 = .ok (.if_icmp .gt 7, 3) := by decide +kernel
theorem dX7_in_10 : decode cX7_in 10 = .ok (.iconst 1, 1) := by decide +kernel
theorem dX7_in_11 : decode cX7_in 11 = .ok (.goto 4, 3) := by decide +kernel
theorem dX7_in_14 : decode cX7_in 14 = .ok (.iconst 0, 1) := by decide +kernel
theorem dX7_in_15 : decode cX7_in 15 = .ok (.ireturn, 1) := by decide +kernel
theorem dX7_ones_0 : decode cX7_ones 0 = .ok (.iconst 0, 1) := by decide +kernel
theorem dX7_ones_1 : decode cX7_ones 1 = .ok (.istore_n 1, 1) := by decide +kernel
theorem dX7_ones_2 : decode cX7_ones 2 = .ok (.iconst 0, 1) := by decide +kernel
theorem dX7_ones_3 : decode cX7_ones 3 = .ok (.istore_n 2, 1) := by decide +kernel
theorem dX7_ones_4 : decode cX7_ones 4 = .ok (.iload_n 2, 1) := by decide +kernel
theorem dX7_ones_5 : decode cX7_ones 5 = .ok (.bipush 8, 2) := by decide +kernel
theorem dX7_ones_7 : decode cX7_ones 7 = .ok (.if_icmp .ge 17, 3) := by decide +kernel
theorem dX7_ones_10 : decode cX7_ones 10 = .ok (.iload_n 1, 1) := by decide +kernel
theorem dX7_ones_11 : decode cX7_ones 11 = .ok (.iload_n 0, 1) := by decide +kernel
theorem dX7_ones_12 : decode cX7_ones 12 = .ok (.iload_n 2, 1) := by decide +kernel
theorem dX7_ones_13 : decode cX7_ones 13 = .ok (.ishr, 1) := by decide +kernel
theorem dX7_ones_14 : decode cX7_ones 14 = .ok (.iconst 1, 1) := by decide +kernel
theorem dX7_ones_15 : decode cX7_ones 15 = .ok (.iand, 1) := by decide +kernel
theorem dX7_ones_16 : decode cX7_ones 16 = .ok (.iadd, 1) := by decide +kernel
theorem dX7_ones_17 : decode cX7_ones 17 = .ok (.istore_n 1, 1) := by decide +kernel
theorem dX7_ones_18 : decode cX7_ones 18 = .ok (.iinc 2 1, 3) := by decide +kernel
theorem dX7_ones_21 : decode cX7_ones 21 = .ok (.goto (-17), 3) := by decide +kernel
theorem dX7_ones_24 : decode cX7_ones 24 = .ok (.iload_n 1, 1) := by decide +kernel
theorem dX7_ones_25 : decode cX7_ones 25 = .ok (.ireturn, 1) := by decide +kernel
theorem dX7_letterAt_0 : decode cX7_letterAt 0 = .ok (.iload_n 1, 1) := by decide +kernel
theorem dX7_letterAt_1 : decode cX7_letterAt 1 = .ok (.aload_n 0, 1) := by decide +kernel
theorem dX7_letterAt_2 : decode cX7_letterAt 2 = .ok (.getfield 54, 3) := by decide +kernel
theorem dX7_letterAt_5 : decode cX7_letterAt 5 = .ok (.if_icmp .ge 12, 3) := by decide +kernel
theorem dX7_letterAt_8 : decode cX7_letterAt 8 = .ok (.aload_n 0, 1) := by decide +kernel
theorem dX7_letterAt_9 : decode cX7_letterAt 9 = .ok (.getfield 26, 3) := by decide +kernel
theorem dX7_letterAt_12 : decode cX7_letterAt 12 = .ok (.iload_n 1, 1) := by decide +kernel
theorem dX7_letterAt_13 : decode cX7_letterAt 13 = .ok (.iaload, 1) := by decide +kernel
theorem dX7_letterAt_14 : decode cX7_letterAt 14 = .ok (.goto 4, 3) := by decide +kernel
theorem dX7_letterAt_17 : decode cX7_letterAt 17 = .ok (.iconst (-1), 1) := by decide +kernel
theorem dX7_letterAt_18 : decode cX7_letterAt 18 = .ok (.ireturn, 1) := by decide +kernel
theorem dX7_type_0 : decode cX7_type 0 = .ok (.aload_n 0, 1) := by decide +kernel
theorem dX7_type_1 : decode cX7_type 1 = .ok (.iconst 0, 1) := by decide +kernel
theorem dX7_type_2 : decode cX7_type 2 = .ok (.putfield 50, 3) := by decide +kernel
theorem dX7_type_5 : decode cX7_type 5 = .ok (.iload_n 1, 1) := by decide +kernel
theorem dX7_type_6 : decode cX7_type 6 = .ok (.iconst 0, 1) := by decide +kernel
theorem dX7_type_7 : decode cX7_type 7 = .ok (.sipush 255, 3) := by decide +kernel
theorem dX7_type_10 : decode cX7_type 10 = .ok (.invokestatic 57, 3) := by decide +kernel
theorem dX7_type_13 : decode cX7_type 13 = .ok (.ifCond .ne 5, 3) := by decide +kernel
theorem dX7_type_16 : decode cX7_type 16 = .ok (.iconst (-1), 1) := by decide +kernel
theorem dX7_type_17 : decode cX7_type 17 = .ok (.ireturn, 1) := by decide +kernel
theorem dX7_type_18 : decode cX7_type 18 = .ok (.aload_n 0, 1) := by decide +kernel
theorem dX7_type_19 : decode cX7_type 19 = .ok (.getfield 54, 3) := by decide +kernel
theorem dX7_type_22 : decode cX7_type 22 = .ok (.bipush 100, 2) := by decide +kernel
theorem dX7_type_24 : decode cX7_type 24 = .ok (.if_icmp .ne 6, 3) := by decide +kernel
theorem dX7_type_27 : decode cX7_type 27 = .ok (.bipush (-3), 2) := by decide +kernel
theorem dX7_type_29 : decode cX7_type 29 = .ok (.ireturn, 1) := by decide +kernel
theorem dX7_type_30 : decode cX7_type 30 = .ok (.aload_n 0, 1) := by decide +kernel
theorem dX7_type_31 : decode cX7_type 31 = .ok (.getfield 26, 3) := by decide +kernel
theorem dX7_type_34 : decode cX7_type 34 = .ok (.aload_n 0, 1) := by decide +kernel
theorem dX7_type_35 : decode cX7_type 35 = .ok (.getfield 54, 3) := by decide +kernel
theorem dX7_type_38 : decode cX7_type 38 = .ok (.iload_n 1, 1) := by decide +kernel
theorem dX7_type_39 : decode cX7_type 39 = .ok (.iastore, 1) := by decide +kernel
theorem dX7_type_40 : decode cX7_type 40 = .ok (.aload_n 0, 1) := by decide +kernel
theorem dX7_type_41 : decode cX7_type 41 = .ok (.dup, 1) := by decide +kernel
theorem dX7_type_42 : decode cX7_type 42 = .ok (.getfield 54, 3) := by decide +kernel
theorem dX7_type_45 : decode cX7_type 45 = .ok (.iconst 1, 1) := by decide +kernel
theorem dX7_type_46 : decode cX7_type 46 = .ok (.iadd, 1) := by decide +kernel
theorem dX7_type_47 : decode cX7_type 47 = .ok (.putfield 54, 3) := by decide +kernel
theorem dX7_type_50 : decode cX7_type 50 = .ok (.aload_n 0, 1) := by decide +kernel
theorem dX7_type_51 : decode cX7_type 51 = .ok (.getfield 54, 3) := by decide +kernel
theorem dX7_type_54 : decode cX7_type 54 = .ok (.ireturn, 1) := by decide +kernel
theorem dX7_clear_0 : decode cX7_clear 0 = .ok (.aload_n 0, 1) := by decide +kernel
theorem dX7_clear_1 : decode cX7_clear 1 = .ok (.iconst 0, 1) := by decide +kernel
theorem dX7_clear_2 : decode cX7_clear 2 = .ok (.putfield 50, 3) := by decide +kernel
theorem dX7_clear_5 : decode cX7_clear 5 = .ok (.aload_n 0, 1) := by decide +kernel
theorem dX7_clear_6 : decode cX7_clear 6 = .ok (.getfield 54, 3) := by decide +kernel
theorem dX7_clear_9 : decode cX7_clear 9 = .ok (.istore_n 1, 1) := by decide +kernel
theorem dX7_clear_10 : decode cX7_clear 10 = .ok (.aload_n 0, 1) := by decide +kernel
theorem dX7_clear_11 : decode cX7_clear 11 = .ok (.iconst 0, 1) := by decide +kernel
theorem dX7_clear_12 : decode cX7_clear 12 = .ok (.putfield 54, 3) := by decide +kernel
theorem dX7_clear_15 : decode cX7_clear 15 = .ok (.iload_n 1, 1) := by decide +kernel
theorem dX7_clear_16 : decode cX7_clear 16 = .ok (.ireturn, 1) := by decide +kernel
theorem dX7_advances_0 : decode cX7_advances 0 = .ok (.aload_n 0, 1) := by decide +kernel
theorem dX7_advances_1 : decode cX7_advances 1 = .ok (.aload_n 0, 1) := by decide +kernel
theorem dX7_advances_2 : decode cX7_advances 2 = .ok (.getfield 61, 3) := by decide +kernel
theorem dX7_advances_5 : decode cX7_advances 5 = .ok (.invokevirtual 64, 3) := by decide +kernel
theorem dX7_advances_8 : decode cX7_advances 8 = .ok (.bipush 32, 2) := by decide +kernel
theorem dX7_advances_10 : decode cX7_advances 10 = .ok (.if_icmp .ne 16, 3) := by decide +kernel
theorem dX7_advances_13 : decode cX7_advances 13 = .ok (.aload_n 0, 1) := by decide +kernel
theorem dX7_advances_14 : decode cX7_advances 14 = .ok (.dup, 1) := by decide +kernel
theorem dX7_advances_15 : decode cX7_advances 15 = .ok (.getfield 61, 3) := by decide +kernel
theorem dX7_advances_18 : decode cX7_advances 18 = .ok (.iconst 1, 1) := by decide +kernel
theorem dX7_advances_19 : decode cX7_advances 19 = .ok (.iadd, 1) := by decide +kernel
theorem dX7_advances_20 : decode cX7_advances 20 = .ok (.putfield 61, 3) := by decide +kernel
theorem dX7_advances_23 : decode cX7_advances 23 = .ok (.goto (-23), 3) := by decide +kernel
theorem dX7_advances_26 : decode cX7_advances 26 = .ok (.aload_n 0, 1) := by decide +kernel
theorem dX7_advances_27 : decode cX7_advances 27 = .ok (.aload_n 0, 1) := by decide +kernel
theorem dX7_advances_28 : decode cX7_advances 28 = .ok (.getfield 61, 3) := by decide +kernel
theorem dX7_advances_31 : decode cX7_advances 31 = .ok (.putfield 68, 3) := by decide +kernel
theorem dX7_advances_34 : decode cX7_advances 34 = .ok (.aload_n 0, 1) := by decide +kernel
theorem dX7_advances_35 : decode cX7_advances 35 = .ok (.aload_n 0, 1) := by decide +kernel
theorem dX7_advances_36 : decode cX7_advances 36 = .ok (.aload_n 0, 1) := by decide +kernel
theorem dX7_advances_37 : decode cX7_advances 37 = .ok (.getfield 61, 3) := by decide +kernel
theorem dX7_advances_40 : decode cX7_advances 40 = .ok (.invokevirtual 64, 3) := by decide +kernel
theorem dX7_advances_43 : decode cX7_advances 43 = .ok (.putfield 71, 3) := by decide +kernel
theorem dX7_advances_46 : decode cX7_advances 46 = .ok (.aload_n 0, 1) := by decide +kernel
theorem dX7_advances_47 : decode cX7_advances 47 = .ok (.dup, 1) := by decide +kernel
theorem dX7_advances_48 : decode cX7_advances 48 = .ok (.getfield 61, 3) := by decide +kernel
theorem dX7_advances_51 : decode cX7_advances 51 = .ok (.aload_n 0, 1) := by decide +kernel
theorem dX7_advances_52 : decode cX7_advances 52 = .ok (.getfield 71, 3) := by decide +kernel
theorem dX7_advances_55 : decode cX7_advances 55 = .ok (.ifCond .ge 7, 3) := by decide +kernel
theorem dX7_advances_58 : decode cX7_advances 58 = .ok (.iconst 0, 1) := by decide +kernel
theorem dX7_advances_59 : decode cX7_advances 59 = .ok (.goto 4, 3) := by decide +kernel
theorem dX7_advances_62 : decode cX7_advances 62 = .ok (.iconst 1, 1) := by decide +kernel
theorem dX7_advances_63 : decode cX7_advances 63 = .ok (.iadd, 1) := by decide +kernel
theorem dX7_advances_64 : decode cX7_advances 64 = .ok (.putfield 61, 3) := by decide +kernel
theorem dX7_advances_67 : decode cX7_advances 67 = .ok (.aload_n 0, 1) := by decide +kernel
theorem dX7_advances_68 : decode cX7_advances 68 = .ok (.aload_n 0, 1) := by decide +kernel
theorem dX7_advances_69 : decode cX7_advances 69 = .ok (.getfield 71, 3) := by decide +kernel
theorem dX7_advances_72 : decode cX7_advances 72 = .ok (.ifCond .ge 7, 3) := by decide +kernel
theorem dX7_advances_75 : decode cX7_advances 75 = .ok (.iconst 0, 1) := by decide +kernel
theorem dX7_advances_76 : decode cX7_advances 76 = .ok (.goto 66, 3) := by decide +kernel
theorem dX7_advances_79 : decode cX7_advances 79 = .ok (.aload_n 0, 1) := by decide +kernel
theorem dX7_advances_80 : decode cX7_advances 80 = .ok (.getfield 71, 3) := by decide +kernel
theorem dX7_advances_83 : decode cX7_advances 83 = .ok (.bipush 99, 2) := by decide +kernel
theorem dX7_advances_85 : decode cX7_advances 85 = .ok (.if_icmp .eq 21, 3) := by decide +kernel
theorem dX7_advances_88 : decode cX7_advances 88 = .ok (.aload_n 0, 1) := by decide +kernel
theorem dX7_advances_89 : decode cX7_advances 89 = .ok (.getfield 71, 3) := by decide +kernel
theorem dX7_advances_92 : decode cX7_advances 92 = .ok (.bipush 100, 2) := by decide +kernel
theorem dX7_advances_94 : decode cX7_advances 94 = .ok (.if_icmp .eq 12, 3) := by decide +kernel
theorem dX7_advances_97 : decode cX7_advances 97 = .ok (.aload_n 0, 1) := by decide +kernel
theorem dX7_advances_98 : decode cX7_advances 98 = .ok (.getfield 71, 3) := by decide +kernel
theorem dX7_advances_101 : decode cX7_advances 101 = .ok (.bipush 114, 2) := by decide +kernel
theorem dX7_advances_103 : decode cX7_advances 103 = .ok (.if_icmp .ne 7, 3) := by decide +kernel
theorem dX7_advances_106 : decode cX7_advances 106 = .ok (.iconst 1, 1) := by decide +kernel
theorem dX7_advances_107 : decode cX7_advances 107 = .ok (.goto 35, 3) := by decide +kernel
theorem dX7_advances_110 : decode cX7_advances 110 = .ok (.aload_n 0, 1) := by decide +kernel
theorem dX7_advances_111 : decode cX7_advances 111 = .ok (.getfield 71, 3) := by decide +kernel
theorem dX7_advances_114 : decode cX7_advances 114 = .ok (.bipush 48, 2) := by decide +kernel
theorem dX7_advances_116 : decode cX7_advances 116 = .ok (.bipush 57, 2) := by decide +kernel
theorem dX7_advances_118 : decode cX7_advances 118 = .ok (.invokestatic 57, 3) := by decide +kernel
theorem dX7_advances_121 : decode cX7_advances 121 = .ok (.ifCond .eq 7, 3) := by decide +kernel
theorem dX7_advances_124 : decode cX7_advances 124 = .ok (.iconst 2, 1) := by decide +kernel
theorem dX7_advances_125 : decode cX7_advances 125 = .ok (.goto 17, 3) := by decide +kernel
theorem dX7_advances_128 : decode cX7_advances 128 = .ok (.aload_n 0, 1) := by decide +kernel
theorem dX7_advances_129 : decode cX7_advances 129 = .ok (.getfield 71, 3) := by decide +kernel
theorem dX7_advances_132 : decode cX7_advances 132 = .ok (.bipush 59, 2) := by decide +kernel
theorem dX7_advances_134 : decode cX7_advances 134 = .ok (.if_icmp .ne 7, 3) := by decide +kernel
theorem dX7_advances_137 : decode cX7_advances 137 = .ok (.iconst 3, 1) := by decide +kernel
theorem dX7_advances_138 : decode cX7_advances 138 = .ok (.goto 4, 3) := by decide +kernel
theorem dX7_advances_141 : decode cX7_advances 141 = .ok (.iconst 4, 1) := by decide +kernel
theorem dX7_advances_142 : decode cX7_advances 142 = .ok (.putfield 74, 3) := by decide +kernel
theorem dX7_advances_145 : decode cX7_advances 145 = .ok (.aload_n 0, 1) := by decide +kernel
theorem dX7_advances_146 : decode cX7_advances 146 = .ok (.dup, 1) := by decide +kernel
theorem dX7_advances_147 : decode cX7_advances 147 = .ok (.getfield 71, 3) := by decide +kernel
theorem dX7_advances_150 : decode cX7_advances 150 = .ok (.aload_n 0, 1) := by decide +kernel
theorem dX7_advances_151 : decode cX7_advances 151 = .ok (.getfield 74, 3) := by decide +kernel
theorem dX7_advances_154 : decode cX7_advances 154 = .ok (.iconst 2, 1) := by decide +kernel
theorem dX7_advances_155 : decode cX7_advances 155 = .ok (.if_icmp .ne 8, 3) := by decide +kernel
theorem dX7_advances_158 : decode cX7_advances 158 = .ok (.bipush 48, 2) := by decide +kernel
theorem dX7_advances_160 : decode cX7_advances 160 = .ok (.goto 4, 3) := by decide +kernel
theorem dX7_advances_163 : decode cX7_advances 163 = .ok (.iconst 0, 1) := by decide +kernel
theorem dX7_advances_164 : decode cX7_advances 164 = .ok (.isub, 1) := by decide +kernel
theorem dX7_advances_165 : decode cX7_advances 165 = .ok (.putfield 71, 3) := by decide +kernel
theorem dX7_advances_168 : decode cX7_advances 168 = .ok (.return_, 1) := by decide +kernel
theorem dX7_isWell_0 : decode cX7_isWell 0 = .ok (.aload_n 0, 1) := by decide +kernel
theorem dX7_isWell_1 : decode cX7_isWell 1 = .ok (.getfield 77, 3) := by decide +kernel
theorem dX7_isWell_4 : decode cX7_isWell 4 = .ok (.bipush (-9), 2) := by decide +kernel
theorem dX7_isWell_6 : decode cX7_isWell 6 = .ok (.if_icmp .ne 7, 3) := by decide +kernel
theorem dX7_isWell_9 : decode cX7_isWell 9 = .ok (.iconst 1, 1) := by decide +kernel
theorem dX7_isWell_10 : decode cX7_isWell 10 = .ok (.goto 4, 3) := by decide +kernel
theorem dX7_isWell_13 : decode cX7_isWell 13 = .ok (.iconst 0, 1) := by decide +kernel
theorem dX7_isWell_14 : decode cX7_isWell 14 = .ok (.ireturn, 1) := by decide +kernel
theorem dX7_takes_0 : decode cX7_takes 0 = .ok (.aload_n 0, 1) := by decide +kernel
theorem dX7_takes_1 : decode cX7_takes 1 = .ok (.getfield 71, 3) := by decide +kernel
theorem dX7_takes_4 : decode cX7_takes 4 = .ok (.istore_n 2, 1) := by decide +kernel
theorem dX7_takes_5 : decode cX7_takes 5 = .ok (.aload_n 0, 1) := by decide +kernel
theorem dX7_takes_6 : decode cX7_takes 6 = .ok (.invokevirtual 80, 3) := by decide +kernel
theorem dX7_takes_9 : decode cX7_takes 9 = .ok (.ifCond .eq 22, 3) := by decide +kernel
theorem dX7_takes_12 : decode cX7_takes 12 = .ok (.iload_n 1, 1) := by decide +kernel
theorem dX7_takes_13 : decode cX7_takes 13 = .ok (.ifCond .eq 10, 3) := by decide +kernel
theorem dX7_takes_16 : decode cX7_takes 16 = .ok (.aload_n 0, 1) := by decide +kernel
theorem dX7_takes_17 : decode cX7_takes 17 = .ok (.invokevirtual 84, 3) := by decide +kernel
theorem dX7_takes_20 : decode cX7_takes 20 = .ok (.goto 11, 3) := by decide +kernel
theorem dX7_takes_23 : decode cX7_takes 23 = .ok (.aload_n 0, 1) := by decide +kernel
theorem dX7_takes_24 : decode cX7_takes 24 = .ok (.aload_n 0, 1) := by decide +kernel
theorem dX7_takes_25 : decode cX7_takes 25 = .ok (.getfield 68, 3) := by decide +kernel
theorem dX7_takes_28 : decode cX7_takes 28 = .ok (.putfield 77, 3) := by decide +kernel
theorem dX7_takes_31 : decode cX7_takes 31 = .ok (.iload_n 2, 1) := by decide +kernel
theorem dX7_takes_32 : decode cX7_takes 32 = .ok (.ireturn, 1) := by decide +kernel
theorem dX7_readsInk_0 : decode cX7_readsInk 0 = .ok (.aload_n 0, 1) := by decide +kernel
theorem dX7_readsInk_1 : decode cX7_readsInk 1 = .ok (.aload_n 0, 1) := by decide +kernel
theorem dX7_readsInk_2 : decode cX7_readsInk 2 = .ok (.getfield 13, 3) := by decide +kernel
theorem dX7_readsInk_5 : decode cX7_readsInk 5 = .ok (.iconst 2, 1) := by decide +kernel
theorem dX7_readsInk_6 : decode cX7_readsInk 6 = .ok (.iaload, 1) := by decide +kernel
theorem dX7_readsInk_7 : decode cX7_readsInk 7 = .ok (.bipush 6, 2) := by decide +kernel
theorem dX7_readsInk_9 : decode cX7_readsInk 9 = .ok (.if_icmp .ge 7, 3) := by decide +kernel
theorem dX7_readsInk_12 : decode cX7_readsInk 12 = .ok (.iconst 1, 1) := by decide +kernel
theorem dX7_readsInk_13 : decode cX7_readsInk 13 = .ok (.goto 4, 3) := by decide +kernel
theorem dX7_readsInk_16 : decode cX7_readsInk 16 = .ok (.iconst 0, 1) := by decide +kernel
theorem dX7_readsInk_17 : decode cX7_readsInk 17 = .ok (.invokevirtual 87, 3) := by decide +kernel
theorem dX7_readsInk_20 : decode cX7_readsInk 20 = .ok (.pop, 1) := by decide +kernel
theorem dX7_readsInk_21 : decode cX7_readsInk 21 = .ok (.aload_n 0, 1) := by decide +kernel
theorem dX7_readsInk_22 : decode cX7_readsInk 22 = .ok (.aload_n 0, 1) := by decide +kernel
theorem dX7_readsInk_23 : decode cX7_readsInk 23 = .ok (.getfield 74, 3) := by decide +kernel
theorem dX7_readsInk_26 : decode cX7_readsInk 26 = .ok (.iconst 2, 1) := by decide +kernel
theorem dX7_readsInk_27 : decode cX7_readsInk 27 = .ok (.if_icmp .ne 20, 3) := by decide +kernel
end
section
theorem dX7_readsInk_30 : decode cX7_readsInk 30 = .ok (.aload_n 0, 1) := by decide +kernel
theorem dX7_readsInk_31 : decode cX7_readsInk 31 = .ok (.getfield 71, 3) := by decide +kernel
theorem dX7_readsInk_34 : decode cX7_readsInk 34 = .ok (.iconst 1, 1) := by decide +kernel
theorem dX7_readsInk_35 : decode cX7_readsInk 35 = .ok (.bipush 7, 2) := by decide +kernel
theorem dX7_readsInk_37 : decode cX7_readsInk 37 = .ok (.invokestatic 57, 3) := by decide +kernel
theorem dX7_readsInk_40 : decode cX7_readsInk 40 = .ok (.ifCond .eq 7, 3) := by decide +kernel
theorem dX7_readsInk_43 : decode cX7_readsInk 43 = .ok (.iconst 1, 1) := by decide +kernel
theorem dX7_readsInk_44 : decode cX7_readsInk 44 = .ok (.goto 4, 3) := by decide +kernel
theorem dX7_readsInk_47 : decode cX7_readsInk 47 = .ok (.iconst 0, 1) := by decide +kernel
theorem dX7_readsInk_48 : decode cX7_readsInk 48 = .ok (.invokevirtual 87, 3) := by decide +kernel
theorem dX7_readsInk_51 : decode cX7_readsInk 51 = .ok (.istore_n 2, 1) := by decide +kernel
theorem dX7_readsInk_52 : decode cX7_readsInk 52 = .ok (.aload_n 0, 1) := by decide +kernel
theorem dX7_readsInk_53 : decode cX7_readsInk 53 = .ok (.invokevirtual 80, 3) := by decide +kernel
theorem dX7_readsInk_56 : decode cX7_readsInk 56 = .ok (.ifCond .eq 39, 3) := by decide +kernel
theorem dX7_readsInk_59 : decode cX7_readsInk 59 = .ok (.aload_n 0, 1) := by decide +kernel
theorem dX7_readsInk_60 : decode cX7_readsInk 60 = .ok (.getfield 13, 3) := by decide +kernel
theorem dX7_readsInk_63 : decode cX7_readsInk 63 = .ok (.bipush 39, 2) := by decide +kernel
theorem dX7_readsInk_65 : decode cX7_readsInk 65 = .ok (.aload_n 0, 1) := by decide +kernel
theorem dX7_readsInk_66 : decode cX7_readsInk 66 = .ok (.getfield 13, 3) := by decide +kernel
theorem dX7_readsInk_69 : decode cX7_readsInk 69 = .ok (.iconst 2, 1) := by decide +kernel
theorem dX7_readsInk_70 : decode cX7_readsInk 70 = .ok (.iaload, 1) := by decide +kernel
theorem dX7_readsInk_71 : decode cX7_readsInk 71 = .ok (.iadd, 1) := by decide +kernel
theorem dX7_readsInk_72 : decode cX7_readsInk 72 = .ok (.iload_n 1, 1) := by decide +kernel
theorem dX7_readsInk_73 : decode cX7_readsInk 73 = .ok (.ifCond .eq 10, 3) := by decide +kernel
theorem dX7_readsInk_76 : decode cX7_readsInk 76 = .ok (.bipush 8, 2) := by decide +kernel
theorem dX7_readsInk_78 : decode cX7_readsInk 78 = .ok (.iload_n 2, 1) := by decide +kernel
theorem dX7_readsInk_79 : decode cX7_readsInk 79 = .ok (.iadd, 1) := by decide +kernel
theorem dX7_readsInk_80 : decode cX7_readsInk 80 = .ok (.goto 4, 3) := by decide +kernel
theorem dX7_readsInk_83 : decode cX7_readsInk 83 = .ok (.iload_n 2, 1) := by decide +kernel
theorem dX7_readsInk_84 : decode cX7_readsInk 84 = .ok (.iastore, 1) := by decide +kernel
theorem dX7_readsInk_85 : decode cX7_readsInk 85 = .ok (.aload_n 0, 1) := by decide +kernel
theorem dX7_readsInk_86 : decode cX7_readsInk 86 = .ok (.getfield 13, 3) := by decide +kernel
theorem dX7_readsInk_89 : decode cX7_readsInk 89 = .ok (.iconst 2, 1) := by decide +kernel
theorem dX7_readsInk_90 : decode cX7_readsInk 90 = .ok (.dup2, 1) := by decide +kernel
theorem dX7_readsInk_91 : decode cX7_readsInk 91 = .ok (.iaload, 1) := by decide +kernel
theorem dX7_readsInk_92 : decode cX7_readsInk 92 = .ok (.iconst 1, 1) := by decide +kernel
theorem dX7_readsInk_93 : decode cX7_readsInk 93 = .ok (.iadd, 1) := by decide +kernel
theorem dX7_readsInk_94 : decode cX7_readsInk 94 = .ok (.iastore, 1) := by decide +kernel
theorem dX7_readsInk_95 : decode cX7_readsInk 95 = .ok (.return_, 1) := by decide +kernel
theorem dX7_readsRow_0 : decode cX7_readsRow 0 = .ok (.aload_n 0, 1) := by decide +kernel
theorem dX7_readsRow_1 : decode cX7_readsRow 1 = .ok (.aload_n 0, 1) := by decide +kernel
theorem dX7_readsRow_2 : decode cX7_readsRow 2 = .ok (.getfield 13, 3) := by decide +kernel
theorem dX7_readsRow_5 : decode cX7_readsRow 5 = .ok (.iconst 1, 1) := by decide +kernel
theorem dX7_readsRow_6 : decode cX7_readsRow 6 = .ok (.iaload, 1) := by decide +kernel
theorem dX7_readsRow_7 : decode cX7_readsRow 7 = .ok (.bipush 6, 2) := by decide +kernel
theorem dX7_readsRow_9 : decode cX7_readsRow 9 = .ok (.if_icmp .ge 7, 3) := by decide +kernel
theorem dX7_readsRow_12 : decode cX7_readsRow 12 = .ok (.iconst 1, 1) := by decide +kernel
theorem dX7_readsRow_13 : decode cX7_readsRow 13 = .ok (.goto 4, 3) := by decide +kernel
theorem dX7_readsRow_16 : decode cX7_readsRow 16 = .ok (.iconst 0, 1) := by decide +kernel
theorem dX7_readsRow_17 : decode cX7_readsRow 17 = .ok (.invokevirtual 87, 3) := by decide +kernel
theorem dX7_readsRow_20 : decode cX7_readsRow 20 = .ok (.pop, 1) := by decide +kernel
theorem dX7_readsRow_21 : decode cX7_readsRow 21 = .ok (.aload_n 0, 1) := by decide +kernel
theorem dX7_readsRow_22 : decode cX7_readsRow 22 = .ok (.getfield 13, 3) := by decide +kernel
theorem dX7_readsRow_25 : decode cX7_readsRow 25 = .ok (.iconst 1, 1) := by decide +kernel
theorem dX7_readsRow_26 : decode cX7_readsRow 26 = .ok (.iaload, 1) := by decide +kernel
theorem dX7_readsRow_27 : decode cX7_readsRow 27 = .ok (.ifCond .ne 8, 3) := by decide +kernel
theorem dX7_readsRow_30 : decode cX7_readsRow 30 = .ok (.bipush 6, 2) := by decide +kernel
theorem dX7_readsRow_32 : decode cX7_readsRow 32 = .ok (.goto 9, 3) := by decide +kernel
theorem dX7_readsRow_35 : decode cX7_readsRow 35 = .ok (.aload_n 0, 1) := by decide +kernel
theorem dX7_readsRow_36 : decode cX7_readsRow 36 = .ok (.getfield 13, 3) := by decide +kernel
theorem dX7_readsRow_39 : decode cX7_readsRow 39 = .ok (.iconst 0, 1) := by decide +kernel
theorem dX7_readsRow_40 : decode cX7_readsRow 40 = .ok (.iaload, 1) := by decide +kernel
theorem dX7_readsRow_41 : decode cX7_readsRow 41 = .ok (.istore_n 1, 1) := by decide +kernel
theorem dX7_readsRow_42 : decode cX7_readsRow 42 = .ok (.iconst 0, 1) := by decide +kernel
theorem dX7_readsRow_43 : decode cX7_readsRow 43 = .ok (.istore_n 2, 1) := by decide +kernel
theorem dX7_readsRow_44 : decode cX7_readsRow 44 = .ok (.aload_n 0, 1) := by decide +kernel
theorem dX7_readsRow_45 : decode cX7_readsRow 45 = .ok (.invokevirtual 80, 3) := by decide +kernel
theorem dX7_readsRow_48 : decode cX7_readsRow 48 = .ok (.ifCond .eq 102, 3) := by decide +kernel
theorem dX7_readsRow_51 : decode cX7_readsRow 51 = .ok (.iload_n 2, 1) := by decide +kernel
theorem dX7_readsRow_52 : decode cX7_readsRow 52 = .ok (.ifCond .eq 30, 3) := by decide +kernel
theorem dX7_readsRow_55 : decode cX7_readsRow 55 = .ok (.iload_n 2, 1) := by decide +kernel
theorem dX7_readsRow_56 : decode cX7_readsRow 56 = .ok (.aload_n 0, 1) := by decide +kernel
theorem dX7_readsRow_57 : decode cX7_readsRow 57 = .ok (.getfield 13, 3) := by decide +kernel
theorem dX7_readsRow_60 : decode cX7_readsRow 60 = .ok (.iconst 0, 1) := by decide +kernel
theorem dX7_readsRow_61 : decode cX7_readsRow 61 = .ok (.iaload, 1) := by decide +kernel
theorem dX7_readsRow_62 : decode cX7_readsRow 62 = .ok (.if_icmp .lt 20, 3) := by decide +kernel
theorem dX7_readsRow_65 : decode cX7_readsRow 65 = .ok (.aload_n 0, 1) := by decide +kernel
theorem dX7_readsRow_66 : decode cX7_readsRow 66 = .ok (.getfield 13, 3) := by decide +kernel
theorem dX7_readsRow_69 : decode cX7_readsRow 69 = .ok (.iconst 1, 1) := by decide +kernel
theorem dX7_readsRow_70 : decode cX7_readsRow 70 = .ok (.iaload, 1) := by decide +kernel
theorem dX7_readsRow_71 : decode cX7_readsRow 71 = .ok (.ifCond .ne 79, 3) := by decide +kernel
theorem dX7_readsRow_74 : decode cX7_readsRow 74 = .ok (.aload_n 0, 1) := by decide +kernel
theorem dX7_readsRow_75 : decode cX7_readsRow 75 = .ok (.getfield 74, 3) := by decide +kernel
theorem dX7_readsRow_78 : decode cX7_readsRow 78 = .ok (.iconst 3, 1) := by decide +kernel
theorem dX7_readsRow_79 : decode cX7_readsRow 79 = .ok (.if_icmp .eq 71, 3) := by decide +kernel
theorem dX7_readsRow_82 : decode cX7_readsRow 82 = .ok (.aload_n 0, 1) := by decide +kernel
theorem dX7_readsRow_83 : decode cX7_readsRow 83 = .ok (.aload_n 0, 1) := by decide +kernel
theorem dX7_readsRow_84 : decode cX7_readsRow 84 = .ok (.getfield 74, 3) := by decide +kernel
theorem dX7_readsRow_87 : decode cX7_readsRow 87 = .ok (.iconst 2, 1) := by decide +kernel
theorem dX7_readsRow_88 : decode cX7_readsRow 88 = .ok (.if_icmp .ne 25, 3) := by decide +kernel
theorem dX7_readsRow_91 : decode cX7_readsRow 91 = .ok (.aload_n 0, 1) := by decide +kernel
theorem dX7_readsRow_92 : decode cX7_readsRow 92 = .ok (.getfield 71, 3) := by decide +kernel
theorem dX7_readsRow_95 : decode cX7_readsRow 95 = .ok (.iconst 0, 1) := by decide +kernel
theorem dX7_readsRow_96 : decode cX7_readsRow 96 = .ok (.bipush 7, 2) := by decide +kernel
theorem dX7_readsRow_98 : decode cX7_readsRow 98 = .ok (.invokestatic 57, 3) := by decide +kernel
theorem dX7_readsRow_101 : decode cX7_readsRow 101 = .ok (.ifCond .eq 12, 3) := by decide +kernel
theorem dX7_readsRow_104 : decode cX7_readsRow 104 = .ok (.iload_n 2, 1) := by decide +kernel
theorem dX7_readsRow_105 : decode cX7_readsRow 105 = .ok (.iload_n 1, 1) := by decide +kernel
theorem dX7_readsRow_106 : decode cX7_readsRow 106 = .ok (.if_icmp .ge 7, 3) := by decide +kernel
theorem dX7_readsRow_109 : decode cX7_readsRow 109 = .ok (.iconst 1, 1) := by decide +kernel
theorem dX7_readsRow_110 : decode cX7_readsRow 110 = .ok (.goto 4, 3) := by decide +kernel
theorem dX7_readsRow_113 : decode cX7_readsRow 113 = .ok (.iconst 0, 1) := by decide +kernel
theorem dX7_readsRow_114 : decode cX7_readsRow 114 = .ok (.invokevirtual 87, 3) := by decide +kernel
theorem dX7_readsRow_117 : decode cX7_readsRow 117 = .ok (.istore_n 3, 1) := by decide +kernel
theorem dX7_readsRow_118 : decode cX7_readsRow 118 = .ok (.aload_n 0, 1) := by decide +kernel
theorem dX7_readsRow_119 : decode cX7_readsRow 119 = .ok (.invokevirtual 80, 3) := by decide +kernel
theorem dX7_readsRow_122 : decode cX7_readsRow 122 = .ok (.ifCond .eq 25, 3) := by decide +kernel
theorem dX7_readsRow_125 : decode cX7_readsRow 125 = .ok (.aload_n 0, 1) := by decide +kernel
theorem dX7_readsRow_126 : decode cX7_readsRow 126 = .ok (.getfield 13, 3) := by decide +kernel
theorem dX7_readsRow_129 : decode cX7_readsRow 129 = .ok (.iconst 3, 1) := by decide +kernel
theorem dX7_readsRow_130 : decode cX7_readsRow 130 = .ok (.bipush 6, 2) := by decide +kernel
theorem dX7_readsRow_132 : decode cX7_readsRow 132 = .ok (.aload_n 0, 1) := by decide +kernel
theorem dX7_readsRow_133 : decode cX7_readsRow 133 = .ok (.getfield 13, 3) := by decide +kernel
theorem dX7_readsRow_136 : decode cX7_readsRow 136 = .ok (.iconst 1, 1) := by decide +kernel
theorem dX7_readsRow_137 : decode cX7_readsRow 137 = .ok (.iaload, 1) := by decide +kernel
theorem dX7_readsRow_138 : decode cX7_readsRow 138 = .ok (.imul, 1) := by decide +kernel
theorem dX7_readsRow_139 : decode cX7_readsRow 139 = .ok (.iadd, 1) := by decide +kernel
theorem dX7_readsRow_140 : decode cX7_readsRow 140 = .ok (.iload_n 2, 1) := by decide +kernel
theorem dX7_readsRow_141 : decode cX7_readsRow 141 = .ok (.iadd, 1) := by decide +kernel
theorem dX7_readsRow_142 : decode cX7_readsRow 142 = .ok (.iload_n 3, 1) := by decide +kernel
theorem dX7_readsRow_143 : decode cX7_readsRow 143 = .ok (.iastore, 1) := by decide +kernel
theorem dX7_readsRow_144 : decode cX7_readsRow 144 = .ok (.iinc 2 1, 3) := by decide +kernel
theorem dX7_readsRow_147 : decode cX7_readsRow 147 = .ok (.goto (-103), 3) := by decide +kernel
theorem dX7_readsRow_150 : decode cX7_readsRow 150 = .ok (.aload_n 0, 1) := by decide +kernel
theorem dX7_readsRow_151 : decode cX7_readsRow 151 = .ok (.getfield 13, 3) := by decide +kernel
theorem dX7_readsRow_154 : decode cX7_readsRow 154 = .ok (.iconst 0, 1) := by decide +kernel
theorem dX7_readsRow_155 : decode cX7_readsRow 155 = .ok (.aload_n 0, 1) := by decide +kernel
theorem dX7_readsRow_156 : decode cX7_readsRow 156 = .ok (.getfield 13, 3) := by decide +kernel
theorem dX7_readsRow_159 : decode cX7_readsRow 159 = .ok (.iconst 1, 1) := by decide +kernel
theorem dX7_readsRow_160 : decode cX7_readsRow 160 = .ok (.iaload, 1) := by decide +kernel
theorem dX7_readsRow_161 : decode cX7_readsRow 161 = .ok (.ifCond .ne 7, 3) := by decide +kernel
theorem dX7_readsRow_164 : decode cX7_readsRow 164 = .ok (.iload_n 2, 1) := by decide +kernel
theorem dX7_readsRow_165 : decode cX7_readsRow 165 = .ok (.goto 9, 3) := by decide +kernel
theorem dX7_readsRow_168 : decode cX7_readsRow 168 = .ok (.aload_n 0, 1) := by decide +kernel
theorem dX7_readsRow_169 : decode cX7_readsRow 169 = .ok (.getfield 13, 3) := by decide +kernel
theorem dX7_readsRow_172 : decode cX7_readsRow 172 = .ok (.iconst 0, 1) := by decide +kernel
theorem dX7_readsRow_173 : decode cX7_readsRow 173 = .ok (.iaload, 1) := by decide +kernel
theorem dX7_readsRow_174 : decode cX7_readsRow 174 = .ok (.iastore, 1) := by decide +kernel
theorem dX7_readsRow_175 : decode cX7_readsRow 175 = .ok (.aload_n 0, 1) := by decide +kernel
theorem dX7_readsRow_176 : decode cX7_readsRow 176 = .ok (.getfield 13, 3) := by decide +kernel
theorem dX7_readsRow_179 : decode cX7_readsRow 179 = .ok (.iconst 1, 1) := by decide +kernel
theorem dX7_readsRow_180 : decode cX7_readsRow 180 = .ok (.dup2, 1) := by decide +kernel
theorem dX7_readsRow_181 : decode cX7_readsRow 181 = .ok (.iaload, 1) := by decide +kernel
theorem dX7_readsRow_182 : decode cX7_readsRow 182 = .ok (.iconst 1, 1) := by decide +kernel
theorem dX7_readsRow_183 : decode cX7_readsRow 183 = .ok (.iadd, 1) := by decide +kernel
theorem dX7_readsRow_184 : decode cX7_readsRow 184 = .ok (.iastore, 1) := by decide +kernel
theorem dX7_readsRow_185 : decode cX7_readsRow 185 = .ok (.return_, 1) := by decide +kernel
theorem dX7_readsText_0 : decode cX7_readsText 0 = .ok (.iconst 0, 1) := by decide +kernel
theorem dX7_readsText_1 : decode cX7_readsText 1 = .ok (.istore_n 1, 1) := by decide +kernel
theorem dX7_readsText_2 : decode cX7_readsText 2 = .ok (.iload_n 1, 1) := by decide +kernel
theorem dX7_readsText_3 : decode cX7_readsText 3 = .ok (.bipush 99, 2) := by decide +kernel
theorem dX7_readsText_5 : decode cX7_readsText 5 = .ok (.if_icmp .ge 16, 3) := by decide +kernel
theorem dX7_readsText_8 : decode cX7_readsText 8 = .ok (.aload_n 0, 1) := by decide +kernel
theorem dX7_readsText_9 : decode cX7_readsText 9 = .ok (.getfield 13, 3) := by decide +kernel
theorem dX7_readsText_12 : decode cX7_readsText 12 = .ok (.iload_n 1, 1) := by decide +kernel
theorem dX7_readsText_13 : decode cX7_readsText 13 = .ok (.iconst 0, 1) := by decide +kernel
theorem dX7_readsText_14 : decode cX7_readsText 14 = .ok (.iastore, 1) := by decide +kernel
theorem dX7_readsText_15 : decode cX7_readsText 15 = .ok (.iinc 1 1, 3) := by decide +kernel
theorem dX7_readsText_18 : decode cX7_readsText 18 = .ok (.goto (-16), 3) := by decide +kernel
theorem dX7_readsText_21 : decode cX7_readsText 21 = .ok (.aload_n 0, 1) := by decide +kernel
theorem dX7_readsText_22 : decode cX7_readsText 22 = .ok (.iconst 0, 1) := by decide +kernel
theorem dX7_readsText_23 : decode cX7_readsText 23 = .ok (.putfield 61, 3) := by decide +kernel
theorem dX7_readsText_26 : decode cX7_readsText 26 = .ok (.aload_n 0, 1) := by decide +kernel
theorem dX7_readsText_27 : decode cX7_readsText 27 = .ok (.bipush (-9), 2) := by decide +kernel
theorem dX7_readsText_29 : decode cX7_readsText 29 = .ok (.putfield 77, 3) := by decide +kernel
theorem dX7_readsText_32 : decode cX7_readsText 32 = .ok (.aload_n 0, 1) := by decide +kernel
theorem dX7_readsText_33 : decode cX7_readsText 33 = .ok (.invokevirtual 84, 3) := by decide +kernel
theorem dX7_readsText_36 : decode cX7_readsText 36 = .ok (.iconst 0, 1) := by decide +kernel
theorem dX7_readsText_37 : decode cX7_readsText 37 = .ok (.istore_n 1, 1) := by decide +kernel
theorem dX7_readsText_38 : decode cX7_readsText 38 = .ok (.aload_n 0, 1) := by decide +kernel
theorem dX7_readsText_39 : decode cX7_readsText 39 = .ok (.invokevirtual 80, 3) := by decide +kernel
theorem dX7_readsText_42 : decode cX7_readsText 42 = .ok (.ifCond .eq 102, 3) := by decide +kernel
theorem dX7_readsText_45 : decode cX7_readsText 45 = .ok (.aload_n 0, 1) := by decide +kernel
theorem dX7_readsText_46 : decode cX7_readsText 46 = .ok (.getfield 74, 3) := by decide +kernel
theorem dX7_readsText_49 : decode cX7_readsText 49 = .ok (.ifCond .ne 12, 3) := by decide +kernel
theorem dX7_readsText_52 : decode cX7_readsText 52 = .ok (.aload_n 0, 1) := by decide +kernel
theorem dX7_readsText_53 : decode cX7_readsText 53 = .ok (.getfield 13, 3) := by decide +kernel
theorem dX7_readsText_56 : decode cX7_readsText 56 = .ok (.iconst 1, 1) := by decide +kernel
theorem dX7_readsText_57 : decode cX7_readsText 57 = .ok (.iaload, 1) := by decide +kernel
theorem dX7_readsText_58 : decode cX7_readsText 58 = .ok (.ifCond .ne 86, 3) := by decide +kernel
theorem dX7_readsText_61 : decode cX7_readsText 61 = .ok (.aload_n 0, 1) := by decide +kernel
theorem dX7_readsText_62 : decode cX7_readsText 62 = .ok (.getfield 74, 3) := by decide +kernel
theorem dX7_readsText_65 : decode cX7_readsText 65 = .ok (.iconst 1, 1) := by decide +kernel
theorem dX7_readsText_66 : decode cX7_readsText 66 = .ok (.if_icmp .ne 19, 3) := by decide +kernel
theorem dX7_readsText_69 : decode cX7_readsText 69 = .ok (.aload_n 0, 1) := by decide +kernel
theorem dX7_readsText_70 : decode cX7_readsText 70 = .ok (.getfield 71, 3) := by decide +kernel
theorem dX7_readsText_73 : decode cX7_readsText 73 = .ok (.bipush 114, 2) := by decide +kernel
theorem dX7_readsText_75 : decode cX7_readsText 75 = .ok (.if_icmp .ne 10, 3) := by decide +kernel
theorem dX7_readsText_78 : decode cX7_readsText 78 = .ok (.aload_n 0, 1) := by decide +kernel
theorem dX7_readsText_79 : decode cX7_readsText 79 = .ok (.invokevirtual 91, 3) := by decide +kernel
theorem dX7_readsText_82 : decode cX7_readsText 82 = .ok (.goto 38, 3) := by decide +kernel
theorem dX7_readsText_85 : decode cX7_readsText 85 = .ok (.aload_n 0, 1) := by decide +kernel
theorem dX7_readsText_86 : decode cX7_readsText 86 = .ok (.getfield 74, 3) := by decide +kernel
theorem dX7_readsText_89 : decode cX7_readsText 89 = .ok (.iconst 1, 1) := by decide +kernel
theorem dX7_readsText_90 : decode cX7_readsText 90 = .ok (.if_icmp .ne 24, 3) := by decide +kernel
theorem dX7_readsText_93 : decode cX7_readsText 93 = .ok (.aload_n 0, 1) := by decide +kernel
theorem dX7_readsText_94 : decode cX7_readsText 94 = .ok (.aload_n 0, 1) := by decide +kernel
theorem dX7_readsText_95 : decode cX7_readsText 95 = .ok (.getfield 71, 3) := by decide +kernel
theorem dX7_readsText_98 : decode cX7_readsText 98 = .ok (.bipush 100, 2) := by decide +kernel
theorem dX7_readsText_100 : decode cX7_readsText 100 = .ok (.if_icmp .ne 7, 3) := by decide +kernel
theorem dX7_readsText_103 : decode cX7_readsText 103 = .ok (.iconst 1, 1) := by decide +kernel
theorem dX7_readsText_104 : decode cX7_readsText 104 = .ok (.goto 4, 3) := by decide +kernel
theorem dX7_readsText_107 : decode cX7_readsText 107 = .ok (.iconst 0, 1) := by decide +kernel
theorem dX7_readsText_108 : decode cX7_readsText 108 = .ok (.invokevirtual 94, 3) := by decide +kernel
theorem dX7_readsText_111 : decode cX7_readsText 111 = .ok (.goto 9, 3) := by decide +kernel
theorem dX7_readsText_114 : decode cX7_readsText 114 = .ok (.aload_n 0, 1) := by decide +kernel
theorem dX7_readsText_115 : decode cX7_readsText 115 = .ok (.iconst 0, 1) := by decide +kernel
theorem dX7_readsText_116 : decode cX7_readsText 116 = .ok (.invokevirtual 87, 3) := by decide +kernel
theorem dX7_readsText_119 : decode cX7_readsText 119 = .ok (.pop, 1) := by decide +kernel
theorem dX7_readsText_120 : decode cX7_readsText 120 = .ok (.aload_n 0, 1) := by decide +kernel
theorem dX7_readsText_121 : decode cX7_readsText 121 = .ok (.aload_n 0, 1) := by decide +kernel
theorem dX7_readsText_122 : decode cX7_readsText 122 = .ok (.getfield 74, 3) := by decide +kernel
theorem dX7_readsText_125 : decode cX7_readsText 125 = .ok (.iconst 3, 1) := by decide +kernel
theorem dX7_readsText_126 : decode cX7_readsText 126 = .ok (.if_icmp .ne 7, 3) := by decide +kernel
theorem dX7_readsText_129 : decode cX7_readsText 129 = .ok (.iconst 1, 1) := by decide +kernel
theorem dX7_readsText_130 : decode cX7_readsText 130 = .ok (.goto 4, 3) := by decide +kernel
theorem dX7_readsText_133 : decode cX7_readsText 133 = .ok (.iconst 0, 1) := by decide +kernel
theorem dX7_readsText_134 : decode cX7_readsText 134 = .ok (.invokevirtual 87, 3) := by decide +kernel
theorem dX7_readsText_137 : decode cX7_readsText 137 = .ok (.pop, 1) := by decide +kernel
theorem dX7_readsText_138 : decode cX7_readsText 138 = .ok (.iinc 1 1, 3) := by decide +kernel
theorem dX7_readsText_141 : decode cX7_readsText 141 = .ok (.goto (-103), 3) := by decide +kernel
theorem dX7_readsText_144 : decode cX7_readsText 144 = .ok (.iconst 0, 1) := by decide +kernel
theorem dX7_readsText_145 : decode cX7_readsText 145 = .ok (.istore_n 2, 1) := by decide +kernel
theorem dX7_readsText_146 : decode cX7_readsText 146 = .ok (.iload_n 2, 1) := by decide +kernel
theorem dX7_readsText_147 : decode cX7_readsText 147 = .ok (.bipush 6, 2) := by decide +kernel
theorem dX7_readsText_149 : decode cX7_readsText 149 = .ok (.if_icmp .ge 19, 3) := by decide +kernel
theorem dX7_readsText_152 : decode cX7_readsText 152 = .ok (.aload_n 0, 1) := by decide +kernel
theorem dX7_readsText_153 : decode cX7_readsText 153 = .ok (.getfield 13, 3) := by decide +kernel
theorem dX7_readsText_156 : decode cX7_readsText 156 = .ok (.bipush 45, 2) := by decide +kernel
theorem dX7_readsText_158 : decode cX7_readsText 158 = .ok (.iload_n 2, 1) := by decide +kernel
theorem dX7_readsText_159 : decode cX7_readsText 159 = .ok (.iadd, 1) := by decide +kernel
theorem dX7_readsText_160 : decode cX7_readsText 160 = .ok (.iload_n 2, 1) := by decide +kernel
theorem dX7_readsText_161 : decode cX7_readsText 161 = .ok (.iastore, 1) := by decide +kernel
theorem dX7_readsText_162 : decode cX7_readsText 162 = .ok (.iinc 2 1, 3) := by decide +kernel
theorem dX7_readsText_165 : decode cX7_readsText 165 = .ok (.goto (-19), 3) := by decide +kernel
theorem dX7_readsText_168 : decode cX7_readsText 168 = .ok (.iload_n 1, 1) := by decide +kernel
theorem dX7_readsText_169 : decode cX7_readsText 169 = .ok (.ireturn, 1) := by decide +kernel
theorem dX7_tells_0 : decode cX7_tells 0 = .ok (.aload_n 0, 1) := by decide +kernel
theorem dX7_tells_1 : decode cX7_tells 1 = .ok (.iconst 0, 1) := by decide +kernel
theorem dX7_tells_2 : decode cX7_tells 2 = .ok (.putfield 50, 3) := by decide +kernel
theorem dX7_tells_5 : decode cX7_tells 5 = .ok (.aload_n 0, 1) := by decide +kernel
theorem dX7_tells_6 : decode cX7_tells 6 = .ok (.invokevirtual 98, 3) := by decide +kernel
theorem dX7_tells_9 : decode cX7_tells 9 = .ok (.istore_n 1, 1) := by decide +kernel
theorem dX7_tells_10 : decode cX7_tells 10 = .ok (.aload_n 0, 1) := by decide +kernel
theorem dX7_tells_11 : decode cX7_tells 11 = .ok (.invokevirtual 80, 3) := by decide +kernel
theorem dX7_tells_14 : decode cX7_tells 14 = .ok (.ifCond .ne 11, 3) := by decide +kernel
theorem dX7_tells_17 : decode cX7_tells 17 = .ok (.bipush (-10), 2) := by decide +kernel
theorem dX7_tells_19 : decode cX7_tells 19 = .ok (.aload_n 0, 1) := by decide +kernel
theorem dX7_tells_20 : decode cX7_tells 20 = .ok (.getfield 77, 3) := by decide +kernel
theorem dX7_tells_23 : decode cX7_tells 23 = .ok (.isub, 1) := by decide +kernel
theorem dX7_tells_24 : decode cX7_tells 24 = .ok (.ireturn, 1) := by decide +kernel
theorem dX7_tells_25 : decode cX7_tells 25 = .ok (.aload_n 0, 1) := by decide +kernel
theorem dX7_tells_26 : decode cX7_tells 26 = .ok (.invokevirtual 102, 3) := by decide +kernel
theorem dX7_tells_29 : decode cX7_tells 29 = .ok (.iconst 0, 1) := by decide +kernel
theorem dX7_tells_30 : decode cX7_tells 30 = .ok (.istore_n 2, 1) := by decide +kernel
theorem dX7_tells_31 : decode cX7_tells 31 = .ok (.iload_n 2, 1) := by decide +kernel
theorem dX7_tells_32 : decode cX7_tells 32 = .ok (.bipush 99, 2) := by decide +kernel
theorem dX7_tells_34 : decode cX7_tells 34 = .ok (.if_icmp .ge 21, 3) := by decide +kernel
theorem dX7_tells_37 : decode cX7_tells 37 = .ok (.aload_n 0, 1) := by decide +kernel
theorem dX7_tells_38 : decode cX7_tells 38 = .ok (.getfield 7, 3) := by decide +kernel
theorem dX7_tells_41 : decode cX7_tells 41 = .ok (.iload_n 2, 1) := by decide +kernel
theorem dX7_tells_42 : decode cX7_tells 42 = .ok (.aload_n 0, 1) := by decide +kernel
theorem dX7_tells_43 : decode cX7_tells 43 = .ok (.getfield 13, 3) := by decide +kernel
theorem dX7_tells_46 : decode cX7_tells 46 = .ok (.iload_n 2, 1) := by decide +kernel
theorem dX7_tells_47 : decode cX7_tells 47 = .ok (.iaload, 1) := by decide +kernel
theorem dX7_tells_48 : decode cX7_tells 48 = .ok (.iastore, 1) := by decide +kernel
theorem dX7_tells_49 : decode cX7_tells 49 = .ok (.iinc 2 1, 3) := by decide +kernel
theorem dX7_tells_52 : decode cX7_tells 52 = .ok (.goto (-21), 3) := by decide +kernel
theorem dX7_tells_55 : decode cX7_tells 55 = .ok (.aload_n 0, 1) := by decide +kernel
theorem dX7_tells_56 : decode cX7_tells 56 = .ok (.iconst 0, 1) := by decide +kernel
theorem dX7_tells_57 : decode cX7_tells 57 = .ok (.putfield 54, 3) := by decide +kernel
theorem dX7_tells_60 : decode cX7_tells 60 = .ok (.aload_n 0, 1) := by decide +kernel
theorem dX7_tells_61 : decode cX7_tells 61 = .ok (.iconst 0, 1) := by decide +kernel
theorem dX7_tells_62 : decode cX7_tells 62 = .ok (.putfield 105, 3) := by decide +kernel
theorem dX7_tells_65 : decode cX7_tells 65 = .ok (.aload_n 0, 1) := by decide +kernel
theorem dX7_tells_66 : decode cX7_tells 66 = .ok (.getfield 22, 3) := by decide +kernel
theorem dX7_tells_69 : decode cX7_tells 69 = .ok (.iconst 0, 1) := by decide +kernel
theorem dX7_tells_70 : decode cX7_tells 70 = .ok (.iconst 0, 1) := by decide +kernel
theorem dX7_tells_71 : decode cX7_tells 71 = .ok (.bastore, 1) := by decide +kernel
theorem dX7_tells_72 : decode cX7_tells 72 = .ok (.aload_n 0, 1) := by decide +kernel
theorem dX7_tells_73 : decode cX7_tells 73 = .ok (.getfield 22, 3) := by decide +kernel
theorem dX7_tells_76 : decode cX7_tells 76 = .ok (.iconst 1, 1) := by decide +kernel
theorem dX7_tells_77 : decode cX7_tells 77 = .ok (.iconst 0, 1) := by decide +kernel
theorem dX7_tells_78 : decode cX7_tells 78 = .ok (.bastore, 1) := by decide +kernel
theorem dX7_tells_79 : decode cX7_tells 79 = .ok (.iload_n 1, 1) := by decide +kernel
theorem dX7_tells_80 : decode cX7_tells 80 = .ok (.ireturn, 1) := by decide +kernel
theorem dX7_printed_0 : decode cX7_printed 0 = .ok (.iload_n 0, 1) := by decide +kernel
theorem dX7_printed_1 : decode cX7_printed 1 = .ok (.bipush 8, 2) := by decide +kernel
theorem dX7_printed_3 : decode cX7_printed 3 = .ok (.if_icmp .lt 10, 3) := by decide +kernel
theorem dX7_printed_6 : decode cX7_printed 6 = .ok (.iload_n 0, 1) := by decide +kernel
theorem dX7_printed_7 : decode cX7_printed 7 = .ok (.bipush 8, 2) := by decide +kernel
theorem dX7_printed_9 : decode cX7_printed 9 = .ok (.isub, 1) := by decide +kernel
theorem dX7_printed_10 : decode cX7_printed 10 = .ok (.goto 6, 3) := by decide +kernel
theorem dX7_printed_13 : decode cX7_printed 13 = .ok (.iload_n 1, 1) := by decide +kernel
theorem dX7_printed_14 : decode cX7_printed 14 = .ok (.iload_n 0, 1) := by decide +kernel
theorem dX7_printed_15 : decode cX7_printed 15 = .ok (.ior, 1) := by decide +kernel
theorem dX7_printed_16 : decode cX7_printed 16 = .ok (.ireturn, 1) := by decide +kernel
theorem dX7_proves_0 : decode cX7_proves 0 = .ok (.iconst 0, 1) := by decide +kernel
theorem dX7_proves_1 : decode cX7_proves 1 = .ok (.istore 4, 2) := by decide +kernel
theorem dX7_proves_3 : decode cX7_proves 3 = .ok (.iload 4, 2) := by decide +kernel
theorem dX7_proves_5 : decode cX7_proves 5 = .ok (.bipush 36, 2) := by decide +kernel
theorem dX7_proves_7 : decode cX7_proves 7 = .ok (.if_icmp .ge 17, 3) := by decide +kernel
theorem dX7_proves_10 : decode cX7_proves 10 = .ok (.aload_n 0, 1) := by decide +kernel
theorem dX7_proves_11 : decode cX7_proves 11 = .ok (.getfield 32, 3) := by decide +kernel
theorem dX7_proves_14 : decode cX7_proves 14 = .ok (.iload 4, 2) := by decide +kernel
theorem dX7_proves_16 : decode cX7_proves 16 = .ok (.iconst 0, 1) := by decide +kernel
theorem dX7_proves_17 : decode cX7_proves 17 = .ok (.iastore, 1) := by decide +kernel
theorem dX7_proves_18 : decode cX7_proves 18 = .ok (.iinc 4 1, 3) := by decide +kernel
theorem dX7_proves_21 : decode cX7_proves 21 = .ok (.goto (-18), 3) := by decide +kernel
theorem dX7_proves_24 : decode cX7_proves 24 = .ok (.iconst 0, 1) := by decide +kernel
theorem dX7_proves_25 : decode cX7_proves 25 = .ok (.istore 4, 2) := by decide +kernel
theorem dX7_proves_27 : decode cX7_proves 27 = .ok (.iload 4, 2) := by decide +kernel
theorem dX7_proves_29 : decode cX7_proves 29 = .ok (.aload_n 0, 1) := by decide +kernel
theorem dX7_proves_30 : decode cX7_proves 30 = .ok (.getfield 7, 3) := by decide +kernel
theorem dX7_proves_33 : decode cX7_proves 33 = .ok (.iconst 2, 1) := by decide +kernel
theorem dX7_proves_34 : decode cX7_proves 34 = .ok (.iaload, 1) := by decide +kernel
theorem dX7_proves_35 : decode cX7_proves 35 = .ok (.if_icmp .ge 67, 3) := by decide +kernel
theorem dX7_proves_38 : decode cX7_proves 38 = .ok (.aload_n 0, 1) := by decide +kernel
theorem dX7_proves_39 : decode cX7_proves 39 = .ok (.getfield 7, 3) := by decide +kernel
theorem dX7_proves_42 : decode cX7_proves 42 = .ok (.bipush 45, 2) := by decide +kernel
theorem dX7_proves_44 : decode cX7_proves 44 = .ok (.iload 4, 2) := by decide +kernel
theorem dX7_proves_46 : decode cX7_proves 46 = .ok (.iadd, 1) := by decide +kernel
theorem dX7_proves_47 : decode cX7_proves 47 = .ok (.iaload, 1) := by decide +kernel
theorem dX7_proves_48 : decode cX7_proves 48 = .ok (.istore 5, 2) := by decide +kernel
theorem dX7_proves_50 : decode cX7_proves 50 = .ok (.aload_n 0, 1) := by decide +kernel
theorem dX7_proves_51 : decode cX7_proves 51 = .ok (.iload 5, 2) := by decide +kernel
theorem dX7_proves_53 : decode cX7_proves 53 = .ok (.iload 5, 2) := by decide +kernel
theorem dX7_proves_55 : decode cX7_proves 55 = .ok (.iload_n 1, 1) := by decide +kernel
theorem dX7_proves_56 : decode cX7_proves 56 = .ok (.if_icmp .ne 7, 3) := by decide +kernel
theorem dX7_proves_59 : decode cX7_proves 59 = .ok (.iload_n 2, 1) := by decide +kernel
theorem dX7_proves_60 : decode cX7_proves 60 = .ok (.goto 13, 3) := by decide +kernel
theorem dX7_proves_63 : decode cX7_proves 63 = .ok (.aload_n 0, 1) := by decide +kernel
theorem dX7_proves_64 : decode cX7_proves 64 = .ok (.getfield 7, 3) := by decide +kernel
theorem dX7_proves_67 : decode cX7_proves 67 = .ok (.bipush 87, 2) := by decide +kernel
theorem dX7_proves_69 : decode cX7_proves 69 = .ok (.iload 5, 2) := by decide +kernel
theorem dX7_proves_71 : decode cX7_proves 71 = .ok (.iadd, 1) := by decide +kernel
theorem dX7_proves_72 : decode cX7_proves 72 = .ok (.iaload, 1) := by decide +kernel
theorem dX7_proves_73 : decode cX7_proves 73 = .ok (.iload 5, 2) := by decide +kernel
theorem dX7_proves_75 : decode cX7_proves 75 = .ok (.iload_n 1, 1) := by decide +kernel
theorem dX7_proves_76 : decode cX7_proves 76 = .ok (.if_icmp .ne 7, 3) := by decide +kernel
theorem dX7_proves_79 : decode cX7_proves 79 = .ok (.iload_n 3, 1) := by decide +kernel
theorem dX7_proves_80 : decode cX7_proves 80 = .ok (.goto 13, 3) := by decide +kernel
theorem dX7_proves_83 : decode cX7_proves 83 = .ok (.aload_n 0, 1) := by decide +kernel
theorem dX7_proves_84 : decode cX7_proves 84 = .ok (.getfield 7, 3) := by decide +kernel
theorem dX7_proves_87 : decode cX7_proves 87 = .ok (.bipush 93, 2) := by decide +kernel
theorem dX7_proves_89 : decode cX7_proves 89 = .ok (.iload 5, 2) := by decide +kernel
theorem dX7_proves_91 : decode cX7_proves 91 = .ok (.iadd, 1) := by decide +kernel
theorem dX7_proves_92 : decode cX7_proves 92 = .ok (.iaload, 1) := by decide +kernel
theorem dX7_proves_93 : decode cX7_proves 93 = .ok (.invokevirtual 108, 3) := by decide +kernel
theorem dX7_proves_96 : decode cX7_proves 96 = .ok (.iinc 4 1, 3) := by decide +kernel
theorem dX7_proves_99 : decode cX7_proves 99 = .ok (.goto (-72), 3) := by decide +kernel
theorem dX7_proves_102 : decode cX7_proves 102 = .ok (.return_, 1) := by decide +kernel
theorem dX7_prints_0 : decode cX7_prints 0 = .ok (.iconst 0, 1) := by decide +kernel
theorem dX7_prints_1 : decode cX7_prints 1 = .ok (.istore 4, 2) := by decide +kernel
theorem dX7_prints_3 : decode cX7_prints 3 = .ok (.iload 4, 2) := by decide +kernel
theorem dX7_prints_5 : decode cX7_prints 5 = .ok (.bipush 36, 2) := by decide +kernel
theorem dX7_prints_7 : decode cX7_prints 7 = .ok (.if_icmp .ge 141, 3) := by decide +kernel
theorem dX7_prints_10 : decode cX7_prints 10 = .ok (.iload 4, 2) := by decide +kernel
theorem dX7_prints_12 : decode cX7_prints 12 = .ok (.bipush 6, 2) := by decide +kernel
theorem dX7_prints_14 : decode cX7_prints 14 = .ok (.irem, 1) := by decide +kernel
theorem dX7_prints_15 : decode cX7_prints 15 = .ok (.iload_n 2, 1) := by decide +kernel
theorem dX7_prints_16 : decode cX7_prints 16 = .ok (.iadd, 1) := by decide +kernel
theorem dX7_prints_17 : decode cX7_prints 17 = .ok (.istore 5, 2) := by decide +kernel
theorem dX7_prints_19 : decode cX7_prints 19 = .ok (.iload 4, 2) := by decide +kernel
theorem dX7_prints_21 : decode cX7_prints 21 = .ok (.bipush 6, 2) := by decide +kernel
theorem dX7_prints_23 : decode cX7_prints 23 = .ok (.idiv, 1) := by decide +kernel
theorem dX7_prints_24 : decode cX7_prints 24 = .ok (.iload_n 3, 1) := by decide +kernel
theorem dX7_prints_25 : decode cX7_prints 25 = .ok (.iadd, 1) := by decide +kernel
theorem dX7_prints_26 : decode cX7_prints 26 = .ok (.istore 6, 2) := by decide +kernel
theorem dX7_prints_28 : decode cX7_prints 28 = .ok (.aload_n 0, 1) := by decide +kernel
theorem dX7_prints_29 : decode cX7_prints 29 = .ok (.getfield 7, 3) := by decide +kernel
theorem dX7_prints_32 : decode cX7_prints 32 = .ok (.bipush 51, 2) := by decide +kernel
theorem dX7_prints_34 : decode cX7_prints 34 = .ok (.bipush 6, 2) := by decide +kernel
theorem dX7_prints_36 : decode cX7_prints 36 = .ok (.iload_n 1, 1) := by decide +kernel
theorem dX7_prints_37 : decode cX7_prints 37 = .ok (.imul, 1) := by decide +kernel
theorem dX7_prints_38 : decode cX7_prints 38 = .ok (.iadd, 1) := by decide +kernel
theorem dX7_prints_39 : decode cX7_prints 39 = .ok (.iload 4, 2) := by decide +kernel
theorem dX7_prints_41 : decode cX7_prints 41 = .ok (.bipush 6, 2) := by decide +kernel
theorem dX7_prints_43 : decode cX7_prints 43 = .ok (.idiv, 1) := by decide +kernel
theorem dX7_prints_44 : decode cX7_prints 44 = .ok (.iadd, 1) := by decide +kernel
theorem dX7_prints_45 : decode cX7_prints 45 = .ok (.iaload, 1) := by decide +kernel
theorem dX7_prints_46 : decode cX7_prints 46 = .ok (.iload 4, 2) := by decide +kernel
theorem dX7_prints_48 : decode cX7_prints 48 = .ok (.bipush 6, 2) := by decide +kernel
theorem dX7_prints_50 : decode cX7_prints 50 = .ok (.irem, 1) := by decide +kernel
theorem dX7_prints_51 : decode cX7_prints 51 = .ok (.ishr, 1) := by decide +kernel
theorem dX7_prints_52 : decode cX7_prints 52 = .ok (.iconst 1, 1) := by decide +kernel
theorem dX7_prints_53 : decode cX7_prints 53 = .ok (.iand, 1) := by decide +kernel
theorem dX7_prints_54 : decode cX7_prints 54 = .ok (.iconst 1, 1) := by decide +kernel
theorem dX7_prints_55 : decode cX7_prints 55 = .ok (.if_icmp .ne 7, 3) := by decide +kernel
theorem dX7_prints_58 : decode cX7_prints 58 = .ok (.iconst 1, 1) := by decide +kernel
theorem dX7_prints_59 : decode cX7_prints 59 = .ok (.goto 4, 3) := by decide +kernel
theorem dX7_prints_62 : decode cX7_prints 62 = .ok (.iconst 0, 1) := by decide +kernel
theorem dX7_prints_63 : decode cX7_prints 63 = .ok (.istore 7, 2) := by decide +kernel
theorem dX7_prints_65 : decode cX7_prints 65 = .ok (.iload 7, 2) := by decide +kernel
theorem dX7_prints_67 : decode cX7_prints 67 = .ok (.ifCond .eq 75, 3) := by decide +kernel
theorem dX7_prints_70 : decode cX7_prints 70 = .ok (.iload 5, 2) := by decide +kernel
theorem dX7_prints_72 : decode cX7_prints 72 = .ok (.iconst 0, 1) := by decide +kernel
theorem dX7_prints_73 : decode cX7_prints 73 = .ok (.aload_n 0, 1) := by decide +kernel
theorem dX7_prints_74 : decode cX7_prints 74 = .ok (.getfield 7, 3) := by decide +kernel
theorem dX7_prints_77 : decode cX7_prints 77 = .ok (.iconst 0, 1) := by decide +kernel
theorem dX7_prints_78 : decode cX7_prints 78 = .ok (.iaload, 1) := by decide +kernel
theorem dX7_prints_79 : decode cX7_prints 79 = .ok (.iconst 1, 1) := by decide +kernel
theorem dX7_prints_80 : decode cX7_prints 80 = .ok (.isub, 1) := by decide +kernel
theorem dX7_prints_81 : decode cX7_prints 81 = .ok (.invokestatic 57, 3) := by decide +kernel
theorem dX7_prints_84 : decode cX7_prints 84 = .ok (.ifCond .eq 58, 3) := by decide +kernel
theorem dX7_prints_87 : decode cX7_prints 87 = .ok (.iload 6, 2) := by decide +kernel
theorem dX7_prints_89 : decode cX7_prints 89 = .ok (.iconst 0, 1) := by decide +kernel
theorem dX7_prints_90 : decode cX7_prints 90 = .ok (.aload_n 0, 1) := by decide +kernel
theorem dX7_prints_91 : decode cX7_prints 91 = .ok (.getfield 7, 3) := by decide +kernel
theorem dX7_prints_94 : decode cX7_prints 94 = .ok (.iconst 1, 1) := by decide +kernel
theorem dX7_prints_95 : decode cX7_prints 95 = .ok (.iaload, 1) := by decide +kernel
theorem dX7_prints_96 : decode cX7_prints 96 = .ok (.iconst 1, 1) := by decide +kernel
theorem dX7_prints_97 : decode cX7_prints 97 = .ok (.isub, 1) := by decide +kernel
theorem dX7_prints_98 : decode cX7_prints 98 = .ok (.invokestatic 57, 3) := by decide +kernel
theorem dX7_prints_101 : decode cX7_prints 101 = .ok (.ifCond .eq 41, 3) := by decide +kernel
theorem dX7_prints_104 : decode cX7_prints 104 = .ok (.aload_n 0, 1) := by decide +kernel
theorem dX7_prints_105 : decode cX7_prints 105 = .ok (.getfield 32, 3) := by decide +kernel
theorem dX7_prints_108 : decode cX7_prints 108 = .ok (.bipush 6, 2) := by decide +kernel
theorem dX7_prints_110 : decode cX7_prints 110 = .ok (.iload 6, 2) := by decide +kernel
theorem dX7_prints_112 : decode cX7_prints 112 = .ok (.imul, 1) := by decide +kernel
theorem dX7_prints_113 : decode cX7_prints 113 = .ok (.iload 5, 2) := by decide +kernel
theorem dX7_prints_115 : decode cX7_prints 115 = .ok (.iadd, 1) := by decide +kernel
theorem dX7_prints_116 : decode cX7_prints 116 = .ok (.aload_n 0, 1) := by decide +kernel
theorem dX7_prints_117 : decode cX7_prints 117 = .ok (.getfield 7, 3) := by decide +kernel
theorem dX7_prints_120 : decode cX7_prints 120 = .ok (.bipush 39, 2) := by decide +kernel
theorem dX7_prints_122 : decode cX7_prints 122 = .ok (.iload_n 1, 1) := by decide +kernel
theorem dX7_prints_123 : decode cX7_prints 123 = .ok (.iadd, 1) := by decide +kernel
theorem dX7_prints_124 : decode cX7_prints 124 = .ok (.iaload, 1) := by decide +kernel
theorem dX7_prints_125 : decode cX7_prints 125 = .ok (.aload_n 0, 1) := by decide +kernel
theorem dX7_prints_126 : decode cX7_prints 126 = .ok (.getfield 32, 3) := by decide +kernel
theorem dX7_prints_129 : decode cX7_prints 129 = .ok (.bipush 6, 2) := by decide +kernel
theorem dX7_prints_131 : decode cX7_prints 131 = .ok (.iload 6, 2) := by decide +kernel
theorem dX7_prints_133 : decode cX7_prints 133 = .ok (.imul, 1) := by decide +kernel
theorem dX7_prints_134 : decode cX7_prints 134 = .ok (.iload 5, 2) := by decide +kernel
theorem dX7_prints_136 : decode cX7_prints 136 = .ok (.iadd, 1) := by decide +kernel
theorem dX7_prints_137 : decode cX7_prints 137 = .ok (.iaload, 1) := by decide +kernel
theorem dX7_prints_138 : decode cX7_prints 138 = .ok (.invokestatic 112, 3) := by decide +kernel
theorem dX7_prints_141 : decode cX7_prints 141 = .ok (.iastore, 1) := by decide +kernel
theorem dX7_prints_142 : decode cX7_prints 142 = .ok (.iinc 4 1, 3) := by decide +kernel
theorem dX7_prints_145 : decode cX7_prints 145 = .ok (.goto (-142), 3) := by decide +kernel
theorem dX7_prints_148 : decode cX7_prints 148 = .ok (.return_, 1) := by decide +kernel
theorem dX7_wrongCells_0 : decode cX7_wrongCells 0 = .ok (.iconst 0, 1) := by decide +kernel
theorem dX7_wrongCells_1 : decode cX7_wrongCells 1 = .ok (.istore_n 1, 1) := by decide +kernel
theorem dX7_wrongCells_2 : decode cX7_wrongCells 2 = .ok (.iconst 0, 1) := by decide +kernel
theorem dX7_wrongCells_3 : decode cX7_wrongCells 3 = .ok (.istore_n 2, 1) := by decide +kernel
theorem dX7_wrongCells_4 : decode cX7_wrongCells 4 = .ok (.iload_n 2, 1) := by decide +kernel
theorem dX7_wrongCells_5 : decode cX7_wrongCells 5 = .ok (.aload_n 0, 1) := by decide +kernel
theorem dX7_wrongCells_6 : decode cX7_wrongCells 6 = .ok (.getfield 7, 3) := by decide +kernel
theorem dX7_wrongCells_9 : decode cX7_wrongCells 9 = .ok (.iconst 1, 1) := by decide +kernel
theorem dX7_wrongCells_10 : decode cX7_wrongCells 10 = .ok (.iaload, 1) := by decide +kernel
theorem dX7_wrongCells_11 : decode cX7_wrongCells 11 = .ok (.if_icmp .ge 62, 3) := by decide +kernel
theorem dX7_wrongCells_14 : decode cX7_wrongCells 14 = .ok (.iconst 0, 1) := by decide +kernel
theorem dX7_wrongCells_15 : decode cX7_wrongCells 15 = .ok (.istore_n 3, 1) := by decide +kernel
theorem dX7_wrongCells_16 : decode cX7_wrongCells 16 = .ok (.iload_n 3, 1) := by decide +kernel
theorem dX7_wrongCells_17 : decode cX7_wrongCells 17 = .ok (.aload_n 0, 1) := by decide +kernel
theorem dX7_wrongCells_18 : decode cX7_wrongCells 18 = .ok (.getfield 7, 3) := by decide +kernel
theorem dX7_wrongCells_21 : decode cX7_wrongCells 21 = .ok (.iconst 0, 1) := by decide +kernel
theorem dX7_wrongCells_22 : decode cX7_wrongCells 22 = .ok (.iaload, 1) := by decide +kernel
theorem dX7_wrongCells_23 : decode cX7_wrongCells 23 = .ok (.if_icmp .ge 44, 3) := by decide +kernel
theorem dX7_wrongCells_26 : decode cX7_wrongCells 26 = .ok (.iload_n 1, 1) := by decide +kernel
theorem dX7_wrongCells_27 : decode cX7_wrongCells 27 = .ok (.aload_n 0, 1) := by decide +kernel
theorem dX7_wrongCells_28 : decode cX7_wrongCells 28 = .ok (.getfield 32, 3) := by decide +kernel
theorem dX7_wrongCells_31 : decode cX7_wrongCells 31 = .ok (.bipush 6, 2) := by decide +kernel
theorem dX7_wrongCells_33 : decode cX7_wrongCells 33 = .ok (.iload_n 2, 1) := by decide +kernel
theorem dX7_wrongCells_34 : decode cX7_wrongCells 34 = .ok (.imul, 1) := by decide +kernel
theorem dX7_wrongCells_35 : decode cX7_wrongCells 35 = .ok (.iload_n 3, 1) := by decide +kernel
theorem dX7_wrongCells_36 : decode cX7_wrongCells 36 = .ok (.iadd, 1) := by decide +kernel
theorem dX7_wrongCells_37 : decode cX7_wrongCells 37 = .ok (.iaload, 1) := by decide +kernel
theorem dX7_wrongCells_38 : decode cX7_wrongCells 38 = .ok (.aload_n 0, 1) := by decide +kernel
theorem dX7_wrongCells_39 : decode cX7_wrongCells 39 = .ok (.getfield 7, 3) := by decide +kernel
theorem dX7_wrongCells_42 : decode cX7_wrongCells 42 = .ok (.iconst 3, 1) := by decide +kernel
theorem dX7_wrongCells_43 : decode cX7_wrongCells 43 = .ok (.bipush 6, 2) := by decide +kernel
theorem dX7_wrongCells_45 : decode cX7_wrongCells 45 = .ok (.iload_n 2, 1) := by decide +kernel
theorem dX7_wrongCells_46 : decode cX7_wrongCells 46 = .ok (.imul, 1) := by decide +kernel
theorem dX7_wrongCells_47 : decode cX7_wrongCells 47 = .ok (.iadd, 1) := by decide +kernel
theorem dX7_wrongCells_48 : decode cX7_wrongCells 48 = .ok (.iload_n 3, 1) := by decide +kernel
theorem dX7_wrongCells_49 : decode cX7_wrongCells 49 = .ok (.iadd, 1) := by decide +kernel
theorem dX7_wrongCells_50 : decode cX7_wrongCells 50 = .ok (.iaload, 1) := by decide +kernel
theorem dX7_wrongCells_51 : decode cX7_wrongCells 51 = .ok (.if_icmp .ne 7, 3) := by decide +kernel
theorem dX7_wrongCells_54 : decode cX7_wrongCells 54 = .ok (.iconst 0, 1) := by decide +kernel
theorem dX7_wrongCells_55 : decode cX7_wrongCells 55 = .ok (.goto 4, 3) := by decide +kernel
theorem dX7_wrongCells_58 : decode cX7_wrongCells 58 = .ok (.iconst 1, 1) := by decide +kernel
theorem dX7_wrongCells_59 : decode cX7_wrongCells 59 = .ok (.iadd, 1) := by decide +kernel
theorem dX7_wrongCells_60 : decode cX7_wrongCells 60 = .ok (.istore_n 1, 1) := by decide +kernel
theorem dX7_wrongCells_61 : decode cX7_wrongCells 61 = .ok (.iinc 3 1, 3) := by decide +kernel
theorem dX7_wrongCells_64 : decode cX7_wrongCells 64 = .ok (.goto (-48), 3) := by decide +kernel
theorem dX7_wrongCells_67 : decode cX7_wrongCells 67 = .ok (.iinc 2 1, 3) := by decide +kernel
theorem dX7_wrongCells_70 : decode cX7_wrongCells 70 = .ok (.goto (-66), 3) := by decide +kernel
theorem dX7_wrongCells_73 : decode cX7_wrongCells 73 = .ok (.iload_n 1, 1) := by decide +kernel
theorem dX7_wrongCells_74 : decode cX7_wrongCells 74 = .ok (.ireturn, 1) := by decide +kernel
theorem dX7_mixes_0 : decode cX7_mixes 0 = .ok (.iconst 0, 1) := by decide +kernel
theorem dX7_mixes_1 : decode cX7_mixes 1 = .ok (.istore_n 1, 1) := by decide +kernel
theorem dX7_mixes_2 : decode cX7_mixes 2 = .ok (.iload_n 1, 1) := by decide +kernel
theorem dX7_mixes_3 : decode cX7_mixes 3 = .ok (.iconst 1, 1) := by decide +kernel
theorem dX7_mixes_4 : decode cX7_mixes 4 = .ok (.aload_n 0, 1) := by decide +kernel
theorem dX7_mixes_5 : decode cX7_mixes 5 = .ok (.getfield 7, 3) := by decide +kernel
theorem dX7_mixes_8 : decode cX7_mixes 8 = .ok (.iconst 2, 1) := by decide +kernel
theorem dX7_mixes_9 : decode cX7_mixes 9 = .ok (.iaload, 1) := by decide +kernel
theorem dX7_mixes_10 : decode cX7_mixes 10 = .ok (.ishl, 1) := by decide +kernel
theorem dX7_mixes_11 : decode cX7_mixes 11 = .ok (.if_icmp .ge 73, 3) := by decide +kernel
theorem dX7_mixes_14 : decode cX7_mixes 14 = .ok (.iconst 0, 1) := by decide +kernel
theorem dX7_mixes_15 : decode cX7_mixes 15 = .ok (.istore_n 2, 1) := by decide +kernel
theorem dX7_mixes_16 : decode cX7_mixes 16 = .ok (.iconst 0, 1) := by decide +kernel
theorem dX7_mixes_17 : decode cX7_mixes 17 = .ok (.istore_n 3, 1) := by decide +kernel
theorem dX7_mixes_18 : decode cX7_mixes 18 = .ok (.iload_n 3, 1) := by decide +kernel
theorem dX7_mixes_19 : decode cX7_mixes 19 = .ok (.aload_n 0, 1) := by decide +kernel
theorem dX7_mixes_20 : decode cX7_mixes 20 = .ok (.getfield 7, 3) := by decide +kernel
theorem dX7_mixes_23 : decode cX7_mixes 23 = .ok (.iconst 2, 1) := by decide +kernel
theorem dX7_mixes_24 : decode cX7_mixes 24 = .ok (.iaload, 1) := by decide +kernel
theorem dX7_mixes_25 : decode cX7_mixes 25 = .ok (.if_icmp .ge 46, 3) := by decide +kernel
theorem dX7_mixes_28 : decode cX7_mixes 28 = .ok (.iload_n 1, 1) := by decide +kernel
theorem dX7_mixes_29 : decode cX7_mixes 29 = .ok (.aload_n 0, 1) := by decide +kernel
theorem dX7_mixes_30 : decode cX7_mixes 30 = .ok (.getfield 35, 3) := by decide +kernel
theorem dX7_mixes_33 : decode cX7_mixes 33 = .ok (.iload_n 3, 1) := by decide +kernel
theorem dX7_mixes_34 : decode cX7_mixes 34 = .ok (.iaload, 1) := by decide +kernel
theorem dX7_mixes_35 : decode cX7_mixes 35 = .ok (.ishr, 1) := by decide +kernel
theorem dX7_mixes_36 : decode cX7_mixes 36 = .ok (.iconst 1, 1) := by decide +kernel
theorem dX7_mixes_37 : decode cX7_mixes 37 = .ok (.iand, 1) := by decide +kernel
theorem dX7_mixes_38 : decode cX7_mixes 38 = .ok (.iconst 1, 1) := by decide +kernel
theorem dX7_mixes_39 : decode cX7_mixes 39 = .ok (.if_icmp .ne 24, 3) := by decide +kernel
theorem dX7_mixes_42 : decode cX7_mixes 42 = .ok (.aload_n 0, 1) := by decide +kernel
theorem dX7_mixes_43 : decode cX7_mixes 43 = .ok (.getfield 7, 3) := by decide +kernel
theorem dX7_mixes_46 : decode cX7_mixes 46 = .ok (.bipush 39, 2) := by decide +kernel
theorem dX7_mixes_48 : decode cX7_mixes 48 = .ok (.aload_n 0, 1) := by decide +kernel
theorem dX7_mixes_49 : decode cX7_mixes 49 = .ok (.getfield 35, 3) := by decide +kernel
theorem dX7_mixes_52 : decode cX7_mixes 52 = .ok (.iload_n 3, 1) := by decide +kernel
theorem dX7_mixes_53 : decode cX7_mixes 53 = .ok (.iaload, 1) := by decide +kernel
theorem dX7_mixes_54 : decode cX7_mixes 54 = .ok (.iadd, 1) := by decide +kernel
theorem dX7_mixes_55 : decode cX7_mixes 55 = .ok (.iaload, 1) := by decide +kernel
theorem dX7_mixes_56 : decode cX7_mixes 56 = .ok (.iload_n 2, 1) := by decide +kernel
theorem dX7_mixes_57 : decode cX7_mixes 57 = .ok (.invokestatic 112, 3) := by decide +kernel
theorem dX7_mixes_60 : decode cX7_mixes 60 = .ok (.goto 4, 3) := by decide +kernel
theorem dX7_mixes_63 : decode cX7_mixes 63 = .ok (.iload_n 2, 1) := by decide +kernel
theorem dX7_mixes_64 : decode cX7_mixes 64 = .ok (.istore_n 2, 1) := by decide +kernel
theorem dX7_mixes_65 : decode cX7_mixes 65 = .ok (.iinc 3 1, 3) := by decide +kernel
theorem dX7_mixes_68 : decode cX7_mixes 68 = .ok (.goto (-50), 3) := by decide +kernel
theorem dX7_mixes_71 : decode cX7_mixes 71 = .ok (.aload_n 0, 1) := by decide +kernel
theorem dX7_mixes_72 : decode cX7_mixes 72 = .ok (.getfield 38, 3) := by decide +kernel
theorem dX7_mixes_75 : decode cX7_mixes 75 = .ok (.iload_n 1, 1) := by decide +kernel
theorem dX7_mixes_76 : decode cX7_mixes 76 = .ok (.iload_n 2, 1) := by decide +kernel
theorem dX7_mixes_77 : decode cX7_mixes 77 = .ok (.iastore, 1) := by decide +kernel
theorem dX7_mixes_78 : decode cX7_mixes 78 = .ok (.iinc 1 1, 3) := by decide +kernel
theorem dX7_mixes_81 : decode cX7_mixes 81 = .ok (.goto (-79), 3) := by decide +kernel
theorem dX7_mixes_84 : decode cX7_mixes 84 = .ok (.iconst 0, 1) := by decide +kernel
theorem dX7_mixes_85 : decode cX7_mixes 85 = .ok (.istore_n 1, 1) := by decide +kernel
theorem dX7_mixes_86 : decode cX7_mixes 86 = .ok (.iload_n 1, 1) := by decide +kernel
theorem dX7_mixes_87 : decode cX7_mixes 87 = .ok (.iconst 1, 1) := by decide +kernel
theorem dX7_mixes_88 : decode cX7_mixes 88 = .ok (.aload_n 0, 1) := by decide +kernel
theorem dX7_mixes_89 : decode cX7_mixes 89 = .ok (.getfield 7, 3) := by decide +kernel
theorem dX7_mixes_92 : decode cX7_mixes 92 = .ok (.iconst 2, 1) := by decide +kernel
theorem dX7_mixes_93 : decode cX7_mixes 93 = .ok (.iaload, 1) := by decide +kernel
theorem dX7_mixes_94 : decode cX7_mixes 94 = .ok (.ishl, 1) := by decide +kernel
theorem dX7_mixes_95 : decode cX7_mixes 95 = .ok (.if_icmp .ge 58, 3) := by decide +kernel
theorem dX7_mixes_98 : decode cX7_mixes 98 = .ok (.aload_n 0, 1) := by decide +kernel
theorem dX7_mixes_99 : decode cX7_mixes 99 = .ok (.getfield 41, 3) := by decide +kernel
theorem dX7_mixes_102 : decode cX7_mixes 102 = .ok (.iload_n 1, 1) := by decide +kernel
theorem dX7_mixes_103 : decode cX7_mixes 103 = .ok (.iconst 0, 1) := by decide +kernel
theorem dX7_mixes_104 : decode cX7_mixes 104 = .ok (.iastore, 1) := by decide +kernel
theorem dX7_mixes_105 : decode cX7_mixes 105 = .ok (.iconst 0, 1) := by decide +kernel
theorem dX7_mixes_106 : decode cX7_mixes 106 = .ok (.istore_n 2, 1) := by decide +kernel
theorem dX7_mixes_107 : decode cX7_mixes 107 = .ok (.iload_n 2, 1) := by decide +kernel
theorem dX7_mixes_108 : decode cX7_mixes 108 = .ok (.iload_n 1, 1) := by decide +kernel
theorem dX7_mixes_109 : decode cX7_mixes 109 = .ok (.if_icmp .gt 38, 3) := by decide +kernel
theorem dX7_mixes_112 : decode cX7_mixes 112 = .ok (.aload_n 0, 1) := by decide +kernel
theorem dX7_mixes_113 : decode cX7_mixes 113 = .ok (.getfield 41, 3) := by decide +kernel
theorem dX7_mixes_116 : decode cX7_mixes 116 = .ok (.iload_n 1, 1) := by decide +kernel
theorem dX7_mixes_117 : decode cX7_mixes 117 = .ok (.dup2, 1) := by decide +kernel
theorem dX7_mixes_118 : decode cX7_mixes 118 = .ok (.iaload, 1) := by decide +kernel
theorem dX7_mixes_119 : decode cX7_mixes 119 = .ok (.iload_n 2, 1) := by decide +kernel
theorem dX7_mixes_120 : decode cX7_mixes 120 = .ok (.iload_n 1, 1) := by decide +kernel
theorem dX7_mixes_121 : decode cX7_mixes 121 = .ok (.iconst (-1), 1) := by decide +kernel
theorem dX7_mixes_122 : decode cX7_mixes 122 = .ok (.ixor, 1) := by decide +kernel
theorem dX7_mixes_123 : decode cX7_mixes 123 = .ok (.iand, 1) := by decide +kernel
theorem dX7_mixes_124 : decode cX7_mixes 124 = .ok (.ifCond .ne 14, 3) := by decide +kernel
theorem dX7_mixes_127 : decode cX7_mixes 127 = .ok (.iconst 1, 1) := by decide +kernel
theorem dX7_mixes_128 : decode cX7_mixes 128 = .ok (.aload_n 0, 1) := by decide +kernel
theorem dX7_mixes_129 : decode cX7_mixes 129 = .ok (.getfield 38, 3) := by decide +kernel
theorem dX7_mixes_132 : decode cX7_mixes 132 = .ok (.iload_n 2, 1) := by decide +kernel
theorem dX7_mixes_133 : decode cX7_mixes 133 = .ok (.iaload, 1) := by decide +kernel
theorem dX7_mixes_134 : decode cX7_mixes 134 = .ok (.ishl, 1) := by decide +kernel
theorem dX7_mixes_135 : decode cX7_mixes 135 = .ok (.goto 4, 3) := by decide +kernel
theorem dX7_mixes_138 : decode cX7_mixes 138 = .ok (.iconst 0, 1) := by decide +kernel
theorem dX7_mixes_139 : decode cX7_mixes 139 = .ok (.ior, 1) := by decide +kernel
theorem dX7_mixes_140 : decode cX7_mixes 140 = .ok (.iastore, 1) := by decide +kernel
theorem dX7_mixes_141 : decode cX7_mixes 141 = .ok (.iinc 2 1, 3) := by decide +kernel
theorem dX7_mixes_144 : decode cX7_mixes 144 = .ok (.goto (-37), 3) := by decide +kernel
theorem dX7_mixes_147 : decode cX7_mixes 147 = .ok (.iinc 1 1, 3) := by decide +kernel
theorem dX7_mixes_150 : decode cX7_mixes 150 = .ok (.goto (-64), 3) := by decide +kernel
theorem dX7_mixes_153 : decode cX7_mixes 153 = .ok (.return_, 1) := by decide +kernel
theorem dX7_asOrdered_0 : decode cX7_asOrdered 0 = .ok (.iconst 0, 1) := by decide +kernel
theorem dX7_asOrdered_1 : decode cX7_asOrdered 1 = .ok (.istore_n 1, 1) := by decide +kernel
theorem dX7_asOrdered_2 : decode cX7_asOrdered 2 = .ok (.iload_n 1, 1) := by decide +kernel
theorem dX7_asOrdered_3 : decode cX7_asOrdered 3 = .ok (.bipush 6, 2) := by decide +kernel
theorem dX7_asOrdered_5 : decode cX7_asOrdered 5 = .ok (.if_icmp .ge 24, 3) := by decide +kernel
theorem dX7_asOrdered_8 : decode cX7_asOrdered 8 = .ok (.aload_n 0, 1) := by decide +kernel
theorem dX7_asOrdered_9 : decode cX7_asOrdered 9 = .ok (.getfield 35, 3) := by decide +kernel
theorem dX7_asOrdered_12 : decode cX7_asOrdered 12 = .ok (.iload_n 1, 1) := by decide +kernel
theorem dX7_asOrdered_13 : decode cX7_asOrdered 13 = .ok (.aload_n 0, 1) := by decide +kernel
theorem dX7_asOrdered_14 : decode cX7_asOrdered 14 = .ok (.getfield 7, 3) := by decide +kernel
theorem dX7_asOrdered_17 : decode cX7_asOrdered 17 = .ok (.bipush 45, 2) := by decide +kernel
theorem dX7_asOrdered_19 : decode cX7_asOrdered 19 = .ok (.iload_n 1, 1) := by decide +kernel
theorem dX7_asOrdered_20 : decode cX7_asOrdered 20 = .ok (.iadd, 1) := by decide +kernel
theorem dX7_asOrdered_21 : decode cX7_asOrdered 21 = .ok (.iaload, 1) := by decide +kernel
theorem dX7_asOrdered_22 : decode cX7_asOrdered 22 = .ok (.iastore, 1) := by decide +kernel
theorem dX7_asOrdered_23 : decode cX7_asOrdered 23 = .ok (.iinc 1 1, 3) := by decide +kernel
theorem dX7_asOrdered_26 : decode cX7_asOrdered 26 = .ok (.goto (-24), 3) := by decide +kernel
theorem dX7_asOrdered_29 : decode cX7_asOrdered 29 = .ok (.return_, 1) := by decide +kernel
theorem dX7_wanted_0 : decode cX7_wanted 0 = .ok (.iconst 0, 1) := by decide +kernel
theorem dX7_wanted_1 : decode cX7_wanted 1 = .ok (.istore_n 1, 1) := by decide +kernel
theorem dX7_wanted_2 : decode cX7_wanted 2 = .ok (.iconst 0, 1) := by decide +kernel
theorem dX7_wanted_3 : decode cX7_wanted 3 = .ok (.istore_n 2, 1) := by decide +kernel
theorem dX7_wanted_4 : decode cX7_wanted 4 = .ok (.iload_n 2, 1) := by decide +kernel
theorem dX7_wanted_5 : decode cX7_wanted 5 = .ok (.aload_n 0, 1) := by decide +kernel
theorem dX7_wanted_6 : decode cX7_wanted 6 = .ok (.getfield 7, 3) := by decide +kernel
theorem dX7_wanted_9 : decode cX7_wanted 9 = .ok (.iconst 1, 1) := by decide +kernel
theorem dX7_wanted_10 : decode cX7_wanted 10 = .ok (.iaload, 1) := by decide +kernel
theorem dX7_wanted_11 : decode cX7_wanted 11 = .ok (.if_icmp .ge 45, 3) := by decide +kernel
theorem dX7_wanted_14 : decode cX7_wanted 14 = .ok (.iconst 0, 1) := by decide +kernel
theorem dX7_wanted_15 : decode cX7_wanted 15 = .ok (.istore_n 3, 1) := by decide +kernel
theorem dX7_wanted_16 : decode cX7_wanted 16 = .ok (.iload_n 3, 1) := by decide +kernel
theorem dX7_wanted_17 : decode cX7_wanted 17 = .ok (.aload_n 0, 1) := by decide +kernel
theorem dX7_wanted_18 : decode cX7_wanted 18 = .ok (.getfield 7, 3) := by decide +kernel
theorem dX7_wanted_21 : decode cX7_wanted 21 = .ok (.iconst 0, 1) := by decide +kernel
theorem dX7_wanted_22 : decode cX7_wanted 22 = .ok (.iaload, 1) := by decide +kernel
theorem dX7_wanted_23 : decode cX7_wanted 23 = .ok (.if_icmp .ge 27, 3) := by decide +kernel
theorem dX7_wanted_26 : decode cX7_wanted 26 = .ok (.iload_n 1, 1) := by decide +kernel
theorem dX7_wanted_27 : decode cX7_wanted 27 = .ok (.iconst 1, 1) := by decide +kernel
theorem dX7_wanted_28 : decode cX7_wanted 28 = .ok (.aload_n 0, 1) := by decide +kernel
theorem dX7_wanted_29 : decode cX7_wanted 29 = .ok (.getfield 7, 3) := by decide +kernel
theorem dX7_wanted_32 : decode cX7_wanted 32 = .ok (.iconst 3, 1) := by decide +kernel
theorem dX7_wanted_33 : decode cX7_wanted 33 = .ok (.bipush 6, 2) := by decide +kernel
theorem dX7_wanted_35 : decode cX7_wanted 35 = .ok (.iload_n 2, 1) := by decide +kernel
theorem dX7_wanted_36 : decode cX7_wanted 36 = .ok (.imul, 1) := by decide +kernel
theorem dX7_wanted_37 : decode cX7_wanted 37 = .ok (.iadd, 1) := by decide +kernel
theorem dX7_wanted_38 : decode cX7_wanted 38 = .ok (.iload_n 3, 1) := by decide +kernel
theorem dX7_wanted_39 : decode cX7_wanted 39 = .ok (.iadd, 1) := by decide +kernel
theorem dX7_wanted_40 : decode cX7_wanted 40 = .ok (.iaload, 1) := by decide +kernel
theorem dX7_wanted_41 : decode cX7_wanted 41 = .ok (.ishl, 1) := by decide +kernel
theorem dX7_wanted_42 : decode cX7_wanted 42 = .ok (.ior, 1) := by decide +kernel
theorem dX7_wanted_43 : decode cX7_wanted 43 = .ok (.istore_n 1, 1) := by decide +kernel
theorem dX7_wanted_44 : decode cX7_wanted 44 = .ok (.iinc 3 1, 3) := by decide +kernel
theorem dX7_wanted_47 : decode cX7_wanted 47 = .ok (.goto (-31), 3) := by decide +kernel
theorem dX7_wanted_50 : decode cX7_wanted 50 = .ok (.iinc 2 1, 3) := by decide +kernel
theorem dX7_wanted_53 : decode cX7_wanted 53 = .ok (.goto (-49), 3) := by decide +kernel
theorem dX7_wanted_56 : decode cX7_wanted 56 = .ok (.iload_n 1, 1) := by decide +kernel
theorem dX7_wanted_57 : decode cX7_wanted 57 = .ok (.ireturn, 1) := by decide +kernel
theorem dX7_leastSet_0 : decode cX7_leastSet 0 = .ok (.aload_n 0, 1) := by decide +kernel
theorem dX7_leastSet_1 : decode cX7_leastSet 1 = .ok (.invokevirtual 116, 3) := by decide +kernel
theorem dX7_leastSet_4 : decode cX7_leastSet 4 = .ok (.aload_n 0, 1) := by decide +kernel
theorem dX7_leastSet_5 : decode cX7_leastSet 5 = .ok (.invokevirtual 119, 3) := by decide +kernel
theorem dX7_leastSet_8 : decode cX7_leastSet 8 = .ok (.istore_n 1, 1) := by decide +kernel
theorem dX7_leastSet_9 : decode cX7_leastSet 9 = .ok (.bipush (-9), 2) := by decide +kernel
theorem dX7_leastSet_11 : decode cX7_leastSet 11 = .ok (.istore_n 2, 1) := by decide +kernel
theorem dX7_leastSet_12 : decode cX7_leastSet 12 = .ok (.iconst 0, 1) := by decide +kernel
theorem dX7_leastSet_13 : decode cX7_leastSet 13 = .ok (.istore_n 3, 1) := by decide +kernel
theorem dX7_leastSet_14 : decode cX7_leastSet 14 = .ok (.iload_n 3, 1) := by decide +kernel
theorem dX7_leastSet_15 : decode cX7_leastSet 15 = .ok (.iconst 1, 1) := by decide +kernel
theorem dX7_leastSet_16 : decode cX7_leastSet 16 = .ok (.aload_n 0, 1) := by decide +kernel
theorem dX7_leastSet_17 : decode cX7_leastSet 17 = .ok (.getfield 7, 3) := by decide +kernel
theorem dX7_leastSet_20 : decode cX7_leastSet 20 = .ok (.iconst 2, 1) := by decide +kernel
theorem dX7_leastSet_21 : decode cX7_leastSet 21 = .ok (.iaload, 1) := by decide +kernel
theorem dX7_leastSet_22 : decode cX7_leastSet 22 = .ok (.ishl, 1) := by decide +kernel
theorem dX7_leastSet_23 : decode cX7_leastSet 23 = .ok (.if_icmp .ge 57, 3) := by decide +kernel
theorem dX7_leastSet_26 : decode cX7_leastSet 26 = .ok (.iload_n 2, 1) := by decide +kernel
theorem dX7_leastSet_27 : decode cX7_leastSet 27 = .ok (.bipush (-9), 2) := by decide +kernel
theorem dX7_leastSet_29 : decode cX7_leastSet 29 = .ok (.if_icmp .eq 14, 3) := by decide +kernel
theorem dX7_leastSet_32 : decode cX7_leastSet 32 = .ok (.iload_n 3, 1) := by decide +kernel
theorem dX7_leastSet_33 : decode cX7_leastSet 33 = .ok (.invokestatic 122, 3) := by decide +kernel
theorem dX7_leastSet_36 : decode cX7_leastSet 36 = .ok (.iload_n 2, 1) := by decide +kernel
theorem dX7_leastSet_37 : decode cX7_leastSet 37 = .ok (.invokestatic 122, 3) := by decide +kernel
theorem dX7_leastSet_40 : decode cX7_leastSet 40 = .ok (.if_icmp .ge 7, 3) := by decide +kernel
theorem dX7_leastSet_43 : decode cX7_leastSet 43 = .ok (.iconst 1, 1) := by decide +kernel
theorem dX7_leastSet_44 : decode cX7_leastSet 44 = .ok (.goto 4, 3) := by decide +kernel
theorem dX7_leastSet_47 : decode cX7_leastSet 47 = .ok (.iconst 0, 1) := by decide +kernel
theorem dX7_leastSet_48 : decode cX7_leastSet 48 = .ok (.istore 4, 2) := by decide +kernel
theorem dX7_leastSet_50 : decode cX7_leastSet 50 = .ok (.iload 4, 2) := by decide +kernel
theorem dX7_leastSet_52 : decode cX7_leastSet 52 = .ok (.ifCond .eq 20, 3) := by decide +kernel
theorem dX7_leastSet_55 : decode cX7_leastSet 55 = .ok (.iload_n 1, 1) := by decide +kernel
theorem dX7_leastSet_56 : decode cX7_leastSet 56 = .ok (.aload_n 0, 1) := by decide +kernel
theorem dX7_leastSet_57 : decode cX7_leastSet 57 = .ok (.getfield 41, 3) := by decide +kernel
theorem dX7_leastSet_60 : decode cX7_leastSet 60 = .ok (.iload_n 3, 1) := by decide +kernel
theorem dX7_leastSet_61 : decode cX7_leastSet 61 = .ok (.iaload, 1) := by decide +kernel
theorem dX7_leastSet_62 : decode cX7_leastSet 62 = .ok (.iconst (-1), 1) := by decide +kernel
theorem dX7_leastSet_63 : decode cX7_leastSet 63 = .ok (.ixor, 1) := by decide +kernel
theorem dX7_leastSet_64 : decode cX7_leastSet 64 = .ok (.iand, 1) := by decide +kernel
theorem dX7_leastSet_65 : decode cX7_leastSet 65 = .ok (.ifCond .ne 7, 3) := by decide +kernel
theorem dX7_leastSet_68 : decode cX7_leastSet 68 = .ok (.iload_n 3, 1) := by decide +kernel
theorem dX7_leastSet_69 : decode cX7_leastSet 69 = .ok (.goto 4, 3) := by decide +kernel
theorem dX7_leastSet_72 : decode cX7_leastSet 72 = .ok (.iload_n 2, 1) := by decide +kernel
theorem dX7_leastSet_73 : decode cX7_leastSet 73 = .ok (.istore_n 2, 1) := by decide +kernel
theorem dX7_leastSet_74 : decode cX7_leastSet 74 = .ok (.iinc 3 1, 3) := by decide +kernel
theorem dX7_leastSet_77 : decode cX7_leastSet 77 = .ok (.goto (-63), 3) := by decide +kernel
theorem dX7_leastSet_80 : decode cX7_leastSet 80 = .ok (.iload_n 2, 1) := by decide +kernel
theorem dX7_leastSet_81 : decode cX7_leastSet 81 = .ok (.ireturn, 1) := by decide +kernel
theorem dX7_notes_0 : decode cX7_notes 0 = .ok (.aload_n 0, 1) := by decide +kernel
theorem dX7_notes_1 : decode cX7_notes 1 = .ok (.getfield 125, 3) := by decide +kernel
theorem dX7_notes_4 : decode cX7_notes 4 = .ok (.bipush 6, 2) := by decide +kernel
theorem dX7_notes_6 : decode cX7_notes 6 = .ok (.if_icmp .ne 43, 3) := by decide +kernel
theorem dX7_notes_9 : decode cX7_notes 9 = .ok (.iconst 0, 1) := by decide +kernel
theorem dX7_notes_10 : decode cX7_notes 10 = .ok (.istore_n 1, 1) := by decide +kernel
theorem dX7_notes_11 : decode cX7_notes 11 = .ok (.iload_n 1, 1) := by decide +kernel
theorem dX7_notes_12 : decode cX7_notes 12 = .ok (.sipush 495, 3) := by decide +kernel
theorem dX7_notes_15 : decode cX7_notes 15 = .ok (.if_icmp .ge 24, 3) := by decide +kernel
theorem dX7_notes_18 : decode cX7_notes 18 = .ok (.aload_n 0, 1) := by decide +kernel
theorem dX7_notes_19 : decode cX7_notes 19 = .ok (.getfield 16, 3) := by decide +kernel
theorem dX7_notes_22 : decode cX7_notes 22 = .ok (.iload_n 1, 1) := by decide +kernel
theorem dX7_notes_23 : decode cX7_notes 23 = .ok (.aload_n 0, 1) := by decide +kernel
theorem dX7_notes_24 : decode cX7_notes 24 = .ok (.getfield 16, 3) := by decide +kernel
theorem dX7_notes_27 : decode cX7_notes 27 = .ok (.bipush 99, 2) := by decide +kernel
theorem dX7_notes_29 : decode cX7_notes 29 = .ok (.iload_n 1, 1) := by decide +kernel
theorem dX7_notes_30 : decode cX7_notes 30 = .ok (.iadd, 1) := by decide +kernel
theorem dX7_notes_31 : decode cX7_notes 31 = .ok (.iaload, 1) := by decide +kernel
theorem dX7_notes_32 : decode cX7_notes 32 = .ok (.iastore, 1) := by decide +kernel
theorem dX7_notes_33 : decode cX7_notes 33 = .ok (.iinc 1 1, 3) := by decide +kernel
theorem dX7_notes_36 : decode cX7_notes 36 = .ok (.goto (-25), 3) := by decide +kernel
theorem dX7_notes_39 : decode cX7_notes 39 = .ok (.aload_n 0, 1) := by decide +kernel
theorem dX7_notes_40 : decode cX7_notes 40 = .ok (.dup, 1) := by decide +kernel
theorem dX7_notes_41 : decode cX7_notes 41 = .ok (.getfield 125, 3) := by decide +kernel
theorem dX7_notes_44 : decode cX7_notes 44 = .ok (.iconst 1, 1) := by decide +kernel
theorem dX7_notes_45 : decode cX7_notes 45 = .ok (.isub, 1) := by decide +kernel
theorem dX7_notes_46 : decode cX7_notes 46 = .ok (.putfield 125, 3) := by decide +kernel
theorem dX7_notes_49 : decode cX7_notes 49 = .ok (.iconst 0, 1) := by decide +kernel
theorem dX7_notes_50 : decode cX7_notes 50 = .ok (.istore_n 1, 1) := by decide +kernel
theorem dX7_notes_51 : decode cX7_notes 51 = .ok (.iload_n 1, 1) := by decide +kernel
theorem dX7_notes_52 : decode cX7_notes 52 = .ok (.bipush 99, 2) := by decide +kernel
theorem dX7_notes_54 : decode cX7_notes 54 = .ok (.if_icmp .ge 29, 3) := by decide +kernel
theorem dX7_notes_57 : decode cX7_notes 57 = .ok (.aload_n 0, 1) := by decide +kernel
theorem dX7_notes_58 : decode cX7_notes 58 = .ok (.getfield 16, 3) := by decide +kernel
theorem dX7_notes_61 : decode cX7_notes 61 = .ok (.bipush 99, 2) := by decide +kernel
theorem dX7_notes_63 : decode cX7_notes 63 = .ok (.aload_n 0, 1) := by decide +kernel
theorem dX7_notes_64 : decode cX7_notes 64 = .ok (.getfield 125, 3) := by decide +kernel
theorem dX7_notes_67 : decode cX7_notes 67 = .ok (.imul, 1) := by decide +kernel
theorem dX7_notes_68 : decode cX7_notes 68 = .ok (.iload_n 1, 1) := by decide +kernel
theorem dX7_notes_69 : decode cX7_notes 69 = .ok (.iadd, 1) := by decide +kernel
theorem dX7_notes_70 : decode cX7_notes 70 = .ok (.aload_n 0, 1) := by decide +kernel
theorem dX7_notes_71 : decode cX7_notes 71 = .ok (.getfield 7, 3) := by decide +kernel
theorem dX7_notes_74 : decode cX7_notes 74 = .ok (.iload_n 1, 1) := by decide +kernel
theorem dX7_notes_75 : decode cX7_notes 75 = .ok (.iaload, 1) := by decide +kernel
theorem dX7_notes_76 : decode cX7_notes 76 = .ok (.iastore, 1) := by decide +kernel
theorem dX7_notes_77 : decode cX7_notes 77 = .ok (.iinc 1 1, 3) := by decide +kernel
theorem dX7_notes_80 : decode cX7_notes 80 = .ok (.goto (-29), 3) := by decide +kernel
theorem dX7_notes_83 : decode cX7_notes 83 = .ok (.aload_n 0, 1) := by decide +kernel
theorem dX7_notes_84 : decode cX7_notes 84 = .ok (.dup, 1) := by decide +kernel
theorem dX7_notes_85 : decode cX7_notes 85 = .ok (.getfield 125, 3) := by decide +kernel
theorem dX7_notes_88 : decode cX7_notes 88 = .ok (.iconst 1, 1) := by decide +kernel
theorem dX7_notes_89 : decode cX7_notes 89 = .ok (.iadd, 1) := by decide +kernel
theorem dX7_notes_90 : decode cX7_notes 90 = .ok (.putfield 125, 3) := by decide +kernel
theorem dX7_notes_93 : decode cX7_notes 93 = .ok (.return_, 1) := by decide +kernel
theorem dX7_isInk_0 : decode cX7_isInk 0 = .ok (.iload_n 1, 1) := by decide +kernel
theorem dX7_isInk_1 : decode cX7_isInk 1 = .ok (.iconst 0, 1) := by decide +kernel
theorem dX7_isInk_2 : decode cX7_isInk 2 = .ok (.aload_n 0, 1) := by decide +kernel
theorem dX7_isInk_3 : decode cX7_isInk 3 = .ok (.getfield 7, 3) := by decide +kernel
theorem dX7_isInk_6 : decode cX7_isInk 6 = .ok (.iconst 2, 1) := by decide +kernel
theorem dX7_isInk_7 : decode cX7_isInk 7 = .ok (.iaload, 1) := by decide +kernel
theorem dX7_isInk_8 : decode cX7_isInk 8 = .ok (.iconst 1, 1) := by decide +kernel
theorem dX7_isInk_9 : decode cX7_isInk 9 = .ok (.isub, 1) := by decide +kernel
theorem dX7_isInk_10 : decode cX7_isInk 10 = .ok (.invokestatic 57, 3) := by decide +kernel
theorem dX7_isInk_13 : decode cX7_isInk 13 = .ok (.ireturn, 1) := by decide +kernel
theorem dX7_isCell_0 : decode cX7_isCell 0 = .ok (.iload_n 1, 1) := by decide +kernel
theorem dX7_isCell_1 : decode cX7_isCell 1 = .ok (.iconst 0, 1) := by decide +kernel
theorem dX7_isCell_2 : decode cX7_isCell 2 = .ok (.aload_n 0, 1) := by decide +kernel
theorem dX7_isCell_3 : decode cX7_isCell 3 = .ok (.getfield 7, 3) := by decide +kernel
theorem dX7_isCell_6 : decode cX7_isCell 6 = .ok (.iconst 0, 1) := by decide +kernel
theorem dX7_isCell_7 : decode cX7_isCell 7 = .ok (.iaload, 1) := by decide +kernel
theorem dX7_isCell_8 : decode cX7_isCell 8 = .ok (.iconst 1, 1) := by decide +kernel
theorem dX7_isCell_9 : decode cX7_isCell 9 = .ok (.isub, 1) := by decide +kernel
theorem dX7_isCell_10 : decode cX7_isCell 10 = .ok (.invokestatic 57, 3) := by decide +kernel
theorem dX7_isCell_13 : decode cX7_isCell 13 = .ok (.ifCond .eq 23, 3) := by decide +kernel
theorem dX7_isCell_16 : decode cX7_isCell 16 = .ok (.iload_n 2, 1) := by decide +kernel
theorem dX7_isCell_17 : decode cX7_isCell 17 = .ok (.iconst 0, 1) := by decide +kernel
theorem dX7_isCell_18 : decode cX7_isCell 18 = .ok (.aload_n 0, 1) := by decide +kernel
theorem dX7_isCell_19 : decode cX7_isCell 19 = .ok (.getfield 7, 3) := by decide +kernel
theorem dX7_isCell_22 : decode cX7_isCell 22 = .ok (.iconst 1, 1) := by decide +kernel
theorem dX7_isCell_23 : decode cX7_isCell 23 = .ok (.iaload, 1) := by decide +kernel
theorem dX7_isCell_24 : decode cX7_isCell 24 = .ok (.iconst 1, 1) := by decide +kernel
theorem dX7_isCell_25 : decode cX7_isCell 25 = .ok (.isub, 1) := by decide +kernel
theorem dX7_isCell_26 : decode cX7_isCell 26 = .ok (.invokestatic 57, 3) := by decide +kernel
theorem dX7_isCell_29 : decode cX7_isCell 29 = .ok (.ifCond .eq 7, 3) := by decide +kernel
theorem dX7_isCell_32 : decode cX7_isCell 32 = .ok (.iconst 1, 1) := by decide +kernel
theorem dX7_isCell_33 : decode cX7_isCell 33 = .ok (.goto 4, 3) := by decide +kernel
theorem dX7_isCell_36 : decode cX7_isCell 36 = .ok (.iconst 0, 1) := by decide +kernel
theorem dX7_isCell_37 : decode cX7_isCell 37 = .ok (.ireturn, 1) := by decide +kernel
theorem dX7_partOf_0 : decode cX7_partOf 0 = .ok (.iconst 0, 1) := by decide +kernel
theorem dX7_partOf_1 : decode cX7_partOf 1 = .ok (.istore_n 3, 1) := by decide +kernel
theorem dX7_partOf_2 : decode cX7_partOf 2 = .ok (.iload_n 3, 1) := by decide +kernel
theorem dX7_partOf_3 : decode cX7_partOf 3 = .ok (.iload_n 1, 1) := by decide +kernel
theorem dX7_partOf_4 : decode cX7_partOf 4 = .ok (.iconst (-1), 1) := by decide +kernel
theorem dX7_partOf_5 : decode cX7_partOf 5 = .ok (.ixor, 1) := by decide +kernel
theorem dX7_partOf_6 : decode cX7_partOf 6 = .ok (.iand, 1) := by decide +kernel
theorem dX7_partOf_7 : decode cX7_partOf 7 = .ok (.ifCond .ne 13, 3) := by decide +kernel
theorem dX7_partOf_10 : decode cX7_partOf 10 = .ok (.aload_n 0, 1) := by decide +kernel
theorem dX7_partOf_11 : decode cX7_partOf 11 = .ok (.getfield 38, 3) := by decide +kernel
theorem dX7_partOf_14 : decode cX7_partOf 14 = .ok (.iload_n 3, 1) := by decide +kernel
theorem dX7_partOf_15 : decode cX7_partOf 15 = .ok (.iaload, 1) := by decide +kernel
theorem dX7_partOf_16 : decode cX7_partOf 16 = .ok (.iload_n 2, 1) := by decide +kernel
theorem dX7_partOf_17 : decode cX7_partOf 17 = .ok (.if_icmp .eq 9, 3) := by decide +kernel
theorem dX7_partOf_20 : decode cX7_partOf 20 = .ok (.iinc 3 1, 3) := by decide +kernel
theorem dX7_partOf_23 : decode cX7_partOf 23 = .ok (.goto (-21), 3) := by decide +kernel
theorem dX7_partOf_26 : decode cX7_partOf 26 = .ok (.iload_n 3, 1) := by decide +kernel
theorem dX7_partOf_27 : decode cX7_partOf 27 = .ok (.ireturn, 1) := by decide +kernel
theorem dX7_cuts_0 : decode cX7_cuts 0 = .ok (.aload_n 0, 1) := by decide +kernel
theorem dX7_cuts_1 : decode cX7_cuts 1 = .ok (.iconst 0, 1) := by decide +kernel
theorem dX7_cuts_2 : decode cX7_cuts 2 = .ok (.putfield 50, 3) := by decide +kernel
theorem dX7_cuts_5 : decode cX7_cuts 5 = .ok (.aload_n 0, 1) := by decide +kernel
theorem dX7_cuts_6 : decode cX7_cuts 6 = .ok (.invokevirtual 128, 3) := by decide +kernel
theorem dX7_cuts_9 : decode cX7_cuts 9 = .ok (.aload_n 0, 1) := by decide +kernel
theorem dX7_cuts_10 : decode cX7_cuts 10 = .ok (.invokevirtual 131, 3) := by decide +kernel
theorem dX7_cuts_13 : decode cX7_cuts 13 = .ok (.istore_n 1, 1) := by decide +kernel
theorem dX7_cuts_14 : decode cX7_cuts 14 = .ok (.iload_n 1, 1) := by decide +kernel
theorem dX7_cuts_15 : decode cX7_cuts 15 = .ok (.bipush (-9), 2) := by decide +kernel
theorem dX7_cuts_17 : decode cX7_cuts 17 = .ok (.if_icmp .ne 6, 3) := by decide +kernel
theorem dX7_cuts_20 : decode cX7_cuts 20 = .ok (.bipush (-2), 2) := by decide +kernel
theorem dX7_cuts_22 : decode cX7_cuts 22 = .ok (.ireturn, 1) := by decide +kernel
theorem dX7_cuts_23 : decode cX7_cuts 23 = .ok (.aload_n 0, 1) := by decide +kernel
theorem dX7_cuts_24 : decode cX7_cuts 24 = .ok (.invokevirtual 102, 3) := by decide +kernel
theorem dX7_cuts_27 : decode cX7_cuts 27 = .ok (.bipush 51, 2) := by decide +kernel
theorem dX7_cuts_29 : decode cX7_cuts 29 = .ok (.istore_n 2, 1) := by decide +kernel
theorem dX7_cuts_30 : decode cX7_cuts 30 = .ok (.iload_n 2, 1) := by decide +kernel
theorem dX7_cuts_31 : decode cX7_cuts 31 = .ok (.bipush 99, 2) := by decide +kernel
theorem dX7_cuts_33 : decode cX7_cuts 33 = .ok (.if_icmp .ge 16, 3) := by decide +kernel
theorem dX7_cuts_36 : decode cX7_cuts 36 = .ok (.aload_n 0, 1) := by decide +kernel
theorem dX7_cuts_37 : decode cX7_cuts 37 = .ok (.getfield 7, 3) := by decide +kernel
theorem dX7_cuts_40 : decode cX7_cuts 40 = .ok (.iload_n 2, 1) := by decide +kernel
theorem dX7_cuts_41 : decode cX7_cuts 41 = .ok (.iconst 0, 1) := by decide +kernel
theorem dX7_cuts_42 : decode cX7_cuts 42 = .ok (.iastore, 1) := by decide +kernel
theorem dX7_cuts_43 : decode cX7_cuts 43 = .ok (.iinc 2 1, 3) := by decide +kernel
theorem dX7_cuts_46 : decode cX7_cuts 46 = .ok (.goto (-16), 3) := by decide +kernel
theorem dX7_cuts_49 : decode cX7_cuts 49 = .ok (.iconst 0, 1) := by decide +kernel
theorem dX7_cuts_50 : decode cX7_cuts 50 = .ok (.istore_n 2, 1) := by decide +kernel
theorem dX7_cuts_51 : decode cX7_cuts 51 = .ok (.iload_n 2, 1) := by decide +kernel
theorem dX7_cuts_52 : decode cX7_cuts 52 = .ok (.aload_n 0, 1) := by decide +kernel
theorem dX7_cuts_53 : decode cX7_cuts 53 = .ok (.getfield 7, 3) := by decide +kernel
theorem dX7_cuts_56 : decode cX7_cuts 56 = .ok (.iconst 1, 1) := by decide +kernel
theorem dX7_cuts_57 : decode cX7_cuts 57 = .ok (.iaload, 1) := by decide +kernel
theorem dX7_cuts_58 : decode cX7_cuts 58 = .ok (.if_icmp .ge 94, 3) := by decide +kernel
theorem dX7_cuts_61 : decode cX7_cuts 61 = .ok (.iconst 0, 1) := by decide +kernel
theorem dX7_cuts_62 : decode cX7_cuts 62 = .ok (.istore_n 3, 1) := by decide +kernel
theorem dX7_cuts_63 : decode cX7_cuts 63 = .ok (.iload_n 3, 1) := by decide +kernel
theorem dX7_cuts_64 : decode cX7_cuts 64 = .ok (.aload_n 0, 1) := by decide +kernel
theorem dX7_cuts_65 : decode cX7_cuts 65 = .ok (.getfield 7, 3) := by decide +kernel
theorem dX7_cuts_68 : decode cX7_cuts 68 = .ok (.iconst 0, 1) := by decide +kernel
theorem dX7_cuts_69 : decode cX7_cuts 69 = .ok (.iaload, 1) := by decide +kernel
theorem dX7_cuts_70 : decode cX7_cuts 70 = .ok (.if_icmp .ge 76, 3) := by decide +kernel
theorem dX7_cuts_73 : decode cX7_cuts 73 = .ok (.aload_n 0, 1) := by decide +kernel
theorem dX7_cuts_74 : decode cX7_cuts 74 = .ok (.iload_n 1, 1) := by decide +kernel
theorem dX7_cuts_75 : decode cX7_cuts 75 = .ok (.aload_n 0, 1) := by decide +kernel
theorem dX7_cuts_76 : decode cX7_cuts 76 = .ok (.getfield 7, 3) := by decide +kernel
theorem dX7_cuts_79 : decode cX7_cuts 79 = .ok (.iconst 3, 1) := by decide +kernel
theorem dX7_cuts_80 : decode cX7_cuts 80 = .ok (.bipush 6, 2) := by decide +kernel
theorem dX7_cuts_82 : decode cX7_cuts 82 = .ok (.iload_n 2, 1) := by decide +kernel
theorem dX7_cuts_83 : decode cX7_cuts 83 = .ok (.imul, 1) := by decide +kernel
theorem dX7_cuts_84 : decode cX7_cuts 84 = .ok (.iadd, 1) := by decide +kernel
theorem dX7_cuts_85 : decode cX7_cuts 85 = .ok (.iload_n 3, 1) := by decide +kernel
theorem dX7_cuts_86 : decode cX7_cuts 86 = .ok (.iadd, 1) := by decide +kernel
theorem dX7_cuts_87 : decode cX7_cuts 87 = .ok (.iaload, 1) := by decide +kernel
theorem dX7_cuts_88 : decode cX7_cuts 88 = .ok (.invokevirtual 134, 3) := by decide +kernel
theorem dX7_cuts_91 : decode cX7_cuts 91 = .ok (.istore 4, 2) := by decide +kernel
theorem dX7_cuts_93 : decode cX7_cuts 93 = .ok (.iconst 0, 1) := by decide +kernel
theorem dX7_cuts_94 : decode cX7_cuts 94 = .ok (.istore 5, 2) := by decide +kernel
theorem dX7_cuts_96 : decode cX7_cuts 96 = .ok (.iload 5, 2) := by decide +kernel
theorem dX7_cuts_98 : decode cX7_cuts 98 = .ok (.aload_n 0, 1) := by decide +kernel
theorem dX7_cuts_99 : decode cX7_cuts 99 = .ok (.getfield 7, 3) := by decide +kernel
theorem dX7_cuts_102 : decode cX7_cuts 102 = .ok (.iconst 2, 1) := by decide +kernel
theorem dX7_cuts_103 : decode cX7_cuts 103 = .ok (.iaload, 1) := by decide +kernel
theorem dX7_cuts_104 : decode cX7_cuts 104 = .ok (.if_icmp .ge 36, 3) := by decide +kernel
theorem dX7_cuts_107 : decode cX7_cuts 107 = .ok (.aload_n 0, 1) := by decide +kernel
theorem dX7_cuts_108 : decode cX7_cuts 108 = .ok (.getfield 7, 3) := by decide +kernel
theorem dX7_cuts_111 : decode cX7_cuts 111 = .ok (.bipush 51, 2) := by decide +kernel
theorem dX7_cuts_113 : decode cX7_cuts 113 = .ok (.bipush 6, 2) := by decide +kernel
theorem dX7_cuts_115 : decode cX7_cuts 115 = .ok (.iload 5, 2) := by decide +kernel
theorem dX7_cuts_117 : decode cX7_cuts 117 = .ok (.imul, 1) := by decide +kernel
theorem dX7_cuts_118 : decode cX7_cuts 118 = .ok (.iadd, 1) := by decide +kernel
theorem dX7_cuts_119 : decode cX7_cuts 119 = .ok (.iload_n 2, 1) := by decide +kernel
theorem dX7_cuts_120 : decode cX7_cuts 120 = .ok (.iadd, 1) := by decide +kernel
theorem dX7_cuts_121 : decode cX7_cuts 121 = .ok (.dup2, 1) := by decide +kernel
theorem dX7_cuts_122 : decode cX7_cuts 122 = .ok (.iaload, 1) := by decide +kernel
theorem dX7_cuts_123 : decode cX7_cuts 123 = .ok (.iload 4, 2) := by decide +kernel
theorem dX7_cuts_125 : decode cX7_cuts 125 = .ok (.iload 5, 2) := by decide +kernel
theorem dX7_cuts_127 : decode cX7_cuts 127 = .ok (.ishr, 1) := by decide +kernel
theorem dX7_cuts_128 : decode cX7_cuts 128 = .ok (.iconst 1, 1) := by decide +kernel
theorem dX7_cuts_129 : decode cX7_cuts 129 = .ok (.iand, 1) := by decide +kernel
theorem dX7_cuts_130 : decode cX7_cuts 130 = .ok (.iload_n 3, 1) := by decide +kernel
theorem dX7_cuts_131 : decode cX7_cuts 131 = .ok (.ishl, 1) := by decide +kernel
theorem dX7_cuts_132 : decode cX7_cuts 132 = .ok (.ior, 1) := by decide +kernel
theorem dX7_cuts_133 : decode cX7_cuts 133 = .ok (.iastore, 1) := by decide +kernel
theorem dX7_cuts_134 : decode cX7_cuts 134 = .ok (.iinc 5 1, 3) := by decide +kernel
theorem dX7_cuts_137 : decode cX7_cuts 137 = .ok (.goto (-41), 3) := by decide +kernel
theorem dX7_cuts_140 : decode cX7_cuts 140 = .ok (.iinc 3 1, 3) := by decide +kernel
theorem dX7_cuts_143 : decode cX7_cuts 143 = .ok (.goto (-80), 3) := by decide +kernel
theorem dX7_cuts_146 : decode cX7_cuts 146 = .ok (.iinc 2 1, 3) := by decide +kernel
theorem dX7_cuts_149 : decode cX7_cuts 149 = .ok (.goto (-98), 3) := by decide +kernel
theorem dX7_cuts_152 : decode cX7_cuts 152 = .ok (.iload_n 1, 1) := by decide +kernel
theorem dX7_cuts_153 : decode cX7_cuts 153 = .ok (.invokestatic 122, 3) := by decide +kernel
theorem dX7_cuts_156 : decode cX7_cuts 156 = .ok (.ireturn, 1) := by decide +kernel
theorem dX7_carves_0 : decode cX7_carves 0 = .ok (.aload_n 0, 1) := by decide +kernel
theorem dX7_carves_1 : decode cX7_carves 1 = .ok (.iconst 0, 1) := by decide +kernel
theorem dX7_carves_2 : decode cX7_carves 2 = .ok (.putfield 50, 3) := by decide +kernel
theorem dX7_carves_5 : decode cX7_carves 5 = .ok (.aload_n 0, 1) := by decide +kernel
theorem dX7_carves_6 : decode cX7_carves 6 = .ok (.iload_n 1, 1) := by decide +kernel
theorem dX7_carves_7 : decode cX7_carves 7 = .ok (.invokevirtual 137, 3) := by decide +kernel
end
section
theorem dX7_carves_10 : decode cX7_carves 10 = .ok (.ifCond .eq 12, 3) := by decide +kernel
theorem dX7_carves_13 : decode cX7_carves 13 = .ok (.aload_n 0, 1) := by decide +kernel
theorem dX7_carves_14 : decode cX7_carves 14 = .ok (.iload_n 2, 1) := by decide +kernel
theorem dX7_carves_15 : decode cX7_carves 15 = .ok (.iload_n 3, 1) := by decide +kernel
theorem dX7_carves_16 : decode cX7_carves 16 = .ok (.invokevirtual 141, 3) := by decide +kernel
theorem dX7_carves_19 : decode cX7_carves 19 = .ok (.ifCond .ne 5, 3) := by decide +kernel
theorem dX7_carves_22 : decode cX7_carves 22 = .ok (.iconst (-1), 1) := by decide +kernel
theorem dX7_carves_23 : decode cX7_carves 23 = .ok (.ireturn, 1) := by decide +kernel
theorem dX7_carves_24 : decode cX7_carves 24 = .ok (.aload_n 0, 1) := by decide +kernel
theorem dX7_carves_25 : decode cX7_carves 25 = .ok (.invokevirtual 102, 3) := by decide +kernel
theorem dX7_carves_28 : decode cX7_carves 28 = .ok (.aload_n 0, 1) := by decide +kernel
theorem dX7_carves_29 : decode cX7_carves 29 = .ok (.getfield 7, 3) := by decide +kernel
theorem dX7_carves_32 : decode cX7_carves 32 = .ok (.bipush 51, 2) := by decide +kernel
theorem dX7_carves_34 : decode cX7_carves 34 = .ok (.bipush 6, 2) := by decide +kernel
theorem dX7_carves_36 : decode cX7_carves 36 = .ok (.iload_n 1, 1) := by decide +kernel
theorem dX7_carves_37 : decode cX7_carves 37 = .ok (.imul, 1) := by decide +kernel
theorem dX7_carves_38 : decode cX7_carves 38 = .ok (.iadd, 1) := by decide +kernel
theorem dX7_carves_39 : decode cX7_carves 39 = .ok (.iload_n 3, 1) := by decide +kernel
theorem dX7_carves_40 : decode cX7_carves 40 = .ok (.iadd, 1) := by decide +kernel
theorem dX7_carves_41 : decode cX7_carves 41 = .ok (.dup2, 1) := by decide +kernel
theorem dX7_carves_42 : decode cX7_carves 42 = .ok (.iaload, 1) := by decide +kernel
theorem dX7_carves_43 : decode cX7_carves 43 = .ok (.iconst 1, 1) := by decide +kernel
theorem dX7_carves_44 : decode cX7_carves 44 = .ok (.iload_n 2, 1) := by decide +kernel
theorem dX7_carves_45 : decode cX7_carves 45 = .ok (.ishl, 1) := by decide +kernel
theorem dX7_carves_46 : decode cX7_carves 46 = .ok (.ixor, 1) := by decide +kernel
theorem dX7_carves_47 : decode cX7_carves 47 = .ok (.iastore, 1) := by decide +kernel
theorem dX7_carves_48 : decode cX7_carves 48 = .ok (.aload_n 0, 1) := by decide +kernel
theorem dX7_carves_49 : decode cX7_carves 49 = .ok (.getfield 7, 3) := by decide +kernel
theorem dX7_carves_52 : decode cX7_carves 52 = .ok (.bipush 51, 2) := by decide +kernel
theorem dX7_carves_54 : decode cX7_carves 54 = .ok (.bipush 6, 2) := by decide +kernel
theorem dX7_carves_56 : decode cX7_carves 56 = .ok (.iload_n 1, 1) := by decide +kernel
theorem dX7_carves_57 : decode cX7_carves 57 = .ok (.imul, 1) := by decide +kernel
theorem dX7_carves_58 : decode cX7_carves 58 = .ok (.iadd, 1) := by decide +kernel
theorem dX7_carves_59 : decode cX7_carves 59 = .ok (.iload_n 3, 1) := by decide +kernel
theorem dX7_carves_60 : decode cX7_carves 60 = .ok (.iadd, 1) := by decide +kernel
theorem dX7_carves_61 : decode cX7_carves 61 = .ok (.iaload, 1) := by decide +kernel
theorem dX7_carves_62 : decode cX7_carves 62 = .ok (.iload_n 2, 1) := by decide +kernel
theorem dX7_carves_63 : decode cX7_carves 63 = .ok (.ishr, 1) := by decide +kernel
theorem dX7_carves_64 : decode cX7_carves 64 = .ok (.iconst 1, 1) := by decide +kernel
theorem dX7_carves_65 : decode cX7_carves 65 = .ok (.iand, 1) := by decide +kernel
theorem dX7_carves_66 : decode cX7_carves 66 = .ok (.ireturn, 1) := by decide +kernel
theorem dX7_slips_0 : decode cX7_slips 0 = .ok (.aload_n 0, 1) := by decide +kernel
theorem dX7_slips_1 : decode cX7_slips 1 = .ok (.iconst 0, 1) := by decide +kernel
theorem dX7_slips_2 : decode cX7_slips 2 = .ok (.putfield 50, 3) := by decide +kernel
theorem dX7_slips_5 : decode cX7_slips 5 = .ok (.aload_n 0, 1) := by decide +kernel
theorem dX7_slips_6 : decode cX7_slips 6 = .ok (.iload_n 1, 1) := by decide +kernel
theorem dX7_slips_7 : decode cX7_slips 7 = .ok (.invokevirtual 137, 3) := by decide +kernel
theorem dX7_slips_10 : decode cX7_slips 10 = .ok (.ifCond .eq 21, 3) := by decide +kernel
theorem dX7_slips_13 : decode cX7_slips 13 = .ok (.iload_n 2, 1) := by decide +kernel
theorem dX7_slips_14 : decode cX7_slips 14 = .ok (.iconst (-1), 1) := by decide +kernel
theorem dX7_slips_15 : decode cX7_slips 15 = .ok (.iconst 1, 1) := by decide +kernel
theorem dX7_slips_16 : decode cX7_slips 16 = .ok (.invokestatic 57, 3) := by decide +kernel
theorem dX7_slips_19 : decode cX7_slips 19 = .ok (.ifCond .eq 12, 3) := by decide +kernel
theorem dX7_slips_22 : decode cX7_slips 22 = .ok (.iload_n 3, 1) := by decide +kernel
theorem dX7_slips_23 : decode cX7_slips 23 = .ok (.iconst (-1), 1) := by decide +kernel
theorem dX7_slips_24 : decode cX7_slips 24 = .ok (.iconst 1, 1) := by decide +kernel
theorem dX7_slips_25 : decode cX7_slips 25 = .ok (.invokestatic 57, 3) := by decide +kernel
theorem dX7_slips_28 : decode cX7_slips 28 = .ok (.ifCond .ne 5, 3) := by decide +kernel
theorem dX7_slips_31 : decode cX7_slips 31 = .ok (.iconst (-1), 1) := by decide +kernel
theorem dX7_slips_32 : decode cX7_slips 32 = .ok (.ireturn, 1) := by decide +kernel
theorem dX7_slips_33 : decode cX7_slips 33 = .ok (.aload_n 0, 1) := by decide +kernel
theorem dX7_slips_34 : decode cX7_slips 34 = .ok (.getfield 7, 3) := by decide +kernel
theorem dX7_slips_37 : decode cX7_slips 37 = .ok (.bipush 87, 2) := by decide +kernel
theorem dX7_slips_39 : decode cX7_slips 39 = .ok (.iload_n 1, 1) := by decide +kernel
theorem dX7_slips_40 : decode cX7_slips 40 = .ok (.iadd, 1) := by decide +kernel
theorem dX7_slips_41 : decode cX7_slips 41 = .ok (.iaload, 1) := by decide +kernel
theorem dX7_slips_42 : decode cX7_slips 42 = .ok (.iload_n 2, 1) := by decide +kernel
theorem dX7_slips_43 : decode cX7_slips 43 = .ok (.if_icmp .ne 19, 3) := by decide +kernel
theorem dX7_slips_46 : decode cX7_slips 46 = .ok (.aload_n 0, 1) := by decide +kernel
theorem dX7_slips_47 : decode cX7_slips 47 = .ok (.getfield 7, 3) := by decide +kernel
theorem dX7_slips_50 : decode cX7_slips 50 = .ok (.bipush 93, 2) := by decide +kernel
theorem dX7_slips_52 : decode cX7_slips 52 = .ok (.iload_n 1, 1) := by decide +kernel
theorem dX7_slips_53 : decode cX7_slips 53 = .ok (.iadd, 1) := by decide +kernel
theorem dX7_slips_54 : decode cX7_slips 54 = .ok (.iaload, 1) := by decide +kernel
theorem dX7_slips_55 : decode cX7_slips 55 = .ok (.iload_n 3, 1) := by decide +kernel
theorem dX7_slips_56 : decode cX7_slips 56 = .ok (.if_icmp .ne 6, 3) := by decide +kernel
theorem dX7_slips_59 : decode cX7_slips 59 = .ok (.bipush (-2), 2) := by decide +kernel
theorem dX7_slips_61 : decode cX7_slips 61 = .ok (.ireturn, 1) := by decide +kernel
theorem dX7_slips_62 : decode cX7_slips 62 = .ok (.aload_n 0, 1) := by decide +kernel
theorem dX7_slips_63 : decode cX7_slips 63 = .ok (.invokevirtual 102, 3) := by decide +kernel
theorem dX7_slips_66 : decode cX7_slips 66 = .ok (.aload_n 0, 1) := by decide +kernel
theorem dX7_slips_67 : decode cX7_slips 67 = .ok (.getfield 7, 3) := by decide +kernel
theorem dX7_slips_70 : decode cX7_slips 70 = .ok (.bipush 87, 2) := by decide +kernel
theorem dX7_slips_72 : decode cX7_slips 72 = .ok (.iload_n 1, 1) := by decide +kernel
theorem dX7_slips_73 : decode cX7_slips 73 = .ok (.iadd, 1) := by decide +kernel
theorem dX7_slips_74 : decode cX7_slips 74 = .ok (.iload_n 2, 1) := by decide +kernel
theorem dX7_slips_75 : decode cX7_slips 75 = .ok (.iastore, 1) := by decide +kernel
theorem dX7_slips_76 : decode cX7_slips 76 = .ok (.aload_n 0, 1) := by decide +kernel
theorem dX7_slips_77 : decode cX7_slips 77 = .ok (.getfield 7, 3) := by decide +kernel
theorem dX7_slips_80 : decode cX7_slips 80 = .ok (.bipush 93, 2) := by decide +kernel
theorem dX7_slips_82 : decode cX7_slips 82 = .ok (.iload_n 1, 1) := by decide +kernel
theorem dX7_slips_83 : decode cX7_slips 83 = .ok (.iadd, 1) := by decide +kernel
theorem dX7_slips_84 : decode cX7_slips 84 = .ok (.iload_n 3, 1) := by decide +kernel
theorem dX7_slips_85 : decode cX7_slips 85 = .ok (.iastore, 1) := by decide +kernel
theorem dX7_slips_86 : decode cX7_slips 86 = .ok (.iconst 1, 1) := by decide +kernel
theorem dX7_slips_87 : decode cX7_slips 87 = .ok (.ireturn, 1) := by decide +kernel
theorem dX7_placeOf_0 : decode cX7_placeOf 0 = .ok (.iconst 0, 1) := by decide +kernel
theorem dX7_placeOf_1 : decode cX7_placeOf 1 = .ok (.istore_n 2, 1) := by decide +kernel
theorem dX7_placeOf_2 : decode cX7_placeOf 2 = .ok (.aload_n 0, 1) := by decide +kernel
theorem dX7_placeOf_3 : decode cX7_placeOf 3 = .ok (.getfield 7, 3) := by decide +kernel
theorem dX7_placeOf_6 : decode cX7_placeOf 6 = .ok (.bipush 45, 2) := by decide +kernel
theorem dX7_placeOf_8 : decode cX7_placeOf 8 = .ok (.iload_n 2, 1) := by decide +kernel
theorem dX7_placeOf_9 : decode cX7_placeOf 9 = .ok (.iadd, 1) := by decide +kernel
theorem dX7_placeOf_10 : decode cX7_placeOf 10 = .ok (.iaload, 1) := by decide +kernel
theorem dX7_placeOf_11 : decode cX7_placeOf 11 = .ok (.iload_n 1, 1) := by decide +kernel
theorem dX7_placeOf_12 : decode cX7_placeOf 12 = .ok (.if_icmp .eq 9, 3) := by decide +kernel
theorem dX7_placeOf_15 : decode cX7_placeOf 15 = .ok (.iinc 2 1, 3) := by decide +kernel
theorem dX7_placeOf_18 : decode cX7_placeOf 18 = .ok (.goto (-16), 3) := by decide +kernel
theorem dX7_placeOf_21 : decode cX7_placeOf 21 = .ok (.iload_n 2, 1) := by decide +kernel
theorem dX7_placeOf_22 : decode cX7_placeOf 22 = .ok (.ireturn, 1) := by decide +kernel
theorem dX7_swaps_0 : decode cX7_swaps 0 = .ok (.aload_n 0, 1) := by decide +kernel
theorem dX7_swaps_1 : decode cX7_swaps 1 = .ok (.iconst 0, 1) := by decide +kernel
theorem dX7_swaps_2 : decode cX7_swaps 2 = .ok (.putfield 50, 3) := by decide +kernel
theorem dX7_swaps_5 : decode cX7_swaps 5 = .ok (.aload_n 0, 1) := by decide +kernel
theorem dX7_swaps_6 : decode cX7_swaps 6 = .ok (.iload_n 1, 1) := by decide +kernel
theorem dX7_swaps_7 : decode cX7_swaps 7 = .ok (.invokevirtual 137, 3) := by decide +kernel
theorem dX7_swaps_10 : decode cX7_swaps 10 = .ok (.ifCond .eq 16, 3) := by decide +kernel
theorem dX7_swaps_13 : decode cX7_swaps 13 = .ok (.aload_n 0, 1) := by decide +kernel
theorem dX7_swaps_14 : decode cX7_swaps 14 = .ok (.iload_n 2, 1) := by decide +kernel
theorem dX7_swaps_15 : decode cX7_swaps 15 = .ok (.invokevirtual 137, 3) := by decide +kernel
theorem dX7_swaps_18 : decode cX7_swaps 18 = .ok (.ifCond .eq 8, 3) := by decide +kernel
theorem dX7_swaps_21 : decode cX7_swaps 21 = .ok (.iload_n 1, 1) := by decide +kernel
theorem dX7_swaps_22 : decode cX7_swaps 22 = .ok (.iload_n 2, 1) := by decide +kernel
theorem dX7_swaps_23 : decode cX7_swaps 23 = .ok (.if_icmp .ne 5, 3) := by decide +kernel
theorem dX7_swaps_26 : decode cX7_swaps 26 = .ok (.iconst (-1), 1) := by decide +kernel
theorem dX7_swaps_27 : decode cX7_swaps 27 = .ok (.ireturn, 1) := by decide +kernel
theorem dX7_swaps_28 : decode cX7_swaps 28 = .ok (.aload_n 0, 1) := by decide +kernel
theorem dX7_swaps_29 : decode cX7_swaps 29 = .ok (.invokevirtual 102, 3) := by decide +kernel
theorem dX7_swaps_32 : decode cX7_swaps 32 = .ok (.aload_n 0, 1) := by decide +kernel
theorem dX7_swaps_33 : decode cX7_swaps 33 = .ok (.iload_n 1, 1) := by decide +kernel
theorem dX7_swaps_34 : decode cX7_swaps 34 = .ok (.invokevirtual 145, 3) := by decide +kernel
theorem dX7_swaps_37 : decode cX7_swaps 37 = .ok (.istore_n 3, 1) := by decide +kernel
theorem dX7_swaps_38 : decode cX7_swaps 38 = .ok (.aload_n 0, 1) := by decide +kernel
theorem dX7_swaps_39 : decode cX7_swaps 39 = .ok (.iload_n 2, 1) := by decide +kernel
theorem dX7_swaps_40 : decode cX7_swaps 40 = .ok (.invokevirtual 145, 3) := by decide +kernel
theorem dX7_swaps_43 : decode cX7_swaps 43 = .ok (.istore 4, 2) := by decide +kernel
theorem dX7_swaps_45 : decode cX7_swaps 45 = .ok (.aload_n 0, 1) := by decide +kernel
theorem dX7_swaps_46 : decode cX7_swaps 46 = .ok (.getfield 7, 3) := by decide +kernel
theorem dX7_swaps_49 : decode cX7_swaps 49 = .ok (.bipush 45, 2) := by decide +kernel
theorem dX7_swaps_51 : decode cX7_swaps 51 = .ok (.iload_n 3, 1) := by decide +kernel
theorem dX7_swaps_52 : decode cX7_swaps 52 = .ok (.iadd, 1) := by decide +kernel
theorem dX7_swaps_53 : decode cX7_swaps 53 = .ok (.iload_n 2, 1) := by decide +kernel
theorem dX7_swaps_54 : decode cX7_swaps 54 = .ok (.iastore, 1) := by decide +kernel
theorem dX7_swaps_55 : decode cX7_swaps 55 = .ok (.aload_n 0, 1) := by decide +kernel
theorem dX7_swaps_56 : decode cX7_swaps 56 = .ok (.getfield 7, 3) := by decide +kernel
theorem dX7_swaps_59 : decode cX7_swaps 59 = .ok (.bipush 45, 2) := by decide +kernel
theorem dX7_swaps_61 : decode cX7_swaps 61 = .ok (.iload 4, 2) := by decide +kernel
theorem dX7_swaps_63 : decode cX7_swaps 63 = .ok (.iadd, 1) := by decide +kernel
theorem dX7_swaps_64 : decode cX7_swaps 64 = .ok (.iload_n 1, 1) := by decide +kernel
theorem dX7_swaps_65 : decode cX7_swaps 65 = .ok (.iastore, 1) := by decide +kernel
theorem dX7_swaps_66 : decode cX7_swaps 66 = .ok (.aload_n 0, 1) := by decide +kernel
theorem dX7_swaps_67 : decode cX7_swaps 67 = .ok (.bipush (-9), 2) := by decide +kernel
theorem dX7_swaps_69 : decode cX7_swaps 69 = .ok (.iconst 0, 1) := by decide +kernel
theorem dX7_swaps_70 : decode cX7_swaps 70 = .ok (.iconst 0, 1) := by decide +kernel
theorem dX7_swaps_71 : decode cX7_swaps 71 = .ok (.invokevirtual 148, 3) := by decide +kernel
theorem dX7_swaps_74 : decode cX7_swaps 74 = .ok (.aload_n 0, 1) := by decide +kernel
theorem dX7_swaps_75 : decode cX7_swaps 75 = .ok (.invokevirtual 151, 3) := by decide +kernel
theorem dX7_swaps_78 : decode cX7_swaps 78 = .ok (.ireturn, 1) := by decide +kernel
theorem dX7_undo_0 : decode cX7_undo 0 = .ok (.aload_n 0, 1) := by decide +kernel
theorem dX7_undo_1 : decode cX7_undo 1 = .ok (.iconst 0, 1) := by decide +kernel
theorem dX7_undo_2 : decode cX7_undo 2 = .ok (.putfield 50, 3) := by decide +kernel
theorem dX7_undo_5 : decode cX7_undo 5 = .ok (.aload_n 0, 1) := by decide +kernel
theorem dX7_undo_6 : decode cX7_undo 6 = .ok (.getfield 125, 3) := by decide +kernel
theorem dX7_undo_9 : decode cX7_undo 9 = .ok (.ifCond .ne 6, 3) := by decide +kernel
theorem dX7_undo_12 : decode cX7_undo 12 = .ok (.bipush (-2), 2) := by decide +kernel
theorem dX7_undo_14 : decode cX7_undo 14 = .ok (.ireturn, 1) := by decide +kernel
theorem dX7_undo_15 : decode cX7_undo 15 = .ok (.aload_n 0, 1) := by decide +kernel
theorem dX7_undo_16 : decode cX7_undo 16 = .ok (.dup, 1) := by decide +kernel
theorem dX7_undo_17 : decode cX7_undo 17 = .ok (.getfield 125, 3) := by decide +kernel
theorem dX7_undo_20 : decode cX7_undo 20 = .ok (.iconst 1, 1) := by decide +kernel
theorem dX7_undo_21 : decode cX7_undo 21 = .ok (.isub, 1) := by decide +kernel
theorem dX7_undo_22 : decode cX7_undo 22 = .ok (.putfield 125, 3) := by decide +kernel
theorem dX7_undo_25 : decode cX7_undo 25 = .ok (.iconst 0, 1) := by decide +kernel
theorem dX7_undo_26 : decode cX7_undo 26 = .ok (.istore_n 1, 1) := by decide +kernel
theorem dX7_undo_27 : decode cX7_undo 27 = .ok (.iload_n 1, 1) := by decide +kernel
theorem dX7_undo_28 : decode cX7_undo 28 = .ok (.bipush 99, 2) := by decide +kernel
theorem dX7_undo_30 : decode cX7_undo 30 = .ok (.if_icmp .ge 29, 3) := by decide +kernel
theorem dX7_undo_33 : decode cX7_undo 33 = .ok (.aload_n 0, 1) := by decide +kernel
theorem dX7_undo_34 : decode cX7_undo 34 = .ok (.getfield 7, 3) := by decide +kernel
theorem dX7_undo_37 : decode cX7_undo 37 = .ok (.iload_n 1, 1) := by decide +kernel
theorem dX7_undo_38 : decode cX7_undo 38 = .ok (.aload_n 0, 1) := by decide +kernel
theorem dX7_undo_39 : decode cX7_undo 39 = .ok (.getfield 16, 3) := by decide +kernel
theorem dX7_undo_42 : decode cX7_undo 42 = .ok (.bipush 99, 2) := by decide +kernel
theorem dX7_undo_44 : decode cX7_undo 44 = .ok (.aload_n 0, 1) := by decide +kernel
theorem dX7_undo_45 : decode cX7_undo 45 = .ok (.getfield 125, 3) := by decide +kernel
theorem dX7_undo_48 : decode cX7_undo 48 = .ok (.imul, 1) := by decide +kernel
theorem dX7_undo_49 : decode cX7_undo 49 = .ok (.iload_n 1, 1) := by decide +kernel
theorem dX7_undo_50 : decode cX7_undo 50 = .ok (.iadd, 1) := by decide +kernel
theorem dX7_undo_51 : decode cX7_undo 51 = .ok (.iaload, 1) := by decide +kernel
theorem dX7_undo_52 : decode cX7_undo 52 = .ok (.iastore, 1) := by decide +kernel
theorem dX7_undo_53 : decode cX7_undo 53 = .ok (.iinc 1 1, 3) := by decide +kernel
theorem dX7_undo_56 : decode cX7_undo 56 = .ok (.goto (-29), 3) := by decide +kernel
theorem dX7_undo_59 : decode cX7_undo 59 = .ok (.aload_n 0, 1) := by decide +kernel
theorem dX7_undo_60 : decode cX7_undo 60 = .ok (.getfield 125, 3) := by decide +kernel
theorem dX7_undo_63 : decode cX7_undo 63 = .ok (.ireturn, 1) := by decide +kernel
theorem dX7_cell_0 : decode cX7_cell 0 = .ok (.aload_n 0, 1) := by decide +kernel
theorem dX7_cell_1 : decode cX7_cell 1 = .ok (.iconst 0, 1) := by decide +kernel
theorem dX7_cell_2 : decode cX7_cell 2 = .ok (.putfield 50, 3) := by decide +kernel
theorem dX7_cell_5 : decode cX7_cell 5 = .ok (.aload_n 0, 1) := by decide +kernel
theorem dX7_cell_6 : decode cX7_cell 6 = .ok (.iload_n 1, 1) := by decide +kernel
theorem dX7_cell_7 : decode cX7_cell 7 = .ok (.iload_n 2, 1) := by decide +kernel
theorem dX7_cell_8 : decode cX7_cell 8 = .ok (.invokevirtual 141, 3) := by decide +kernel
theorem dX7_cell_11 : decode cX7_cell 11 = .ok (.ifCond .eq 12, 3) := by decide +kernel
theorem dX7_cell_14 : decode cX7_cell 14 = .ok (.iload_n 3, 1) := by decide +kernel
theorem dX7_cell_15 : decode cX7_cell 15 = .ok (.iconst 0, 1) := by decide +kernel
theorem dX7_cell_16 : decode cX7_cell 16 = .ok (.iconst 2, 1) := by decide +kernel
theorem dX7_cell_17 : decode cX7_cell 17 = .ok (.invokestatic 57, 3) := by decide +kernel
theorem dX7_cell_20 : decode cX7_cell 20 = .ok (.ifCond .ne 5, 3) := by decide +kernel
theorem dX7_cell_23 : decode cX7_cell 23 = .ok (.iconst (-1), 1) := by decide +kernel
theorem dX7_cell_24 : decode cX7_cell 24 = .ok (.ireturn, 1) := by decide +kernel
theorem dX7_cell_25 : decode cX7_cell 25 = .ok (.iload_n 3, 1) := by decide +kernel
theorem dX7_cell_26 : decode cX7_cell 26 = .ok (.ifCond .ne 17, 3) := by decide +kernel
theorem dX7_cell_29 : decode cX7_cell 29 = .ok (.aload_n 0, 1) := by decide +kernel
theorem dX7_cell_30 : decode cX7_cell 30 = .ok (.getfield 7, 3) := by decide +kernel
theorem dX7_cell_33 : decode cX7_cell 33 = .ok (.iconst 3, 1) := by decide +kernel
theorem dX7_cell_34 : decode cX7_cell 34 = .ok (.bipush 6, 2) := by decide +kernel
theorem dX7_cell_36 : decode cX7_cell 36 = .ok (.iload_n 2, 1) := by decide +kernel
theorem dX7_cell_37 : decode cX7_cell 37 = .ok (.imul, 1) := by decide +kernel
theorem dX7_cell_38 : decode cX7_cell 38 = .ok (.iadd, 1) := by decide +kernel
theorem dX7_cell_39 : decode cX7_cell 39 = .ok (.iload_n 1, 1) := by decide +kernel
theorem dX7_cell_40 : decode cX7_cell 40 = .ok (.iadd, 1) := by decide +kernel
theorem dX7_cell_41 : decode cX7_cell 41 = .ok (.iaload, 1) := by decide +kernel
theorem dX7_cell_42 : decode cX7_cell 42 = .ok (.ireturn, 1) := by decide +kernel
theorem dX7_cell_43 : decode cX7_cell 43 = .ok (.iload_n 3, 1) := by decide +kernel
theorem dX7_cell_44 : decode cX7_cell 44 = .ok (.iconst 1, 1) := by decide +kernel
theorem dX7_cell_45 : decode cX7_cell 45 = .ok (.if_icmp .ne 23, 3) := by decide +kernel
theorem dX7_cell_48 : decode cX7_cell 48 = .ok (.aload_n 0, 1) := by decide +kernel
theorem dX7_cell_49 : decode cX7_cell 49 = .ok (.bipush (-9), 2) := by decide +kernel
theorem dX7_cell_51 : decode cX7_cell 51 = .ok (.iconst 0, 1) := by decide +kernel
theorem dX7_cell_52 : decode cX7_cell 52 = .ok (.iconst 0, 1) := by decide +kernel
theorem dX7_cell_53 : decode cX7_cell 53 = .ok (.invokevirtual 148, 3) := by decide +kernel
theorem dX7_cell_56 : decode cX7_cell 56 = .ok (.aload_n 0, 1) := by decide +kernel
theorem dX7_cell_57 : decode cX7_cell 57 = .ok (.getfield 32, 3) := by decide +kernel
theorem dX7_cell_60 : decode cX7_cell 60 = .ok (.bipush 6, 2) := by decide +kernel
theorem dX7_cell_62 : decode cX7_cell 62 = .ok (.iload_n 2, 1) := by decide +kernel
theorem dX7_cell_63 : decode cX7_cell 63 = .ok (.imul, 1) := by decide +kernel
theorem dX7_cell_64 : decode cX7_cell 64 = .ok (.iload_n 1, 1) := by decide +kernel
theorem dX7_cell_65 : decode cX7_cell 65 = .ok (.iadd, 1) := by decide +kernel
theorem dX7_cell_66 : decode cX7_cell 66 = .ok (.iaload, 1) := by decide +kernel
theorem dX7_cell_67 : decode cX7_cell 67 = .ok (.ireturn, 1) := by decide +kernel
theorem dX7_cell_68 : decode cX7_cell 68 = .ok (.iconst 0, 1) := by decide +kernel
theorem dX7_cell_69 : decode cX7_cell 69 = .ok (.istore 4, 2) := by decide +kernel
theorem dX7_cell_71 : decode cX7_cell 71 = .ok (.iconst 0, 1) := by decide +kernel
theorem dX7_cell_72 : decode cX7_cell 72 = .ok (.istore 5, 2) := by decide +kernel
theorem dX7_cell_74 : decode cX7_cell 74 = .ok (.iload 5, 2) := by decide +kernel
theorem dX7_cell_76 : decode cX7_cell 76 = .ok (.aload_n 0, 1) := by decide +kernel
theorem dX7_cell_77 : decode cX7_cell 77 = .ok (.getfield 7, 3) := by decide +kernel
theorem dX7_cell_80 : decode cX7_cell 80 = .ok (.iconst 2, 1) := by decide +kernel
theorem dX7_cell_81 : decode cX7_cell 81 = .ok (.iaload, 1) := by decide +kernel
theorem dX7_cell_82 : decode cX7_cell 82 = .ok (.if_icmp .ge 36, 3) := by decide +kernel
theorem dX7_cell_85 : decode cX7_cell 85 = .ok (.iload 4, 2) := by decide +kernel
theorem dX7_cell_87 : decode cX7_cell 87 = .ok (.aload_n 0, 1) := by decide +kernel
theorem dX7_cell_88 : decode cX7_cell 88 = .ok (.getfield 7, 3) := by decide +kernel
theorem dX7_cell_91 : decode cX7_cell 91 = .ok (.bipush 51, 2) := by decide +kernel
theorem dX7_cell_93 : decode cX7_cell 93 = .ok (.bipush 6, 2) := by decide +kernel
theorem dX7_cell_95 : decode cX7_cell 95 = .ok (.iload 5, 2) := by decide +kernel
theorem dX7_cell_97 : decode cX7_cell 97 = .ok (.imul, 1) := by decide +kernel
theorem dX7_cell_98 : decode cX7_cell 98 = .ok (.iadd, 1) := by decide +kernel
theorem dX7_cell_99 : decode cX7_cell 99 = .ok (.iload_n 2, 1) := by decide +kernel
theorem dX7_cell_100 : decode cX7_cell 100 = .ok (.iadd, 1) := by decide +kernel
theorem dX7_cell_101 : decode cX7_cell 101 = .ok (.iaload, 1) := by decide +kernel
theorem dX7_cell_102 : decode cX7_cell 102 = .ok (.iload_n 1, 1) := by decide +kernel
theorem dX7_cell_103 : decode cX7_cell 103 = .ok (.ishr, 1) := by decide +kernel
theorem dX7_cell_104 : decode cX7_cell 104 = .ok (.iconst 1, 1) := by decide +kernel
theorem dX7_cell_105 : decode cX7_cell 105 = .ok (.iand, 1) := by decide +kernel
theorem dX7_cell_106 : decode cX7_cell 106 = .ok (.iload 5, 2) := by decide +kernel
theorem dX7_cell_108 : decode cX7_cell 108 = .ok (.ishl, 1) := by decide +kernel
theorem dX7_cell_109 : decode cX7_cell 109 = .ok (.ior, 1) := by decide +kernel
theorem dX7_cell_110 : decode cX7_cell 110 = .ok (.istore 4, 2) := by decide +kernel
theorem dX7_cell_112 : decode cX7_cell 112 = .ok (.iinc 5 1, 3) := by decide +kernel
theorem dX7_cell_115 : decode cX7_cell 115 = .ok (.goto (-41), 3) := by decide +kernel
theorem dX7_cell_118 : decode cX7_cell 118 = .ok (.iload 4, 2) := by decide +kernel
theorem dX7_cell_120 : decode cX7_cell 120 = .ok (.ireturn, 1) := by decide +kernel
theorem dX7_cellsOf_0 : decode cX7_cellsOf 0 = .ok (.iconst 0, 1) := by decide +kernel
theorem dX7_cellsOf_1 : decode cX7_cellsOf 1 = .ok (.istore_n 2, 1) := by decide +kernel
theorem dX7_cellsOf_2 : decode cX7_cellsOf 2 = .ok (.iconst 0, 1) := by decide +kernel
theorem dX7_cellsOf_3 : decode cX7_cellsOf 3 = .ok (.istore_n 3, 1) := by decide +kernel
theorem dX7_cellsOf_4 : decode cX7_cellsOf 4 = .ok (.iload_n 3, 1) := by decide +kernel
theorem dX7_cellsOf_5 : decode cX7_cellsOf 5 = .ok (.bipush 6, 2) := by decide +kernel
theorem dX7_cellsOf_7 : decode cX7_cellsOf 7 = .ok (.if_icmp .ge 29, 3) := by decide +kernel
theorem dX7_cellsOf_10 : decode cX7_cellsOf 10 = .ok (.iload_n 2, 1) := by decide +kernel
theorem dX7_cellsOf_11 : decode cX7_cellsOf 11 = .ok (.aload_n 0, 1) := by decide +kernel
theorem dX7_cellsOf_12 : decode cX7_cellsOf 12 = .ok (.getfield 7, 3) := by decide +kernel
theorem dX7_cellsOf_15 : decode cX7_cellsOf 15 = .ok (.bipush 51, 2) := by decide +kernel
theorem dX7_cellsOf_17 : decode cX7_cellsOf 17 = .ok (.bipush 6, 2) := by decide +kernel
theorem dX7_cellsOf_19 : decode cX7_cellsOf 19 = .ok (.iload_n 1, 1) := by decide +kernel
theorem dX7_cellsOf_20 : decode cX7_cellsOf 20 = .ok (.imul, 1) := by decide +kernel
theorem dX7_cellsOf_21 : decode cX7_cellsOf 21 = .ok (.iadd, 1) := by decide +kernel
theorem dX7_cellsOf_22 : decode cX7_cellsOf 22 = .ok (.iload_n 3, 1) := by decide +kernel
theorem dX7_cellsOf_23 : decode cX7_cellsOf 23 = .ok (.iadd, 1) := by decide +kernel
theorem dX7_cellsOf_24 : decode cX7_cellsOf 24 = .ok (.iaload, 1) := by decide +kernel
theorem dX7_cellsOf_25 : decode cX7_cellsOf 25 = .ok (.invokestatic 122, 3) := by decide +kernel
theorem dX7_cellsOf_28 : decode cX7_cellsOf 28 = .ok (.iadd, 1) := by decide +kernel
theorem dX7_cellsOf_29 : decode cX7_cellsOf 29 = .ok (.istore_n 2, 1) := by decide +kernel
theorem dX7_cellsOf_30 : decode cX7_cellsOf 30 = .ok (.iinc 3 1, 3) := by decide +kernel
theorem dX7_cellsOf_33 : decode cX7_cellsOf 33 = .ok (.goto (-29), 3) := by decide +kernel
theorem dX7_cellsOf_36 : decode cX7_cellsOf 36 = .ok (.iload_n 2, 1) := by decide +kernel
theorem dX7_cellsOf_37 : decode cX7_cellsOf 37 = .ok (.ireturn, 1) := by decide +kernel
theorem dX7_ink_0 : decode cX7_ink 0 = .ok (.aload_n 0, 1) := by decide +kernel
theorem dX7_ink_1 : decode cX7_ink 1 = .ok (.iconst 0, 1) := by decide +kernel
theorem dX7_ink_2 : decode cX7_ink 2 = .ok (.putfield 50, 3) := by decide +kernel
theorem dX7_ink_5 : decode cX7_ink 5 = .ok (.aload_n 0, 1) := by decide +kernel
theorem dX7_ink_6 : decode cX7_ink 6 = .ok (.iload_n 1, 1) := by decide +kernel
theorem dX7_ink_7 : decode cX7_ink 7 = .ok (.invokevirtual 137, 3) := by decide +kernel
theorem dX7_ink_10 : decode cX7_ink 10 = .ok (.ifCond .eq 12, 3) := by decide +kernel
theorem dX7_ink_13 : decode cX7_ink 13 = .ok (.iload_n 2, 1) := by decide +kernel
theorem dX7_ink_14 : decode cX7_ink 14 = .ok (.iconst 0, 1) := by decide +kernel
theorem dX7_ink_15 : decode cX7_ink 15 = .ok (.iconst 5, 1) := by decide +kernel
theorem dX7_ink_16 : decode cX7_ink 16 = .ok (.invokestatic 57, 3) := by decide +kernel
theorem dX7_ink_19 : decode cX7_ink 19 = .ok (.ifCond .ne 6, 3) := by decide +kernel
theorem dX7_ink_22 : decode cX7_ink 22 = .ok (.ldc 154, 2) := by decide +kernel
theorem dX7_ink_24 : decode cX7_ink 24 = .ok (.ireturn, 1) := by decide +kernel
theorem dX7_ink_25 : decode cX7_ink 25 = .ok (.iload_n 2, 1) := by decide +kernel
theorem dX7_ink_26 : decode cX7_ink 26 = .ok (.tableswitch 82 0 4 #[34, 47, 60, 66, 72], 34) := by decide +kernel
theorem dX7_ink_60 : decode cX7_ink 60 = .ok (.aload_n 0, 1) := by decide +kernel
theorem dX7_ink_61 : decode cX7_ink 61 = .ok (.getfield 7, 3) := by decide +kernel
theorem dX7_ink_64 : decode cX7_ink 64 = .ok (.bipush 39, 2) := by decide +kernel
theorem dX7_ink_66 : decode cX7_ink 66 = .ok (.iload_n 1, 1) := by decide +kernel
theorem dX7_ink_67 : decode cX7_ink 67 = .ok (.iadd, 1) := by decide +kernel
theorem dX7_ink_68 : decode cX7_ink 68 = .ok (.iaload, 1) := by decide +kernel
theorem dX7_ink_69 : decode cX7_ink 69 = .ok (.bipush 8, 2) := by decide +kernel
theorem dX7_ink_71 : decode cX7_ink 71 = .ok (.irem, 1) := by decide +kernel
theorem dX7_ink_72 : decode cX7_ink 72 = .ok (.ireturn, 1) := by decide +kernel
theorem dX7_ink_73 : decode cX7_ink 73 = .ok (.aload_n 0, 1) := by decide +kernel
theorem dX7_ink_74 : decode cX7_ink 74 = .ok (.getfield 7, 3) := by decide +kernel
theorem dX7_ink_77 : decode cX7_ink 77 = .ok (.bipush 39, 2) := by decide +kernel
theorem dX7_ink_79 : decode cX7_ink 79 = .ok (.iload_n 1, 1) := by decide +kernel
theorem dX7_ink_80 : decode cX7_ink 80 = .ok (.iadd, 1) := by decide +kernel
theorem dX7_ink_81 : decode cX7_ink 81 = .ok (.iaload, 1) := by decide +kernel
theorem dX7_ink_82 : decode cX7_ink 82 = .ok (.bipush 8, 2) := by decide +kernel
theorem dX7_ink_84 : decode cX7_ink 84 = .ok (.idiv, 1) := by decide +kernel
theorem dX7_ink_85 : decode cX7_ink 85 = .ok (.ireturn, 1) := by decide +kernel
theorem dX7_ink_86 : decode cX7_ink 86 = .ok (.aload_n 0, 1) := by decide +kernel
theorem dX7_ink_87 : decode cX7_ink 87 = .ok (.iload_n 1, 1) := by decide +kernel
theorem dX7_ink_88 : decode cX7_ink 88 = .ok (.invokevirtual 145, 3) := by decide +kernel
theorem dX7_ink_91 : decode cX7_ink 91 = .ok (.ireturn, 1) := by decide +kernel
theorem dX7_ink_92 : decode cX7_ink 92 = .ok (.aload_n 0, 1) := by decide +kernel
theorem dX7_ink_93 : decode cX7_ink 93 = .ok (.iload_n 1, 1) := by decide +kernel
theorem dX7_ink_94 : decode cX7_ink 94 = .ok (.invokevirtual 155, 3) := by decide +kernel
theorem dX7_ink_97 : decode cX7_ink 97 = .ok (.ireturn, 1) := by decide +kernel
theorem dX7_ink_98 : decode cX7_ink 98 = .ok (.aload_n 0, 1) := by decide +kernel
theorem dX7_ink_99 : decode cX7_ink 99 = .ok (.getfield 7, 3) := by decide +kernel
theorem dX7_ink_102 : decode cX7_ink 102 = .ok (.bipush 87, 2) := by decide +kernel
theorem dX7_ink_104 : decode cX7_ink 104 = .ok (.iload_n 1, 1) := by decide +kernel
theorem dX7_ink_105 : decode cX7_ink 105 = .ok (.iadd, 1) := by decide +kernel
theorem dX7_ink_106 : decode cX7_ink 106 = .ok (.iaload, 1) := by decide +kernel
theorem dX7_ink_107 : decode cX7_ink 107 = .ok (.ireturn, 1) := by decide +kernel
theorem dX7_ink_108 : decode cX7_ink 108 = .ok (.aload_n 0, 1) := by decide +kernel
theorem dX7_ink_109 : decode cX7_ink 109 = .ok (.getfield 7, 3) := by decide +kernel
theorem dX7_ink_112 : decode cX7_ink 112 = .ok (.bipush 93, 2) := by decide +kernel
theorem dX7_ink_114 : decode cX7_ink 114 = .ok (.iload_n 1, 1) := by decide +kernel
theorem dX7_ink_115 : decode cX7_ink 115 = .ok (.iadd, 1) := by decide +kernel
theorem dX7_ink_116 : decode cX7_ink 116 = .ok (.iaload, 1) := by decide +kernel
theorem dX7_ink_117 : decode cX7_ink 117 = .ok (.ireturn, 1) := by decide +kernel
theorem dX7_made_0 : decode cX7_made 0 = .ok (.aload_n 0, 1) := by decide +kernel
theorem dX7_made_1 : decode cX7_made 1 = .ok (.iconst 0, 1) := by decide +kernel
theorem dX7_made_2 : decode cX7_made 2 = .ok (.putfield 50, 3) := by decide +kernel
theorem dX7_made_5 : decode cX7_made 5 = .ok (.iload_n 1, 1) := by decide +kernel
theorem dX7_made_6 : decode cX7_made 6 = .ok (.iconst 0, 1) := by decide +kernel
theorem dX7_made_7 : decode cX7_made 7 = .ok (.iconst 1, 1) := by decide +kernel
theorem dX7_made_8 : decode cX7_made 8 = .ok (.aload_n 0, 1) := by decide +kernel
theorem dX7_made_9 : decode cX7_made 9 = .ok (.getfield 7, 3) := by decide +kernel
theorem dX7_made_12 : decode cX7_made 12 = .ok (.iconst 2, 1) := by decide +kernel
theorem dX7_made_13 : decode cX7_made 13 = .ok (.iaload, 1) := by decide +kernel
theorem dX7_made_14 : decode cX7_made 14 = .ok (.ishl, 1) := by decide +kernel
theorem dX7_made_15 : decode cX7_made 15 = .ok (.iconst 1, 1) := by decide +kernel
theorem dX7_made_16 : decode cX7_made 16 = .ok (.isub, 1) := by decide +kernel
theorem dX7_made_17 : decode cX7_made 17 = .ok (.invokestatic 57, 3) := by decide +kernel
theorem dX7_made_20 : decode cX7_made 20 = .ok (.ifCond .ne 5, 3) := by decide +kernel
theorem dX7_made_23 : decode cX7_made 23 = .ok (.iconst (-1), 1) := by decide +kernel
theorem dX7_made_24 : decode cX7_made 24 = .ok (.ireturn, 1) := by decide +kernel
theorem dX7_made_25 : decode cX7_made 25 = .ok (.aload_n 0, 1) := by decide +kernel
theorem dX7_made_26 : decode cX7_made 26 = .ok (.invokevirtual 128, 3) := by decide +kernel
theorem dX7_made_29 : decode cX7_made 29 = .ok (.aload_n 0, 1) := by decide +kernel
theorem dX7_made_30 : decode cX7_made 30 = .ok (.invokevirtual 116, 3) := by decide +kernel
theorem dX7_made_33 : decode cX7_made 33 = .ok (.aload_n 0, 1) := by decide +kernel
theorem dX7_made_34 : decode cX7_made 34 = .ok (.getfield 41, 3) := by decide +kernel
theorem dX7_made_37 : decode cX7_made 37 = .ok (.iload_n 1, 1) := by decide +kernel
theorem dX7_made_38 : decode cX7_made 38 = .ok (.iaload, 1) := by decide +kernel
theorem dX7_made_39 : decode cX7_made 39 = .ok (.ireturn, 1) := by decide +kernel
theorem dX7_least_0 : decode cX7_least 0 = .ok (.aload_n 0, 1) := by decide +kernel
theorem dX7_least_1 : decode cX7_least 1 = .ok (.iconst 0, 1) := by decide +kernel
theorem dX7_least_2 : decode cX7_least 2 = .ok (.putfield 50, 3) := by decide +kernel
theorem dX7_least_5 : decode cX7_least 5 = .ok (.iload_n 1, 1) := by decide +kernel
theorem dX7_least_6 : decode cX7_least 6 = .ok (.iconst 0, 1) := by decide +kernel
theorem dX7_least_7 : decode cX7_least 7 = .ok (.iconst 1, 1) := by decide +kernel
theorem dX7_least_8 : decode cX7_least 8 = .ok (.invokestatic 57, 3) := by decide +kernel
theorem dX7_least_11 : decode cX7_least 11 = .ok (.ifCond .ne 5, 3) := by decide +kernel
theorem dX7_least_14 : decode cX7_least 14 = .ok (.iconst (-1), 1) := by decide +kernel
theorem dX7_least_15 : decode cX7_least 15 = .ok (.ireturn, 1) := by decide +kernel
theorem dX7_least_16 : decode cX7_least 16 = .ok (.aload_n 0, 1) := by decide +kernel
theorem dX7_least_17 : decode cX7_least 17 = .ok (.invokevirtual 128, 3) := by decide +kernel
theorem dX7_least_20 : decode cX7_least 20 = .ok (.aload_n 0, 1) := by decide +kernel
theorem dX7_least_21 : decode cX7_least 21 = .ok (.invokevirtual 131, 3) := by decide +kernel
theorem dX7_least_24 : decode cX7_least 24 = .ok (.istore_n 2, 1) := by decide +kernel
theorem dX7_least_25 : decode cX7_least 25 = .ok (.iload_n 2, 1) := by decide +kernel
theorem dX7_least_26 : decode cX7_least 26 = .ok (.bipush (-9), 2) := by decide +kernel
theorem dX7_least_28 : decode cX7_least 28 = .ok (.if_icmp .eq 8, 3) := by decide +kernel
theorem dX7_least_31 : decode cX7_least 31 = .ok (.iload_n 1, 1) := by decide +kernel
theorem dX7_least_32 : decode cX7_least 32 = .ok (.iconst 1, 1) := by decide +kernel
theorem dX7_least_33 : decode cX7_least 33 = .ok (.if_icmp .ne 7, 3) := by decide +kernel
theorem dX7_least_36 : decode cX7_least 36 = .ok (.iload_n 2, 1) := by decide +kernel
theorem dX7_least_37 : decode cX7_least 37 = .ok (.goto 7, 3) := by decide +kernel
theorem dX7_least_40 : decode cX7_least 40 = .ok (.iload_n 2, 1) := by decide +kernel
theorem dX7_least_41 : decode cX7_least 41 = .ok (.invokestatic 122, 3) := by decide +kernel
theorem dX7_least_44 : decode cX7_least 44 = .ok (.ireturn, 1) := by decide +kernel
theorem dX7_goesOn_0 : decode cX7_goesOn 0 = .ok (.aload_n 0, 1) := by decide +kernel
theorem dX7_goesOn_1 : decode cX7_goesOn 1 = .ok (.getfield 7, 3) := by decide +kernel
theorem dX7_goesOn_4 : decode cX7_goesOn 4 = .ok (.iconst 2, 1) := by decide +kernel
theorem dX7_goesOn_5 : decode cX7_goesOn 5 = .ok (.iaload, 1) := by decide +kernel
theorem dX7_goesOn_6 : decode cX7_goesOn 6 = .ok (.iconst 2, 1) := by decide +kernel
theorem dX7_goesOn_7 : decode cX7_goesOn 7 = .ok (.isub, 1) := by decide +kernel
theorem dX7_goesOn_8 : decode cX7_goesOn 8 = .ok (.istore_n 1, 1) := by decide +kernel
theorem dX7_goesOn_9 : decode cX7_goesOn 9 = .ok (.iload_n 1, 1) := by decide +kernel
theorem dX7_goesOn_10 : decode cX7_goesOn 10 = .ok (.ifCond .lt 26, 3) := by decide +kernel
theorem dX7_goesOn_13 : decode cX7_goesOn 13 = .ok (.aload_n 0, 1) := by decide +kernel
theorem dX7_goesOn_14 : decode cX7_goesOn 14 = .ok (.getfield 35, 3) := by decide +kernel
theorem dX7_goesOn_17 : decode cX7_goesOn 17 = .ok (.iload_n 1, 1) := by decide +kernel
theorem dX7_goesOn_18 : decode cX7_goesOn 18 = .ok (.iaload, 1) := by decide +kernel
theorem dX7_goesOn_19 : decode cX7_goesOn 19 = .ok (.aload_n 0, 1) := by decide +kernel
theorem dX7_goesOn_20 : decode cX7_goesOn 20 = .ok (.getfield 35, 3) := by decide +kernel
theorem dX7_goesOn_23 : decode cX7_goesOn 23 = .ok (.iload_n 1, 1) := by decide +kernel
theorem dX7_goesOn_24 : decode cX7_goesOn 24 = .ok (.iconst 1, 1) := by decide +kernel
theorem dX7_goesOn_25 : decode cX7_goesOn 25 = .ok (.iadd, 1) := by decide +kernel
theorem dX7_goesOn_26 : decode cX7_goesOn 26 = .ok (.iaload, 1) := by decide +kernel
theorem dX7_goesOn_27 : decode cX7_goesOn 27 = .ok (.if_icmp .le 9, 3) := by decide +kernel
theorem dX7_goesOn_30 : decode cX7_goesOn 30 = .ok (.iinc 1 (-1), 3) := by decide +kernel
theorem dX7_goesOn_33 : decode cX7_goesOn 33 = .ok (.goto (-24), 3) := by decide +kernel
theorem dX7_goesOn_36 : decode cX7_goesOn 36 = .ok (.iload_n 1, 1) := by decide +kernel
theorem dX7_goesOn_37 : decode cX7_goesOn 37 = .ok (.ifCond .ge 5, 3) := by decide +kernel
theorem dX7_goesOn_40 : decode cX7_goesOn 40 = .ok (.iconst 0, 1) := by decide +kernel
theorem dX7_goesOn_41 : decode cX7_goesOn 41 = .ok (.ireturn, 1) := by decide +kernel
theorem dX7_goesOn_42 : decode cX7_goesOn 42 = .ok (.aload_n 0, 1) := by decide +kernel
theorem dX7_goesOn_43 : decode cX7_goesOn 43 = .ok (.getfield 7, 3) := by decide +kernel
theorem dX7_goesOn_46 : decode cX7_goesOn 46 = .ok (.iconst 2, 1) := by decide +kernel
theorem dX7_goesOn_47 : decode cX7_goesOn 47 = .ok (.iaload, 1) := by decide +kernel
theorem dX7_goesOn_48 : decode cX7_goesOn 48 = .ok (.iconst 1, 1) := by decide +kernel
theorem dX7_goesOn_49 : decode cX7_goesOn 49 = .ok (.isub, 1) := by decide +kernel
theorem dX7_goesOn_50 : decode cX7_goesOn 50 = .ok (.istore_n 2, 1) := by decide +kernel
theorem dX7_goesOn_51 : decode cX7_goesOn 51 = .ok (.aload_n 0, 1) := by decide +kernel
theorem dX7_goesOn_52 : decode cX7_goesOn 52 = .ok (.getfield 35, 3) := by decide +kernel
theorem dX7_goesOn_55 : decode cX7_goesOn 55 = .ok (.iload_n 2, 1) := by decide +kernel
theorem dX7_goesOn_56 : decode cX7_goesOn 56 = .ok (.iaload, 1) := by decide +kernel
theorem dX7_goesOn_57 : decode cX7_goesOn 57 = .ok (.aload_n 0, 1) := by decide +kernel
theorem dX7_goesOn_58 : decode cX7_goesOn 58 = .ok (.getfield 35, 3) := by decide +kernel
theorem dX7_goesOn_61 : decode cX7_goesOn 61 = .ok (.iload_n 1, 1) := by decide +kernel
theorem dX7_goesOn_62 : decode cX7_goesOn 62 = .ok (.iaload, 1) := by decide +kernel
theorem dX7_goesOn_63 : decode cX7_goesOn 63 = .ok (.if_icmp .ge 9, 3) := by decide +kernel
theorem dX7_goesOn_66 : decode cX7_goesOn 66 = .ok (.iinc 2 (-1), 3) := by decide +kernel
theorem dX7_goesOn_69 : decode cX7_goesOn 69 = .ok (.goto (-18), 3) := by decide +kernel
theorem dX7_goesOn_72 : decode cX7_goesOn 72 = .ok (.aload_n 0, 1) := by decide +kernel
theorem dX7_goesOn_73 : decode cX7_goesOn 73 = .ok (.iload_n 1, 1) := by decide +kernel
theorem dX7_goesOn_74 : decode cX7_goesOn 74 = .ok (.iload_n 2, 1) := by decide +kernel
theorem dX7_goesOn_75 : decode cX7_goesOn 75 = .ok (.invokevirtual 158, 3) := by decide +kernel
theorem dX7_goesOn_78 : decode cX7_goesOn 78 = .ok (.iconst 1, 1) := by decide +kernel
theorem dX7_goesOn_79 : decode cX7_goesOn 79 = .ok (.istore_n 3, 1) := by decide +kernel
theorem dX7_goesOn_80 : decode cX7_goesOn 80 = .ok (.iload_n 1, 1) := by decide +kernel
theorem dX7_goesOn_81 : decode cX7_goesOn 81 = .ok (.iload_n 3, 1) := by decide +kernel
theorem dX7_goesOn_82 : decode cX7_goesOn 82 = .ok (.iadd, 1) := by decide +kernel
theorem dX7_goesOn_83 : decode cX7_goesOn 83 = .ok (.aload_n 0, 1) := by decide +kernel
theorem dX7_goesOn_84 : decode cX7_goesOn 84 = .ok (.getfield 7, 3) := by decide +kernel
theorem dX7_goesOn_87 : decode cX7_goesOn 87 = .ok (.iconst 2, 1) := by decide +kernel
theorem dX7_goesOn_88 : decode cX7_goesOn 88 = .ok (.iaload, 1) := by decide +kernel
theorem dX7_goesOn_89 : decode cX7_goesOn 89 = .ok (.iload_n 3, 1) := by decide +kernel
theorem dX7_goesOn_90 : decode cX7_goesOn 90 = .ok (.isub, 1) := by decide +kernel
theorem dX7_goesOn_91 : decode cX7_goesOn 91 = .ok (.if_icmp .ge 24, 3) := by decide +kernel
theorem dX7_goesOn_94 : decode cX7_goesOn 94 = .ok (.aload_n 0, 1) := by decide +kernel
theorem dX7_goesOn_95 : decode cX7_goesOn 95 = .ok (.iload_n 1, 1) := by decide +kernel
theorem dX7_goesOn_96 : decode cX7_goesOn 96 = .ok (.iload_n 3, 1) := by decide +kernel
theorem dX7_goesOn_97 : decode cX7_goesOn 97 = .ok (.iadd, 1) := by decide +kernel
theorem dX7_goesOn_98 : decode cX7_goesOn 98 = .ok (.aload_n 0, 1) := by decide +kernel
theorem dX7_goesOn_99 : decode cX7_goesOn 99 = .ok (.getfield 7, 3) := by decide +kernel
theorem dX7_goesOn_102 : decode cX7_goesOn 102 = .ok (.iconst 2, 1) := by decide +kernel
theorem dX7_goesOn_103 : decode cX7_goesOn 103 = .ok (.iaload, 1) := by decide +kernel
theorem dX7_goesOn_104 : decode cX7_goesOn 104 = .ok (.iload_n 3, 1) := by decide +kernel
theorem dX7_goesOn_105 : decode cX7_goesOn 105 = .ok (.isub, 1) := by decide +kernel
theorem dX7_goesOn_106 : decode cX7_goesOn 106 = .ok (.invokevirtual 158, 3) := by decide +kernel
theorem dX7_goesOn_109 : decode cX7_goesOn 109 = .ok (.iinc 3 1, 3) := by decide +kernel
theorem dX7_goesOn_112 : decode cX7_goesOn 112 = .ok (.goto (-32), 3) := by decide +kernel
theorem dX7_goesOn_115 : decode cX7_goesOn 115 = .ok (.iconst 1, 1) := by decide +kernel
theorem dX7_goesOn_116 : decode cX7_goesOn 116 = .ok (.ireturn, 1) := by decide +kernel
theorem dX7_exchanges_0 : decode cX7_exchanges 0 = .ok (.aload_n 0, 1) := by decide +kernel
theorem dX7_exchanges_1 : decode cX7_exchanges 1 = .ok (.getfield 35, 3) := by decide +kernel
theorem dX7_exchanges_4 : decode cX7_exchanges 4 = .ok (.iload_n 1, 1) := by decide +kernel
theorem dX7_exchanges_5 : decode cX7_exchanges 5 = .ok (.iaload, 1) := by decide +kernel
theorem dX7_exchanges_6 : decode cX7_exchanges 6 = .ok (.istore_n 3, 1) := by decide +kernel
theorem dX7_exchanges_7 : decode cX7_exchanges 7 = .ok (.aload_n 0, 1) := by decide +kernel
theorem dX7_exchanges_8 : decode cX7_exchanges 8 = .ok (.getfield 35, 3) := by decide +kernel
theorem dX7_exchanges_11 : decode cX7_exchanges 11 = .ok (.iload_n 1, 1) := by decide +kernel
theorem dX7_exchanges_12 : decode cX7_exchanges 12 = .ok (.aload_n 0, 1) := by decide +kernel
theorem dX7_exchanges_13 : decode cX7_exchanges 13 = .ok (.getfield 35, 3) := by decide +kernel
theorem dX7_exchanges_16 : decode cX7_exchanges 16 = .ok (.iload_n 2, 1) := by decide +kernel
theorem dX7_exchanges_17 : decode cX7_exchanges 17 = .ok (.iaload, 1) := by decide +kernel
theorem dX7_exchanges_18 : decode cX7_exchanges 18 = .ok (.iastore, 1) := by decide +kernel
theorem dX7_exchanges_19 : decode cX7_exchanges 19 = .ok (.aload_n 0, 1) := by decide +kernel
theorem dX7_exchanges_20 : decode cX7_exchanges 20 = .ok (.getfield 35, 3) := by decide +kernel
theorem dX7_exchanges_23 : decode cX7_exchanges 23 = .ok (.iload_n 2, 1) := by decide +kernel
theorem dX7_exchanges_24 : decode cX7_exchanges 24 = .ok (.iload_n 3, 1) := by decide +kernel
theorem dX7_exchanges_25 : decode cX7_exchanges 25 = .ok (.iastore, 1) := by decide +kernel
theorem dX7_exchanges_26 : decode cX7_exchanges 26 = .ok (.return_, 1) := by decide +kernel
theorem dX7_fewestByOrder_0 : decode cX7_fewestByOrder 0 = .ok (.iconst 0, 1) := by decide +kernel
theorem dX7_fewestByOrder_1 : decode cX7_fewestByOrder 1 = .ok (.istore_n 1, 1) := by decide +kernel
theorem dX7_fewestByOrder_2 : decode cX7_fewestByOrder 2 = .ok (.iload_n 1, 1) := by decide +kernel
theorem dX7_fewestByOrder_3 : decode cX7_fewestByOrder 3 = .ok (.bipush 6, 2) := by decide +kernel
theorem dX7_fewestByOrder_5 : decode cX7_fewestByOrder 5 = .ok (.if_icmp .ge 16, 3) := by decide +kernel
theorem dX7_fewestByOrder_8 : decode cX7_fewestByOrder 8 = .ok (.aload_n 0, 1) := by decide +kernel
theorem dX7_fewestByOrder_9 : decode cX7_fewestByOrder 9 = .ok (.getfield 35, 3) := by decide +kernel
theorem dX7_fewestByOrder_12 : decode cX7_fewestByOrder 12 = .ok (.iload_n 1, 1) := by decide +kernel
theorem dX7_fewestByOrder_13 : decode cX7_fewestByOrder 13 = .ok (.iload_n 1, 1) := by decide +kernel
theorem dX7_fewestByOrder_14 : decode cX7_fewestByOrder 14 = .ok (.iastore, 1) := by decide +kernel
theorem dX7_fewestByOrder_15 : decode cX7_fewestByOrder 15 = .ok (.iinc 1 1, 3) := by decide +kernel
theorem dX7_fewestByOrder_18 : decode cX7_fewestByOrder 18 = .ok (.goto (-16), 3) := by decide +kernel
theorem dX7_fewestByOrder_21 : decode cX7_fewestByOrder 21 = .ok (.bipush (-9), 2) := by decide +kernel
theorem dX7_fewestByOrder_23 : decode cX7_fewestByOrder 23 = .ok (.istore_n 1, 1) := by decide +kernel
theorem dX7_fewestByOrder_24 : decode cX7_fewestByOrder 24 = .ok (.iconst 1, 1) := by decide +kernel
theorem dX7_fewestByOrder_25 : decode cX7_fewestByOrder 25 = .ok (.istore_n 2, 1) := by decide +kernel
theorem dX7_fewestByOrder_26 : decode cX7_fewestByOrder 26 = .ok (.iload_n 2, 1) := by decide +kernel
theorem dX7_fewestByOrder_27 : decode cX7_fewestByOrder 27 = .ok (.ifCond .eq 71, 3) := by decide +kernel
theorem dX7_fewestByOrder_30 : decode cX7_fewestByOrder 30 = .ok (.aload_n 0, 1) := by decide +kernel
theorem dX7_fewestByOrder_31 : decode cX7_fewestByOrder 31 = .ok (.invokevirtual 131, 3) := by decide +kernel
theorem dX7_fewestByOrder_34 : decode cX7_fewestByOrder 34 = .ok (.istore_n 3, 1) := by decide +kernel
theorem dX7_fewestByOrder_35 : decode cX7_fewestByOrder 35 = .ok (.iload_n 3, 1) := by decide +kernel
theorem dX7_fewestByOrder_36 : decode cX7_fewestByOrder 36 = .ok (.bipush (-9), 2) := by decide +kernel
theorem dX7_fewestByOrder_38 : decode cX7_fewestByOrder 38 = .ok (.if_icmp .eq 52, 3) := by decide +kernel
theorem dX7_fewestByOrder_41 : decode cX7_fewestByOrder 41 = .ok (.iload_n 1, 1) := by decide +kernel
theorem dX7_fewestByOrder_42 : decode cX7_fewestByOrder 42 = .ok (.bipush (-9), 2) := by decide +kernel
theorem dX7_fewestByOrder_44 : decode cX7_fewestByOrder 44 = .ok (.if_icmp .eq 11, 3) := by decide +kernel
theorem dX7_fewestByOrder_47 : decode cX7_fewestByOrder 47 = .ok (.iload_n 3, 1) := by decide +kernel
theorem dX7_fewestByOrder_48 : decode cX7_fewestByOrder 48 = .ok (.invokestatic 122, 3) := by decide +kernel
theorem dX7_fewestByOrder_51 : decode cX7_fewestByOrder 51 = .ok (.iload_n 1, 1) := by decide +kernel
theorem dX7_fewestByOrder_52 : decode cX7_fewestByOrder 52 = .ok (.if_icmp .ge 38, 3) := by decide +kernel
theorem dX7_fewestByOrder_55 : decode cX7_fewestByOrder 55 = .ok (.iload_n 3, 1) := by decide +kernel
theorem dX7_fewestByOrder_56 : decode cX7_fewestByOrder 56 = .ok (.invokestatic 122, 3) := by decide +kernel
theorem dX7_fewestByOrder_59 : decode cX7_fewestByOrder 59 = .ok (.istore_n 1, 1) := by decide +kernel
theorem dX7_fewestByOrder_60 : decode cX7_fewestByOrder 60 = .ok (.iconst 0, 1) := by decide +kernel
theorem dX7_fewestByOrder_61 : decode cX7_fewestByOrder 61 = .ok (.istore 4, 2) := by decide +kernel
theorem dX7_fewestByOrder_63 : decode cX7_fewestByOrder 63 = .ok (.iload 4, 2) := by decide +kernel
theorem dX7_fewestByOrder_65 : decode cX7_fewestByOrder 65 = .ok (.bipush 6, 2) := by decide +kernel
theorem dX7_fewestByOrder_67 : decode cX7_fewestByOrder 67 = .ok (.if_icmp .ge 23, 3) := by decide +kernel
theorem dX7_fewestByOrder_70 : decode cX7_fewestByOrder 70 = .ok (.aload_n 0, 1) := by decide +kernel
theorem dX7_fewestByOrder_71 : decode cX7_fewestByOrder 71 = .ok (.getfield 44, 3) := by decide +kernel
theorem dX7_fewestByOrder_74 : decode cX7_fewestByOrder 74 = .ok (.iload 4, 2) := by decide +kernel
theorem dX7_fewestByOrder_76 : decode cX7_fewestByOrder 76 = .ok (.aload_n 0, 1) := by decide +kernel
theorem dX7_fewestByOrder_77 : decode cX7_fewestByOrder 77 = .ok (.getfield 35, 3) := by decide +kernel
theorem dX7_fewestByOrder_80 : decode cX7_fewestByOrder 80 = .ok (.iload 4, 2) := by decide +kernel
theorem dX7_fewestByOrder_82 : decode cX7_fewestByOrder 82 = .ok (.iaload, 1) := by decide +kernel
theorem dX7_fewestByOrder_83 : decode cX7_fewestByOrder 83 = .ok (.iastore, 1) := by decide +kernel
theorem dX7_fewestByOrder_84 : decode cX7_fewestByOrder 84 = .ok (.iinc 4 1, 3) := by decide +kernel
theorem dX7_fewestByOrder_87 : decode cX7_fewestByOrder 87 = .ok (.goto (-24), 3) := by decide +kernel
theorem dX7_fewestByOrder_90 : decode cX7_fewestByOrder 90 = .ok (.aload_n 0, 1) := by decide +kernel
theorem dX7_fewestByOrder_91 : decode cX7_fewestByOrder 91 = .ok (.invokevirtual 162, 3) := by decide +kernel
theorem dX7_fewestByOrder_94 : decode cX7_fewestByOrder 94 = .ok (.istore_n 2, 1) := by decide +kernel
theorem dX7_fewestByOrder_95 : decode cX7_fewestByOrder 95 = .ok (.goto (-69), 3) := by decide +kernel
theorem dX7_fewestByOrder_98 : decode cX7_fewestByOrder 98 = .ok (.iload_n 1, 1) := by decide +kernel
theorem dX7_fewestByOrder_99 : decode cX7_fewestByOrder 99 = .ok (.ireturn, 1) := by decide +kernel
theorem dX7_order_0 : decode cX7_order 0 = .ok (.aload_n 0, 1) := by decide +kernel
theorem dX7_order_1 : decode cX7_order 1 = .ok (.iconst 0, 1) := by decide +kernel
theorem dX7_order_2 : decode cX7_order 2 = .ok (.putfield 50, 3) := by decide +kernel
theorem dX7_order_5 : decode cX7_order 5 = .ok (.iload_n 1, 1) := by decide +kernel
theorem dX7_order_6 : decode cX7_order 6 = .ok (.iconst (-1), 1) := by decide +kernel
theorem dX7_order_7 : decode cX7_order 7 = .ok (.if_icmp .ge 5, 3) := by decide +kernel
theorem dX7_order_10 : decode cX7_order 10 = .ok (.iconst (-1), 1) := by decide +kernel
theorem dX7_order_11 : decode cX7_order 11 = .ok (.ireturn, 1) := by decide +kernel
theorem dX7_order_12 : decode cX7_order 12 = .ok (.aload_n 0, 1) := by decide +kernel
theorem dX7_order_13 : decode cX7_order 13 = .ok (.invokevirtual 165, 3) := by decide +kernel
theorem dX7_order_16 : decode cX7_order 16 = .ok (.istore_n 2, 1) := by decide +kernel
theorem dX7_order_17 : decode cX7_order 17 = .ok (.iload_n 2, 1) := by decide +kernel
theorem dX7_order_18 : decode cX7_order 18 = .ok (.bipush (-9), 2) := by decide +kernel
theorem dX7_order_20 : decode cX7_order 20 = .ok (.if_icmp .eq 8, 3) := by decide +kernel
theorem dX7_order_23 : decode cX7_order 23 = .ok (.iload_n 1, 1) := by decide +kernel
theorem dX7_order_24 : decode cX7_order 24 = .ok (.iconst (-1), 1) := by decide +kernel
theorem dX7_order_25 : decode cX7_order 25 = .ok (.if_icmp .ne 7, 3) := by decide +kernel
theorem dX7_order_28 : decode cX7_order 28 = .ok (.iload_n 2, 1) := by decide +kernel
theorem dX7_order_29 : decode cX7_order 29 = .ok (.goto 24, 3) := by decide +kernel
theorem dX7_order_32 : decode cX7_order 32 = .ok (.iload_n 1, 1) := by decide +kernel
theorem dX7_order_33 : decode cX7_order 33 = .ok (.aload_n 0, 1) := by decide +kernel
theorem dX7_order_34 : decode cX7_order 34 = .ok (.getfield 7, 3) := by decide +kernel
theorem dX7_order_37 : decode cX7_order 37 = .ok (.iconst 2, 1) := by decide +kernel
theorem dX7_order_38 : decode cX7_order 38 = .ok (.iaload, 1) := by decide +kernel
theorem dX7_order_39 : decode cX7_order 39 = .ok (.if_icmp .ge 12, 3) := by decide +kernel
theorem dX7_order_42 : decode cX7_order 42 = .ok (.aload_n 0, 1) := by decide +kernel
theorem dX7_order_43 : decode cX7_order 43 = .ok (.getfield 44, 3) := by decide +kernel
theorem dX7_order_46 : decode cX7_order 46 = .ok (.iload_n 1, 1) := by decide +kernel
theorem dX7_order_47 : decode cX7_order 47 = .ok (.iaload, 1) := by decide +kernel
theorem dX7_order_48 : decode cX7_order 48 = .ok (.goto 5, 3) := by decide +kernel
theorem dX7_order_51 : decode cX7_order 51 = .ok (.bipush (-9), 2) := by decide +kernel
theorem dX7_order_53 : decode cX7_order 53 = .ok (.ireturn, 1) := by decide +kernel
theorem dX7_wrong_0 : decode cX7_wrong 0 = .ok (.aload_n 0, 1) := by decide +kernel
theorem dX7_wrong_1 : decode cX7_wrong 1 = .ok (.iconst 0, 1) := by decide +kernel
theorem dX7_wrong_2 : decode cX7_wrong 2 = .ok (.putfield 50, 3) := by decide +kernel
theorem dX7_wrong_5 : decode cX7_wrong 5 = .ok (.aload_n 0, 1) := by decide +kernel
theorem dX7_wrong_6 : decode cX7_wrong 6 = .ok (.bipush (-9), 2) := by decide +kernel
theorem dX7_wrong_8 : decode cX7_wrong 8 = .ok (.iconst 0, 1) := by decide +kernel
theorem dX7_wrong_9 : decode cX7_wrong 9 = .ok (.iconst 0, 1) := by decide +kernel
theorem dX7_wrong_10 : decode cX7_wrong 10 = .ok (.invokevirtual 148, 3) := by decide +kernel
theorem dX7_wrong_13 : decode cX7_wrong 13 = .ok (.aload_n 0, 1) := by decide +kernel
theorem dX7_wrong_14 : decode cX7_wrong 14 = .ok (.invokevirtual 151, 3) := by decide +kernel
theorem dX7_wrong_17 : decode cX7_wrong 17 = .ok (.ireturn, 1) := by decide +kernel
theorem dX7_hurt_0 : decode cX7_hurt 0 = .ok (.aload_n 0, 1) := by decide +kernel
theorem dX7_hurt_1 : decode cX7_hurt 1 = .ok (.iconst 0, 1) := by decide +kernel
theorem dX7_hurt_2 : decode cX7_hurt 2 = .ok (.putfield 50, 3) := by decide +kernel
theorem dX7_hurt_5 : decode cX7_hurt 5 = .ok (.aload_n 0, 1) := by decide +kernel
theorem dX7_hurt_6 : decode cX7_hurt 6 = .ok (.iload_n 1, 1) := by decide +kernel
theorem dX7_hurt_7 : decode cX7_hurt 7 = .ok (.invokevirtual 137, 3) := by decide +kernel
theorem dX7_hurt_10 : decode cX7_hurt 10 = .ok (.ifCond .ne 6, 3) := by decide +kernel
theorem dX7_hurt_13 : decode cX7_hurt 13 = .ok (.ldc 154, 2) := by decide +kernel
theorem dX7_hurt_15 : decode cX7_hurt 15 = .ok (.ireturn, 1) := by decide +kernel
theorem dX7_hurt_16 : decode cX7_hurt 16 = .ok (.aload_n 0, 1) := by decide +kernel
theorem dX7_hurt_17 : decode cX7_hurt 17 = .ok (.bipush (-9), 2) := by decide +kernel
theorem dX7_hurt_19 : decode cX7_hurt 19 = .ok (.iconst 0, 1) := by decide +kernel
theorem dX7_hurt_20 : decode cX7_hurt 20 = .ok (.iconst 0, 1) := by decide +kernel
theorem dX7_hurt_21 : decode cX7_hurt 21 = .ok (.invokevirtual 148, 3) := by decide +kernel
theorem dX7_hurt_24 : decode cX7_hurt 24 = .ok (.aload_n 0, 1) := by decide +kernel
theorem dX7_hurt_25 : decode cX7_hurt 25 = .ok (.invokevirtual 151, 3) := by decide +kernel
theorem dX7_hurt_28 : decode cX7_hurt 28 = .ok (.istore_n 2, 1) := by decide +kernel
theorem dX7_hurt_29 : decode cX7_hurt 29 = .ok (.aload_n 0, 1) := by decide +kernel
theorem dX7_hurt_30 : decode cX7_hurt 30 = .ok (.iload_n 1, 1) := by decide +kernel
theorem dX7_hurt_31 : decode cX7_hurt 31 = .ok (.aload_n 0, 1) := by decide +kernel
theorem dX7_hurt_32 : decode cX7_hurt 32 = .ok (.getfield 7, 3) := by decide +kernel
theorem dX7_hurt_35 : decode cX7_hurt 35 = .ok (.bipush 87, 2) := by decide +kernel
theorem dX7_hurt_37 : decode cX7_hurt 37 = .ok (.iload_n 1, 1) := by decide +kernel
theorem dX7_hurt_38 : decode cX7_hurt 38 = .ok (.iadd, 1) := by decide +kernel
theorem dX7_hurt_39 : decode cX7_hurt 39 = .ok (.iaload, 1) := by decide +kernel
theorem dX7_hurt_40 : decode cX7_hurt 40 = .ok (.iconst 1, 1) := by decide +kernel
theorem dX7_hurt_41 : decode cX7_hurt 41 = .ok (.if_icmp .ne 7, 3) := by decide +kernel
theorem dX7_hurt_44 : decode cX7_hurt 44 = .ok (.iconst 0, 1) := by decide +kernel
theorem dX7_hurt_45 : decode cX7_hurt 45 = .ok (.goto 14, 3) := by decide +kernel
theorem dX7_hurt_48 : decode cX7_hurt 48 = .ok (.aload_n 0, 1) := by decide +kernel
theorem dX7_hurt_49 : decode cX7_hurt 49 = .ok (.getfield 7, 3) := by decide +kernel
theorem dX7_hurt_52 : decode cX7_hurt 52 = .ok (.bipush 87, 2) := by decide +kernel
theorem dX7_hurt_54 : decode cX7_hurt 54 = .ok (.iload_n 1, 1) := by decide +kernel
theorem dX7_hurt_55 : decode cX7_hurt 55 = .ok (.iadd, 1) := by decide +kernel
theorem dX7_hurt_56 : decode cX7_hurt 56 = .ok (.iaload, 1) := by decide +kernel
theorem dX7_hurt_57 : decode cX7_hurt 57 = .ok (.iconst 1, 1) := by decide +kernel
theorem dX7_hurt_58 : decode cX7_hurt 58 = .ok (.iadd, 1) := by decide +kernel
theorem dX7_hurt_59 : decode cX7_hurt 59 = .ok (.aload_n 0, 1) := by decide +kernel
theorem dX7_hurt_60 : decode cX7_hurt 60 = .ok (.getfield 7, 3) := by decide +kernel
theorem dX7_hurt_63 : decode cX7_hurt 63 = .ok (.bipush 93, 2) := by decide +kernel
theorem dX7_hurt_65 : decode cX7_hurt 65 = .ok (.iload_n 1, 1) := by decide +kernel
theorem dX7_hurt_66 : decode cX7_hurt 66 = .ok (.iadd, 1) := by decide +kernel
theorem dX7_hurt_67 : decode cX7_hurt 67 = .ok (.iaload, 1) := by decide +kernel
theorem dX7_hurt_68 : decode cX7_hurt 68 = .ok (.invokevirtual 148, 3) := by decide +kernel
theorem dX7_hurt_71 : decode cX7_hurt 71 = .ok (.aload_n 0, 1) := by decide +kernel
theorem dX7_hurt_72 : decode cX7_hurt 72 = .ok (.invokevirtual 151, 3) := by decide +kernel
theorem dX7_hurt_75 : decode cX7_hurt 75 = .ok (.iload_n 2, 1) := by decide +kernel
theorem dX7_hurt_76 : decode cX7_hurt 76 = .ok (.isub, 1) := by decide +kernel
theorem dX7_hurt_77 : decode cX7_hurt 77 = .ok (.ireturn, 1) := by decide +kernel
theorem dX7_sees_0 : decode cX7_sees 0 = .ok (.aload_n 0, 1) := by decide +kernel
theorem dX7_sees_1 : decode cX7_sees 1 = .ok (.iconst 0, 1) := by decide +kernel
theorem dX7_sees_2 : decode cX7_sees 2 = .ok (.putfield 50, 3) := by decide +kernel
theorem dX7_sees_5 : decode cX7_sees 5 = .ok (.iload_n 1, 1) := by decide +kernel
theorem dX7_sees_6 : decode cX7_sees 6 = .ok (.iconst 0, 1) := by decide +kernel
theorem dX7_sees_7 : decode cX7_sees 7 = .ok (.iconst 5, 1) := by decide +kernel
theorem dX7_sees_8 : decode cX7_sees 8 = .ok (.invokestatic 57, 3) := by decide +kernel
theorem dX7_sees_11 : decode cX7_sees 11 = .ok (.ifCond .eq 22, 3) := by decide +kernel
theorem dX7_sees_14 : decode cX7_sees 14 = .ok (.iload_n 2, 1) := by decide +kernel
theorem dX7_sees_15 : decode cX7_sees 15 = .ok (.iconst 0, 1) := by decide +kernel
theorem dX7_sees_16 : decode cX7_sees 16 = .ok (.iconst 5, 1) := by decide +kernel
theorem dX7_sees_17 : decode cX7_sees 17 = .ok (.invokestatic 57, 3) := by decide +kernel
theorem dX7_sees_20 : decode cX7_sees 20 = .ok (.ifCond .eq 13, 3) := by decide +kernel
theorem dX7_sees_23 : decode cX7_sees 23 = .ok (.iload_n 3, 1) := by decide +kernel
theorem dX7_sees_24 : decode cX7_sees 24 = .ok (.iconst 0, 1) := by decide +kernel
theorem dX7_sees_25 : decode cX7_sees 25 = .ok (.bipush 7, 2) := by decide +kernel
theorem dX7_sees_27 : decode cX7_sees 27 = .ok (.invokestatic 57, 3) := by decide +kernel
theorem dX7_sees_30 : decode cX7_sees 30 = .ok (.ifCond .ne 5, 3) := by decide +kernel
theorem dX7_sees_33 : decode cX7_sees 33 = .ok (.iconst (-1), 1) := by decide +kernel
theorem dX7_sees_34 : decode cX7_sees 34 = .ok (.ireturn, 1) := by decide +kernel
theorem dX7_sees_35 : decode cX7_sees 35 = .ok (.aload_n 0, 1) := by decide +kernel
theorem dX7_sees_36 : decode cX7_sees 36 = .ok (.getfield 105, 3) := by decide +kernel
theorem dX7_sees_39 : decode cX7_sees 39 = .ok (.bipush 6, 2) := by decide +kernel
theorem dX7_sees_41 : decode cX7_sees 41 = .ok (.if_icmp .ne 6, 3) := by decide +kernel
theorem dX7_sees_44 : decode cX7_sees 44 = .ok (.bipush (-3), 2) := by decide +kernel
theorem dX7_sees_46 : decode cX7_sees 46 = .ok (.ireturn, 1) := by decide +kernel
theorem dX7_sees_47 : decode cX7_sees 47 = .ok (.aload_n 0, 1) := by decide +kernel
theorem dX7_sees_48 : decode cX7_sees 48 = .ok (.getfield 29, 3) := by decide +kernel
theorem dX7_sees_51 : decode cX7_sees 51 = .ok (.iconst 3, 1) := by decide +kernel
theorem dX7_sees_52 : decode cX7_sees 52 = .ok (.aload_n 0, 1) := by decide +kernel
theorem dX7_sees_53 : decode cX7_sees 53 = .ok (.getfield 105, 3) := by decide +kernel
theorem dX7_sees_56 : decode cX7_sees 56 = .ok (.imul, 1) := by decide +kernel
theorem dX7_sees_57 : decode cX7_sees 57 = .ok (.iload_n 1, 1) := by decide +kernel
theorem dX7_sees_58 : decode cX7_sees 58 = .ok (.iastore, 1) := by decide +kernel
theorem dX7_sees_59 : decode cX7_sees 59 = .ok (.aload_n 0, 1) := by decide +kernel
theorem dX7_sees_60 : decode cX7_sees 60 = .ok (.getfield 29, 3) := by decide +kernel
theorem dX7_sees_63 : decode cX7_sees 63 = .ok (.iconst 3, 1) := by decide +kernel
theorem dX7_sees_64 : decode cX7_sees 64 = .ok (.aload_n 0, 1) := by decide +kernel
theorem dX7_sees_65 : decode cX7_sees 65 = .ok (.getfield 105, 3) := by decide +kernel
theorem dX7_sees_68 : decode cX7_sees 68 = .ok (.imul, 1) := by decide +kernel
theorem dX7_sees_69 : decode cX7_sees 69 = .ok (.iconst 1, 1) := by decide +kernel
theorem dX7_sees_70 : decode cX7_sees 70 = .ok (.iadd, 1) := by decide +kernel
theorem dX7_sees_71 : decode cX7_sees 71 = .ok (.iload_n 2, 1) := by decide +kernel
theorem dX7_sees_72 : decode cX7_sees 72 = .ok (.iastore, 1) := by decide +kernel
theorem dX7_sees_73 : decode cX7_sees 73 = .ok (.aload_n 0, 1) := by decide +kernel
theorem dX7_sees_74 : decode cX7_sees 74 = .ok (.getfield 29, 3) := by decide +kernel
theorem dX7_sees_77 : decode cX7_sees 77 = .ok (.iconst 3, 1) := by decide +kernel
theorem dX7_sees_78 : decode cX7_sees 78 = .ok (.aload_n 0, 1) := by decide +kernel
theorem dX7_sees_79 : decode cX7_sees 79 = .ok (.getfield 105, 3) := by decide +kernel
theorem dX7_sees_82 : decode cX7_sees 82 = .ok (.imul, 1) := by decide +kernel
theorem dX7_sees_83 : decode cX7_sees 83 = .ok (.iconst 2, 1) := by decide +kernel
theorem dX7_sees_84 : decode cX7_sees 84 = .ok (.iadd, 1) := by decide +kernel
theorem dX7_sees_85 : decode cX7_sees 85 = .ok (.iload_n 3, 1) := by decide +kernel
theorem dX7_sees_86 : decode cX7_sees 86 = .ok (.iastore, 1) := by decide +kernel
theorem dX7_sees_87 : decode cX7_sees 87 = .ok (.aload_n 0, 1) := by decide +kernel
theorem dX7_sees_88 : decode cX7_sees 88 = .ok (.dup, 1) := by decide +kernel
theorem dX7_sees_89 : decode cX7_sees 89 = .ok (.getfield 105, 3) := by decide +kernel
theorem dX7_sees_92 : decode cX7_sees 92 = .ok (.iconst 1, 1) := by decide +kernel
theorem dX7_sees_93 : decode cX7_sees 93 = .ok (.iadd, 1) := by decide +kernel
theorem dX7_sees_94 : decode cX7_sees 94 = .ok (.putfield 105, 3) := by decide +kernel
theorem dX7_sees_97 : decode cX7_sees 97 = .ok (.aload_n 0, 1) := by decide +kernel
theorem dX7_sees_98 : decode cX7_sees 98 = .ok (.getfield 105, 3) := by decide +kernel
theorem dX7_sees_101 : decode cX7_sees 101 = .ok (.ireturn, 1) := by decide +kernel
theorem dX7_forget_0 : decode cX7_forget 0 = .ok (.aload_n 0, 1) := by decide +kernel
theorem dX7_forget_1 : decode cX7_forget 1 = .ok (.iconst 0, 1) := by decide +kernel
theorem dX7_forget_2 : decode cX7_forget 2 = .ok (.putfield 50, 3) := by decide +kernel
theorem dX7_forget_5 : decode cX7_forget 5 = .ok (.aload_n 0, 1) := by decide +kernel
theorem dX7_forget_6 : decode cX7_forget 6 = .ok (.getfield 105, 3) := by decide +kernel
theorem dX7_forget_9 : decode cX7_forget 9 = .ok (.istore_n 1, 1) := by decide +kernel
theorem dX7_forget_10 : decode cX7_forget 10 = .ok (.aload_n 0, 1) := by decide +kernel
theorem dX7_forget_11 : decode cX7_forget 11 = .ok (.iconst 0, 1) := by decide +kernel
theorem dX7_forget_12 : decode cX7_forget 12 = .ok (.putfield 105, 3) := by decide +kernel
theorem dX7_forget_15 : decode cX7_forget 15 = .ok (.iload_n 1, 1) := by decide +kernel
theorem dX7_forget_16 : decode cX7_forget 16 = .ok (.ireturn, 1) := by decide +kernel
theorem dX7_tries_0 : decode cX7_tries 0 = .ok (.iload_n 1, 1) := by decide +kernel
theorem dX7_tries_1 : decode cX7_tries 1 = .ok (.ifCond .ge 13, 3) := by decide +kernel
theorem dX7_tries_4 : decode cX7_tries 4 = .ok (.aload_n 0, 1) := by decide +kernel
theorem dX7_tries_5 : decode cX7_tries 5 = .ok (.bipush (-9), 2) := by decide +kernel
theorem dX7_tries_7 : decode cX7_tries 7 = .ok (.iconst 0, 1) := by decide +kernel
theorem dX7_tries_8 : decode cX7_tries 8 = .ok (.iconst 0, 1) := by decide +kernel
theorem dX7_tries_9 : decode cX7_tries 9 = .ok (.invokevirtual 148, 3) := by decide +kernel
theorem dX7_tries_12 : decode cX7_tries 12 = .ok (.iconst 1, 1) := by decide +kernel
theorem dX7_tries_13 : decode cX7_tries 13 = .ok (.ireturn, 1) := by decide +kernel
theorem dX7_tries_14 : decode cX7_tries 14 = .ok (.iload_n 1, 1) := by decide +kernel
theorem dX7_tries_15 : decode cX7_tries 15 = .ok (.bipush 9, 2) := by decide +kernel
theorem dX7_tries_17 : decode cX7_tries 17 = .ok (.idiv, 1) := by decide +kernel
theorem dX7_tries_18 : decode cX7_tries 18 = .ok (.istore_n 2, 1) := by decide +kernel
theorem dX7_tries_19 : decode cX7_tries 19 = .ok (.iload_n 1, 1) := by decide +kernel
theorem dX7_tries_20 : decode cX7_tries 20 = .ok (.bipush 9, 2) := by decide +kernel
theorem dX7_tries_22 : decode cX7_tries 22 = .ok (.irem, 1) := by decide +kernel
theorem dX7_tries_23 : decode cX7_tries 23 = .ok (.iconst 3, 1) := by decide +kernel
theorem dX7_tries_24 : decode cX7_tries 24 = .ok (.idiv, 1) := by decide +kernel
theorem dX7_tries_25 : decode cX7_tries 25 = .ok (.iconst 1, 1) := by decide +kernel
theorem dX7_tries_26 : decode cX7_tries 26 = .ok (.isub, 1) := by decide +kernel
theorem dX7_tries_27 : decode cX7_tries 27 = .ok (.istore_n 3, 1) := by decide +kernel
theorem dX7_tries_28 : decode cX7_tries 28 = .ok (.iload_n 1, 1) := by decide +kernel
theorem dX7_tries_29 : decode cX7_tries 29 = .ok (.iconst 3, 1) := by decide +kernel
theorem dX7_tries_30 : decode cX7_tries 30 = .ok (.irem, 1) := by decide +kernel
theorem dX7_tries_31 : decode cX7_tries 31 = .ok (.iconst 1, 1) := by decide +kernel
theorem dX7_tries_32 : decode cX7_tries 32 = .ok (.isub, 1) := by decide +kernel
theorem dX7_tries_33 : decode cX7_tries 33 = .ok (.istore 4, 2) := by decide +kernel
theorem dX7_tries_35 : decode cX7_tries 35 = .ok (.aload_n 0, 1) := by decide +kernel
theorem dX7_tries_36 : decode cX7_tries 36 = .ok (.getfield 7, 3) := by decide +kernel
theorem dX7_tries_39 : decode cX7_tries 39 = .ok (.bipush 87, 2) := by decide +kernel
theorem dX7_tries_41 : decode cX7_tries 41 = .ok (.iload_n 2, 1) := by decide +kernel
theorem dX7_tries_42 : decode cX7_tries 42 = .ok (.iadd, 1) := by decide +kernel
theorem dX7_tries_43 : decode cX7_tries 43 = .ok (.iaload, 1) := by decide +kernel
theorem dX7_tries_44 : decode cX7_tries 44 = .ok (.iload 4, 2) := by decide +kernel
theorem dX7_tries_46 : decode cX7_tries 46 = .ok (.if_icmp .ne 18, 3) := by decide +kernel
theorem dX7_tries_49 : decode cX7_tries 49 = .ok (.aload_n 0, 1) := by decide +kernel
theorem dX7_tries_50 : decode cX7_tries 50 = .ok (.getfield 7, 3) := by decide +kernel
theorem dX7_tries_53 : decode cX7_tries 53 = .ok (.bipush 93, 2) := by decide +kernel
theorem dX7_tries_55 : decode cX7_tries 55 = .ok (.iload_n 2, 1) := by decide +kernel
theorem dX7_tries_56 : decode cX7_tries 56 = .ok (.iadd, 1) := by decide +kernel
theorem dX7_tries_57 : decode cX7_tries 57 = .ok (.iaload, 1) := by decide +kernel
theorem dX7_tries_58 : decode cX7_tries 58 = .ok (.iload_n 3, 1) := by decide +kernel
theorem dX7_tries_59 : decode cX7_tries 59 = .ok (.if_icmp .ne 5, 3) := by decide +kernel
theorem dX7_tries_62 : decode cX7_tries 62 = .ok (.iconst 0, 1) := by decide +kernel
theorem dX7_tries_63 : decode cX7_tries 63 = .ok (.ireturn, 1) := by decide +kernel
theorem dX7_tries_64 : decode cX7_tries 64 = .ok (.aload_n 0, 1) := by decide +kernel
theorem dX7_tries_65 : decode cX7_tries 65 = .ok (.iload_n 2, 1) := by decide +kernel
theorem dX7_tries_66 : decode cX7_tries 66 = .ok (.iload 4, 2) := by decide +kernel
theorem dX7_tries_68 : decode cX7_tries 68 = .ok (.iload_n 3, 1) := by decide +kernel
theorem dX7_tries_69 : decode cX7_tries 69 = .ok (.invokevirtual 148, 3) := by decide +kernel
theorem dX7_tries_72 : decode cX7_tries 72 = .ok (.iconst 1, 1) := by decide +kernel
theorem dX7_tries_73 : decode cX7_tries 73 = .ok (.ireturn, 1) := by decide +kernel
theorem dX7_isSeen_0 : decode cX7_isSeen 0 = .ok (.iconst 1, 1) := by decide +kernel
theorem dX7_isSeen_1 : decode cX7_isSeen 1 = .ok (.istore_n 1, 1) := by decide +kernel
theorem dX7_isSeen_2 : decode cX7_isSeen 2 = .ok (.iconst 0, 1) := by decide +kernel
theorem dX7_isSeen_3 : decode cX7_isSeen 3 = .ok (.istore_n 2, 1) := by decide +kernel
theorem dX7_isSeen_4 : decode cX7_isSeen 4 = .ok (.iload_n 2, 1) := by decide +kernel
theorem dX7_isSeen_5 : decode cX7_isSeen 5 = .ok (.aload_n 0, 1) := by decide +kernel
theorem dX7_isSeen_6 : decode cX7_isSeen 6 = .ok (.getfield 105, 3) := by decide +kernel
theorem dX7_isSeen_9 : decode cX7_isSeen 9 = .ok (.if_icmp .ge 75, 3) := by decide +kernel
theorem dX7_isSeen_12 : decode cX7_isSeen 12 = .ok (.iload_n 1, 1) := by decide +kernel
theorem dX7_isSeen_13 : decode cX7_isSeen 13 = .ok (.ifCond .eq 71, 3) := by decide +kernel
theorem dX7_isSeen_16 : decode cX7_isSeen 16 = .ok (.aload_n 0, 1) := by decide +kernel
theorem dX7_isSeen_17 : decode cX7_isSeen 17 = .ok (.getfield 29, 3) := by decide +kernel
theorem dX7_isSeen_20 : decode cX7_isSeen 20 = .ok (.iconst 3, 1) := by decide +kernel
theorem dX7_isSeen_21 : decode cX7_isSeen 21 = .ok (.iload_n 2, 1) := by decide +kernel
theorem dX7_isSeen_22 : decode cX7_isSeen 22 = .ok (.imul, 1) := by decide +kernel
theorem dX7_isSeen_23 : decode cX7_isSeen 23 = .ok (.iaload, 1) := by decide +kernel
theorem dX7_isSeen_24 : decode cX7_isSeen 24 = .ok (.istore_n 3, 1) := by decide +kernel
theorem dX7_isSeen_25 : decode cX7_isSeen 25 = .ok (.aload_n 0, 1) := by decide +kernel
theorem dX7_isSeen_26 : decode cX7_isSeen 26 = .ok (.getfield 29, 3) := by decide +kernel
theorem dX7_isSeen_29 : decode cX7_isSeen 29 = .ok (.iconst 3, 1) := by decide +kernel
theorem dX7_isSeen_30 : decode cX7_isSeen 30 = .ok (.iload_n 2, 1) := by decide +kernel
theorem dX7_isSeen_31 : decode cX7_isSeen 31 = .ok (.imul, 1) := by decide +kernel
theorem dX7_isSeen_32 : decode cX7_isSeen 32 = .ok (.iconst 1, 1) := by decide +kernel
theorem dX7_isSeen_33 : decode cX7_isSeen 33 = .ok (.iadd, 1) := by decide +kernel
theorem dX7_isSeen_34 : decode cX7_isSeen 34 = .ok (.iaload, 1) := by decide +kernel
theorem dX7_isSeen_35 : decode cX7_isSeen 35 = .ok (.istore 4, 2) := by decide +kernel
theorem dX7_isSeen_37 : decode cX7_isSeen 37 = .ok (.aload_n 0, 1) := by decide +kernel
theorem dX7_isSeen_38 : decode cX7_isSeen 38 = .ok (.iload_n 3, 1) := by decide +kernel
theorem dX7_isSeen_39 : decode cX7_isSeen 39 = .ok (.iload 4, 2) := by decide +kernel
theorem dX7_isSeen_41 : decode cX7_isSeen 41 = .ok (.invokevirtual 141, 3) := by decide +kernel
theorem dX7_isSeen_44 : decode cX7_isSeen 44 = .ok (.ifCond .eq 32, 3) := by decide +kernel
theorem dX7_isSeen_47 : decode cX7_isSeen 47 = .ok (.aload_n 0, 1) := by decide +kernel
theorem dX7_isSeen_48 : decode cX7_isSeen 48 = .ok (.getfield 32, 3) := by decide +kernel
theorem dX7_isSeen_51 : decode cX7_isSeen 51 = .ok (.bipush 6, 2) := by decide +kernel
theorem dX7_isSeen_53 : decode cX7_isSeen 53 = .ok (.iload 4, 2) := by decide +kernel
theorem dX7_isSeen_55 : decode cX7_isSeen 55 = .ok (.imul, 1) := by decide +kernel
theorem dX7_isSeen_56 : decode cX7_isSeen 56 = .ok (.iload_n 3, 1) := by decide +kernel
theorem dX7_isSeen_57 : decode cX7_isSeen 57 = .ok (.iadd, 1) := by decide +kernel
theorem dX7_isSeen_58 : decode cX7_isSeen 58 = .ok (.iaload, 1) := by decide +kernel
theorem dX7_isSeen_59 : decode cX7_isSeen 59 = .ok (.aload_n 0, 1) := by decide +kernel
theorem dX7_isSeen_60 : decode cX7_isSeen 60 = .ok (.getfield 29, 3) := by decide +kernel
theorem dX7_isSeen_63 : decode cX7_isSeen 63 = .ok (.iconst 3, 1) := by decide +kernel
theorem dX7_isSeen_64 : decode cX7_isSeen 64 = .ok (.iload_n 2, 1) := by decide +kernel
theorem dX7_isSeen_65 : decode cX7_isSeen 65 = .ok (.imul, 1) := by decide +kernel
theorem dX7_isSeen_66 : decode cX7_isSeen 66 = .ok (.iconst 2, 1) := by decide +kernel
theorem dX7_isSeen_67 : decode cX7_isSeen 67 = .ok (.iadd, 1) := by decide +kernel
theorem dX7_isSeen_68 : decode cX7_isSeen 68 = .ok (.iaload, 1) := by decide +kernel
theorem dX7_isSeen_69 : decode cX7_isSeen 69 = .ok (.if_icmp .ne 7, 3) := by decide +kernel
theorem dX7_isSeen_72 : decode cX7_isSeen 72 = .ok (.iconst 1, 1) := by decide +kernel
theorem dX7_isSeen_73 : decode cX7_isSeen 73 = .ok (.goto 4, 3) := by decide +kernel
theorem dX7_isSeen_76 : decode cX7_isSeen 76 = .ok (.iconst 0, 1) := by decide +kernel
theorem dX7_isSeen_77 : decode cX7_isSeen 77 = .ok (.istore_n 1, 1) := by decide +kernel
theorem dX7_isSeen_78 : decode cX7_isSeen 78 = .ok (.iinc 2 1, 3) := by decide +kernel
theorem dX7_isSeen_81 : decode cX7_isSeen 81 = .ok (.goto (-77), 3) := by decide +kernel
theorem dX7_isSeen_84 : decode cX7_isSeen 84 = .ok (.iload_n 1, 1) := by decide +kernel
theorem dX7_isSeen_85 : decode cX7_isSeen 85 = .ok (.ireturn, 1) := by decide +kernel
theorem dX7_which_0 : decode cX7_which 0 = .ok (.aload_n 0, 1) := by decide +kernel
theorem dX7_which_1 : decode cX7_which 1 = .ok (.iconst 0, 1) := by decide +kernel
theorem dX7_which_2 : decode cX7_which 2 = .ok (.putfield 50, 3) := by decide +kernel
theorem dX7_which_5 : decode cX7_which 5 = .ok (.iload_n 1, 1) := by decide +kernel
theorem dX7_which_6 : decode cX7_which 6 = .ok (.iconst 0, 1) := by decide +kernel
theorem dX7_which_7 : decode cX7_which 7 = .ok (.iconst 1, 1) := by decide +kernel
theorem dX7_which_8 : decode cX7_which 8 = .ok (.invokestatic 57, 3) := by decide +kernel
theorem dX7_which_11 : decode cX7_which 11 = .ok (.ifCond .ne 6, 3) := by decide +kernel
theorem dX7_which_14 : decode cX7_which 14 = .ok (.ldc 154, 2) := by decide +kernel
theorem dX7_which_16 : decode cX7_which 16 = .ok (.ireturn, 1) := by decide +kernel
theorem dX7_which_17 : decode cX7_which 17 = .ok (.iconst 0, 1) := by decide +kernel
theorem dX7_which_18 : decode cX7_which 18 = .ok (.istore_n 2, 1) := by decide +kernel
theorem dX7_which_19 : decode cX7_which 19 = .ok (.ldc 168, 2) := by decide +kernel
theorem dX7_which_21 : decode cX7_which 21 = .ok (.istore_n 3, 1) := by decide +kernel
theorem dX7_which_22 : decode cX7_which 22 = .ok (.iconst (-1), 1) := by decide +kernel
theorem dX7_which_23 : decode cX7_which 23 = .ok (.istore 4, 2) := by decide +kernel
theorem dX7_which_25 : decode cX7_which 25 = .ok (.iload 4, 2) := by decide +kernel
theorem dX7_which_27 : decode cX7_which 27 = .ok (.bipush 9, 2) := by decide +kernel
theorem dX7_which_29 : decode cX7_which 29 = .ok (.aload_n 0, 1) := by decide +kernel
theorem dX7_which_30 : decode cX7_which 30 = .ok (.getfield 7, 3) := by decide +kernel
theorem dX7_which_33 : decode cX7_which 33 = .ok (.iconst 2, 1) := by decide +kernel
theorem dX7_which_34 : decode cX7_which 34 = .ok (.iaload, 1) := by decide +kernel
theorem dX7_which_35 : decode cX7_which 35 = .ok (.imul, 1) := by decide +kernel
theorem dX7_which_36 : decode cX7_which 36 = .ok (.if_icmp .ge 39, 3) := by decide +kernel
theorem dX7_which_39 : decode cX7_which 39 = .ok (.aload_n 0, 1) := by decide +kernel
theorem dX7_which_40 : decode cX7_which 40 = .ok (.iload 4, 2) := by decide +kernel
theorem dX7_which_42 : decode cX7_which 42 = .ok (.invokevirtual 169, 3) := by decide +kernel
theorem dX7_which_45 : decode cX7_which 45 = .ok (.ifCond .eq 24, 3) := by decide +kernel
theorem dX7_which_48 : decode cX7_which 48 = .ok (.aload_n 0, 1) := by decide +kernel
theorem dX7_which_49 : decode cX7_which 49 = .ok (.invokevirtual 172, 3) := by decide +kernel
theorem dX7_which_52 : decode cX7_which 52 = .ok (.ifCond .eq 17, 3) := by decide +kernel
theorem dX7_which_55 : decode cX7_which 55 = .ok (.iload_n 2, 1) := by decide +kernel
theorem dX7_which_56 : decode cX7_which 56 = .ok (.ifCond .ne 8, 3) := by decide +kernel
theorem dX7_which_59 : decode cX7_which 59 = .ok (.iload 4, 2) := by decide +kernel
theorem dX7_which_61 : decode cX7_which 61 = .ok (.goto 4, 3) := by decide +kernel
theorem dX7_which_64 : decode cX7_which 64 = .ok (.iload_n 3, 1) := by decide +kernel
theorem dX7_which_65 : decode cX7_which 65 = .ok (.istore_n 3, 1) := by decide +kernel
theorem dX7_which_66 : decode cX7_which 66 = .ok (.iinc 2 1, 3) := by decide +kernel
theorem dX7_which_69 : decode cX7_which 69 = .ok (.iinc 4 1, 3) := by decide +kernel
theorem dX7_which_72 : decode cX7_which 72 = .ok (.goto (-47), 3) := by decide +kernel
theorem dX7_which_75 : decode cX7_which 75 = .ok (.iload_n 1, 1) := by decide +kernel
theorem dX7_which_76 : decode cX7_which 76 = .ok (.ifCond .ne 7, 3) := by decide +kernel
theorem dX7_which_79 : decode cX7_which 79 = .ok (.iload_n 2, 1) := by decide +kernel
theorem dX7_which_80 : decode cX7_which 80 = .ok (.goto 4, 3) := by decide +kernel
theorem dX7_which_83 : decode cX7_which 83 = .ok (.iload_n 3, 1) := by decide +kernel
theorem dX7_which_84 : decode cX7_which 84 = .ok (.ireturn, 1) := by decide +kernel
theorem dX7_ask_0 : decode cX7_ask 0 = .ok (.aload_n 0, 1) := by decide +kernel
theorem dX7_ask_1 : decode cX7_ask 1 = .ok (.iconst 0, 1) := by decide +kernel
theorem dX7_ask_2 : decode cX7_ask 2 = .ok (.putfield 50, 3) := by decide +kernel
theorem dX7_ask_5 : decode cX7_ask 5 = .ok (.iconst 0, 1) := by decide +kernel
theorem dX7_ask_6 : decode cX7_ask 6 = .ok (.istore_n 1, 1) := by decide +kernel
theorem dX7_ask_7 : decode cX7_ask 7 = .ok (.iload_n 1, 1) := by decide +kernel
theorem dX7_ask_8 : decode cX7_ask 8 = .ok (.sipush 288, 3) := by decide +kernel
theorem dX7_ask_11 : decode cX7_ask 11 = .ok (.if_icmp .ge 16, 3) := by decide +kernel
theorem dX7_ask_14 : decode cX7_ask 14 = .ok (.aload_n 0, 1) := by decide +kernel
theorem dX7_ask_15 : decode cX7_ask 15 = .ok (.getfield 47, 3) := by decide +kernel
theorem dX7_ask_18 : decode cX7_ask 18 = .ok (.iload_n 1, 1) := by decide +kernel
theorem dX7_ask_19 : decode cX7_ask 19 = .ok (.iconst 0, 1) := by decide +kernel
theorem dX7_ask_20 : decode cX7_ask 20 = .ok (.iastore, 1) := by decide +kernel
theorem dX7_ask_21 : decode cX7_ask 21 = .ok (.iinc 1 1, 3) := by decide +kernel
theorem dX7_ask_24 : decode cX7_ask 24 = .ok (.goto (-17), 3) := by decide +kernel
theorem dX7_ask_27 : decode cX7_ask 27 = .ok (.iconst 0, 1) := by decide +kernel
theorem dX7_ask_28 : decode cX7_ask 28 = .ok (.istore_n 1, 1) := by decide +kernel
theorem dX7_ask_29 : decode cX7_ask 29 = .ok (.iconst (-1), 1) := by decide +kernel
theorem dX7_ask_30 : decode cX7_ask 30 = .ok (.istore_n 2, 1) := by decide +kernel
theorem dX7_ask_31 : decode cX7_ask 31 = .ok (.iload_n 2, 1) := by decide +kernel
theorem dX7_ask_32 : decode cX7_ask 32 = .ok (.bipush 9, 2) := by decide +kernel
theorem dX7_ask_34 : decode cX7_ask 34 = .ok (.aload_n 0, 1) := by decide +kernel
theorem dX7_ask_35 : decode cX7_ask 35 = .ok (.getfield 7, 3) := by decide +kernel
theorem dX7_ask_38 : decode cX7_ask 38 = .ok (.iconst 2, 1) := by decide +kernel
theorem dX7_ask_39 : decode cX7_ask 39 = .ok (.iaload, 1) := by decide +kernel
end
section
theorem dX7_ask_40 : decode cX7_ask 40 = .ok (.imul, 1) := by decide +kernel
theorem dX7_ask_41 : decode cX7_ask 41 = .ok (.if_icmp .ge 61, 3) := by decide +kernel
theorem dX7_ask_44 : decode cX7_ask 44 = .ok (.aload_n 0, 1) := by decide +kernel
theorem dX7_ask_45 : decode cX7_ask 45 = .ok (.iload_n 2, 1) := by decide +kernel
theorem dX7_ask_46 : decode cX7_ask 46 = .ok (.invokevirtual 169, 3) := by decide +kernel
theorem dX7_ask_49 : decode cX7_ask 49 = .ok (.ifCond .eq 47, 3) := by decide +kernel
theorem dX7_ask_52 : decode cX7_ask 52 = .ok (.aload_n 0, 1) := by decide +kernel
theorem dX7_ask_53 : decode cX7_ask 53 = .ok (.invokevirtual 172, 3) := by decide +kernel
theorem dX7_ask_56 : decode cX7_ask 56 = .ok (.ifCond .eq 40, 3) := by decide +kernel
theorem dX7_ask_59 : decode cX7_ask 59 = .ok (.iinc 1 1, 3) := by decide +kernel
theorem dX7_ask_62 : decode cX7_ask 62 = .ok (.iconst 0, 1) := by decide +kernel
theorem dX7_ask_63 : decode cX7_ask 63 = .ok (.istore_n 3, 1) := by decide +kernel
theorem dX7_ask_64 : decode cX7_ask 64 = .ok (.iload_n 3, 1) := by decide +kernel
theorem dX7_ask_65 : decode cX7_ask 65 = .ok (.bipush 36, 2) := by decide +kernel
theorem dX7_ask_67 : decode cX7_ask 67 = .ok (.if_icmp .ge 29, 3) := by decide +kernel
theorem dX7_ask_70 : decode cX7_ask 70 = .ok (.aload_n 0, 1) := by decide +kernel
theorem dX7_ask_71 : decode cX7_ask 71 = .ok (.getfield 47, 3) := by decide +kernel
theorem dX7_ask_74 : decode cX7_ask 74 = .ok (.bipush 8, 2) := by decide +kernel
theorem dX7_ask_76 : decode cX7_ask 76 = .ok (.iload_n 3, 1) := by decide +kernel
theorem dX7_ask_77 : decode cX7_ask 77 = .ok (.imul, 1) := by decide +kernel
theorem dX7_ask_78 : decode cX7_ask 78 = .ok (.aload_n 0, 1) := by decide +kernel
theorem dX7_ask_79 : decode cX7_ask 79 = .ok (.getfield 32, 3) := by decide +kernel
theorem dX7_ask_82 : decode cX7_ask 82 = .ok (.iload_n 3, 1) := by decide +kernel
theorem dX7_ask_83 : decode cX7_ask 83 = .ok (.iaload, 1) := by decide +kernel
theorem dX7_ask_84 : decode cX7_ask 84 = .ok (.iadd, 1) := by decide +kernel
theorem dX7_ask_85 : decode cX7_ask 85 = .ok (.dup2, 1) := by decide +kernel
theorem dX7_ask_86 : decode cX7_ask 86 = .ok (.iaload, 1) := by decide +kernel
theorem dX7_ask_87 : decode cX7_ask 87 = .ok (.iconst 1, 1) := by decide +kernel
theorem dX7_ask_88 : decode cX7_ask 88 = .ok (.iadd, 1) := by decide +kernel
theorem dX7_ask_89 : decode cX7_ask 89 = .ok (.iastore, 1) := by decide +kernel
theorem dX7_ask_90 : decode cX7_ask 90 = .ok (.iinc 3 1, 3) := by decide +kernel
theorem dX7_ask_93 : decode cX7_ask 93 = .ok (.goto (-29), 3) := by decide +kernel
theorem dX7_ask_96 : decode cX7_ask 96 = .ok (.iinc 2 1, 3) := by decide +kernel
theorem dX7_ask_99 : decode cX7_ask 99 = .ok (.goto (-68), 3) := by decide +kernel
theorem dX7_ask_102 : decode cX7_ask 102 = .ok (.bipush (-9), 2) := by decide +kernel
theorem dX7_ask_104 : decode cX7_ask 104 = .ok (.istore_n 2, 1) := by decide +kernel
theorem dX7_ask_105 : decode cX7_ask 105 = .ok (.bipush 100, 2) := by decide +kernel
theorem dX7_ask_107 : decode cX7_ask 107 = .ok (.istore_n 3, 1) := by decide +kernel
theorem dX7_ask_108 : decode cX7_ask 108 = .ok (.iconst 0, 1) := by decide +kernel
theorem dX7_ask_109 : decode cX7_ask 109 = .ok (.istore 4, 2) := by decide +kernel
theorem dX7_ask_111 : decode cX7_ask 111 = .ok (.iload 4, 2) := by decide +kernel
theorem dX7_ask_113 : decode cX7_ask 113 = .ok (.bipush 36, 2) := by decide +kernel
theorem dX7_ask_115 : decode cX7_ask 115 = .ok (.if_icmp .ge 114, 3) := by decide +kernel
theorem dX7_ask_118 : decode cX7_ask 118 = .ok (.iload_n 1, 1) := by decide +kernel
theorem dX7_ask_119 : decode cX7_ask 119 = .ok (.iconst 1, 1) := by decide +kernel
theorem dX7_ask_120 : decode cX7_ask 120 = .ok (.if_icmp .le 109, 3) := by decide +kernel
theorem dX7_ask_123 : decode cX7_ask 123 = .ok (.aload_n 0, 1) := by decide +kernel
theorem dX7_ask_124 : decode cX7_ask 124 = .ok (.iload 4, 2) := by decide +kernel
theorem dX7_ask_126 : decode cX7_ask 126 = .ok (.bipush 6, 2) := by decide +kernel
theorem dX7_ask_128 : decode cX7_ask 128 = .ok (.irem, 1) := by decide +kernel
theorem dX7_ask_129 : decode cX7_ask 129 = .ok (.iload 4, 2) := by decide +kernel
theorem dX7_ask_131 : decode cX7_ask 131 = .ok (.bipush 6, 2) := by decide +kernel
theorem dX7_ask_133 : decode cX7_ask 133 = .ok (.idiv, 1) := by decide +kernel
theorem dX7_ask_134 : decode cX7_ask 134 = .ok (.invokevirtual 141, 3) := by decide +kernel
theorem dX7_ask_137 : decode cX7_ask 137 = .ok (.ifCond .eq 86, 3) := by decide +kernel
theorem dX7_ask_140 : decode cX7_ask 140 = .ok (.iconst 0, 1) := by decide +kernel
theorem dX7_ask_141 : decode cX7_ask 141 = .ok (.istore 5, 2) := by decide +kernel
theorem dX7_ask_143 : decode cX7_ask 143 = .ok (.iconst 0, 1) := by decide +kernel
theorem dX7_ask_144 : decode cX7_ask 144 = .ok (.istore 6, 2) := by decide +kernel
theorem dX7_ask_146 : decode cX7_ask 146 = .ok (.iload 6, 2) := by decide +kernel
theorem dX7_ask_148 : decode cX7_ask 148 = .ok (.bipush 8, 2) := by decide +kernel
theorem dX7_ask_150 : decode cX7_ask 150 = .ok (.if_icmp .ge 47, 3) := by decide +kernel
theorem dX7_ask_153 : decode cX7_ask 153 = .ok (.aload_n 0, 1) := by decide +kernel
theorem dX7_ask_154 : decode cX7_ask 154 = .ok (.getfield 47, 3) := by decide +kernel
theorem dX7_ask_157 : decode cX7_ask 157 = .ok (.bipush 8, 2) := by decide +kernel
theorem dX7_ask_159 : decode cX7_ask 159 = .ok (.iload 4, 2) := by decide +kernel
theorem dX7_ask_161 : decode cX7_ask 161 = .ok (.imul, 1) := by decide +kernel
theorem dX7_ask_162 : decode cX7_ask 162 = .ok (.iload 6, 2) := by decide +kernel
theorem dX7_ask_164 : decode cX7_ask 164 = .ok (.iadd, 1) := by decide +kernel
theorem dX7_ask_165 : decode cX7_ask 165 = .ok (.iaload, 1) := by decide +kernel
theorem dX7_ask_166 : decode cX7_ask 166 = .ok (.iload 5, 2) := by decide +kernel
theorem dX7_ask_168 : decode cX7_ask 168 = .ok (.if_icmp .le 19, 3) := by decide +kernel
theorem dX7_ask_171 : decode cX7_ask 171 = .ok (.aload_n 0, 1) := by decide +kernel
theorem dX7_ask_172 : decode cX7_ask 172 = .ok (.getfield 47, 3) := by decide +kernel
theorem dX7_ask_175 : decode cX7_ask 175 = .ok (.bipush 8, 2) := by decide +kernel
theorem dX7_ask_177 : decode cX7_ask 177 = .ok (.iload 4, 2) := by decide +kernel
theorem dX7_ask_179 : decode cX7_ask 179 = .ok (.imul, 1) := by decide +kernel
theorem dX7_ask_180 : decode cX7_ask 180 = .ok (.iload 6, 2) := by decide +kernel
theorem dX7_ask_182 : decode cX7_ask 182 = .ok (.iadd, 1) := by decide +kernel
theorem dX7_ask_183 : decode cX7_ask 183 = .ok (.iaload, 1) := by decide +kernel
theorem dX7_ask_184 : decode cX7_ask 184 = .ok (.goto 5, 3) := by decide +kernel
theorem dX7_ask_187 : decode cX7_ask 187 = .ok (.iload 5, 2) := by decide +kernel
theorem dX7_ask_189 : decode cX7_ask 189 = .ok (.istore 5, 2) := by decide +kernel
theorem dX7_ask_191 : decode cX7_ask 191 = .ok (.iinc 6 1, 3) := by decide +kernel
theorem dX7_ask_194 : decode cX7_ask 194 = .ok (.goto (-48), 3) := by decide +kernel
theorem dX7_ask_197 : decode cX7_ask 197 = .ok (.iload 5, 2) := by decide +kernel
theorem dX7_ask_199 : decode cX7_ask 199 = .ok (.iload_n 3, 1) := by decide +kernel
theorem dX7_ask_200 : decode cX7_ask 200 = .ok (.if_icmp .ge 8, 3) := by decide +kernel
theorem dX7_ask_203 : decode cX7_ask 203 = .ok (.iload 4, 2) := by decide +kernel
theorem dX7_ask_205 : decode cX7_ask 205 = .ok (.goto 4, 3) := by decide +kernel
theorem dX7_ask_208 : decode cX7_ask 208 = .ok (.iload_n 2, 1) := by decide +kernel
theorem dX7_ask_209 : decode cX7_ask 209 = .ok (.istore_n 2, 1) := by decide +kernel
theorem dX7_ask_210 : decode cX7_ask 210 = .ok (.iload 5, 2) := by decide +kernel
theorem dX7_ask_212 : decode cX7_ask 212 = .ok (.iload_n 3, 1) := by decide +kernel
theorem dX7_ask_213 : decode cX7_ask 213 = .ok (.if_icmp .ge 8, 3) := by decide +kernel
theorem dX7_ask_216 : decode cX7_ask 216 = .ok (.iload 5, 2) := by decide +kernel
theorem dX7_ask_218 : decode cX7_ask 218 = .ok (.goto 4, 3) := by decide +kernel
theorem dX7_ask_221 : decode cX7_ask 221 = .ok (.iload_n 3, 1) := by decide +kernel
theorem dX7_ask_222 : decode cX7_ask 222 = .ok (.istore_n 3, 1) := by decide +kernel
theorem dX7_ask_223 : decode cX7_ask 223 = .ok (.iinc 4 1, 3) := by decide +kernel
theorem dX7_ask_226 : decode cX7_ask 226 = .ok (.goto (-115), 3) := by decide +kernel
theorem dX7_ask_229 : decode cX7_ask 229 = .ok (.iload_n 2, 1) := by decide +kernel
theorem dX7_ask_230 : decode cX7_ask 230 = .ok (.ireturn, 1) := by decide +kernel
theorem dX7_keep_0 : decode cX7_keep 0 = .ok (.aload_n 0, 1) := by decide +kernel
theorem dX7_keep_1 : decode cX7_keep 1 = .ok (.iconst 0, 1) := by decide +kernel
theorem dX7_keep_2 : decode cX7_keep 2 = .ok (.putfield 50, 3) := by decide +kernel
theorem dX7_keep_5 : decode cX7_keep 5 = .ok (.iload_n 1, 1) := by decide +kernel
theorem dX7_keep_6 : decode cX7_keep 6 = .ok (.iconst 0, 1) := by decide +kernel
theorem dX7_keep_7 : decode cX7_keep 7 = .ok (.iconst 1, 1) := by decide +kernel
theorem dX7_keep_8 : decode cX7_keep 8 = .ok (.invokestatic 57, 3) := by decide +kernel
theorem dX7_keep_11 : decode cX7_keep 11 = .ok (.ifCond .ne 5, 3) := by decide +kernel
theorem dX7_keep_14 : decode cX7_keep 14 = .ok (.iconst (-1), 1) := by decide +kernel
theorem dX7_keep_15 : decode cX7_keep 15 = .ok (.ireturn, 1) := by decide +kernel
theorem dX7_keep_16 : decode cX7_keep 16 = .ok (.iconst 0, 1) := by decide +kernel
theorem dX7_keep_17 : decode cX7_keep 17 = .ok (.istore_n 2, 1) := by decide +kernel
theorem dX7_keep_18 : decode cX7_keep 18 = .ok (.iload_n 2, 1) := by decide +kernel
theorem dX7_keep_19 : decode cX7_keep 19 = .ok (.bipush 99, 2) := by decide +kernel
theorem dX7_keep_21 : decode cX7_keep 21 = .ok (.if_icmp .ge 26, 3) := by decide +kernel
theorem dX7_keep_24 : decode cX7_keep 24 = .ok (.aload_n 0, 1) := by decide +kernel
theorem dX7_keep_25 : decode cX7_keep 25 = .ok (.getfield 19, 3) := by decide +kernel
theorem dX7_keep_28 : decode cX7_keep 28 = .ok (.bipush 99, 2) := by decide +kernel
theorem dX7_keep_30 : decode cX7_keep 30 = .ok (.iload_n 1, 1) := by decide +kernel
theorem dX7_keep_31 : decode cX7_keep 31 = .ok (.imul, 1) := by decide +kernel
theorem dX7_keep_32 : decode cX7_keep 32 = .ok (.iload_n 2, 1) := by decide +kernel
theorem dX7_keep_33 : decode cX7_keep 33 = .ok (.iadd, 1) := by decide +kernel
theorem dX7_keep_34 : decode cX7_keep 34 = .ok (.aload_n 0, 1) := by decide +kernel
theorem dX7_keep_35 : decode cX7_keep 35 = .ok (.getfield 7, 3) := by decide +kernel
theorem dX7_keep_38 : decode cX7_keep 38 = .ok (.iload_n 2, 1) := by decide +kernel
theorem dX7_keep_39 : decode cX7_keep 39 = .ok (.iaload, 1) := by decide +kernel
theorem dX7_keep_40 : decode cX7_keep 40 = .ok (.iastore, 1) := by decide +kernel
theorem dX7_keep_41 : decode cX7_keep 41 = .ok (.iinc 2 1, 3) := by decide +kernel
theorem dX7_keep_44 : decode cX7_keep 44 = .ok (.goto (-26), 3) := by decide +kernel
theorem dX7_keep_47 : decode cX7_keep 47 = .ok (.aload_n 0, 1) := by decide +kernel
theorem dX7_keep_48 : decode cX7_keep 48 = .ok (.getfield 22, 3) := by decide +kernel
theorem dX7_keep_51 : decode cX7_keep 51 = .ok (.iload_n 1, 1) := by decide +kernel
theorem dX7_keep_52 : decode cX7_keep 52 = .ok (.iconst 1, 1) := by decide +kernel
theorem dX7_keep_53 : decode cX7_keep 53 = .ok (.bastore, 1) := by decide +kernel
theorem dX7_keep_54 : decode cX7_keep 54 = .ok (.aload_n 0, 1) := by decide +kernel
theorem dX7_keep_55 : decode cX7_keep 55 = .ok (.getfield 7, 3) := by decide +kernel
theorem dX7_keep_58 : decode cX7_keep 58 = .ok (.iconst 2, 1) := by decide +kernel
theorem dX7_keep_59 : decode cX7_keep 59 = .ok (.iaload, 1) := by decide +kernel
theorem dX7_keep_60 : decode cX7_keep 60 = .ok (.ireturn, 1) := by decide +kernel
theorem dX7_back_0 : decode cX7_back 0 = .ok (.aload_n 0, 1) := by decide +kernel
theorem dX7_back_1 : decode cX7_back 1 = .ok (.iconst 0, 1) := by decide +kernel
theorem dX7_back_2 : decode cX7_back 2 = .ok (.putfield 50, 3) := by decide +kernel
theorem dX7_back_5 : decode cX7_back 5 = .ok (.iload_n 1, 1) := by decide +kernel
theorem dX7_back_6 : decode cX7_back 6 = .ok (.iconst 0, 1) := by decide +kernel
theorem dX7_back_7 : decode cX7_back 7 = .ok (.iconst 1, 1) := by decide +kernel
theorem dX7_back_8 : decode cX7_back 8 = .ok (.invokestatic 57, 3) := by decide +kernel
theorem dX7_back_11 : decode cX7_back 11 = .ok (.ifCond .ne 5, 3) := by decide +kernel
theorem dX7_back_14 : decode cX7_back 14 = .ok (.iconst (-1), 1) := by decide +kernel
theorem dX7_back_15 : decode cX7_back 15 = .ok (.ireturn, 1) := by decide +kernel
theorem dX7_back_16 : decode cX7_back 16 = .ok (.aload_n 0, 1) := by decide +kernel
theorem dX7_back_17 : decode cX7_back 17 = .ok (.getfield 22, 3) := by decide +kernel
theorem dX7_back_20 : decode cX7_back 20 = .ok (.iload_n 1, 1) := by decide +kernel
theorem dX7_back_21 : decode cX7_back 21 = .ok (.baload, 1) := by decide +kernel
theorem dX7_back_22 : decode cX7_back 22 = .ok (.ifCond .ne 6, 3) := by decide +kernel
theorem dX7_back_25 : decode cX7_back 25 = .ok (.bipush (-2), 2) := by decide +kernel
theorem dX7_back_27 : decode cX7_back 27 = .ok (.ireturn, 1) := by decide +kernel
theorem dX7_back_28 : decode cX7_back 28 = .ok (.iconst 0, 1) := by decide +kernel
theorem dX7_back_29 : decode cX7_back 29 = .ok (.istore_n 2, 1) := by decide +kernel
theorem dX7_back_30 : decode cX7_back 30 = .ok (.iload_n 2, 1) := by decide +kernel
theorem dX7_back_31 : decode cX7_back 31 = .ok (.bipush 99, 2) := by decide +kernel
theorem dX7_back_33 : decode cX7_back 33 = .ok (.if_icmp .ge 26, 3) := by decide +kernel
theorem dX7_back_36 : decode cX7_back 36 = .ok (.aload_n 0, 1) := by decide +kernel
theorem dX7_back_37 : decode cX7_back 37 = .ok (.getfield 7, 3) := by decide +kernel
theorem dX7_back_40 : decode cX7_back 40 = .ok (.iload_n 2, 1) := by decide +kernel
theorem dX7_back_41 : decode cX7_back 41 = .ok (.aload_n 0, 1) := by decide +kernel
theorem dX7_back_42 : decode cX7_back 42 = .ok (.getfield 19, 3) := by decide +kernel
theorem dX7_back_45 : decode cX7_back 45 = .ok (.bipush 99, 2) := by decide +kernel
theorem dX7_back_47 : decode cX7_back 47 = .ok (.iload_n 1, 1) := by decide +kernel
theorem dX7_back_48 : decode cX7_back 48 = .ok (.imul, 1) := by decide +kernel
theorem dX7_back_49 : decode cX7_back 49 = .ok (.iload_n 2, 1) := by decide +kernel
theorem dX7_back_50 : decode cX7_back 50 = .ok (.iadd, 1) := by decide +kernel
theorem dX7_back_51 : decode cX7_back 51 = .ok (.iaload, 1) := by decide +kernel
theorem dX7_back_52 : decode cX7_back 52 = .ok (.iastore, 1) := by decide +kernel
theorem dX7_back_53 : decode cX7_back 53 = .ok (.iinc 2 1, 3) := by decide +kernel
theorem dX7_back_56 : decode cX7_back 56 = .ok (.goto (-26), 3) := by decide +kernel
theorem dX7_back_59 : decode cX7_back 59 = .ok (.aload_n 0, 1) := by decide +kernel
theorem dX7_back_60 : decode cX7_back 60 = .ok (.iconst 0, 1) := by decide +kernel
theorem dX7_back_61 : decode cX7_back 61 = .ok (.putfield 125, 3) := by decide +kernel
theorem dX7_back_64 : decode cX7_back 64 = .ok (.aload_n 0, 1) := by decide +kernel
theorem dX7_back_65 : decode cX7_back 65 = .ok (.getfield 7, 3) := by decide +kernel
theorem dX7_back_68 : decode cX7_back 68 = .ok (.iconst 2, 1) := by decide +kernel
theorem dX7_back_69 : decode cX7_back 69 = .ok (.iaload, 1) := by decide +kernel
theorem dX7_back_70 : decode cX7_back 70 = .ok (.ireturn, 1) := by decide +kernel
theorem dX7_cellsOfAll_0 : decode cX7_cellsOfAll 0 = .ok (.iconst 0, 1) := by decide +kernel
theorem dX7_cellsOfAll_1 : decode cX7_cellsOfAll 1 = .ok (.istore_n 1, 1) := by decide +kernel
theorem dX7_cellsOfAll_2 : decode cX7_cellsOfAll 2 = .ok (.iconst 0, 1) := by decide +kernel
theorem dX7_cellsOfAll_3 : decode cX7_cellsOfAll 3 = .ok (.istore_n 2, 1) := by decide +kernel
theorem dX7_cellsOfAll_4 : decode cX7_cellsOfAll 4 = .ok (.iload_n 2, 1) := by decide +kernel
theorem dX7_cellsOfAll_5 : decode cX7_cellsOfAll 5 = .ok (.aload_n 0, 1) := by decide +kernel
theorem dX7_cellsOfAll_6 : decode cX7_cellsOfAll 6 = .ok (.getfield 7, 3) := by decide +kernel
theorem dX7_cellsOfAll_9 : decode cX7_cellsOfAll 9 = .ok (.iconst 2, 1) := by decide +kernel
theorem dX7_cellsOfAll_10 : decode cX7_cellsOfAll 10 = .ok (.iaload, 1) := by decide +kernel
theorem dX7_cellsOfAll_11 : decode cX7_cellsOfAll 11 = .ok (.if_icmp .ge 17, 3) := by decide +kernel
theorem dX7_cellsOfAll_14 : decode cX7_cellsOfAll 14 = .ok (.iload_n 1, 1) := by decide +kernel
theorem dX7_cellsOfAll_15 : decode cX7_cellsOfAll 15 = .ok (.aload_n 0, 1) := by decide +kernel
theorem dX7_cellsOfAll_16 : decode cX7_cellsOfAll 16 = .ok (.iload_n 2, 1) := by decide +kernel
theorem dX7_cellsOfAll_17 : decode cX7_cellsOfAll 17 = .ok (.invokevirtual 155, 3) := by decide +kernel
theorem dX7_cellsOfAll_20 : decode cX7_cellsOfAll 20 = .ok (.iadd, 1) := by decide +kernel
theorem dX7_cellsOfAll_21 : decode cX7_cellsOfAll 21 = .ok (.istore_n 1, 1) := by decide +kernel
theorem dX7_cellsOfAll_22 : decode cX7_cellsOfAll 22 = .ok (.iinc 2 1, 3) := by decide +kernel
theorem dX7_cellsOfAll_25 : decode cX7_cellsOfAll 25 = .ok (.goto (-21), 3) := by decide +kernel
theorem dX7_cellsOfAll_28 : decode cX7_cellsOfAll 28 = .ok (.iload_n 1, 1) := by decide +kernel
theorem dX7_cellsOfAll_29 : decode cX7_cellsOfAll 29 = .ok (.ireturn, 1) := by decide +kernel
theorem dX7_slipped_0 : decode cX7_slipped 0 = .ok (.iconst 0, 1) := by decide +kernel
theorem dX7_slipped_1 : decode cX7_slipped 1 = .ok (.istore_n 1, 1) := by decide +kernel
theorem dX7_slipped_2 : decode cX7_slipped 2 = .ok (.iconst 0, 1) := by decide +kernel
theorem dX7_slipped_3 : decode cX7_slipped 3 = .ok (.istore_n 2, 1) := by decide +kernel
theorem dX7_slipped_4 : decode cX7_slipped 4 = .ok (.iload_n 2, 1) := by decide +kernel
theorem dX7_slipped_5 : decode cX7_slipped 5 = .ok (.aload_n 0, 1) := by decide +kernel
theorem dX7_slipped_6 : decode cX7_slipped 6 = .ok (.getfield 7, 3) := by decide +kernel
theorem dX7_slipped_9 : decode cX7_slipped 9 = .ok (.iconst 2, 1) := by decide +kernel
theorem dX7_slipped_10 : decode cX7_slipped 10 = .ok (.iaload, 1) := by decide +kernel
theorem dX7_slipped_11 : decode cX7_slipped 11 = .ok (.if_icmp .ge 41, 3) := by decide +kernel
theorem dX7_slipped_14 : decode cX7_slipped 14 = .ok (.iload_n 1, 1) := by decide +kernel
theorem dX7_slipped_15 : decode cX7_slipped 15 = .ok (.aload_n 0, 1) := by decide +kernel
theorem dX7_slipped_16 : decode cX7_slipped 16 = .ok (.getfield 7, 3) := by decide +kernel
theorem dX7_slipped_19 : decode cX7_slipped 19 = .ok (.bipush 87, 2) := by decide +kernel
theorem dX7_slipped_21 : decode cX7_slipped 21 = .ok (.iload_n 2, 1) := by decide +kernel
theorem dX7_slipped_22 : decode cX7_slipped 22 = .ok (.iadd, 1) := by decide +kernel
theorem dX7_slipped_23 : decode cX7_slipped 23 = .ok (.iaload, 1) := by decide +kernel
theorem dX7_slipped_24 : decode cX7_slipped 24 = .ok (.ifCond .ne 19, 3) := by decide +kernel
theorem dX7_slipped_27 : decode cX7_slipped 27 = .ok (.aload_n 0, 1) := by decide +kernel
theorem dX7_slipped_28 : decode cX7_slipped 28 = .ok (.getfield 7, 3) := by decide +kernel
theorem dX7_slipped_31 : decode cX7_slipped 31 = .ok (.bipush 93, 2) := by decide +kernel
theorem dX7_slipped_33 : decode cX7_slipped 33 = .ok (.iload_n 2, 1) := by decide +kernel
theorem dX7_slipped_34 : decode cX7_slipped 34 = .ok (.iadd, 1) := by decide +kernel
theorem dX7_slipped_35 : decode cX7_slipped 35 = .ok (.iaload, 1) := by decide +kernel
theorem dX7_slipped_36 : decode cX7_slipped 36 = .ok (.ifCond .ne 7, 3) := by decide +kernel
theorem dX7_slipped_39 : decode cX7_slipped 39 = .ok (.iconst 0, 1) := by decide +kernel
theorem dX7_slipped_40 : decode cX7_slipped 40 = .ok (.goto 4, 3) := by decide +kernel
theorem dX7_slipped_43 : decode cX7_slipped 43 = .ok (.iconst 1, 1) := by decide +kernel
theorem dX7_slipped_44 : decode cX7_slipped 44 = .ok (.iadd, 1) := by decide +kernel
theorem dX7_slipped_45 : decode cX7_slipped 45 = .ok (.istore_n 1, 1) := by decide +kernel
theorem dX7_slipped_46 : decode cX7_slipped 46 = .ok (.iinc 2 1, 3) := by decide +kernel
theorem dX7_slipped_49 : decode cX7_slipped 49 = .ok (.goto (-45), 3) := by decide +kernel
theorem dX7_slipped_52 : decode cX7_slipped 52 = .ok (.iload_n 1, 1) := by decide +kernel
theorem dX7_slipped_53 : decode cX7_slipped 53 = .ok (.ireturn, 1) := by decide +kernel
theorem dX7_count_0 : decode cX7_count 0 = .ok (.aload_n 0, 1) := by decide +kernel
theorem dX7_count_1 : decode cX7_count 1 = .ok (.iconst 0, 1) := by decide +kernel
theorem dX7_count_2 : decode cX7_count 2 = .ok (.putfield 50, 3) := by decide +kernel
theorem dX7_count_5 : decode cX7_count 5 = .ok (.iload_n 1, 1) := by decide +kernel
theorem dX7_count_6 : decode cX7_count 6 = .ok (.tableswitch 87 0 8 #[50, 50, 50, 57, 62, 67, 72, 77, 82], 50) := by decide +kernel
theorem dX7_count_56 : decode cX7_count 56 = .ok (.aload_n 0, 1) := by decide +kernel
theorem dX7_count_57 : decode cX7_count 57 = .ok (.getfield 7, 3) := by decide +kernel
theorem dX7_count_60 : decode cX7_count 60 = .ok (.iload_n 1, 1) := by decide +kernel
theorem dX7_count_61 : decode cX7_count 61 = .ok (.iaload, 1) := by decide +kernel
theorem dX7_count_62 : decode cX7_count 62 = .ok (.ireturn, 1) := by decide +kernel
theorem dX7_count_63 : decode cX7_count 63 = .ok (.aload_n 0, 1) := by decide +kernel
theorem dX7_count_64 : decode cX7_count 64 = .ok (.invokevirtual 119, 3) := by decide +kernel
theorem dX7_count_67 : decode cX7_count 67 = .ok (.ireturn, 1) := by decide +kernel
theorem dX7_count_68 : decode cX7_count 68 = .ok (.aload_n 0, 1) := by decide +kernel
theorem dX7_count_69 : decode cX7_count 69 = .ok (.invokevirtual 175, 3) := by decide +kernel
theorem dX7_count_72 : decode cX7_count 72 = .ok (.ireturn, 1) := by decide +kernel
theorem dX7_count_73 : decode cX7_count 73 = .ok (.aload_n 0, 1) := by decide +kernel
theorem dX7_count_74 : decode cX7_count 74 = .ok (.invokevirtual 178, 3) := by decide +kernel
theorem dX7_count_77 : decode cX7_count 77 = .ok (.ireturn, 1) := by decide +kernel
theorem dX7_count_78 : decode cX7_count 78 = .ok (.aload_n 0, 1) := by decide +kernel
theorem dX7_count_79 : decode cX7_count 79 = .ok (.getfield 105, 3) := by decide +kernel
theorem dX7_count_82 : decode cX7_count 82 = .ok (.ireturn, 1) := by decide +kernel
theorem dX7_count_83 : decode cX7_count 83 = .ok (.aload_n 0, 1) := by decide +kernel
theorem dX7_count_84 : decode cX7_count 84 = .ok (.getfield 54, 3) := by decide +kernel
theorem dX7_count_87 : decode cX7_count 87 = .ok (.ireturn, 1) := by decide +kernel
theorem dX7_count_88 : decode cX7_count 88 = .ok (.aload_n 0, 1) := by decide +kernel
theorem dX7_count_89 : decode cX7_count 89 = .ok (.getfield 125, 3) := by decide +kernel
theorem dX7_count_92 : decode cX7_count 92 = .ok (.ireturn, 1) := by decide +kernel
theorem dX7_count_93 : decode cX7_count 93 = .ok (.iconst (-1), 1) := by decide +kernel
theorem dX7_count_94 : decode cX7_count 94 = .ok (.ireturn, 1) := by decide +kernel
theorem dJ6_bitCount_0f7a4_0 : decode cJ6_bitCount_0f7a4 0 = .ok (.iload_n 0, 1) := by decide +kernel
theorem dJ6_bitCount_0f7a4_1 : decode cJ6_bitCount_0f7a4 1 = .ok (.iload_n 0, 1) := by decide +kernel
theorem dJ6_bitCount_0f7a4_2 : decode cJ6_bitCount_0f7a4 2 = .ok (.iconst 1, 1) := by decide +kernel
theorem dJ6_bitCount_0f7a4_3 : decode cJ6_bitCount_0f7a4 3 = .ok (.iushr, 1) := by decide +kernel
theorem dJ6_bitCount_0f7a4_4 : decode cJ6_bitCount_0f7a4 4 = .ok (.ldc_w 265, 3) := by decide +kernel
theorem dJ6_bitCount_0f7a4_7 : decode cJ6_bitCount_0f7a4 7 = .ok (.iand, 1) := by decide +kernel
theorem dJ6_bitCount_0f7a4_8 : decode cJ6_bitCount_0f7a4 8 = .ok (.isub, 1) := by decide +kernel
theorem dJ6_bitCount_0f7a4_9 : decode cJ6_bitCount_0f7a4 9 = .ok (.istore_n 0, 1) := by decide +kernel
theorem dJ6_bitCount_0f7a4_10 : decode cJ6_bitCount_0f7a4 10 = .ok (.iload_n 0, 1) := by decide +kernel
theorem dJ6_bitCount_0f7a4_11 : decode cJ6_bitCount_0f7a4 11 = .ok (.ldc_w 266, 3) := by decide +kernel
theorem dJ6_bitCount_0f7a4_14 : decode cJ6_bitCount_0f7a4 14 = .ok (.iand, 1) := by decide +kernel
theorem dJ6_bitCount_0f7a4_15 : decode cJ6_bitCount_0f7a4 15 = .ok (.iload_n 0, 1) := by decide +kernel
theorem dJ6_bitCount_0f7a4_16 : decode cJ6_bitCount_0f7a4 16 = .ok (.iconst 2, 1) := by decide +kernel
theorem dJ6_bitCount_0f7a4_17 : decode cJ6_bitCount_0f7a4 17 = .ok (.iushr, 1) := by decide +kernel
theorem dJ6_bitCount_0f7a4_18 : decode cJ6_bitCount_0f7a4 18 = .ok (.ldc_w 266, 3) := by decide +kernel
theorem dJ6_bitCount_0f7a4_21 : decode cJ6_bitCount_0f7a4 21 = .ok (.iand, 1) := by decide +kernel
theorem dJ6_bitCount_0f7a4_22 : decode cJ6_bitCount_0f7a4 22 = .ok (.iadd, 1) := by decide +kernel
theorem dJ6_bitCount_0f7a4_23 : decode cJ6_bitCount_0f7a4 23 = .ok (.istore_n 0, 1) := by decide +kernel
theorem dJ6_bitCount_0f7a4_24 : decode cJ6_bitCount_0f7a4 24 = .ok (.iload_n 0, 1) := by decide +kernel
theorem dJ6_bitCount_0f7a4_25 : decode cJ6_bitCount_0f7a4 25 = .ok (.iload_n 0, 1) := by decide +kernel
theorem dJ6_bitCount_0f7a4_26 : decode cJ6_bitCount_0f7a4 26 = .ok (.iconst 4, 1) := by decide +kernel
theorem dJ6_bitCount_0f7a4_27 : decode cJ6_bitCount_0f7a4 27 = .ok (.iushr, 1) := by decide +kernel
theorem dJ6_bitCount_0f7a4_28 : decode cJ6_bitCount_0f7a4 28 = .ok (.iadd, 1) := by decide +kernel
theorem dJ6_bitCount_0f7a4_29 : decode cJ6_bitCount_0f7a4 29 = .ok (.ldc_w 267, 3) := by decide +kernel
theorem dJ6_bitCount_0f7a4_32 : decode cJ6_bitCount_0f7a4 32 = .ok (.iand, 1) := by decide +kernel
theorem dJ6_bitCount_0f7a4_33 : decode cJ6_bitCount_0f7a4 33 = .ok (.istore_n 0, 1) := by decide +kernel
theorem dJ6_bitCount_0f7a4_34 : decode cJ6_bitCount_0f7a4 34 = .ok (.iload_n 0, 1) := by decide +kernel
theorem dJ6_bitCount_0f7a4_35 : decode cJ6_bitCount_0f7a4 35 = .ok (.iload_n 0, 1) := by decide +kernel
theorem dJ6_bitCount_0f7a4_36 : decode cJ6_bitCount_0f7a4 36 = .ok (.bipush 8, 2) := by decide +kernel
theorem dJ6_bitCount_0f7a4_38 : decode cJ6_bitCount_0f7a4 38 = .ok (.iushr, 1) := by decide +kernel
theorem dJ6_bitCount_0f7a4_39 : decode cJ6_bitCount_0f7a4 39 = .ok (.iadd, 1) := by decide +kernel
theorem dJ6_bitCount_0f7a4_40 : decode cJ6_bitCount_0f7a4 40 = .ok (.istore_n 0, 1) := by decide +kernel
theorem dJ6_bitCount_0f7a4_41 : decode cJ6_bitCount_0f7a4 41 = .ok (.iload_n 0, 1) := by decide +kernel
theorem dJ6_bitCount_0f7a4_42 : decode cJ6_bitCount_0f7a4 42 = .ok (.iload_n 0, 1) := by decide +kernel
theorem dJ6_bitCount_0f7a4_43 : decode cJ6_bitCount_0f7a4 43 = .ok (.bipush 16, 2) := by decide +kernel
theorem dJ6_bitCount_0f7a4_45 : decode cJ6_bitCount_0f7a4 45 = .ok (.iushr, 1) := by decide +kernel
theorem dJ6_bitCount_0f7a4_46 : decode cJ6_bitCount_0f7a4 46 = .ok (.iadd, 1) := by decide +kernel
theorem dJ6_bitCount_0f7a4_47 : decode cJ6_bitCount_0f7a4 47 = .ok (.istore_n 0, 1) := by decide +kernel
theorem dJ6_bitCount_0f7a4_48 : decode cJ6_bitCount_0f7a4 48 = .ok (.iload_n 0, 1) := by decide +kernel
theorem dJ6_bitCount_0f7a4_49 : decode cJ6_bitCount_0f7a4 49 = .ok (.bipush 63, 2) := by decide +kernel
theorem dJ6_bitCount_0f7a4_51 : decode cJ6_bitCount_0f7a4 51 = .ok (.iand, 1) := by decide +kernel
theorem dJ6_bitCount_0f7a4_52 : decode cJ6_bitCount_0f7a4 52 = .ok (.ireturn, 1) := by decide +kernel
theorem dJ13_bitCount_95d88_0 : decode cJ13_bitCount_95d88 0 = .ok (.lload_n 0, 1) := by decide +kernel
theorem dJ13_bitCount_95d88_1 : decode cJ13_bitCount_95d88 1 = .ok (.lload_n 0, 1) := by decide +kernel
theorem dJ13_bitCount_95d88_2 : decode cJ13_bitCount_95d88 2 = .ok (.iconst 1, 1) := by decide +kernel
theorem dJ13_bitCount_95d88_3 : decode cJ13_bitCount_95d88 3 = .ok (.lushr, 1) := by decide +kernel
theorem dJ13_bitCount_95d88_4 : decode cJ13_bitCount_95d88 4 = .ok (.ldc2_w 314, 3) := by decide +kernel
theorem dJ13_bitCount_95d88_7 : decode cJ13_bitCount_95d88 7 = .ok (.land, 1) := by decide +kernel
theorem dJ13_bitCount_95d88_8 : decode cJ13_bitCount_95d88 8 = .ok (.lsub, 1) := by decide +kernel
theorem dJ13_bitCount_95d88_9 : decode cJ13_bitCount_95d88 9 = .ok (.lstore_n 0, 1) := by decide +kernel
theorem dJ13_bitCount_95d88_10 : decode cJ13_bitCount_95d88 10 = .ok (.lload_n 0, 1) := by decide +kernel
theorem dJ13_bitCount_95d88_11 : decode cJ13_bitCount_95d88 11 = .ok (.ldc2_w 316, 3) := by decide +kernel
theorem dJ13_bitCount_95d88_14 : decode cJ13_bitCount_95d88 14 = .ok (.land, 1) := by decide +kernel
theorem dJ13_bitCount_95d88_15 : decode cJ13_bitCount_95d88 15 = .ok (.lload_n 0, 1) := by decide +kernel
theorem dJ13_bitCount_95d88_16 : decode cJ13_bitCount_95d88 16 = .ok (.iconst 2, 1) := by decide +kernel
theorem dJ13_bitCount_95d88_17 : decode cJ13_bitCount_95d88 17 = .ok (.lushr, 1) := by decide +kernel
theorem dJ13_bitCount_95d88_18 : decode cJ13_bitCount_95d88 18 = .ok (.ldc2_w 316, 3) := by decide +kernel
theorem dJ13_bitCount_95d88_21 : decode cJ13_bitCount_95d88 21 = .ok (.land, 1) := by decide +kernel
theorem dJ13_bitCount_95d88_22 : decode cJ13_bitCount_95d88 22 = .ok (.ladd, 1) := by decide +kernel
theorem dJ13_bitCount_95d88_23 : decode cJ13_bitCount_95d88 23 = .ok (.lstore_n 0, 1) := by decide +kernel
theorem dJ13_bitCount_95d88_24 : decode cJ13_bitCount_95d88 24 = .ok (.lload_n 0, 1) := by decide +kernel
theorem dJ13_bitCount_95d88_25 : decode cJ13_bitCount_95d88 25 = .ok (.lload_n 0, 1) := by decide +kernel
theorem dJ13_bitCount_95d88_26 : decode cJ13_bitCount_95d88 26 = .ok (.iconst 4, 1) := by decide +kernel
theorem dJ13_bitCount_95d88_27 : decode cJ13_bitCount_95d88 27 = .ok (.lushr, 1) := by decide +kernel
theorem dJ13_bitCount_95d88_28 : decode cJ13_bitCount_95d88 28 = .ok (.ladd, 1) := by decide +kernel
theorem dJ13_bitCount_95d88_29 : decode cJ13_bitCount_95d88 29 = .ok (.ldc2_w 318, 3) := by decide +kernel
theorem dJ13_bitCount_95d88_32 : decode cJ13_bitCount_95d88 32 = .ok (.land, 1) := by decide +kernel
theorem dJ13_bitCount_95d88_33 : decode cJ13_bitCount_95d88 33 = .ok (.lstore_n 0, 1) := by decide +kernel
theorem dJ13_bitCount_95d88_34 : decode cJ13_bitCount_95d88 34 = .ok (.lload_n 0, 1) := by decide +kernel
theorem dJ13_bitCount_95d88_35 : decode cJ13_bitCount_95d88 35 = .ok (.lload_n 0, 1) := by decide +kernel
theorem dJ13_bitCount_95d88_36 : decode cJ13_bitCount_95d88 36 = .ok (.bipush 8, 2) := by decide +kernel
theorem dJ13_bitCount_95d88_38 : decode cJ13_bitCount_95d88 38 = .ok (.lushr, 1) := by decide +kernel
theorem dJ13_bitCount_95d88_39 : decode cJ13_bitCount_95d88 39 = .ok (.ladd, 1) := by decide +kernel
theorem dJ13_bitCount_95d88_40 : decode cJ13_bitCount_95d88 40 = .ok (.lstore_n 0, 1) := by decide +kernel
theorem dJ13_bitCount_95d88_41 : decode cJ13_bitCount_95d88 41 = .ok (.lload_n 0, 1) := by decide +kernel
theorem dJ13_bitCount_95d88_42 : decode cJ13_bitCount_95d88 42 = .ok (.lload_n 0, 1) := by decide +kernel
theorem dJ13_bitCount_95d88_43 : decode cJ13_bitCount_95d88 43 = .ok (.bipush 16, 2) := by decide +kernel
theorem dJ13_bitCount_95d88_45 : decode cJ13_bitCount_95d88 45 = .ok (.lushr, 1) := by decide +kernel
theorem dJ13_bitCount_95d88_46 : decode cJ13_bitCount_95d88 46 = .ok (.ladd, 1) := by decide +kernel
theorem dJ13_bitCount_95d88_47 : decode cJ13_bitCount_95d88 47 = .ok (.lstore_n 0, 1) := by decide +kernel
theorem dJ13_bitCount_95d88_48 : decode cJ13_bitCount_95d88 48 = .ok (.lload_n 0, 1) := by decide +kernel
theorem dJ13_bitCount_95d88_49 : decode cJ13_bitCount_95d88 49 = .ok (.lload_n 0, 1) := by decide +kernel
theorem dJ13_bitCount_95d88_50 : decode cJ13_bitCount_95d88 50 = .ok (.bipush 32, 2) := by decide +kernel
theorem dJ13_bitCount_95d88_52 : decode cJ13_bitCount_95d88 52 = .ok (.lushr, 1) := by decide +kernel
theorem dJ13_bitCount_95d88_53 : decode cJ13_bitCount_95d88 53 = .ok (.ladd, 1) := by decide +kernel
theorem dJ13_bitCount_95d88_54 : decode cJ13_bitCount_95d88 54 = .ok (.lstore_n 0, 1) := by decide +kernel
theorem dJ13_bitCount_95d88_55 : decode cJ13_bitCount_95d88 55 = .ok (.lload_n 0, 1) := by decide +kernel
theorem dJ13_bitCount_95d88_56 : decode cJ13_bitCount_95d88 56 = .ok (.l2i, 1) := by decide +kernel
theorem dJ13_bitCount_95d88_57 : decode cJ13_bitCount_95d88 57 = .ok (.bipush 127, 2) := by decide +kernel
theorem dJ13_bitCount_95d88_59 : decode cJ13_bitCount_95d88 59 = .ok (.iand, 1) := by decide +kernel
theorem dJ13_bitCount_95d88_60 : decode cJ13_bitCount_95d88 60 = .ok (.ireturn, 1) := by decide +kernel
theorem dJ9_max_7cf53_0 : decode cJ9_max_7cf53 0 = .ok (.iload_n 0, 1) := by decide +kernel
theorem dJ9_max_7cf53_1 : decode cJ9_max_7cf53 1 = .ok (.iload_n 1, 1) := by decide +kernel
theorem dJ9_max_7cf53_2 : decode cJ9_max_7cf53 2 = .ok (.if_icmp .lt 7, 3) := by decide +kernel
theorem dJ9_max_7cf53_5 : decode cJ9_max_7cf53 5 = .ok (.iload_n 0, 1) := by decide +kernel
theorem dJ9_max_7cf53_6 : decode cJ9_max_7cf53 6 = .ok (.goto 4, 3) := by decide +kernel
theorem dJ9_max_7cf53_9 : decode cJ9_max_7cf53 9 = .ok (.iload_n 1, 1) := by decide +kernel
theorem dJ9_max_7cf53_10 : decode cJ9_max_7cf53 10 = .ok (.ireturn, 1) := by decide +kernel
theorem dJ9_min_7cf53_0 : decode cJ9_min_7cf53 0 = .ok (.iload_n 0, 1) := by decide +kernel
theorem dJ9_min_7cf53_1 : decode cJ9_min_7cf53 1 = .ok (.iload_n 1, 1) := by decide +kernel
theorem dJ9_min_7cf53_2 : decode cJ9_min_7cf53 2 = .ok (.if_icmp .gt 7, 3) := by decide +kernel
theorem dJ9_min_7cf53_5 : decode cJ9_min_7cf53 5 = .ok (.iload_n 0, 1) := by decide +kernel
theorem dJ9_min_7cf53_6 : decode cJ9_min_7cf53 6 = .ok (.goto 4, 3) := by decide +kernel
theorem dJ9_min_7cf53_9 : decode cJ9_min_7cf53 9 = .ok (.iload_n 1, 1) := by decide +kernel
theorem dJ9_min_7cf53_10 : decode cJ9_min_7cf53 10 = .ok (.ireturn, 1) := by decide +kernel
theorem dL_law_0 : decode cL_law 0 = .ok (.new 7, 3) := by decide +kernel
theorem dL_law_3 : decode cL_law 3 = .ok (.dup, 1) := by decide +kernel
theorem dL_law_4 : decode cL_law 4 = .ok (.invokespecial 9, 3) := by decide +kernel
theorem dL_law_7 : decode cL_law 7 = .ok (.astore_n 1, 1) := by decide +kernel
theorem dL_law_8 : decode cL_law 8 = .ok (.new 10, 3) := by decide +kernel
theorem dL_law_11 : decode cL_law 11 = .ok (.dup, 1) := by decide +kernel
theorem dL_law_12 : decode cL_law 12 = .ok (.invokespecial 12, 3) := by decide +kernel
theorem dL_law_15 : decode cL_law 15 = .ok (.astore_n 2, 1) := by decide +kernel
theorem dL_law_16 : decode cL_law 16 = .ok (.iconst 0, 1) := by decide +kernel
theorem dL_law_17 : decode cL_law 17 = .ok (.istore_n 3, 1) := by decide +kernel
theorem dL_law_18 : decode cL_law 18 = .ok (.iload_n 3, 1) := by decide +kernel
theorem dL_law_19 : decode cL_law 19 = .ok (.aload_n 0, 1) := by decide +kernel
theorem dL_law_20 : decode cL_law 20 = .ok (.arraylength, 1) := by decide +kernel
theorem dL_law_21 : decode cL_law 21 = .ok (.iconst 4, 1) := by decide +kernel
theorem dL_law_22 : decode cL_law 22 = .ok (.isub, 1) := by decide +kernel
theorem dL_law_23 : decode cL_law 23 = .ok (.if_icmp .gt 655, 3) := by decide +kernel
theorem dL_law_26 : decode cL_law 26 = .ok (.aload_n 0, 1) := by decide +kernel
theorem dL_law_27 : decode cL_law 27 = .ok (.iload_n 3, 1) := by decide +kernel
theorem dL_law_28 : decode cL_law 28 = .ok (.iaload, 1) := by decide +kernel
theorem dL_law_29 : decode cL_law 29 = .ok (.bipush 31, 2) := by decide +kernel
theorem dL_law_31 : decode cL_law 31 = .ok (.iand, 1) := by decide +kernel
theorem dL_law_32 : decode cL_law 32 = .ok (.tableswitch 640 0 21 #[104, 127, 140, 153, 166, 209, 252, 285, 298, 341, 374, 397, 420, 443, 456, 479, 522, 535, 558, 571, 594, 617], 104) := by decide +kernel
theorem dL_law_136 : decode cL_law 136 = .ok (.aload_n 1, 1) := by decide +kernel
theorem dL_law_137 : decode cL_law 137 = .ok (.aload_n 0, 1) := by decide +kernel
theorem dL_law_138 : decode cL_law 138 = .ok (.iload_n 3, 1) := by decide +kernel
theorem dL_law_139 : decode cL_law 139 = .ok (.iconst 1, 1) := by decide +kernel
theorem dL_law_140 : decode cL_law 140 = .ok (.iadd, 1) := by decide +kernel
theorem dL_law_141 : decode cL_law 141 = .ok (.iaload, 1) := by decide +kernel
theorem dL_law_142 : decode cL_law 142 = .ok (.invokevirtual 13, 3) := by decide +kernel
theorem dL_law_145 : decode cL_law 145 = .ok (.aload_n 2, 1) := by decide +kernel
theorem dL_law_146 : decode cL_law 146 = .ok (.aload_n 0, 1) := by decide +kernel
theorem dL_law_147 : decode cL_law 147 = .ok (.iload_n 3, 1) := by decide +kernel
theorem dL_law_148 : decode cL_law 148 = .ok (.iconst 1, 1) := by decide +kernel
theorem dL_law_149 : decode cL_law 149 = .ok (.iadd, 1) := by decide +kernel
theorem dL_law_150 : decode cL_law 150 = .ok (.iaload, 1) := by decide +kernel
theorem dL_law_151 : decode cL_law 151 = .ok (.invokevirtual 17, 3) := by decide +kernel
theorem dL_law_154 : decode cL_law 154 = .ok (.if_icmp .eq 518, 3) := by decide +kernel
theorem dL_law_157 : decode cL_law 157 = .ok (.iconst 0, 1) := by decide +kernel
theorem dL_law_158 : decode cL_law 158 = .ok (.ireturn, 1) := by decide +kernel
theorem dL_law_159 : decode cL_law 159 = .ok (.aload_n 1, 1) := by decide +kernel
theorem dL_law_160 : decode cL_law 160 = .ok (.invokevirtual 18, 3) := by decide +kernel
theorem dL_law_163 : decode cL_law 163 = .ok (.aload_n 2, 1) := by decide +kernel
theorem dL_law_164 : decode cL_law 164 = .ok (.invokevirtual 22, 3) := by decide +kernel
theorem dL_law_167 : decode cL_law 167 = .ok (.if_icmp .eq 505, 3) := by decide +kernel
theorem dL_law_170 : decode cL_law 170 = .ok (.iconst 0, 1) := by decide +kernel
theorem dL_law_171 : decode cL_law 171 = .ok (.ireturn, 1) := by decide +kernel
theorem dL_law_172 : decode cL_law 172 = .ok (.aload_n 1, 1) := by decide +kernel
theorem dL_law_173 : decode cL_law 173 = .ok (.invokevirtual 23, 3) := by decide +kernel
theorem dL_law_176 : decode cL_law 176 = .ok (.aload_n 2, 1) := by decide +kernel
theorem dL_law_177 : decode cL_law 177 = .ok (.invokevirtual 26, 3) := by decide +kernel
theorem dL_law_180 : decode cL_law 180 = .ok (.if_icmp .eq 492, 3) := by decide +kernel
theorem dL_law_183 : decode cL_law 183 = .ok (.iconst 0, 1) := by decide +kernel
theorem dL_law_184 : decode cL_law 184 = .ok (.ireturn, 1) := by decide +kernel
theorem dL_law_185 : decode cL_law 185 = .ok (.aload_n 1, 1) := by decide +kernel
theorem dL_law_186 : decode cL_law 186 = .ok (.invokevirtual 27, 3) := by decide +kernel
theorem dL_law_189 : decode cL_law 189 = .ok (.aload_n 2, 1) := by decide +kernel
theorem dL_law_190 : decode cL_law 190 = .ok (.invokevirtual 30, 3) := by decide +kernel
theorem dL_law_193 : decode cL_law 193 = .ok (.if_icmp .eq 479, 3) := by decide +kernel
theorem dL_law_196 : decode cL_law 196 = .ok (.iconst 0, 1) := by decide +kernel
theorem dL_law_197 : decode cL_law 197 = .ok (.ireturn, 1) := by decide +kernel
theorem dL_law_198 : decode cL_law 198 = .ok (.aload_n 1, 1) := by decide +kernel
theorem dL_law_199 : decode cL_law 199 = .ok (.aload_n 0, 1) := by decide +kernel
theorem dL_law_200 : decode cL_law 200 = .ok (.iload_n 3, 1) := by decide +kernel
theorem dL_law_201 : decode cL_law 201 = .ok (.iconst 1, 1) := by decide +kernel
theorem dL_law_202 : decode cL_law 202 = .ok (.iadd, 1) := by decide +kernel
theorem dL_law_203 : decode cL_law 203 = .ok (.iaload, 1) := by decide +kernel
theorem dL_law_204 : decode cL_law 204 = .ok (.aload_n 0, 1) := by decide +kernel
theorem dL_law_205 : decode cL_law 205 = .ok (.iload_n 3, 1) := by decide +kernel
theorem dL_law_206 : decode cL_law 206 = .ok (.iconst 2, 1) := by decide +kernel
theorem dL_law_207 : decode cL_law 207 = .ok (.iadd, 1) := by decide +kernel
theorem dL_law_208 : decode cL_law 208 = .ok (.iaload, 1) := by decide +kernel
theorem dL_law_209 : decode cL_law 209 = .ok (.aload_n 0, 1) := by decide +kernel
theorem dL_law_210 : decode cL_law 210 = .ok (.iload_n 3, 1) := by decide +kernel
theorem dL_law_211 : decode cL_law 211 = .ok (.iconst 3, 1) := by decide +kernel
theorem dL_law_212 : decode cL_law 212 = .ok (.iadd, 1) := by decide +kernel
theorem dL_law_213 : decode cL_law 213 = .ok (.iaload, 1) := by decide +kernel
theorem dL_law_214 : decode cL_law 214 = .ok (.invokevirtual 31, 3) := by decide +kernel
theorem dL_law_217 : decode cL_law 217 = .ok (.aload_n 2, 1) := by decide +kernel
theorem dL_law_218 : decode cL_law 218 = .ok (.aload_n 0, 1) := by decide +kernel
theorem dL_law_219 : decode cL_law 219 = .ok (.iload_n 3, 1) := by decide +kernel
theorem dL_law_220 : decode cL_law 220 = .ok (.iconst 1, 1) := by decide +kernel
theorem dL_law_221 : decode cL_law 221 = .ok (.iadd, 1) := by decide +kernel
theorem dL_law_222 : decode cL_law 222 = .ok (.iaload, 1) := by decide +kernel
theorem dL_law_223 : decode cL_law 223 = .ok (.aload_n 0, 1) := by decide +kernel
theorem dL_law_224 : decode cL_law 224 = .ok (.iload_n 3, 1) := by decide +kernel
theorem dL_law_225 : decode cL_law 225 = .ok (.iconst 2, 1) := by decide +kernel
theorem dL_law_226 : decode cL_law 226 = .ok (.iadd, 1) := by decide +kernel
theorem dL_law_227 : decode cL_law 227 = .ok (.iaload, 1) := by decide +kernel
theorem dL_law_228 : decode cL_law 228 = .ok (.aload_n 0, 1) := by decide +kernel
theorem dL_law_229 : decode cL_law 229 = .ok (.iload_n 3, 1) := by decide +kernel
theorem dL_law_230 : decode cL_law 230 = .ok (.iconst 3, 1) := by decide +kernel
theorem dL_law_231 : decode cL_law 231 = .ok (.iadd, 1) := by decide +kernel
theorem dL_law_232 : decode cL_law 232 = .ok (.iaload, 1) := by decide +kernel
theorem dL_law_233 : decode cL_law 233 = .ok (.invokevirtual 35, 3) := by decide +kernel
theorem dL_law_236 : decode cL_law 236 = .ok (.if_icmp .eq 436, 3) := by decide +kernel
theorem dL_law_239 : decode cL_law 239 = .ok (.iconst 0, 1) := by decide +kernel
theorem dL_law_240 : decode cL_law 240 = .ok (.ireturn, 1) := by decide +kernel
theorem dL_law_241 : decode cL_law 241 = .ok (.aload_n 1, 1) := by decide +kernel
theorem dL_law_242 : decode cL_law 242 = .ok (.aload_n 0, 1) := by decide +kernel
theorem dL_law_243 : decode cL_law 243 = .ok (.iload_n 3, 1) := by decide +kernel
theorem dL_law_244 : decode cL_law 244 = .ok (.iconst 1, 1) := by decide +kernel
theorem dL_law_245 : decode cL_law 245 = .ok (.iadd, 1) := by decide +kernel
theorem dL_law_246 : decode cL_law 246 = .ok (.iaload, 1) := by decide +kernel
theorem dL_law_247 : decode cL_law 247 = .ok (.aload_n 0, 1) := by decide +kernel
theorem dL_law_248 : decode cL_law 248 = .ok (.iload_n 3, 1) := by decide +kernel
theorem dL_law_249 : decode cL_law 249 = .ok (.iconst 2, 1) := by decide +kernel
theorem dL_law_250 : decode cL_law 250 = .ok (.iadd, 1) := by decide +kernel
theorem dL_law_251 : decode cL_law 251 = .ok (.iaload, 1) := by decide +kernel
theorem dL_law_252 : decode cL_law 252 = .ok (.aload_n 0, 1) := by decide +kernel
theorem dL_law_253 : decode cL_law 253 = .ok (.iload_n 3, 1) := by decide +kernel
theorem dL_law_254 : decode cL_law 254 = .ok (.iconst 3, 1) := by decide +kernel
theorem dL_law_255 : decode cL_law 255 = .ok (.iadd, 1) := by decide +kernel
theorem dL_law_256 : decode cL_law 256 = .ok (.iaload, 1) := by decide +kernel
theorem dL_law_257 : decode cL_law 257 = .ok (.invokevirtual 36, 3) := by decide +kernel
theorem dL_law_260 : decode cL_law 260 = .ok (.aload_n 2, 1) := by decide +kernel
theorem dL_law_261 : decode cL_law 261 = .ok (.aload_n 0, 1) := by decide +kernel
theorem dL_law_262 : decode cL_law 262 = .ok (.iload_n 3, 1) := by decide +kernel
theorem dL_law_263 : decode cL_law 263 = .ok (.iconst 1, 1) := by decide +kernel
theorem dL_law_264 : decode cL_law 264 = .ok (.iadd, 1) := by decide +kernel
theorem dL_law_265 : decode cL_law 265 = .ok (.iaload, 1) := by decide +kernel
theorem dL_law_266 : decode cL_law 266 = .ok (.aload_n 0, 1) := by decide +kernel
theorem dL_law_267 : decode cL_law 267 = .ok (.iload_n 3, 1) := by decide +kernel
theorem dL_law_268 : decode cL_law 268 = .ok (.iconst 2, 1) := by decide +kernel
theorem dL_law_269 : decode cL_law 269 = .ok (.iadd, 1) := by decide +kernel
theorem dL_law_270 : decode cL_law 270 = .ok (.iaload, 1) := by decide +kernel
theorem dL_law_271 : decode cL_law 271 = .ok (.aload_n 0, 1) := by decide +kernel
theorem dL_law_272 : decode cL_law 272 = .ok (.iload_n 3, 1) := by decide +kernel
theorem dL_law_273 : decode cL_law 273 = .ok (.iconst 3, 1) := by decide +kernel
theorem dL_law_274 : decode cL_law 274 = .ok (.iadd, 1) := by decide +kernel
theorem dL_law_275 : decode cL_law 275 = .ok (.iaload, 1) := by decide +kernel
theorem dL_law_276 : decode cL_law 276 = .ok (.invokevirtual 39, 3) := by decide +kernel
theorem dL_law_279 : decode cL_law 279 = .ok (.if_icmp .eq 393, 3) := by decide +kernel
theorem dL_law_282 : decode cL_law 282 = .ok (.iconst 0, 1) := by decide +kernel
theorem dL_law_283 : decode cL_law 283 = .ok (.ireturn, 1) := by decide +kernel
theorem dL_law_284 : decode cL_law 284 = .ok (.aload_n 1, 1) := by decide +kernel
theorem dL_law_285 : decode cL_law 285 = .ok (.aload_n 0, 1) := by decide +kernel
theorem dL_law_286 : decode cL_law 286 = .ok (.iload_n 3, 1) := by decide +kernel
theorem dL_law_287 : decode cL_law 287 = .ok (.iconst 1, 1) := by decide +kernel
theorem dL_law_288 : decode cL_law 288 = .ok (.iadd, 1) := by decide +kernel
theorem dL_law_289 : decode cL_law 289 = .ok (.iaload, 1) := by decide +kernel
theorem dL_law_290 : decode cL_law 290 = .ok (.aload_n 0, 1) := by decide +kernel
theorem dL_law_291 : decode cL_law 291 = .ok (.iload_n 3, 1) := by decide +kernel
theorem dL_law_292 : decode cL_law 292 = .ok (.iconst 2, 1) := by decide +kernel
theorem dL_law_293 : decode cL_law 293 = .ok (.iadd, 1) := by decide +kernel
theorem dL_law_294 : decode cL_law 294 = .ok (.iaload, 1) := by decide +kernel
theorem dL_law_295 : decode cL_law 295 = .ok (.invokevirtual 40, 3) := by decide +kernel
theorem dL_law_298 : decode cL_law 298 = .ok (.aload_n 2, 1) := by decide +kernel
theorem dL_law_299 : decode cL_law 299 = .ok (.aload_n 0, 1) := by decide +kernel
theorem dL_law_300 : decode cL_law 300 = .ok (.iload_n 3, 1) := by decide +kernel
theorem dL_law_301 : decode cL_law 301 = .ok (.iconst 1, 1) := by decide +kernel
theorem dL_law_302 : decode cL_law 302 = .ok (.iadd, 1) := by decide +kernel
theorem dL_law_303 : decode cL_law 303 = .ok (.iaload, 1) := by decide +kernel
theorem dL_law_304 : decode cL_law 304 = .ok (.aload_n 0, 1) := by decide +kernel
theorem dL_law_305 : decode cL_law 305 = .ok (.iload_n 3, 1) := by decide +kernel
theorem dL_law_306 : decode cL_law 306 = .ok (.iconst 2, 1) := by decide +kernel
theorem dL_law_307 : decode cL_law 307 = .ok (.iadd, 1) := by decide +kernel
theorem dL_law_308 : decode cL_law 308 = .ok (.iaload, 1) := by decide +kernel
theorem dL_law_309 : decode cL_law 309 = .ok (.invokevirtual 44, 3) := by decide +kernel
theorem dL_law_312 : decode cL_law 312 = .ok (.if_icmp .eq 360, 3) := by decide +kernel
theorem dL_law_315 : decode cL_law 315 = .ok (.iconst 0, 1) := by decide +kernel
theorem dL_law_316 : decode cL_law 316 = .ok (.ireturn, 1) := by decide +kernel
theorem dL_law_317 : decode cL_law 317 = .ok (.aload_n 1, 1) := by decide +kernel
theorem dL_law_318 : decode cL_law 318 = .ok (.invokevirtual 45, 3) := by decide +kernel
theorem dL_law_321 : decode cL_law 321 = .ok (.aload_n 2, 1) := by decide +kernel
theorem dL_law_322 : decode cL_law 322 = .ok (.invokevirtual 48, 3) := by decide +kernel
theorem dL_law_325 : decode cL_law 325 = .ok (.if_icmp .eq 347, 3) := by decide +kernel
theorem dL_law_328 : decode cL_law 328 = .ok (.iconst 0, 1) := by decide +kernel
theorem dL_law_329 : decode cL_law 329 = .ok (.ireturn, 1) := by decide +kernel
theorem dL_law_330 : decode cL_law 330 = .ok (.aload_n 1, 1) := by decide +kernel
theorem dL_law_331 : decode cL_law 331 = .ok (.aload_n 0, 1) := by decide +kernel
theorem dL_law_332 : decode cL_law 332 = .ok (.iload_n 3, 1) := by decide +kernel
theorem dL_law_333 : decode cL_law 333 = .ok (.iconst 1, 1) := by decide +kernel
theorem dL_law_334 : decode cL_law 334 = .ok (.iadd, 1) := by decide +kernel
theorem dL_law_335 : decode cL_law 335 = .ok (.iaload, 1) := by decide +kernel
theorem dL_law_336 : decode cL_law 336 = .ok (.aload_n 0, 1) := by decide +kernel
theorem dL_law_337 : decode cL_law 337 = .ok (.iload_n 3, 1) := by decide +kernel
theorem dL_law_338 : decode cL_law 338 = .ok (.iconst 2, 1) := by decide +kernel
theorem dL_law_339 : decode cL_law 339 = .ok (.iadd, 1) := by decide +kernel
theorem dL_law_340 : decode cL_law 340 = .ok (.iaload, 1) := by decide +kernel
theorem dL_law_341 : decode cL_law 341 = .ok (.aload_n 0, 1) := by decide +kernel
theorem dL_law_342 : decode cL_law 342 = .ok (.iload_n 3, 1) := by decide +kernel
theorem dL_law_343 : decode cL_law 343 = .ok (.iconst 3, 1) := by decide +kernel
theorem dL_law_344 : decode cL_law 344 = .ok (.iadd, 1) := by decide +kernel
theorem dL_law_345 : decode cL_law 345 = .ok (.iaload, 1) := by decide +kernel
theorem dL_law_346 : decode cL_law 346 = .ok (.invokevirtual 49, 3) := by decide +kernel
theorem dL_law_349 : decode cL_law 349 = .ok (.aload_n 2, 1) := by decide +kernel
theorem dL_law_350 : decode cL_law 350 = .ok (.aload_n 0, 1) := by decide +kernel
theorem dL_law_351 : decode cL_law 351 = .ok (.iload_n 3, 1) := by decide +kernel
theorem dL_law_352 : decode cL_law 352 = .ok (.iconst 1, 1) := by decide +kernel
theorem dL_law_353 : decode cL_law 353 = .ok (.iadd, 1) := by decide +kernel
theorem dL_law_354 : decode cL_law 354 = .ok (.iaload, 1) := by decide +kernel
theorem dL_law_355 : decode cL_law 355 = .ok (.aload_n 0, 1) := by decide +kernel
theorem dL_law_356 : decode cL_law 356 = .ok (.iload_n 3, 1) := by decide +kernel
theorem dL_law_357 : decode cL_law 357 = .ok (.iconst 2, 1) := by decide +kernel
theorem dL_law_358 : decode cL_law 358 = .ok (.iadd, 1) := by decide +kernel
theorem dL_law_359 : decode cL_law 359 = .ok (.iaload, 1) := by decide +kernel
theorem dL_law_360 : decode cL_law 360 = .ok (.aload_n 0, 1) := by decide +kernel
theorem dL_law_361 : decode cL_law 361 = .ok (.iload_n 3, 1) := by decide +kernel
theorem dL_law_362 : decode cL_law 362 = .ok (.iconst 3, 1) := by decide +kernel
theorem dL_law_363 : decode cL_law 363 = .ok (.iadd, 1) := by decide +kernel
theorem dL_law_364 : decode cL_law 364 = .ok (.iaload, 1) := by decide +kernel
theorem dL_law_365 : decode cL_law 365 = .ok (.invokevirtual 52, 3) := by decide +kernel
theorem dL_law_368 : decode cL_law 368 = .ok (.if_icmp .eq 304, 3) := by decide +kernel
theorem dL_law_371 : decode cL_law 371 = .ok (.iconst 0, 1) := by decide +kernel
theorem dL_law_372 : decode cL_law 372 = .ok (.ireturn, 1) := by decide +kernel
theorem dL_law_373 : decode cL_law 373 = .ok (.aload_n 1, 1) := by decide +kernel
theorem dL_law_374 : decode cL_law 374 = .ok (.aload_n 0, 1) := by decide +kernel
theorem dL_law_375 : decode cL_law 375 = .ok (.iload_n 3, 1) := by decide +kernel
theorem dL_law_376 : decode cL_law 376 = .ok (.iconst 1, 1) := by decide +kernel
theorem dL_law_377 : decode cL_law 377 = .ok (.iadd, 1) := by decide +kernel
theorem dL_law_378 : decode cL_law 378 = .ok (.iaload, 1) := by decide +kernel
theorem dL_law_379 : decode cL_law 379 = .ok (.aload_n 0, 1) := by decide +kernel
theorem dL_law_380 : decode cL_law 380 = .ok (.iload_n 3, 1) := by decide +kernel
theorem dL_law_381 : decode cL_law 381 = .ok (.iconst 2, 1) := by decide +kernel
theorem dL_law_382 : decode cL_law 382 = .ok (.iadd, 1) := by decide +kernel
theorem dL_law_383 : decode cL_law 383 = .ok (.iaload, 1) := by decide +kernel
theorem dL_law_384 : decode cL_law 384 = .ok (.invokevirtual 53, 3) := by decide +kernel
theorem dL_law_387 : decode cL_law 387 = .ok (.aload_n 2, 1) := by decide +kernel
theorem dL_law_388 : decode cL_law 388 = .ok (.aload_n 0, 1) := by decide +kernel
theorem dL_law_389 : decode cL_law 389 = .ok (.iload_n 3, 1) := by decide +kernel
theorem dL_law_390 : decode cL_law 390 = .ok (.iconst 1, 1) := by decide +kernel
theorem dL_law_391 : decode cL_law 391 = .ok (.iadd, 1) := by decide +kernel
theorem dL_law_392 : decode cL_law 392 = .ok (.iaload, 1) := by decide +kernel
theorem dL_law_393 : decode cL_law 393 = .ok (.aload_n 0, 1) := by decide +kernel
theorem dL_law_394 : decode cL_law 394 = .ok (.iload_n 3, 1) := by decide +kernel
theorem dL_law_395 : decode cL_law 395 = .ok (.iconst 2, 1) := by decide +kernel
theorem dL_law_396 : decode cL_law 396 = .ok (.iadd, 1) := by decide +kernel
theorem dL_law_397 : decode cL_law 397 = .ok (.iaload, 1) := by decide +kernel
theorem dL_law_398 : decode cL_law 398 = .ok (.invokevirtual 56, 3) := by decide +kernel
theorem dL_law_401 : decode cL_law 401 = .ok (.if_icmp .eq 271, 3) := by decide +kernel
theorem dL_law_404 : decode cL_law 404 = .ok (.iconst 0, 1) := by decide +kernel
theorem dL_law_405 : decode cL_law 405 = .ok (.ireturn, 1) := by decide +kernel
theorem dL_law_406 : decode cL_law 406 = .ok (.aload_n 1, 1) := by decide +kernel
theorem dL_law_407 : decode cL_law 407 = .ok (.aload_n 0, 1) := by decide +kernel
theorem dL_law_408 : decode cL_law 408 = .ok (.iload_n 3, 1) := by decide +kernel
theorem dL_law_409 : decode cL_law 409 = .ok (.iconst 1, 1) := by decide +kernel
theorem dL_law_410 : decode cL_law 410 = .ok (.iadd, 1) := by decide +kernel
theorem dL_law_411 : decode cL_law 411 = .ok (.iaload, 1) := by decide +kernel
theorem dL_law_412 : decode cL_law 412 = .ok (.invokevirtual 57, 3) := by decide +kernel
theorem dL_law_415 : decode cL_law 415 = .ok (.aload_n 2, 1) := by decide +kernel
theorem dL_law_416 : decode cL_law 416 = .ok (.aload_n 0, 1) := by decide +kernel
theorem dL_law_417 : decode cL_law 417 = .ok (.iload_n 3, 1) := by decide +kernel
theorem dL_law_418 : decode cL_law 418 = .ok (.iconst 1, 1) := by decide +kernel
theorem dL_law_419 : decode cL_law 419 = .ok (.iadd, 1) := by decide +kernel
theorem dL_law_420 : decode cL_law 420 = .ok (.iaload, 1) := by decide +kernel
theorem dL_law_421 : decode cL_law 421 = .ok (.invokevirtual 60, 3) := by decide +kernel
theorem dL_law_424 : decode cL_law 424 = .ok (.if_icmp .eq 248, 3) := by decide +kernel
theorem dL_law_427 : decode cL_law 427 = .ok (.iconst 0, 1) := by decide +kernel
theorem dL_law_428 : decode cL_law 428 = .ok (.ireturn, 1) := by decide +kernel
theorem dL_law_429 : decode cL_law 429 = .ok (.aload_n 1, 1) := by decide +kernel
theorem dL_law_430 : decode cL_law 430 = .ok (.aload_n 0, 1) := by decide +kernel
theorem dL_law_431 : decode cL_law 431 = .ok (.iload_n 3, 1) := by decide +kernel
theorem dL_law_432 : decode cL_law 432 = .ok (.iconst 1, 1) := by decide +kernel
theorem dL_law_433 : decode cL_law 433 = .ok (.iadd, 1) := by decide +kernel
theorem dL_law_434 : decode cL_law 434 = .ok (.iaload, 1) := by decide +kernel
theorem dL_law_435 : decode cL_law 435 = .ok (.invokevirtual 61, 3) := by decide +kernel
theorem dL_law_438 : decode cL_law 438 = .ok (.aload_n 2, 1) := by decide +kernel
theorem dL_law_439 : decode cL_law 439 = .ok (.aload_n 0, 1) := by decide +kernel
theorem dL_law_440 : decode cL_law 440 = .ok (.iload_n 3, 1) := by decide +kernel
theorem dL_law_441 : decode cL_law 441 = .ok (.iconst 1, 1) := by decide +kernel
theorem dL_law_442 : decode cL_law 442 = .ok (.iadd, 1) := by decide +kernel
theorem dL_law_443 : decode cL_law 443 = .ok (.iaload, 1) := by decide +kernel
theorem dL_law_444 : decode cL_law 444 = .ok (.invokevirtual 64, 3) := by decide +kernel
theorem dL_law_447 : decode cL_law 447 = .ok (.if_icmp .eq 225, 3) := by decide +kernel
theorem dL_law_450 : decode cL_law 450 = .ok (.iconst 0, 1) := by decide +kernel
theorem dL_law_451 : decode cL_law 451 = .ok (.ireturn, 1) := by decide +kernel
theorem dL_law_452 : decode cL_law 452 = .ok (.aload_n 1, 1) := by decide +kernel
theorem dL_law_453 : decode cL_law 453 = .ok (.aload_n 0, 1) := by decide +kernel
theorem dL_law_454 : decode cL_law 454 = .ok (.iload_n 3, 1) := by decide +kernel
theorem dL_law_455 : decode cL_law 455 = .ok (.iconst 1, 1) := by decide +kernel
theorem dL_law_456 : decode cL_law 456 = .ok (.iadd, 1) := by decide +kernel
theorem dL_law_457 : decode cL_law 457 = .ok (.iaload, 1) := by decide +kernel
theorem dL_law_458 : decode cL_law 458 = .ok (.invokevirtual 65, 3) := by decide +kernel
theorem dL_law_461 : decode cL_law 461 = .ok (.aload_n 2, 1) := by decide +kernel
theorem dL_law_462 : decode cL_law 462 = .ok (.aload_n 0, 1) := by decide +kernel
theorem dL_law_463 : decode cL_law 463 = .ok (.iload_n 3, 1) := by decide +kernel
theorem dL_law_464 : decode cL_law 464 = .ok (.iconst 1, 1) := by decide +kernel
theorem dL_law_465 : decode cL_law 465 = .ok (.iadd, 1) := by decide +kernel
theorem dL_law_466 : decode cL_law 466 = .ok (.iaload, 1) := by decide +kernel
theorem dL_law_467 : decode cL_law 467 = .ok (.invokevirtual 68, 3) := by decide +kernel
theorem dL_law_470 : decode cL_law 470 = .ok (.if_icmp .eq 202, 3) := by decide +kernel
theorem dL_law_473 : decode cL_law 473 = .ok (.iconst 0, 1) := by decide +kernel
theorem dL_law_474 : decode cL_law 474 = .ok (.ireturn, 1) := by decide +kernel
theorem dL_law_475 : decode cL_law 475 = .ok (.aload_n 1, 1) := by decide +kernel
theorem dL_law_476 : decode cL_law 476 = .ok (.invokevirtual 69, 3) := by decide +kernel
theorem dL_law_479 : decode cL_law 479 = .ok (.aload_n 2, 1) := by decide +kernel
theorem dL_law_480 : decode cL_law 480 = .ok (.invokevirtual 72, 3) := by decide +kernel
theorem dL_law_483 : decode cL_law 483 = .ok (.if_icmp .eq 189, 3) := by decide +kernel
theorem dL_law_486 : decode cL_law 486 = .ok (.iconst 0, 1) := by decide +kernel
theorem dL_law_487 : decode cL_law 487 = .ok (.ireturn, 1) := by decide +kernel
theorem dL_law_488 : decode cL_law 488 = .ok (.aload_n 1, 1) := by decide +kernel
theorem dL_law_489 : decode cL_law 489 = .ok (.aload_n 0, 1) := by decide +kernel
theorem dL_law_490 : decode cL_law 490 = .ok (.iload_n 3, 1) := by decide +kernel
theorem dL_law_491 : decode cL_law 491 = .ok (.iconst 1, 1) := by decide +kernel
theorem dL_law_492 : decode cL_law 492 = .ok (.iadd, 1) := by decide +kernel
theorem dL_law_493 : decode cL_law 493 = .ok (.iaload, 1) := by decide +kernel
theorem dL_law_494 : decode cL_law 494 = .ok (.invokevirtual 73, 3) := by decide +kernel
theorem dL_law_497 : decode cL_law 497 = .ok (.aload_n 2, 1) := by decide +kernel
theorem dL_law_498 : decode cL_law 498 = .ok (.aload_n 0, 1) := by decide +kernel
theorem dL_law_499 : decode cL_law 499 = .ok (.iload_n 3, 1) := by decide +kernel
theorem dL_law_500 : decode cL_law 500 = .ok (.iconst 1, 1) := by decide +kernel
theorem dL_law_501 : decode cL_law 501 = .ok (.iadd, 1) := by decide +kernel
theorem dL_law_502 : decode cL_law 502 = .ok (.iaload, 1) := by decide +kernel
theorem dL_law_503 : decode cL_law 503 = .ok (.invokevirtual 76, 3) := by decide +kernel
theorem dL_law_506 : decode cL_law 506 = .ok (.if_icmp .eq 166, 3) := by decide +kernel
theorem dL_law_509 : decode cL_law 509 = .ok (.iconst 0, 1) := by decide +kernel
theorem dL_law_510 : decode cL_law 510 = .ok (.ireturn, 1) := by decide +kernel
theorem dL_law_511 : decode cL_law 511 = .ok (.aload_n 1, 1) := by decide +kernel
theorem dL_law_512 : decode cL_law 512 = .ok (.aload_n 0, 1) := by decide +kernel
theorem dL_law_513 : decode cL_law 513 = .ok (.iload_n 3, 1) := by decide +kernel
theorem dL_law_514 : decode cL_law 514 = .ok (.iconst 1, 1) := by decide +kernel
theorem dL_law_515 : decode cL_law 515 = .ok (.iadd, 1) := by decide +kernel
theorem dL_law_516 : decode cL_law 516 = .ok (.iaload, 1) := by decide +kernel
theorem dL_law_517 : decode cL_law 517 = .ok (.aload_n 0, 1) := by decide +kernel
theorem dL_law_518 : decode cL_law 518 = .ok (.iload_n 3, 1) := by decide +kernel
theorem dL_law_519 : decode cL_law 519 = .ok (.iconst 2, 1) := by decide +kernel
theorem dL_law_520 : decode cL_law 520 = .ok (.iadd, 1) := by decide +kernel
theorem dL_law_521 : decode cL_law 521 = .ok (.iaload, 1) := by decide +kernel
theorem dL_law_522 : decode cL_law 522 = .ok (.aload_n 0, 1) := by decide +kernel
theorem dL_law_523 : decode cL_law 523 = .ok (.iload_n 3, 1) := by decide +kernel
theorem dL_law_524 : decode cL_law 524 = .ok (.iconst 3, 1) := by decide +kernel
theorem dL_law_525 : decode cL_law 525 = .ok (.iadd, 1) := by decide +kernel
theorem dL_law_526 : decode cL_law 526 = .ok (.iaload, 1) := by decide +kernel
theorem dL_law_527 : decode cL_law 527 = .ok (.invokevirtual 77, 3) := by decide +kernel
theorem dL_law_530 : decode cL_law 530 = .ok (.aload_n 2, 1) := by decide +kernel
theorem dL_law_531 : decode cL_law 531 = .ok (.aload_n 0, 1) := by decide +kernel
theorem dL_law_532 : decode cL_law 532 = .ok (.iload_n 3, 1) := by decide +kernel
theorem dL_law_533 : decode cL_law 533 = .ok (.iconst 1, 1) := by decide +kernel
theorem dL_law_534 : decode cL_law 534 = .ok (.iadd, 1) := by decide +kernel
theorem dL_law_535 : decode cL_law 535 = .ok (.iaload, 1) := by decide +kernel
theorem dL_law_536 : decode cL_law 536 = .ok (.aload_n 0, 1) := by decide +kernel
theorem dL_law_537 : decode cL_law 537 = .ok (.iload_n 3, 1) := by decide +kernel
theorem dL_law_538 : decode cL_law 538 = .ok (.iconst 2, 1) := by decide +kernel
theorem dL_law_539 : decode cL_law 539 = .ok (.iadd, 1) := by decide +kernel
theorem dL_law_540 : decode cL_law 540 = .ok (.iaload, 1) := by decide +kernel
theorem dL_law_541 : decode cL_law 541 = .ok (.aload_n 0, 1) := by decide +kernel
theorem dL_law_542 : decode cL_law 542 = .ok (.iload_n 3, 1) := by decide +kernel
theorem dL_law_543 : decode cL_law 543 = .ok (.iconst 3, 1) := by decide +kernel
theorem dL_law_544 : decode cL_law 544 = .ok (.iadd, 1) := by decide +kernel
theorem dL_law_545 : decode cL_law 545 = .ok (.iaload, 1) := by decide +kernel
theorem dL_law_546 : decode cL_law 546 = .ok (.invokevirtual 80, 3) := by decide +kernel
theorem dL_law_549 : decode cL_law 549 = .ok (.if_icmp .eq 123, 3) := by decide +kernel
theorem dL_law_552 : decode cL_law 552 = .ok (.iconst 0, 1) := by decide +kernel
theorem dL_law_553 : decode cL_law 553 = .ok (.ireturn, 1) := by decide +kernel
theorem dL_law_554 : decode cL_law 554 = .ok (.aload_n 1, 1) := by decide +kernel
theorem dL_law_555 : decode cL_law 555 = .ok (.invokevirtual 81, 3) := by decide +kernel
theorem dL_law_558 : decode cL_law 558 = .ok (.aload_n 2, 1) := by decide +kernel
theorem dL_law_559 : decode cL_law 559 = .ok (.invokevirtual 84, 3) := by decide +kernel
theorem dL_law_562 : decode cL_law 562 = .ok (.if_icmp .eq 110, 3) := by decide +kernel
theorem dL_law_565 : decode cL_law 565 = .ok (.iconst 0, 1) := by decide +kernel
theorem dL_law_566 : decode cL_law 566 = .ok (.ireturn, 1) := by decide +kernel
theorem dL_law_567 : decode cL_law 567 = .ok (.aload_n 1, 1) := by decide +kernel
theorem dL_law_568 : decode cL_law 568 = .ok (.aload_n 0, 1) := by decide +kernel
theorem dL_law_569 : decode cL_law 569 = .ok (.iload_n 3, 1) := by decide +kernel
theorem dL_law_570 : decode cL_law 570 = .ok (.iconst 1, 1) := by decide +kernel
theorem dL_law_571 : decode cL_law 571 = .ok (.iadd, 1) := by decide +kernel
theorem dL_law_572 : decode cL_law 572 = .ok (.iaload, 1) := by decide +kernel
theorem dL_law_573 : decode cL_law 573 = .ok (.invokevirtual 85, 3) := by decide +kernel
theorem dL_law_576 : decode cL_law 576 = .ok (.aload_n 2, 1) := by decide +kernel
theorem dL_law_577 : decode cL_law 577 = .ok (.aload_n 0, 1) := by decide +kernel
theorem dL_law_578 : decode cL_law 578 = .ok (.iload_n 3, 1) := by decide +kernel
theorem dL_law_579 : decode cL_law 579 = .ok (.iconst 1, 1) := by decide +kernel
theorem dL_law_580 : decode cL_law 580 = .ok (.iadd, 1) := by decide +kernel
theorem dL_law_581 : decode cL_law 581 = .ok (.iaload, 1) := by decide +kernel
theorem dL_law_582 : decode cL_law 582 = .ok (.invokevirtual 88, 3) := by decide +kernel
theorem dL_law_585 : decode cL_law 585 = .ok (.if_icmp .eq 87, 3) := by decide +kernel
theorem dL_law_588 : decode cL_law 588 = .ok (.iconst 0, 1) := by decide +kernel
theorem dL_law_589 : decode cL_law 589 = .ok (.ireturn, 1) := by decide +kernel
theorem dL_law_590 : decode cL_law 590 = .ok (.aload_n 1, 1) := by decide +kernel
theorem dL_law_591 : decode cL_law 591 = .ok (.invokevirtual 89, 3) := by decide +kernel
theorem dL_law_594 : decode cL_law 594 = .ok (.aload_n 2, 1) := by decide +kernel
theorem dL_law_595 : decode cL_law 595 = .ok (.invokevirtual 92, 3) := by decide +kernel
theorem dL_law_598 : decode cL_law 598 = .ok (.if_icmp .eq 74, 3) := by decide +kernel
theorem dL_law_601 : decode cL_law 601 = .ok (.iconst 0, 1) := by decide +kernel
theorem dL_law_602 : decode cL_law 602 = .ok (.ireturn, 1) := by decide +kernel
theorem dL_law_603 : decode cL_law 603 = .ok (.aload_n 1, 1) := by decide +kernel
theorem dL_law_604 : decode cL_law 604 = .ok (.aload_n 0, 1) := by decide +kernel
theorem dL_law_605 : decode cL_law 605 = .ok (.iload_n 3, 1) := by decide +kernel
theorem dL_law_606 : decode cL_law 606 = .ok (.iconst 1, 1) := by decide +kernel
theorem dL_law_607 : decode cL_law 607 = .ok (.iadd, 1) := by decide +kernel
theorem dL_law_608 : decode cL_law 608 = .ok (.iaload, 1) := by decide +kernel
theorem dL_law_609 : decode cL_law 609 = .ok (.invokevirtual 93, 3) := by decide +kernel
theorem dL_law_612 : decode cL_law 612 = .ok (.aload_n 2, 1) := by decide +kernel
theorem dL_law_613 : decode cL_law 613 = .ok (.aload_n 0, 1) := by decide +kernel
theorem dL_law_614 : decode cL_law 614 = .ok (.iload_n 3, 1) := by decide +kernel
theorem dL_law_615 : decode cL_law 615 = .ok (.iconst 1, 1) := by decide +kernel
theorem dL_law_616 : decode cL_law 616 = .ok (.iadd, 1) := by decide +kernel
theorem dL_law_617 : decode cL_law 617 = .ok (.iaload, 1) := by decide +kernel
theorem dL_law_618 : decode cL_law 618 = .ok (.invokevirtual 96, 3) := by decide +kernel
theorem dL_law_621 : decode cL_law 621 = .ok (.if_icmp .eq 51, 3) := by decide +kernel
theorem dL_law_624 : decode cL_law 624 = .ok (.iconst 0, 1) := by decide +kernel
theorem dL_law_625 : decode cL_law 625 = .ok (.ireturn, 1) := by decide +kernel
theorem dL_law_626 : decode cL_law 626 = .ok (.aload_n 1, 1) := by decide +kernel
theorem dL_law_627 : decode cL_law 627 = .ok (.aload_n 0, 1) := by decide +kernel
theorem dL_law_628 : decode cL_law 628 = .ok (.iload_n 3, 1) := by decide +kernel
theorem dL_law_629 : decode cL_law 629 = .ok (.iconst 1, 1) := by decide +kernel
theorem dL_law_630 : decode cL_law 630 = .ok (.iadd, 1) := by decide +kernel
theorem dL_law_631 : decode cL_law 631 = .ok (.iaload, 1) := by decide +kernel
theorem dL_law_632 : decode cL_law 632 = .ok (.invokevirtual 97, 3) := by decide +kernel
theorem dL_law_635 : decode cL_law 635 = .ok (.aload_n 2, 1) := by decide +kernel
theorem dL_law_636 : decode cL_law 636 = .ok (.aload_n 0, 1) := by decide +kernel
theorem dL_law_637 : decode cL_law 637 = .ok (.iload_n 3, 1) := by decide +kernel
theorem dL_law_638 : decode cL_law 638 = .ok (.iconst 1, 1) := by decide +kernel
theorem dL_law_639 : decode cL_law 639 = .ok (.iadd, 1) := by decide +kernel
theorem dL_law_640 : decode cL_law 640 = .ok (.iaload, 1) := by decide +kernel
theorem dL_law_641 : decode cL_law 641 = .ok (.invokevirtual 100, 3) := by decide +kernel
theorem dL_law_644 : decode cL_law 644 = .ok (.if_icmp .eq 28, 3) := by decide +kernel
theorem dL_law_647 : decode cL_law 647 = .ok (.iconst 0, 1) := by decide +kernel
theorem dL_law_648 : decode cL_law 648 = .ok (.ireturn, 1) := by decide +kernel
theorem dL_law_649 : decode cL_law 649 = .ok (.aload_n 1, 1) := by decide +kernel
theorem dL_law_650 : decode cL_law 650 = .ok (.aload_n 0, 1) := by decide +kernel
theorem dL_law_651 : decode cL_law 651 = .ok (.iload_n 3, 1) := by decide +kernel
theorem dL_law_652 : decode cL_law 652 = .ok (.iconst 1, 1) := by decide +kernel
theorem dL_law_653 : decode cL_law 653 = .ok (.iadd, 1) := by decide +kernel
theorem dL_law_654 : decode cL_law 654 = .ok (.iaload, 1) := by decide +kernel
theorem dL_law_655 : decode cL_law 655 = .ok (.invokevirtual 101, 3) := by decide +kernel
theorem dL_law_658 : decode cL_law 658 = .ok (.aload_n 2, 1) := by decide +kernel
theorem dL_law_659 : decode cL_law 659 = .ok (.aload_n 0, 1) := by decide +kernel
theorem dL_law_660 : decode cL_law 660 = .ok (.iload_n 3, 1) := by decide +kernel
theorem dL_law_661 : decode cL_law 661 = .ok (.iconst 1, 1) := by decide +kernel
theorem dL_law_662 : decode cL_law 662 = .ok (.iadd, 1) := by decide +kernel
theorem dL_law_663 : decode cL_law 663 = .ok (.iaload, 1) := by decide +kernel
theorem dL_law_664 : decode cL_law 664 = .ok (.invokevirtual 104, 3) := by decide +kernel
theorem dL_law_667 : decode cL_law 667 = .ok (.if_icmp .eq 5, 3) := by decide +kernel
theorem dL_law_670 : decode cL_law 670 = .ok (.iconst 0, 1) := by decide +kernel
theorem dL_law_671 : decode cL_law 671 = .ok (.ireturn, 1) := by decide +kernel
theorem dL_law_672 : decode cL_law 672 = .ok (.iinc 3 4, 3) := by decide +kernel
theorem dL_law_675 : decode cL_law 675 = .ok (.goto (-657), 3) := by decide +kernel
theorem dL_law_678 : decode cL_law 678 = .ok (.iconst 1, 1) := by decide +kernel
theorem dL_law_679 : decode cL_law 679 = .ok (.ireturn, 1) := by decide +kernel
end
section
/-! the ground: array classes, nest words, the static row HAVING; the judgement KW and its rows -/
abbrev TY (y : Nat → ClassId) : List (ClassId × FieldType) := [(y 0, .char), (y 1, .int), (y 2, .long), (y 3, .boolean), (y 4, .object "SlippedBlocks$Work")]
def nwF : List (String × Nat × String × String × String × String) := [("SlippedBlocks$Text", 59, "SlippedBlocks$Work", "width", "I", "SlippedBlocks"), ("SlippedBlocks$Sightings", 75, "SlippedBlocks$Work", "width", "I", "SlippedBlocks"), ("SlippedBlocks", 207, "SlippedBlocks$Work", "width", "I", "SlippedBlocks"), ("SlippedBlocks$Text", 35, "SlippedBlocks$Work", "height", "I", "SlippedBlocks"), ("SlippedBlocks", 87, "SlippedBlocks$Work", "height", "I", "SlippedBlocks"), ("SlippedBlocks$Sightings", 72, "SlippedBlocks$Work", "height", "I", "SlippedBlocks"), ("SlippedBlocks$Sightings", 35, "SlippedBlocks$Work", "inks", "I", "SlippedBlocks"), ("SlippedBlocks$RowSearch", 38, "SlippedBlocks$Work", "inks", "I", "SlippedBlocks"), ("SlippedBlocks", 84, "SlippedBlocks$Work", "inks", "I", "SlippedBlocks"), ("SlippedBlocks$Text", 52, "SlippedBlocks$Work", "inks", "I", "SlippedBlocks"), ("SlippedBlocks$Text", 62, "SlippedBlocks$Work", "picture", "LSlippedBlocks$Sheet;", "SlippedBlocks"), ("SlippedBlocks", 138, "SlippedBlocks$Work", "picture", "LSlippedBlocks$Sheet;", "SlippedBlocks"), ("SlippedBlocks", 152, "SlippedBlocks$Work", "colour", "[I", "SlippedBlocks"), ("SlippedBlocks", 111, "SlippedBlocks$Work", "block", "[J", "SlippedBlocks"), ("SlippedBlocks$Sightings", 49, "SlippedBlocks$Work", "slip", "[I", "SlippedBlocks"), ("SlippedBlocks", 123, "SlippedBlocks$Work", "slip", "[I", "SlippedBlocks"), ("SlippedBlocks", 66, "SlippedBlocks$Text", "length", "I", "SlippedBlocks"), ("SlippedBlocks", 134, "SlippedBlocks$Past", "many", "I", "SlippedBlocks"), ("SlippedBlocks", 81, "SlippedBlocks$Sightings", "many", "I", "SlippedBlocks"), ("SlippedBlocks", 181, "SlippedBlocks$RowSearch", "found", "Z", "SlippedBlocks"), ("SlippedBlocks", 185, "SlippedBlocks$RowSearch", "fewest", "I", "SlippedBlocks")]
def nwM : List (String × Nat × MethodName × String) := [("SlippedBlocks", 9, ⟨"SlippedBlocks$Work", "<init>", "()V"⟩, "SlippedBlocks"), ("SlippedBlocks$Work", 26, ⟨"SlippedBlocks$Sheet", "<init>", "()V"⟩, "SlippedBlocks"), ("SlippedBlocks", 21, ⟨"SlippedBlocks$Text", "<init>", "()V"⟩, "SlippedBlocks"), ("SlippedBlocks$Past", 24, ⟨"SlippedBlocks$Work", "<init>", "()V"⟩, "SlippedBlocks"), ("SlippedBlocks", 43, ⟨"SlippedBlocks$Sightings", "<init>", "()V"⟩, "SlippedBlocks"), ("SlippedBlocks$Sightings", 27, ⟨"SlippedBlocks$Sheet", "<init>", "()V"⟩, "SlippedBlocks"), ("SlippedBlocks", 50, ⟨"SlippedBlocks$RowSearch", "<init>", "()V"⟩, "SlippedBlocks"), ("SlippedBlocks", 57, ⟨"SlippedBlocks$Sheet", "<init>", "()V"⟩, "SlippedBlocks"), ("SlippedBlocks$Text", 66, ⟨"SlippedBlocks", "cellBit", "(II)J"⟩, "SlippedBlocks"), ("SlippedBlocks$Work", 76, ⟨"SlippedBlocks", "slipped", "(JI)J"⟩, "SlippedBlocks"), ("SlippedBlocks$Sheet", 25, ⟨"SlippedBlocks", "cellBit", "(II)J"⟩, "SlippedBlocks"), ("SlippedBlocks$Work", 62, ⟨"SlippedBlocks", "cellBit", "(II)J"⟩, "SlippedBlocks")]
def NW (U : State) : Prop := (∀ q ∈ nwF, va_Nw (.fieldLinkNest q.1 q.2.1 q.2.2.1 q.2.2.2.1 q.2.2.2.2.1 q.2.2.2.2.2) U) ∧ (∀ q ∈ nwM, va_Nw (.methodLinkNest q.1 q.2.1 q.2.2.1 q.2.2.2) U)
theorem NW.warm {s U : State} (hW : s.WarmedH U.vm) (h : NW s) : NW U := ⟨fun q hq => va_Nw.warmF hW (h.1 q hq), fun q hq => va_Nw.warmM hW (h.2 q hq)⟩
theorem NW.same {u U : State} (e : u.vm = U.vm) (h : NW u) : NW U := ⟨fun q hq => va_Nw.same rfl e (h.1 q hq), fun q hq => va_Nw.same rfl e (h.2 q hq)⟩
def hvF : Nat → Int32 := fun j => if j = 0 then 170 else if j = 1 then 204 else 240
def HV (t : Nat) (A : Nat → Prop) (U : State) : Prop := va_Z "SlippedBlocks$Work" "HAVING" "[I" (.ref t) A U U.heap ∧ va_T .int t 3 (fun j => .int (hvF j)) A U U.heap
theorem HV.go {t : Nat} {A B : Nat → Prop} {s U : State} {H : Heap} {locs : List Loc} (h : HV t A s) (hS : va_S A s.heap H locs) (hU : U.heap = H) (hW : s.vm.Alike U.vm) (hAB : ∀ q, B q → A q) : HV t B U := by
  subst hU
  exact ⟨((h.1.moved hW).kept (fun a h1 h2 => hS.2.1 a h1 h2)).narrow hAB, ((h.2.moved hW).kept (fun a h1 h2 => hS.2.1 a h1 h2)).narrow hAB⟩
/-- a method's start, for the world ws: nothing else is asked of the heap -/
def PR (G : va_G) (y : Nat → ClassId) (t : Nat) (ws : va_W) (sz : Nat) : State → Prop := fun U => U.heap.size = sz ∧ va_P G vwCl ws U.heap ∧ va_K G vwCl (TY y) U ∧ va_D (fun _ => True) ws ∧ NW U ∧ HV t (va_A ws sz) U
/-- a method's end -/
def PO (G : va_G) (A : Nat → Prop) (ws : va_W) (t : State) : Prop := va_P G vwCl ws t.heap ∧ va_D A ws
theorem PR_blind {G : va_G} {y : Nat → ClassId} {t : Nat} {ws : va_W} {sz : Nat} {av : List Value} : FrameBlind (va_Pc av (PR G y t ws sz)) := fun a U g mk q => by
  obtain ⟨q0, q1, qP, qK, qD, qN, qZ, qT⟩ := q
  exact ⟨q0, q1, qP, va_K.moved (u := U) (U := U.calling g mk a) (Vm.Alike.refl U.vm) qK, qD, qN.same (U := U.calling g mk a) rfl, va_Z.moved (u := U) (U := U.calling g mk a) (Vm.Alike.refl U.vm) qZ, va_T.moved (u := U) (U := U.calling g mk a) (Vm.Alike.refl U.vm) qT⟩
/-- what stays through a walk -/
def Cx (p : Program) (s : State) (m : MethodId) (args : Array Value) (meth : Method) (c : Code) (cc : ByteArray) (nL : Nat) (own : String) (Ts : List Cond) (ret : Option FieldType) (A : Nat → Prop) (G : va_G) (y : Nat → ClassId) (t : Nat) : Prop :=
  p.tables.exec = Jvm.exec ∧ c.code = cc ∧ c.maxLocals = nL ∧ s.vm.findClass own = some m.cls ∧ (∀ w ∈ Ts, w.before args s = true) ∧ meth.sig.returnType = ret ∧ meth.locks = false ∧ (∀ q, s.heap.size ≤ q → A q) ∧ va_K G vwCl (TY y) s ∧ NW s ∧ HV t A s
def KW (p : Program) (l : Launch) (e : Env) (R : Room) (s : State) (m : MethodId) (args : Array Value) (below : List Frame) (meth : Method) (c : Code) (cells slots : Nat) (Q : State → Prop) (G : va_G) (A : Nat → Prop) (nL : Nat) (ws : va_W) (lv : List (Nat × Value)) (pc : Nat) (st : List Value) : Prop :=
  ∀ (H : Heap) (locs : List Loc) (ls : Array Slot), va_P G vwCl ws H → va_D A ws → va_S A s.heap H locs → lv_has ls nL lv → W p l e R s m args below meth c H locs cells slots Q (F0 m pc ls st)
/-- Met out of a walk -/
theorem kMet {l : Launch} {y : MethodName} {Ts Ts' : List Cond} {rm : Room} {cc : ByteArray} {maxL : Nat} {ret : Option FieldType} {G : va_G} {cy : Nat → ClassId} {t : Nat} {w0 : va_W} {sz mc ms : Nat} {av : List Value} {Qc : (Nat → Prop) → Array Value → State → Outcome → State → Prop}
    (hy : plainName y.cls = true) (hw : Ts = Cond.code y cc maxL ret :: Ts') (hlen : (lg_sl av).length ≤ maxL)
    (body : ∀ (p : Program) (e : Env) (s : State) (m : MethodId) (below : List Frame) (meth : Method) (c : Code) (A : Nat → Prop), s.heap.size = sz → Cx p s m av.toArray meth c cc maxL y.cls Ts ret A G cy t → meth.name = y.name →
      KW p l e rm s m av.toArray below meth c 0 0 (MQ below (Qc A) av.toArray s mc ms A) G A maxL w0 (lv_args 0 av) 0 []) : Met l y Ts rm (va_Pc av (PR G cy t w0 sz)) (Qc (va_A w0 sz)) mc ms (va_A w0 sz) := by
  refine Met.ofW (cc := cc) (maxL := maxL) (ret := ret) hy hw ?_
  intro p e s m args below meth c s₁ B hml hv
  obtain ⟨rfl, hsz, hP, hK, hD0, hN, hH⟩ := hv
  have hts := atoms_spec (ws := Ts) B.pre
  subst hsz
  have hl := lv_entry av (n := maxL) hlen
  rw [lg_entry_eq]
  exact body p e s m below meth c (va_A w0 s.heap.size) rfl ⟨B.exec, B.bytes, hml, findClass_of_methodNamed B.named, hts, B.returns, B.notSynchronized, fun q h => Or.inr h, hK, hN, hH⟩ (name_of_methodNamed B.named B.method).1 s.heap [] _ hP (hD0.self (sz := s.heap.size)) va_S.rf hl
section KWS
variable {p : Program} {l : Launch} {e : Env} {R : Room} {s : State} {m : MethodId} {args : Array Value} {below : List Frame} {meth : Method} {c : Code} {cells slots : Nat} {Q : State → Prop}
variable {G : va_G} {A : Nat → Prop} {nL : Nat} {cc : ByteArray} {own : String} {Ts : List Cond} {ret : Option FieldType} {y : Nat → ClassId} {t : Nat} {ws : va_W} {lv : List (Nat × Value)} {pc : Nat} {rest : List Value}
theorem kw_iconst (C : Cx p s m args meth c cc nL own Ts ret A G y t) {n : Int} {v : Int32} (hdg : decode cc pc = .ok (.iconst n, 1)) (hv : Int32.ofInt n = v) (k : KW p l e R s m args below meth c cells slots Q G A nL ws lv (pc + 1) (.int v :: rest)) : KW p l e R s m args below meth c cells slots Q G A nL ws lv pc (rest) := fun H locs ls hP hD hS hl => lv_iconst C.1 C.2.1 hdg hv (k H locs ls hP hD hS hl)
theorem kw_bipush (C : Cx p s m args meth c cc nL own Ts ret A G y t) {n : Int} {v : Int32} (hdg : decode cc pc = .ok (.bipush n, 2)) (hv : (Int8.ofInt n).toInt32 = v) (k : KW p l e R s m args below meth c cells slots Q G A nL ws lv (pc + 2) (.int v :: rest)) : KW p l e R s m args below meth c cells slots Q G A nL ws lv pc (rest) := fun H locs ls hP hD hS hl => lv_bipush C.1 C.2.1 hdg hv (k H locs ls hP hD hS hl)
theorem kw_sipush (C : Cx p s m args meth c cc nL own Ts ret A G y t) {n : Int} {v : Int32} (hdg : decode cc pc = .ok (.sipush n, 3)) (hv : (Int16.ofInt n).toInt32 = v) (k : KW p l e R s m args below meth c cells slots Q G A nL ws lv (pc + 3) (.int v :: rest)) : KW p l e R s m args below meth c cells slots Q G A nL ws lv pc (rest) := fun H locs ls hP hD hS hl => lv_sipush C.1 C.2.1 hdg hv (k H locs ls hP hD hS hl)
theorem kw_lconst (C : Cx p s m args meth c cc nL own Ts ret A G y t) {n : Fin 2} {v : Int64} (hdg : decode cc pc = .ok (.lconst n, 1)) (hv : Int64.ofNat (n : Nat) = v) (k : KW p l e R s m args below meth c cells slots Q G A nL ws lv (pc + 1) (.long v :: rest)) : KW p l e R s m args below meth c cells slots Q G A nL ws lv pc (rest) := fun H locs ls hP hD hS hl => lv_lconst C.1 C.2.1 hdg hv (k H locs ls hP hD hS hl)
theorem kw_iadd (C : Cx p s m args meth c cc nL own Ts ret A G y t) {x y : Int32} (hdg : decode cc pc = .ok (.iadd, 1))  (k : KW p l e R s m args below meth c cells slots Q G A nL ws lv (pc + 1) (.int (x + y) :: rest)) : KW p l e R s m args below meth c cells slots Q G A nL ws lv pc (.int y :: .int x :: rest) := fun H locs ls hP hD hS hl => lv_iadd C.1 C.2.1 hdg (k H locs ls hP hD hS hl)
theorem kw_isub (C : Cx p s m args meth c cc nL own Ts ret A G y t) {x y : Int32} (hdg : decode cc pc = .ok (.isub, 1))  (k : KW p l e R s m args below meth c cells slots Q G A nL ws lv (pc + 1) (.int (x - y) :: rest)) : KW p l e R s m args below meth c cells slots Q G A nL ws lv pc (.int y :: .int x :: rest) := fun H locs ls hP hD hS hl => lv_isub C.1 C.2.1 hdg (k H locs ls hP hD hS hl)
theorem kw_imul (C : Cx p s m args meth c cc nL own Ts ret A G y t) {x y : Int32} (hdg : decode cc pc = .ok (.imul, 1))  (k : KW p l e R s m args below meth c cells slots Q G A nL ws lv (pc + 1) (.int (x * y) :: rest)) : KW p l e R s m args below meth c cells slots Q G A nL ws lv pc (.int y :: .int x :: rest) := fun H locs ls hP hD hS hl => lv_imul C.1 C.2.1 hdg (k H locs ls hP hD hS hl)
theorem kw_iand (C : Cx p s m args meth c cc nL own Ts ret A G y t) {x y : Int32} (hdg : decode cc pc = .ok (.iand, 1))  (k : KW p l e R s m args below meth c cells slots Q G A nL ws lv (pc + 1) (.int (x &&& y) :: rest)) : KW p l e R s m args below meth c cells slots Q G A nL ws lv pc (.int y :: .int x :: rest) := fun H locs ls hP hD hS hl => lv_iand C.1 C.2.1 hdg (k H locs ls hP hD hS hl)
theorem kw_ior (C : Cx p s m args meth c cc nL own Ts ret A G y t) {x y : Int32} (hdg : decode cc pc = .ok (.ior, 1))  (k : KW p l e R s m args below meth c cells slots Q G A nL ws lv (pc + 1) (.int (x ||| y) :: rest)) : KW p l e R s m args below meth c cells slots Q G A nL ws lv pc (.int y :: .int x :: rest) := fun H locs ls hP hD hS hl => lv_ior C.1 C.2.1 hdg (k H locs ls hP hD hS hl)
theorem kw_ixor (C : Cx p s m args meth c cc nL own Ts ret A G y t) {x y : Int32} (hdg : decode cc pc = .ok (.ixor, 1))  (k : KW p l e R s m args below meth c cells slots Q G A nL ws lv (pc + 1) (.int (x ^^^ y) :: rest)) : KW p l e R s m args below meth c cells slots Q G A nL ws lv pc (.int y :: .int x :: rest) := fun H locs ls hP hD hS hl => lv_ixor C.1 C.2.1 hdg (k H locs ls hP hD hS hl)
theorem kw_idiv (C : Cx p s m args meth c cc nL own Ts ret A G y t) {x y : Int32} (hdg : decode cc pc = .ok (.idiv, 1)) (hne : ¬ y = 0) (k : KW p l e R s m args below meth c cells slots Q G A nL ws lv (pc + 1) (.int (x / y) :: rest)) : KW p l e R s m args below meth c cells slots Q G A nL ws lv pc (.int y :: .int x :: rest) := fun H locs ls hP hD hS hl => lv_idiv C.1 C.2.1 hdg hne (k H locs ls hP hD hS hl)
theorem kw_irem (C : Cx p s m args meth c cc nL own Ts ret A G y t) {x y : Int32} (hdg : decode cc pc = .ok (.irem, 1)) (hne : ¬ y = 0) (k : KW p l e R s m args below meth c cells slots Q G A nL ws lv (pc + 1) (.int (x - x / y * y) :: rest)) : KW p l e R s m args below meth c cells slots Q G A nL ws lv pc (.int y :: .int x :: rest) := fun H locs ls hP hD hS hl => lv_irem C.1 C.2.1 hdg hne (k H locs ls hP hD hS hl)
theorem kw_ineg (C : Cx p s m args meth c cc nL own Ts ret A G y t) {x : Int32} (hdg : decode cc pc = .ok (.ineg, 1))  (k : KW p l e R s m args below meth c cells slots Q G A nL ws lv (pc + 1) (.int (-x) :: rest)) : KW p l e R s m args below meth c cells slots Q G A nL ws lv pc (.int x :: rest) := fun H locs ls hP hD hS hl => lv_ineg C.1 C.2.1 hdg (k H locs ls hP hD hS hl)
theorem kw_ladd (C : Cx p s m args meth c cc nL own Ts ret A G y t) {x y : Int64} (hdg : decode cc pc = .ok (.ladd, 1))  (k : KW p l e R s m args below meth c cells slots Q G A nL ws lv (pc + 1) (.long (x + y) :: rest)) : KW p l e R s m args below meth c cells slots Q G A nL ws lv pc (.long y :: .long x :: rest) := fun H locs ls hP hD hS hl => lv_ladd C.1 C.2.1 hdg (k H locs ls hP hD hS hl)
theorem kw_lsub (C : Cx p s m args meth c cc nL own Ts ret A G y t) {x y : Int64} (hdg : decode cc pc = .ok (.lsub, 1))  (k : KW p l e R s m args below meth c cells slots Q G A nL ws lv (pc + 1) (.long (x - y) :: rest)) : KW p l e R s m args below meth c cells slots Q G A nL ws lv pc (.long y :: .long x :: rest) := fun H locs ls hP hD hS hl => lv_lsub C.1 C.2.1 hdg (k H locs ls hP hD hS hl)
theorem kw_land (C : Cx p s m args meth c cc nL own Ts ret A G y t) {x y : Int64} (hdg : decode cc pc = .ok (.land, 1))  (k : KW p l e R s m args below meth c cells slots Q G A nL ws lv (pc + 1) (.long (x &&& y) :: rest)) : KW p l e R s m args below meth c cells slots Q G A nL ws lv pc (.long y :: .long x :: rest) := fun H locs ls hP hD hS hl => lv_land C.1 C.2.1 hdg (k H locs ls hP hD hS hl)
theorem kw_lor (C : Cx p s m args meth c cc nL own Ts ret A G y t) {x y : Int64} (hdg : decode cc pc = .ok (.lor, 1))  (k : KW p l e R s m args below meth c cells slots Q G A nL ws lv (pc + 1) (.long (x ||| y) :: rest)) : KW p l e R s m args below meth c cells slots Q G A nL ws lv pc (.long y :: .long x :: rest) := fun H locs ls hP hD hS hl => lv_lor C.1 C.2.1 hdg (k H locs ls hP hD hS hl)
theorem kw_lxor (C : Cx p s m args meth c cc nL own Ts ret A G y t) {x y : Int64} (hdg : decode cc pc = .ok (.lxor, 1))  (k : KW p l e R s m args below meth c cells slots Q G A nL ws lv (pc + 1) (.long (x ^^^ y) :: rest)) : KW p l e R s m args below meth c cells slots Q G A nL ws lv pc (.long y :: .long x :: rest) := fun H locs ls hP hD hS hl => lv_lxor C.1 C.2.1 hdg (k H locs ls hP hD hS hl)
theorem kw_ishl (C : Cx p s m args meth c cc nL own Ts ret A G y t) {x y : Int32} (hdg : decode cc pc = .ok (.ishl, 1))  (k : KW p l e R s m args below meth c cells slots Q G A nL ws lv (pc + 1) (.int (x <<< (y &&& 31)) :: rest)) : KW p l e R s m args below meth c cells slots Q G A nL ws lv pc (.int y :: .int x :: rest) := fun H locs ls hP hD hS hl => lv_ishl C.1 C.2.1 hdg (k H locs ls hP hD hS hl)
theorem kw_ishr (C : Cx p s m args meth c cc nL own Ts ret A G y t) {x y : Int32} (hdg : decode cc pc = .ok (.ishr, 1))  (k : KW p l e R s m args below meth c cells slots Q G A nL ws lv (pc + 1) (.int (x >>> (y &&& 31)) :: rest)) : KW p l e R s m args below meth c cells slots Q G A nL ws lv pc (.int y :: .int x :: rest) := fun H locs ls hP hD hS hl => lv_ishr C.1 C.2.1 hdg (k H locs ls hP hD hS hl)
theorem kw_i2l (C : Cx p s m args meth c cc nL own Ts ret A G y t) {x : Int32} {v : Int64} (hdg : decode cc pc = .ok (.i2l, 1)) (hv : x.toInt64 = v) (k : KW p l e R s m args below meth c cells slots Q G A nL ws lv (pc + 1) (.long v :: rest)) : KW p l e R s m args below meth c cells slots Q G A nL ws lv pc (.int x :: rest) := fun H locs ls hP hD hS hl => lv_i2l C.1 C.2.1 hdg hv (k H locs ls hP hD hS hl)
theorem kw_l2i (C : Cx p s m args meth c cc nL own Ts ret A G y t) {x : Int64} {v : Int32} (hdg : decode cc pc = .ok (.l2i, 1)) (hv : x.toInt32 = v) (k : KW p l e R s m args below meth c cells slots Q G A nL ws lv (pc + 1) (.int v :: rest)) : KW p l e R s m args below meth c cells slots Q G A nL ws lv pc (.long x :: rest) := fun H locs ls hP hD hS hl => lv_l2i C.1 C.2.1 hdg hv (k H locs ls hP hD hS hl)
theorem kw_i2c (C : Cx p s m args meth c cc nL own Ts ret A G y t) {x : Int32} {v : Int32} (hdg : decode cc pc = .ok (.i2c, 1)) (hv : (x.toUInt32 % 65536).toInt32 = v) (k : KW p l e R s m args below meth c cells slots Q G A nL ws lv (pc + 1) (.int v :: rest)) : KW p l e R s m args below meth c cells slots Q G A nL ws lv pc (.int x :: rest) := fun H locs ls hP hD hS hl => lv_i2c C.1 C.2.1 hdg hv (k H locs ls hP hD hS hl)
theorem kw_iushr (C : Cx p s m args meth c cc nL own Ts ret A G y t) {x y v : Int32} (hdg : decode cc pc = .ok (.iushr, 1)) (hv : (x.toUInt32 >>> (y.toUInt32 &&& Int32.toUInt32 31)).toInt32 = v) (k : KW p l e R s m args below meth c cells slots Q G A nL ws lv (pc + 1) (.int v :: rest)) : KW p l e R s m args below meth c cells slots Q G A nL ws lv pc (.int y :: .int x :: rest) := fun H locs ls hP hD hS hl => lv_iushr C.1 C.2.1 hdg hv (k H locs ls hP hD hS hl)
theorem kw_lushr (C : Cx p s m args meth c cc nL own Ts ret A G y t) {x v : Int64} {y : Int32} (hdg : decode cc pc = .ok (.lushr, 1)) (hv : (x.toUInt64 >>> (y.toInt64.toUInt64 &&& Int64.toUInt64 63)).toInt64 = v) (k : KW p l e R s m args below meth c cells slots Q G A nL ws lv (pc + 1) (.long v :: rest)) : KW p l e R s m args below meth c cells slots Q G A nL ws lv pc (.int y :: .long x :: rest) := fun H locs ls hP hD hS hl => lv_lushr C.1 C.2.1 hdg hv (k H locs ls hP hD hS hl)
theorem kw_lshl (C : Cx p s m args meth c cc nL own Ts ret A G y t) {x v : Int64} {y : Int32} (hdg : decode cc pc = .ok (.lshl, 1)) (hv : x <<< (y.toInt64 &&& 63) = v) (k : KW p l e R s m args below meth c cells slots Q G A nL ws lv (pc + 1) (.long v :: rest)) : KW p l e R s m args below meth c cells slots Q G A nL ws lv pc (.int y :: .long x :: rest) := fun H locs ls hP hD hS hl => lv_lshl C.1 C.2.1 hdg hv (k H locs ls hP hD hS hl)
theorem kw_dup (C : Cx p s m args meth c cc nL own Ts ret A G y t) {va : Value} (hdg : decode cc pc = .ok (.dup, 1)) (hva : va.category = 1) (k : KW p l e R s m args below meth c cells slots Q G A nL ws lv (pc + 1) (va :: va :: rest)) : KW p l e R s m args below meth c cells slots Q G A nL ws lv pc (va :: rest) := fun H locs ls hP hD hS hl => lv_dup C.1 C.2.1 hdg hva (k H locs ls hP hD hS hl)
theorem kw_pop (C : Cx p s m args meth c cc nL own Ts ret A G y t) {va : Value} (hdg : decode cc pc = .ok (.pop, 1)) (hva : va.category = 1) (k : KW p l e R s m args below meth c cells slots Q G A nL ws lv (pc + 1) (rest)) : KW p l e R s m args below meth c cells slots Q G A nL ws lv pc (va :: rest) := fun H locs ls hP hD hS hl => lv_pop C.1 C.2.1 hdg hva (k H locs ls hP hD hS hl)
theorem kw_dup2_11 (C : Cx p s m args meth c cc nL own Ts ret A G y t) {va vb : Value} (hdg : decode cc pc = .ok (.dup2, 1)) (hva : va.category = 1) (hvb : vb.category = 1) (k : KW p l e R s m args below meth c cells slots Q G A nL ws lv (pc + 1) (va :: vb :: va :: vb :: rest)) : KW p l e R s m args below meth c cells slots Q G A nL ws lv pc (va :: vb :: rest) := fun H locs ls hP hD hS hl => lv_dup2_11 C.1 C.2.1 hdg hva hvb (k H locs ls hP hD hS hl)
theorem kw_if_eq (C : Cx p s m args meth c cc nL own Ts ret A G y t) {x : Int32} {off : Int} {tgt : Nat} (hdg : decode cc pc = .ok (.ifCond .eq off, 3)) (ht : (pc : Int) + off = (tgt : Int)) (kt : x = 0 → KW p l e R s m args below meth c cells slots Q G A nL ws lv tgt rest) (kf : ¬ x = 0 → KW p l e R s m args below meth c cells slots Q G A nL ws lv (pc + 3) rest) : KW p l e R s m args below meth c cells slots Q G A nL ws lv pc (.int x :: rest) := fun H locs ls hP hD hS hl => lv_if_eq C.1 C.2.1 hdg ht (fun h => kt h H locs ls hP hD hS hl) (fun h => kf h H locs ls hP hD hS hl)
theorem kw_icmp_eq (C : Cx p s m args meth c cc nL own Ts ret A G y t) {x y : Int32} {off : Int} {tgt : Nat} (hdg : decode cc pc = .ok (.if_icmp .eq off, 3)) (ht : (pc : Int) + off = (tgt : Int)) (kt : x = y → KW p l e R s m args below meth c cells slots Q G A nL ws lv tgt rest) (kf : ¬ x = y → KW p l e R s m args below meth c cells slots Q G A nL ws lv (pc + 3) rest) : KW p l e R s m args below meth c cells slots Q G A nL ws lv pc (.int y :: .int x :: rest) := fun H locs ls hP hD hS hl => lv_icmp_eq C.1 C.2.1 hdg ht (fun h => kt h H locs ls hP hD hS hl) (fun h => kf h H locs ls hP hD hS hl)
theorem kw_if_ne (C : Cx p s m args meth c cc nL own Ts ret A G y t) {x : Int32} {off : Int} {tgt : Nat} (hdg : decode cc pc = .ok (.ifCond .ne off, 3)) (ht : (pc : Int) + off = (tgt : Int)) (kt : ¬ x = 0 → KW p l e R s m args below meth c cells slots Q G A nL ws lv tgt rest) (kf : x = 0 → KW p l e R s m args below meth c cells slots Q G A nL ws lv (pc + 3) rest) : KW p l e R s m args below meth c cells slots Q G A nL ws lv pc (.int x :: rest) := fun H locs ls hP hD hS hl => lv_if_ne C.1 C.2.1 hdg ht (fun h => kt h H locs ls hP hD hS hl) (fun h => kf h H locs ls hP hD hS hl)
theorem kw_icmp_ne (C : Cx p s m args meth c cc nL own Ts ret A G y t) {x y : Int32} {off : Int} {tgt : Nat} (hdg : decode cc pc = .ok (.if_icmp .ne off, 3)) (ht : (pc : Int) + off = (tgt : Int)) (kt : ¬ x = y → KW p l e R s m args below meth c cells slots Q G A nL ws lv tgt rest) (kf : x = y → KW p l e R s m args below meth c cells slots Q G A nL ws lv (pc + 3) rest) : KW p l e R s m args below meth c cells slots Q G A nL ws lv pc (.int y :: .int x :: rest) := fun H locs ls hP hD hS hl => lv_icmp_ne C.1 C.2.1 hdg ht (fun h => kt h H locs ls hP hD hS hl) (fun h => kf h H locs ls hP hD hS hl)
theorem kw_if_lt (C : Cx p s m args meth c cc nL own Ts ret A G y t) {x : Int32} {off : Int} {tgt : Nat} (hdg : decode cc pc = .ok (.ifCond .lt off, 3)) (ht : (pc : Int) + off = (tgt : Int)) (kt : x < 0 → KW p l e R s m args below meth c cells slots Q G A nL ws lv tgt rest) (kf : ¬ x < 0 → KW p l e R s m args below meth c cells slots Q G A nL ws lv (pc + 3) rest) : KW p l e R s m args below meth c cells slots Q G A nL ws lv pc (.int x :: rest) := fun H locs ls hP hD hS hl => lv_if_lt C.1 C.2.1 hdg ht (fun h => kt h H locs ls hP hD hS hl) (fun h => kf h H locs ls hP hD hS hl)
theorem kw_icmp_lt (C : Cx p s m args meth c cc nL own Ts ret A G y t) {x y : Int32} {off : Int} {tgt : Nat} (hdg : decode cc pc = .ok (.if_icmp .lt off, 3)) (ht : (pc : Int) + off = (tgt : Int)) (kt : x < y → KW p l e R s m args below meth c cells slots Q G A nL ws lv tgt rest) (kf : ¬ x < y → KW p l e R s m args below meth c cells slots Q G A nL ws lv (pc + 3) rest) : KW p l e R s m args below meth c cells slots Q G A nL ws lv pc (.int y :: .int x :: rest) := fun H locs ls hP hD hS hl => lv_icmp_lt C.1 C.2.1 hdg ht (fun h => kt h H locs ls hP hD hS hl) (fun h => kf h H locs ls hP hD hS hl)
theorem kw_if_ge (C : Cx p s m args meth c cc nL own Ts ret A G y t) {x : Int32} {off : Int} {tgt : Nat} (hdg : decode cc pc = .ok (.ifCond .ge off, 3)) (ht : (pc : Int) + off = (tgt : Int)) (kt : 0 ≤ x → KW p l e R s m args below meth c cells slots Q G A nL ws lv tgt rest) (kf : ¬ 0 ≤ x → KW p l e R s m args below meth c cells slots Q G A nL ws lv (pc + 3) rest) : KW p l e R s m args below meth c cells slots Q G A nL ws lv pc (.int x :: rest) := fun H locs ls hP hD hS hl => lv_if_ge C.1 C.2.1 hdg ht (fun h => kt h H locs ls hP hD hS hl) (fun h => kf h H locs ls hP hD hS hl)
theorem kw_icmp_ge (C : Cx p s m args meth c cc nL own Ts ret A G y t) {x y : Int32} {off : Int} {tgt : Nat} (hdg : decode cc pc = .ok (.if_icmp .ge off, 3)) (ht : (pc : Int) + off = (tgt : Int)) (kt : y ≤ x → KW p l e R s m args below meth c cells slots Q G A nL ws lv tgt rest) (kf : ¬ y ≤ x → KW p l e R s m args below meth c cells slots Q G A nL ws lv (pc + 3) rest) : KW p l e R s m args below meth c cells slots Q G A nL ws lv pc (.int y :: .int x :: rest) := fun H locs ls hP hD hS hl => lv_icmp_ge C.1 C.2.1 hdg ht (fun h => kt h H locs ls hP hD hS hl) (fun h => kf h H locs ls hP hD hS hl)
theorem kw_if_gt (C : Cx p s m args meth c cc nL own Ts ret A G y t) {x : Int32} {off : Int} {tgt : Nat} (hdg : decode cc pc = .ok (.ifCond .gt off, 3)) (ht : (pc : Int) + off = (tgt : Int)) (kt : 0 < x → KW p l e R s m args below meth c cells slots Q G A nL ws lv tgt rest) (kf : ¬ 0 < x → KW p l e R s m args below meth c cells slots Q G A nL ws lv (pc + 3) rest) : KW p l e R s m args below meth c cells slots Q G A nL ws lv pc (.int x :: rest) := fun H locs ls hP hD hS hl => lv_if_gt C.1 C.2.1 hdg ht (fun h => kt h H locs ls hP hD hS hl) (fun h => kf h H locs ls hP hD hS hl)
theorem kw_icmp_gt (C : Cx p s m args meth c cc nL own Ts ret A G y t) {x y : Int32} {off : Int} {tgt : Nat} (hdg : decode cc pc = .ok (.if_icmp .gt off, 3)) (ht : (pc : Int) + off = (tgt : Int)) (kt : y < x → KW p l e R s m args below meth c cells slots Q G A nL ws lv tgt rest) (kf : ¬ y < x → KW p l e R s m args below meth c cells slots Q G A nL ws lv (pc + 3) rest) : KW p l e R s m args below meth c cells slots Q G A nL ws lv pc (.int y :: .int x :: rest) := fun H locs ls hP hD hS hl => lv_icmp_gt C.1 C.2.1 hdg ht (fun h => kt h H locs ls hP hD hS hl) (fun h => kf h H locs ls hP hD hS hl)
theorem kw_if_le (C : Cx p s m args meth c cc nL own Ts ret A G y t) {x : Int32} {off : Int} {tgt : Nat} (hdg : decode cc pc = .ok (.ifCond .le off, 3)) (ht : (pc : Int) + off = (tgt : Int)) (kt : x ≤ 0 → KW p l e R s m args below meth c cells slots Q G A nL ws lv tgt rest) (kf : ¬ x ≤ 0 → KW p l e R s m args below meth c cells slots Q G A nL ws lv (pc + 3) rest) : KW p l e R s m args below meth c cells slots Q G A nL ws lv pc (.int x :: rest) := fun H locs ls hP hD hS hl => lv_if_le C.1 C.2.1 hdg ht (fun h => kt h H locs ls hP hD hS hl) (fun h => kf h H locs ls hP hD hS hl)
theorem kw_icmp_le (C : Cx p s m args meth c cc nL own Ts ret A G y t) {x y : Int32} {off : Int} {tgt : Nat} (hdg : decode cc pc = .ok (.if_icmp .le off, 3)) (ht : (pc : Int) + off = (tgt : Int)) (kt : x ≤ y → KW p l e R s m args below meth c cells slots Q G A nL ws lv tgt rest) (kf : ¬ x ≤ y → KW p l e R s m args below meth c cells slots Q G A nL ws lv (pc + 3) rest) : KW p l e R s m args below meth c cells slots Q G A nL ws lv pc (.int y :: .int x :: rest) := fun H locs ls hP hD hS hl => lv_icmp_le C.1 C.2.1 hdg ht (fun h => kt h H locs ls hP hD hS hl) (fun h => kf h H locs ls hP hD hS hl)
theorem kw_goto (C : Cx p s m args meth c cc nL own Ts ret A G y t) {off : Int} {tgt : Nat} (hdg : decode cc pc = .ok (.goto off, 3)) (ht : (pc : Int) + off = (tgt : Int)) (k : KW p l e R s m args below meth c cells slots Q G A nL ws lv tgt rest) : KW p l e R s m args below meth c cells slots Q G A nL ws lv pc rest := fun H locs ls hP hD hS hl => lv_goto C.1 C.2.1 hdg ht (k H locs ls hP hD hS hl)
theorem kw_lcmp (C : Cx p s m args meth c cc nL own Ts ret A G y t) {x z : Int64} (hdg : decode cc pc = .ok (.lcmp, 1)) (k : KW p l e R s m args below meth c cells slots Q G A nL ws lv (pc + 1) (.int (lg_cmp x z) :: rest)) : KW p l e R s m args below meth c cells slots Q G A nL ws lv pc (.long z :: .long x :: rest) := fun H locs ls hP hD hS hl => W.lcmp C.1 C.2.1 hdg (k H locs ls hP hD hS hl)
theorem kw_dup2_2 (C : Cx p s m args meth c cc nL own Ts ret A G y t) {va : Value} (hdg : decode cc pc = .ok (.dup2, 1)) (hva : va.category = 2) (k : KW p l e R s m args below meth c cells slots Q G A nL ws lv (pc + 1) (va :: va :: rest)) : KW p l e R s m args below meth c cells slots Q G A nL ws lv pc (va :: rest) := fun H locs ls hP hD hS hl => lv_dup2_2 C.1 C.2.1 hdg hva (k H locs ls hP hD hS hl)
theorem kw_iload_n (C : Cx p s m args meth c cc nL own Ts ret A G y t) {k : Fin 4} (q0 : Nat) {x : Int32} (hdg : decode cc pc = .ok (.iload_n k, 1)) (hq : lv[q0]? = some ((k : Nat), .int x)) (kk : KW p l e R s m args below meth c cells slots Q G A nL ws lv (pc + 1) (.int x :: rest)) : KW p l e R s m args below meth c cells slots Q G A nL ws lv pc rest := fun H locs ls hP hD hS hl => lv_iload_n C.1 C.2.1 hdg rfl (lv_at hl q0 hq) (kk H locs ls hP hD hS hl)
theorem kw_iload (C : Cx p s m args meth c cc nL own Ts ret A G y t) {i : Nat} (q0 : Nat) {x : Int32} (hdg : decode cc pc = .ok (.iload i, 2)) (hq : lv[q0]? = some (i, .int x)) (kk : KW p l e R s m args below meth c cells slots Q G A nL ws lv (pc + 2) (.int x :: rest)) : KW p l e R s m args below meth c cells slots Q G A nL ws lv pc rest := fun H locs ls hP hD hS hl => lv_iload C.1 C.2.1 hdg (lv_at hl q0 hq) (kk H locs ls hP hD hS hl)
theorem kw_lload_n (C : Cx p s m args meth c cc nL own Ts ret A G y t) {k : Fin 4} (q0 : Nat) {x : Int64} (hdg : decode cc pc = .ok (.lload_n k, 1)) (hq : lv[q0]? = some ((k : Nat), .long x)) (kk : KW p l e R s m args below meth c cells slots Q G A nL ws lv (pc + 1) (.long x :: rest)) : KW p l e R s m args below meth c cells slots Q G A nL ws lv pc rest := fun H locs ls hP hD hS hl => lv_lload_n C.1 C.2.1 hdg rfl (lv_at hl q0 hq) (kk H locs ls hP hD hS hl)
theorem kw_lload (C : Cx p s m args meth c cc nL own Ts ret A G y t) {i : Nat} (q0 : Nat) {x : Int64} (hdg : decode cc pc = .ok (.lload i, 2)) (hq : lv[q0]? = some (i, .long x)) (kk : KW p l e R s m args below meth c cells slots Q G A nL ws lv (pc + 2) (.long x :: rest)) : KW p l e R s m args below meth c cells slots Q G A nL ws lv pc rest := fun H locs ls hP hD hS hl => lv_lload C.1 C.2.1 hdg (lv_at hl q0 hq) (kk H locs ls hP hD hS hl)
theorem kw_aload_n (C : Cx p s m args meth c cc nL own Ts ret A G y t) {k : Fin 4} (q0 : Nat) {x : Nat} (hdg : decode cc pc = .ok (.aload_n k, 1)) (hq : lv[q0]? = some ((k : Nat), .ref x)) (kk : KW p l e R s m args below meth c cells slots Q G A nL ws lv (pc + 1) (.ref x :: rest)) : KW p l e R s m args below meth c cells slots Q G A nL ws lv pc rest := fun H locs ls hP hD hS hl => lv_aload_n C.1 C.2.1 hdg rfl (lv_at hl q0 hq) (kk H locs ls hP hD hS hl)
theorem kw_aload (C : Cx p s m args meth c cc nL own Ts ret A G y t) {i : Nat} (q0 : Nat) {x : Nat} (hdg : decode cc pc = .ok (.aload i, 2)) (hq : lv[q0]? = some (i, .ref x)) (kk : KW p l e R s m args below meth c cells slots Q G A nL ws lv (pc + 2) (.ref x :: rest)) : KW p l e R s m args below meth c cells slots Q G A nL ws lv pc rest := fun H locs ls hP hD hS hl => lv_aload C.1 C.2.1 hdg (lv_at hl q0 hq) (kk H locs ls hP hD hS hl)
theorem kw_istore_n (C : Cx p s m args meth c cc nL own Ts ret A G y t) {k : Fin 4} {i : Nat} {x : Int32} (lv' : List (Nat × Value)) (hdg : decode cc pc = .ok (.istore_n k, 1)) (hi : (k : Nat) = i) (hn : i < nL) (hl' : (i, Value.int x) :: lv.filter (fun q => !(q.1 == i) && !(q.1 + 1 == i && q.2.category == 2)) = lv') (kk : KW p l e R s m args below meth c cells slots Q G A nL ws lv' (pc + 1) rest) : KW p l e R s m args below meth c cells slots Q G A nL ws lv pc (.int x :: rest) := fun H locs ls hP hD hS hl => lv_istore_n (lv' := lv') C.1 C.2.1 hdg hi hl hn hl' (fun ls hl => kk H locs ls hP hD hS hl)
theorem kw_istore (C : Cx p s m args meth c cc nL own Ts ret A G y t) {i : Nat} {x : Int32} (lv' : List (Nat × Value)) (hdg : decode cc pc = .ok (.istore i, 2)) (hn : i < nL) (hl' : (i, Value.int x) :: lv.filter (fun q => !(q.1 == i) && !(q.1 + 1 == i && q.2.category == 2)) = lv') (kk : KW p l e R s m args below meth c cells slots Q G A nL ws lv' (pc + 2) rest) : KW p l e R s m args below meth c cells slots Q G A nL ws lv pc (.int x :: rest) := fun H locs ls hP hD hS hl => lv_istore (lv' := lv') C.1 C.2.1 hdg hl hn hl' (fun ls hl => kk H locs ls hP hD hS hl)
theorem kw_lstore_n (C : Cx p s m args meth c cc nL own Ts ret A G y t) {k : Fin 4} {i : Nat} {x : Int64} (lv' : List (Nat × Value)) (hdg : decode cc pc = .ok (.lstore_n k, 1)) (hi : (k : Nat) = i) (hn : i + 1 < nL) (hl' : (i, Value.long x) :: lv.filter (fun q => !(q.1 == i) && (!(q.1 == i + 1) && !(q.1 + 1 == i && q.2.category == 2))) = lv') (kk : KW p l e R s m args below meth c cells slots Q G A nL ws lv' (pc + 1) rest) : KW p l e R s m args below meth c cells slots Q G A nL ws lv pc (.long x :: rest) := fun H locs ls hP hD hS hl => lv_lstore_n (lv' := lv') C.1 C.2.1 hdg hi hl hn hl' (fun ls hl => kk H locs ls hP hD hS hl)
theorem kw_lstore (C : Cx p s m args meth c cc nL own Ts ret A G y t) {i : Nat} {x : Int64} (lv' : List (Nat × Value)) (hdg : decode cc pc = .ok (.lstore i, 2)) (hn : i + 1 < nL) (hl' : (i, Value.long x) :: lv.filter (fun q => !(q.1 == i) && (!(q.1 == i + 1) && !(q.1 + 1 == i && q.2.category == 2))) = lv') (kk : KW p l e R s m args below meth c cells slots Q G A nL ws lv' (pc + 2) rest) : KW p l e R s m args below meth c cells slots Q G A nL ws lv pc (.long x :: rest) := fun H locs ls hP hD hS hl => lv_lstore (lv' := lv') C.1 C.2.1 hdg hl hn hl' (fun ls hl => kk H locs ls hP hD hS hl)
theorem kw_astore_n (C : Cx p s m args meth c cc nL own Ts ret A G y t) {k : Fin 4} {i : Nat} {x : Nat} (lv' : List (Nat × Value)) (hdg : decode cc pc = .ok (.astore_n k, 1)) (hi : (k : Nat) = i) (hn : i < nL) (hl' : (i, Value.ref x) :: lv.filter (fun q => !(q.1 == i) && !(q.1 + 1 == i && q.2.category == 2)) = lv') (kk : KW p l e R s m args below meth c cells slots Q G A nL ws lv' (pc + 1) rest) : KW p l e R s m args below meth c cells slots Q G A nL ws lv pc (.ref x :: rest) := fun H locs ls hP hD hS hl => lv_astore_n (lv' := lv') C.1 C.2.1 hdg hi hl hn hl' (fun ls hl => kk H locs ls hP hD hS hl)
theorem kw_astore (C : Cx p s m args meth c cc nL own Ts ret A G y t) {i : Nat} {x : Nat} (lv' : List (Nat × Value)) (hdg : decode cc pc = .ok (.astore i, 2)) (hn : i < nL) (hl' : (i, Value.ref x) :: lv.filter (fun q => !(q.1 == i) && !(q.1 + 1 == i && q.2.category == 2)) = lv') (kk : KW p l e R s m args below meth c cells slots Q G A nL ws lv' (pc + 2) rest) : KW p l e R s m args below meth c cells slots Q G A nL ws lv pc (.ref x :: rest) := fun H locs ls hP hD hS hl => lv_astore (lv' := lv') C.1 C.2.1 hdg hl hn hl' (fun ls hl => kk H locs ls hP hD hS hl)
theorem kw_iinc (C : Cx p s m args meth c cc nL own Ts ret A G y t) {i : Nat} {n : Int} {x v : Int32} (lv' : List (Nat × Value)) (q0 : Nat) (hdg : decode cc pc = .ok (.iinc i n, 3)) (hq : lv[q0]? = some (i, .int x)) (hv : x + Int32.ofInt n = v) (hn : i < nL) (hl' : (i, Value.int v) :: lv.filter (fun q => !(q.1 == i) && !(q.1 + 1 == i && q.2.category == 2)) = lv') (kk : KW p l e R s m args below meth c cells slots Q G A nL ws lv' (pc + 3) rest) : KW p l e R s m args below meth c cells slots Q G A nL ws lv pc rest := fun H locs ls hP hD hS hl => lv_iinc (lv' := lv') C.1 C.2.1 hdg hl hq hv hn hl' (fun ls hl => kk H locs ls hP hD hS hl)
theorem kw_ldc (C : Cx p s m args meth c cc nL own Ts ret A G y t) {index : Nat} {v : Int32} (hm : Jvm.Cond.constant own index v ∈ Ts) (hdg : decode cc pc = .ok (.ldc index, 2)) (k : KW p l e R s m args below meth c cells slots Q G A nL ws lv (pc + 2) (.int v :: rest)) : KW p l e R s m args below meth c cells slots Q G A nL ws lv pc rest := fun H locs ls hP hD hS hl => lv_ldc C.1 C.2.1 C.2.2.2.1 (C.2.2.2.2.1 _ hm) hdg (k H locs ls hP hD hS hl)
theorem kw_ldcw (C : Cx p s m args meth c cc nL own Ts ret A G y t) {index : Nat} {v : Int32} (hm : Jvm.Cond.constant own index v ∈ Ts) (hdg : decode cc pc = .ok (.ldc_w index, 3)) (k : KW p l e R s m args below meth c cells slots Q G A nL ws lv (pc + 3) (.int v :: rest)) : KW p l e R s m args below meth c cells slots Q G A nL ws lv pc rest := fun H locs ls hP hD hS hl => lv_ldcw C.1 C.2.1 C.2.2.2.1 (C.2.2.2.2.1 _ hm) hdg (k H locs ls hP hD hS hl)
theorem kw_ldc2 (C : Cx p s m args meth c cc nL own Ts ret A G y t) {index : Nat} {v : Int64} (hm : Jvm.Cond.constantLong own index v ∈ Ts) (hdg : decode cc pc = .ok (.ldc2_w index, 3)) (k : KW p l e R s m args below meth c cells slots Q G A nL ws lv (pc + 3) (.long v :: rest)) : KW p l e R s m args below meth c cells slots Q G A nL ws lv pc rest := fun H locs ls hP hD hS hl => lv_ldc2 C.1 C.2.1 C.2.2.2.1 (C.2.2.2.2.1 _ hm) hdg (k H locs ls hP hD hS hl)
theorem kw_get (C : Cx p s m args meth c cc nL own Ts ret A G y t) {Cn ref : String} {T : u_T} {N ci index a : Nat} {fs : List Value} {v : Value} (q0 k : Nat) (he : ws[q0]? = some (a, .inr (ci, fs))) (hc : vwCl[ci]? = some (Cn, T, N)) (hk : k < N) (hin : ∀ w ∈ u_ws Cn T N, w ∈ Ts) (hr : ref = (T k).1) (hlink : Cond.fieldLink own index ref (T k).2.1 (T k).2.2.1 ∈ Ts) (hv : fs[k]? = some v) (hdg : decode cc pc = .ok (.getfield index, 3)) (kk : KW p l e R s m args below meth c cells slots Q G A nL ws lv (pc + 3) (v :: rest)) : KW p l e R s m args below meth c cells slots Q G A nL ws lv pc (.ref a :: rest) := fun H locs ls hP hD hS hl => va_get (D := G) C.1 C.2.1 C.2.2.2.2.1 hin C.2.2.2.1 C.2.2.2.2.2.2.2.2.1 hP q0 he hc k hk (C.2.2.2.2.1 _ hlink) (fun _ h => by rw [hr]; exact h) hv hdg (kk H locs ls hP hD hS hl)
theorem kw_getN (C : Cx p s m args meth c cc nL own Ts ret A G y t) {Cn ref host : String} {T : u_T} {N ci index a : Nat} {fs : List Value} {v : Value} (q0 k : Nat) (he : ws[q0]? = some (a, .inr (ci, fs))) (hc : vwCl[ci]? = some (Cn, T, N)) (hk : k < N) (hin : ∀ w ∈ u_ws Cn T N, w ∈ Ts) (hr : ref = (T k).1) (hlink : (own, index, ref, (T k).2.1, (T k).2.2.1, host) ∈ nwF) (hv : fs[k]? = some v) (hdg : decode cc pc = .ok (.getfield index, 3)) (kk : KW p l e R s m args below meth c cells slots Q G A nL ws lv (pc + 3) (v :: rest)) : KW p l e R s m args below meth c cells slots Q G A nL ws lv pc (.ref a :: rest) := fun H locs ls hP hD hS hl => va_getN (D := G) C.1 C.2.1 C.2.2.2.2.1 hin C.2.2.2.1 C.2.2.2.2.2.2.2.2.1 hP q0 he hc k hk (va_Nw.use rfl (C.2.2.2.2.2.2.2.2.2.1.1 _ hlink)) (fun _ h => by rw [hr]; exact h) hv hdg (kk H locs ls hP hD hS hl)
theorem kw_put (C : Cx p s m args meth c cc nL own Ts ret A G y t) {Cn ref : String} {T : u_T} {N ci index a : Nat} {fs : List Value} {v : Value} {ty : FieldType} (q0 k : Nat) (ws' : va_W) (he : ws[q0]? = some (a, .inr (ci, fs))) (hc : vwCl[ci]? = some (Cn, T, N)) (hk : k < N) (hin : ∀ w ∈ u_ws Cn T N, w ∈ Ts) (ty0 : Nat → FieldType) (hty : ∀ k, k < N → parseFieldDescriptor (T k).2.2.1 = some (ty0 k)) (hnm : ∀ a, a < N → ∀ b, b < N → a ≠ b → (T a).2.1 ≠ (T b).2.1) (hr : ref = (T k).1) (hlink : Cond.fieldLink own index ref (T k).2.1 (T k).2.2.1 ∈ Ts) (hfin : (T k).2.2.2 = false) (hd : parseFieldDescriptor (T k).2.2.1 = some ty) (hn : narrow ty v = v) (hfit : fits ty v = true) (hlen : k < fs.length) (hdg : decode cc pc = .ok (.putfield index, 3)) (hw : ws.set q0 (a, .inr (ci, fs.set k v)) = ws') (kk : KW p l e R s m args below meth c cells slots Q G A nL ws' lv (pc + 3) rest) : KW p l e R s m args below meth c cells slots Q G A nL ws lv pc (v :: .ref a :: rest) := fun H locs ls hP hD hS hl => va_put (D := G) C.1 C.2.1 C.2.2.2.2.1 hin ty0 hty hnm C.2.2.2.1 C.2.2.2.2.2.2.2.2.1 hP hD hS q0 he hc k hk (C.2.2.2.2.1 _ hlink) (fun _ h => by rw [hr]; exact h) hfin hd hn hfit hlen hdg (fun H locs hP hD hS => kk H locs ls (hw ▸ hP) (hw ▸ hD) hS hl)
theorem kw_putF (C : Cx p s m args meth c cc nL own Ts ret A G y t) {Cn ref : String} {T : u_T} {N ci index a : Nat} {fs : List Value} {v : Value} {ty : FieldType} (q0 k : Nat) (ws' : va_W) (he : ws[q0]? = some (a, .inr (ci, fs))) (hc : vwCl[ci]? = some (Cn, T, N)) (hk : k < N) (hin : ∀ w ∈ u_ws Cn T N, w ∈ Ts) (ty0 : Nat → FieldType) (hty : ∀ k, k < N → parseFieldDescriptor (T k).2.2.1 = some (ty0 k)) (hnm : ∀ a, a < N → ∀ b, b < N → a ≠ b → (T a).2.1 ≠ (T b).2.1) (hr : ref = (T k).1) (hlink : Cond.fieldLink own index ref (T k).2.1 (T k).2.2.1 ∈ Ts) (hfin : (T k).2.2.2 = true) (hin2 : meth.name = "<init>") (hdecl : (T k).1 = own) (hd : parseFieldDescriptor (T k).2.2.1 = some ty) (hn : narrow ty v = v) (hfit : fits ty v = true) (hlen : k < fs.length) (hdg : decode cc pc = .ok (.putfield index, 3)) (hw : ws.set q0 (a, .inr (ci, fs.set k v)) = ws') (kk : KW p l e R s m args below meth c cells slots Q G A nL ws' lv (pc + 3) rest) : KW p l e R s m args below meth c cells slots Q G A nL ws lv pc (v :: .ref a :: rest) := fun H locs ls hP hD hS hl => va_putF (D := G) C.1 C.2.1 C.2.2.2.2.1 hin ty0 hty hnm C.2.2.2.1 C.2.2.2.2.2.2.2.2.1 hP hD hS q0 he hc k hk (C.2.2.2.2.1 _ hlink) (fun _ h => by rw [hr]; exact h) hfin hin2 hdecl hd hn hfit hlen hdg (fun H locs hP hD hS => kk H locs ls (hw ▸ hP) (hw ▸ hD) hS hl)
theorem kw_putN (C : Cx p s m args meth c cc nL own Ts ret A G y t) {Cn ref host : String} {T : u_T} {N ci index a : Nat} {fs : List Value} {v : Value} {ty : FieldType} (q0 k : Nat) (ws' : va_W) (he : ws[q0]? = some (a, .inr (ci, fs))) (hc : vwCl[ci]? = some (Cn, T, N)) (hk : k < N) (hin : ∀ w ∈ u_ws Cn T N, w ∈ Ts) (ty0 : Nat → FieldType) (hty : ∀ k, k < N → parseFieldDescriptor (T k).2.2.1 = some (ty0 k)) (hnm : ∀ a, a < N → ∀ b, b < N → a ≠ b → (T a).2.1 ≠ (T b).2.1) (hr : ref = (T k).1) (hlink : (own, index, ref, (T k).2.1, (T k).2.2.1, host) ∈ nwF) (hfin : (T k).2.2.2 = false) (hd : parseFieldDescriptor (T k).2.2.1 = some ty) (hn : narrow ty v = v) (hfit : fits ty v = true) (hlen : k < fs.length) (hdg : decode cc pc = .ok (.putfield index, 3)) (hw : ws.set q0 (a, .inr (ci, fs.set k v)) = ws') (kk : KW p l e R s m args below meth c cells slots Q G A nL ws' lv (pc + 3) rest) : KW p l e R s m args below meth c cells slots Q G A nL ws lv pc (v :: .ref a :: rest) := fun H locs ls hP hD hS hl => va_putN (D := G) C.1 C.2.1 C.2.2.2.2.1 hin ty0 hty hnm C.2.2.2.1 C.2.2.2.2.2.2.2.2.1 hP hD hS q0 he hc k hk (va_Nw.use rfl (C.2.2.2.2.2.2.2.2.2.1.1 _ hlink)) (fun _ h => by rw [hr]; exact h) hfin hd hn hfit hlen hdg (fun H locs hP hD hS => kk H locs ls (hw ▸ hP) (hw ▸ hD) hS hl)
theorem kw_iald (C : Cx p s m args meth c cc nL own Ts ret A G y t) {a n : Nat} {f : Nat → Int32} {i : Nat} (q0 : Nat) (ha : ws[q0]? = some (a, .inl (y 1, n, .inl f))) (hi : i < n) (hn : n < 2 ^ 31) (hdg : decode cc pc = .ok (.iaload, 1)) (kk : KW p l e R s m args below meth c cells slots Q G A nL ws lv (pc + 1) (.int (f i) :: rest)) : KW p l e R s m args below meth c cells slots Q G A nL ws lv pc (.int (nI i) :: .ref a :: rest) := fun H locs ls hP hD hS hl => va_iald (D := G) C.1 C.2.1 C.2.2.2.2.2.2.2.2.1 hP q0 1 ha rfl (vp_in_nI hi hn) hdg (by rw [nI_clamp (Nat.lt_trans hi hn)]; exact kk H locs ls hP hD hS hl)
theorem kw_zald (C : Cx p s m args meth c cc nL own Ts ret A G y t) {a n : Nat} {f : Nat → Int32} {i : Nat} (q0 : Nat) (ha : ws[q0]? = some (a, .inl (y 3, n, .inl f))) (hi : i < n) (hn : n < 2 ^ 31) (hdg : decode cc pc = .ok (.baload, 1)) (kk : KW p l e R s m args below meth c cells slots Q G A nL ws lv (pc + 1) (.int (f i) :: rest)) : KW p l e R s m args below meth c cells slots Q G A nL ws lv pc (.int (nI i) :: .ref a :: rest) := fun H locs ls hP hD hS hl => va_zald (D := G) C.1 C.2.1 C.2.2.2.2.2.2.2.2.1 hP q0 3 ha rfl (vp_in_nI hi hn) hdg (by rw [nI_clamp (Nat.lt_trans hi hn)]; exact kk H locs ls hP hD hS hl)
theorem kw_cald (C : Cx p s m args meth c cc nL own Ts ret A G y t) {a n : Nat} {f : Nat → Int32} {i : Nat} (q0 : Nat) (ha : ws[q0]? = some (a, .inl (y 0, n, .inl f))) (hi : i < n) (hn : n < 2 ^ 31) (hdg : decode cc pc = .ok (.caload, 1)) (kk : KW p l e R s m args below meth c cells slots Q G A nL ws lv (pc + 1) (.int (f i) :: rest)) : KW p l e R s m args below meth c cells slots Q G A nL ws lv pc (.int (nI i) :: .ref a :: rest) := fun H locs ls hP hD hS hl => va_cald (D := G) C.1 C.2.1 C.2.2.2.2.2.2.2.2.1 hP q0 0 ha rfl (vp_in_nI hi hn) hdg (by rw [nI_clamp (Nat.lt_trans hi hn)]; exact kk H locs ls hP hD hS hl)
theorem kw_lald (C : Cx p s m args meth c cc nL own Ts ret A G y t) {a n : Nat} {f : Nat → Int64} {i : Nat} (q0 : Nat) (ha : ws[q0]? = some (a, .inl (y 2, n, .inr (.inl f)))) (hi : i < n) (hn : n < 2 ^ 31) (hdg : decode cc pc = .ok (.laload, 1)) (kk : KW p l e R s m args below meth c cells slots Q G A nL ws lv (pc + 1) (.long (f i) :: rest)) : KW p l e R s m args below meth c cells slots Q G A nL ws lv pc (.int (nI i) :: .ref a :: rest) := fun H locs ls hP hD hS hl => va_lald (D := G) C.1 C.2.1 C.2.2.2.2.2.2.2.2.1 hP q0 2 ha rfl (vp_in_nI hi hn) hdg (by rw [nI_clamp (Nat.lt_trans hi hn)]; exact kk H locs ls hP hD hS hl)
theorem kw_aldq (C : Cx p s m args meth c cc nL own Ts ret A G y t) {a n : Nat} {f : Nat → Option Nat} {i b : Nat} (q0 : Nat) (ha : ws[q0]? = some (a, .inl (y 4, n, .inr (.inr (.inr (.inr f)))))) (hi : i < n) (hn : n < 2 ^ 31) (hf : f i = some b) (hdg : decode cc pc = .ok (.aaload, 1)) (kk : KW p l e R s m args below meth c cells slots Q G A nL ws lv (pc + 1) (.ref b :: rest)) : KW p l e R s m args below meth c cells slots Q G A nL ws lv pc (.int (nI i) :: .ref a :: rest) := fun H locs ls hP hD hS hl => va_aldq (D := G) C.1 C.2.1 C.2.2.2.2.2.2.2.2.1 hP q0 4 ha rfl (vp_in_nI hi hn) hdg (by rw [nI_clamp (Nat.lt_trans hi hn), hf]; exact kk H locs ls hP hD hS hl)
theorem kw_iast (C : Cx p s m args meth c cc nL own Ts ret A G y t) {a n : Nat} {f : Nat → Int32} {i : Nat} {x : Int32} (q0 : Nat) (ws' : va_W) (ha : ws[q0]? = some (a, .inl (y 1, n, .inl f))) (hi : i < n) (hn : n < 2 ^ 31) (hdg : decode cc pc = .ok (.iastore, 1)) (hw : ws.set q0 (a, .inl (y 1, n, .inl (upd f i x))) = ws') (kk : KW p l e R s m args below meth c cells slots Q G A nL ws' lv (pc + 1) rest) : KW p l e R s m args below meth c cells slots Q G A nL ws lv pc (.int x :: .int (nI i) :: .ref a :: rest) := fun H locs ls hP hD hS hl => va_iast (D := G) C.1 C.2.1 C.2.2.2.2.2.2.2.2.1 hP hD hS q0 1 ha rfl (vp_in_nI hi hn) hdg (by rw [nI_clamp (Nat.lt_trans hi hn), hw]; exact fun H locs hP hD hS => kk H locs ls hP hD hS hl)
theorem kw_last (C : Cx p s m args meth c cc nL own Ts ret A G y t) {a n : Nat} {f : Nat → Int64} {i : Nat} {x : Int64} (q0 : Nat) (ws' : va_W) (ha : ws[q0]? = some (a, .inl (y 2, n, .inr (.inl f)))) (hi : i < n) (hn : n < 2 ^ 31) (hdg : decode cc pc = .ok (.lastore, 1)) (hw : ws.set q0 (a, .inl (y 2, n, .inr (.inl (vp_updL f i x)))) = ws') (kk : KW p l e R s m args below meth c cells slots Q G A nL ws' lv (pc + 1) rest) : KW p l e R s m args below meth c cells slots Q G A nL ws lv pc (.long x :: .int (nI i) :: .ref a :: rest) := fun H locs ls hP hD hS hl => va_last (D := G) C.1 C.2.1 C.2.2.2.2.2.2.2.2.1 hP hD hS q0 2 ha rfl (vp_in_nI hi hn) hdg (by rw [nI_clamp (Nat.lt_trans hi hn), hw]; exact fun H locs hP hD hS => kk H locs ls hP hD hS hl)
-- zast
-- cast
theorem KW.loc {lv' : List (Nat × Value)} (ks : List Nat) (h : lv_pick lv ks = lv') (k : KW p l e R s m args below meth c cells slots Q G A nL ws lv' pc rest) : KW p l e R s m args below meth c cells slots Q G A nL ws lv pc rest := fun H locs ls hP hD hS hl => k H locs ls hP hD hS (lv_sub hl ks h)
theorem kw_top {x x' : Int32} (h : x = x') (k : KW p l e R s m args below meth c cells slots Q G A nL ws lv pc (.int x' :: rest)) : KW p l e R s m args below meth c cells slots Q G A nL ws lv pc (.int x :: rest) := h ▸ k
theorem kw_topl {x x' : Int64} (h : x = x') (k : KW p l e R s m args below meth c cells slots Q G A nL ws lv pc (.long x' :: rest)) : KW p l e R s m args below meth c cells slots Q G A nL ws lv pc (.long x :: rest) := h ▸ k
theorem KW.sw {ws' : va_W} (is : List Nat) (hn : va_nd is = true) (h : is.map (fun i => ws[i]?) = ws'.map some) (h2 : is.filterMap (fun i => ws[i]?) = ws') (k : KW p l e R s m args below meth c cells slots Q G A nL ws' lv pc rest) : KW p l e R s m args below meth c cells slots Q G A nL ws lv pc rest := fun H locs ls hP hD hS hl => k H locs ls (hP.sub is h2) (hD.sub is hn h) hS hl
theorem kPre {H : Heap} {locs : List Loc} {wc : va_W} {av : List Value} (C : Cx p s m args meth c cc nL own Ts ret A G y t) (hP : va_P G vwCl ws H) (hD : va_D A ws) (hS : va_S A s.heap H locs) (isC : List Nat) (hC : isC.map (fun i => ws[i]?) = wc.map some) (hn : va_nd isC = true) : ∀ U : State, U.heap = H → s.WarmedH U.vm → va_Pc av (PR G y t wc H.size) av.toArray U := by
  intro U hU hW
  have hF := va_free (wc := wc) hD hS C.2.2.2.2.2.2.2.1 isC hC
  have hs : isC.filterMap (fun i => ws[i]?) = wc := by
    have h1 : isC.filterMap (fun i => ws[i]?) = (isC.map (fun i => ws[i]?)).filterMap id := by rw [List.filterMap_map]; rfl
    rw [h1, hC, List.filterMap_map]
    exact List.filterMap_some
  exact ⟨rfl, by rw [hU], by rw [hU]; exact hP.sub isC hs, va_K.moved hW.alike C.2.2.2.2.2.2.2.2.1, (hD.sub isC hn hC).weaken (fun _ _ _ _ => trivial), C.2.2.2.2.2.2.2.2.2.1.warm hW, C.2.2.2.2.2.2.2.2.2.2.go hS hU hW.alike hF⟩
theorem kCall_i {S : Type} {post : Int32 → S → Prop} {W1 : S → va_W} {wc : va_W} {ws' : S → va_W} {st0 : List Value} {mc ms : Nat} {a : Array Value} (C : Cx p s m args meth c cc nL own Ts ret A G y t) (isC isR : List Nat) (perm : List Nat) (hC : isC.map (fun i => ws[i]?) = wc.map some) (hR : isR.map (fun i => ws[i]?) = (isR.filterMap fun i => ws[i]?).map some) (hn : va_nd isR = true) (hdis : ∀ i ∈ isR, i ∉ isC)
    (hp : ∀ u : S, perm.map (fun i => ((isR.filterMap fun i => ws[i]?) ++ W1 u)[i]?) = (ws' u).map some) (hpn : va_nd perm = true)
    (hr : ∀ (H : Heap) (locs : List Loc) (ls : Array Slot), va_P G vwCl ws H → va_D A ws → va_S A s.heap H locs → lv_has ls nL lv → va_Run p l e R s m args below meth c H locs cells slots mc ms (F0 m pc ls st0) rest (va_Qi post (fun u t => PO G (va_A wc H.size) (W1 u) t) (va_A wc H.size) a) (va_A wc H.size))
    (kk : ∀ (r : Int32) (u : S), post r u → KW p l e R s m args below meth c (cells + mc) (slots + ms) Q G A nL (ws' u) lv (pc + 3) (.int r :: rest)) : KW p l e R s m args below meth c cells slots Q G A nL ws lv pc st0 := by
  intro H locs ls hP hD hS hl
  have hF := va_free (wc := wc) hD hS C.2.2.2.2.2.2.2.1 isC hC
  refine va_calli (hr H locs ls hP hD hS hl) hS (fun q _ h => hF q h) hF (fun r u t1 H1 locs1 ht hvm hw hB hz1 hk1 hS => ?_)
  obtain ⟨hP1, hD1⟩ := hB
  rw [ht] at hP1
  obtain ⟨hP, hD⟩ := va_join (wr := isR.filterMap fun i => ws[i]?) (w1 := W1 u) hP hD isC isR hC hR hn hdis hk1 hF hP1 hD1
  have hs : perm.filterMap (fun i => ((isR.filterMap fun i => ws[i]?) ++ W1 u)[i]?) = ws' u := by
    have h1 : perm.filterMap (fun i => ((isR.filterMap fun i => ws[i]?) ++ W1 u)[i]?) = (perm.map (fun i => ((isR.filterMap fun i => ws[i]?) ++ W1 u)[i]?)).filterMap id := by rw [List.filterMap_map]; rfl
    rw [h1, hp u, List.filterMap_map]
    exact List.filterMap_some
  exact kk r u hw H1 locs1 ls (hP.sub perm hs) (hD.sub perm hpn (hp u)) hS hl
theorem kCall_l {S : Type} {post : Int64 → S → Prop} {W1 : S → va_W} {wc : va_W} {ws' : S → va_W} {st0 : List Value} {mc ms : Nat} {a : Array Value} (C : Cx p s m args meth c cc nL own Ts ret A G y t) (isC isR : List Nat) (perm : List Nat) (hC : isC.map (fun i => ws[i]?) = wc.map some) (hR : isR.map (fun i => ws[i]?) = (isR.filterMap fun i => ws[i]?).map some) (hn : va_nd isR = true) (hdis : ∀ i ∈ isR, i ∉ isC)
    (hp : ∀ u : S, perm.map (fun i => ((isR.filterMap fun i => ws[i]?) ++ W1 u)[i]?) = (ws' u).map some) (hpn : va_nd perm = true)
    (hr : ∀ (H : Heap) (locs : List Loc) (ls : Array Slot), va_P G vwCl ws H → va_D A ws → va_S A s.heap H locs → lv_has ls nL lv → va_Run p l e R s m args below meth c H locs cells slots mc ms (F0 m pc ls st0) rest (va_Ql post (fun u t => PO G (va_A wc H.size) (W1 u) t) (va_A wc H.size) a) (va_A wc H.size))
    (kk : ∀ (r : Int64) (u : S), post r u → KW p l e R s m args below meth c (cells + mc) (slots + ms) Q G A nL (ws' u) lv (pc + 3) (.long r :: rest)) : KW p l e R s m args below meth c cells slots Q G A nL ws lv pc st0 := by
  intro H locs ls hP hD hS hl
  have hF := va_free (wc := wc) hD hS C.2.2.2.2.2.2.2.1 isC hC
  refine va_calll (hr H locs ls hP hD hS hl) hS (fun q _ h => hF q h) hF (fun r u t1 H1 locs1 ht hvm hw hB hz1 hk1 hS => ?_)
  obtain ⟨hP1, hD1⟩ := hB
  rw [ht] at hP1
  obtain ⟨hP, hD⟩ := va_join (wr := isR.filterMap fun i => ws[i]?) (w1 := W1 u) hP hD isC isR hC hR hn hdis hk1 hF hP1 hD1
  have hs : perm.filterMap (fun i => ((isR.filterMap fun i => ws[i]?) ++ W1 u)[i]?) = ws' u := by
    have h1 : perm.filterMap (fun i => ((isR.filterMap fun i => ws[i]?) ++ W1 u)[i]?) = (perm.map (fun i => ((isR.filterMap fun i => ws[i]?) ++ W1 u)[i]?)).filterMap id := by rw [List.filterMap_map]; rfl
    rw [h1, hp u, List.filterMap_map]
    exact List.filterMap_some
  exact kk r u hw H1 locs1 ls (hP.sub perm hs) (hD.sub perm hpn (hp u)) hS hl
theorem kCall_v {S : Type} {post : S → Prop} {W1 : S → va_W} {wc : va_W} {ws' : S → va_W} {st0 : List Value} {mc ms : Nat} {a : Array Value} (C : Cx p s m args meth c cc nL own Ts ret A G y t) (isC isR : List Nat) (perm : List Nat) (hC : isC.map (fun i => ws[i]?) = wc.map some) (hR : isR.map (fun i => ws[i]?) = (isR.filterMap fun i => ws[i]?).map some) (hn : va_nd isR = true) (hdis : ∀ i ∈ isR, i ∉ isC)
    (hp : ∀ u : S, perm.map (fun i => ((isR.filterMap fun i => ws[i]?) ++ W1 u)[i]?) = (ws' u).map some) (hpn : va_nd perm = true)
    (hr : ∀ (H : Heap) (locs : List Loc) (ls : Array Slot), va_P G vwCl ws H → va_D A ws → va_S A s.heap H locs → lv_has ls nL lv → va_Run p l e R s m args below meth c H locs cells slots mc ms (F0 m pc ls st0) rest (va_Qv post (fun u t => PO G (va_A wc H.size) (W1 u) t) (va_A wc H.size) a) (va_A wc H.size))
    (kk : ∀ (u : S), post u → KW p l e R s m args below meth c (cells + mc) (slots + ms) Q G A nL (ws' u) lv (pc + 3) rest) : KW p l e R s m args below meth c cells slots Q G A nL ws lv pc st0 := by
  intro H locs ls hP hD hS hl
  have hF := va_free (wc := wc) hD hS C.2.2.2.2.2.2.2.1 isC hC
  refine va_callv (hr H locs ls hP hD hS hl) hS (fun q _ h => hF q h) hF (fun u t1 H1 locs1 ht hvm hw hB hz1 hk1 hS => ?_)
  obtain ⟨hP1, hD1⟩ := hB
  rw [ht] at hP1
  obtain ⟨hP, hD⟩ := va_join (wr := isR.filterMap fun i => ws[i]?) (w1 := W1 u) hP hD isC isR hC hR hn hdis hk1 hF hP1 hD1
  have hs : perm.filterMap (fun i => ((isR.filterMap fun i => ws[i]?) ++ W1 u)[i]?) = ws' u := by
    have h1 : perm.filterMap (fun i => ((isR.filterMap fun i => ws[i]?) ++ W1 u)[i]?) = (perm.map (fun i => ((isR.filterMap fun i => ws[i]?) ++ W1 u)[i]?)).filterMap id := by rw [List.filterMap_map]; rfl
    rw [h1, hp u, List.filterMap_map]
    exact List.filterMap_some
  exact kk u hw H1 locs1 ls (hP.sub perm hs) (hD.sub perm hpn (hp u)) hS hl
theorem kV_i {S : Type} {post : Int32 → S → Prop} {Y : MethodName} {bytes : ByteArray} {maxL mc ms n index : Nat} {rt : Option FieldType} {wsy : List Cond} {rm : Room} {wc : va_W} {W1 : S → va_W} {ws' : S → va_W} {As : List Value} {b ci : Nat} {Cn : String} {T : u_T} {N : Nat} {fs : List Value} (C : Cx p s m args meth c cc nL own Ts ret A G y t) (hM : ∀ sz : Nat, Met l Y wsy rm (va_Pc (.ref b :: As) (PR G y t wc sz)) (va_Qi post (fun u t => PO G (va_A wc sz) (W1 u) t) (va_A wc sz)) mc ms (va_A wc sz)) (cw : CallW R s args own Cn index Y bytes maxL rt wsy rm mc ms n) (isC isR perm : List Nat) (hC : isC.map (fun i => ws[i]?) = wc.map some) (hnC : va_nd isC = true) (hR : isR.map (fun i => ws[i]?) = (isR.filterMap fun i => ws[i]?).map some) (hn : va_nd isR = true) (hdis : ∀ i ∈ isR, i ∉ isC) (hp : ∀ u : S, perm.map (fun i => ((isR.filterMap fun i => ws[i]?) ++ W1 u)[i]?) = (ws' u).map some) (hpn : va_nd perm = true) (q0 : Nat) (he : ws[q0]? = some (b, .inr (ci, fs))) (hc : vwCl[ci]? = some (Cn, T, N)) (hn0 : As.length = n) (hW : (rest.map fun v => v.category).sum ≤ 8) (hf : cells + mc ≤ R.cells ∧ slots + ms ≤ R.slots) (hdg : decode cc pc = .ok (.invokevirtual index, 3)) (kk : ∀ (r : Int32) (u : S), post r u → KW p l e R s m args below meth c (cells + mc) (slots + ms) Q G A nL (ws' u) lv (pc + 3) (.int r :: rest)) : KW p l e R s m args below meth c cells slots Q G A nL ws lv pc (As.reverse ++ .ref b :: rest) :=
  kCall_i C isC isR perm hC hR hn hdis hp hpn (fun H locs ls hP hD hS hl => va_runV (Ts := Ts) ⟨C.1, C.2.1, C.2.2.1, C.2.2.2.1, C.2.2.2.2.1⟩ (hM H.size) cw ⟨PR_blind, va_recv C.2.2.2.2.2.2.2.2.1 hP hc he, kPre C hP hD hS isC hC hnC⟩ rfl hn0 hl.1 rfl (lv_room hW) hdg hf) kk
theorem kS_i {S : Type} {post : Int32 → S → Prop} {Y : MethodName} {bytes : ByteArray} {maxL mc ms n index : Nat} {rt : Option FieldType} {wsy : List Cond} {rm : Room} {wc : va_W} {W1 : S → va_W} {ws' : S → va_W} {As : List Value} (C : Cx p s m args meth c cc nL own Ts ret A G y t) (hM : ∀ sz : Nat, Met l Y wsy rm (va_Pc (As) (PR G y t wc sz)) (va_Qi post (fun u t => PO G (va_A wc sz) (W1 u) t) (va_A wc sz)) mc ms (va_A wc sz)) (cw : CallB R s args own index Y bytes maxL rt wsy rm mc ms n ∧ (Cond.static Y).before args s = true) (isC isR perm : List Nat) (hC : isC.map (fun i => ws[i]?) = wc.map some) (hnC : va_nd isC = true) (hR : isR.map (fun i => ws[i]?) = (isR.filterMap fun i => ws[i]?).map some) (hn : va_nd isR = true) (hdis : ∀ i ∈ isR, i ∉ isC) (hp : ∀ u : S, perm.map (fun i => ((isR.filterMap fun i => ws[i]?) ++ W1 u)[i]?) = (ws' u).map some) (hpn : va_nd perm = true) (hn0 : As.length = n) (hW : (rest.map fun v => v.category).sum ≤ 8) (hf : cells + mc ≤ R.cells ∧ slots + ms ≤ R.slots) (hdg : decode cc pc = .ok (.invokestatic index, 3)) (kk : ∀ (r : Int32) (u : S), post r u → KW p l e R s m args below meth c (cells + mc) (slots + ms) Q G A nL (ws' u) lv (pc + 3) (.int r :: rest)) : KW p l e R s m args below meth c cells slots Q G A nL ws lv pc (As.reverse ++ rest) :=
  kCall_i C isC isR perm hC hR hn hdis hp hpn (fun H locs ls hP hD hS hl => va_runS (Ts := Ts) ⟨C.1, C.2.1, C.2.2.1, C.2.2.2.1, C.2.2.2.2.1⟩ (hM H.size) cw ⟨PR_blind, kPre C hP hD hS isC hC hnC⟩ rfl hn0 hl.1 rfl (lv_room hW) hdg hf) kk
theorem kVN_i {S : Type} {post : Int32 → S → Prop} {Y : MethodName} {bytes : ByteArray} {maxL mc ms n index : Nat} {rt : Option FieldType} {wsy : List Cond} {rm : Room} {wc : va_W} {W1 : S → va_W} {ws' : S → va_W} {As : List Value} {b ci : Nat} {Cn host : String} {T : u_T} {N : Nat} {fs : List Value} (C : Cx p s m args meth c cc nL own Ts ret A G y t) (hM : ∀ sz : Nat, Met l Y wsy rm (va_Pc (.ref b :: As) (PR G y t wc sz)) (va_Qi post (fun u t => PO G (va_A wc sz) (W1 u) t) (va_A wc sz)) mc ms (va_A wc sz)) (cw : va_CN R s args own index Y host bytes maxL rt wsy rm mc ms n ∧ (Cond.instanceMethod Y).before args s = true ∧ (Cond.selects Cn Y Y).before args s = true) (isC isR perm : List Nat) (hC : isC.map (fun i => ws[i]?) = wc.map some) (hnC : va_nd isC = true) (hR : isR.map (fun i => ws[i]?) = (isR.filterMap fun i => ws[i]?).map some) (hn : va_nd isR = true) (hdis : ∀ i ∈ isR, i ∉ isC) (hp : ∀ u : S, perm.map (fun i => ((isR.filterMap fun i => ws[i]?) ++ W1 u)[i]?) = (ws' u).map some) (hpn : va_nd perm = true) (q0 : Nat) (he : ws[q0]? = some (b, .inr (ci, fs))) (hc : vwCl[ci]? = some (Cn, T, N)) (hn0 : As.length = n) (hW : (rest.map fun v => v.category).sum ≤ 8) (hf : cells + mc ≤ R.cells ∧ slots + ms ≤ R.slots) (hdg : decode cc pc = .ok (.invokevirtual index, 3)) (kk : ∀ (r : Int32) (u : S), post r u → KW p l e R s m args below meth c (cells + mc) (slots + ms) Q G A nL (ws' u) lv (pc + 3) (.int r :: rest)) : KW p l e R s m args below meth c cells slots Q G A nL ws lv pc (As.reverse ++ .ref b :: rest) :=
  kCall_i C isC isR perm hC hR hn hdis hp hpn (fun H locs ls hP hD hS hl => va_runVN (Ts := Ts) ⟨C.1, C.2.1, C.2.2.1, C.2.2.2.1, C.2.2.2.2.1⟩ (hM H.size) cw ⟨PR_blind, va_recv C.2.2.2.2.2.2.2.2.1 hP hc he, kPre C hP hD hS isC hC hnC⟩ rfl hn0 hl.1 rfl (lv_room hW) hdg hf) kk
theorem kSN_i {S : Type} {post : Int32 → S → Prop} {Y : MethodName} {bytes : ByteArray} {maxL mc ms n index : Nat} {rt : Option FieldType} {wsy : List Cond} {rm : Room} {wc : va_W} {W1 : S → va_W} {ws' : S → va_W} {As : List Value} {host : String} (C : Cx p s m args meth c cc nL own Ts ret A G y t) (hM : ∀ sz : Nat, Met l Y wsy rm (va_Pc (As) (PR G y t wc sz)) (va_Qi post (fun u t => PO G (va_A wc sz) (W1 u) t) (va_A wc sz)) mc ms (va_A wc sz)) (cw : va_CN R s args own index Y host bytes maxL rt wsy rm mc ms n ∧ (Cond.static Y).before args s = true ∧ True) (isC isR perm : List Nat) (hC : isC.map (fun i => ws[i]?) = wc.map some) (hnC : va_nd isC = true) (hR : isR.map (fun i => ws[i]?) = (isR.filterMap fun i => ws[i]?).map some) (hn : va_nd isR = true) (hdis : ∀ i ∈ isR, i ∉ isC) (hp : ∀ u : S, perm.map (fun i => ((isR.filterMap fun i => ws[i]?) ++ W1 u)[i]?) = (ws' u).map some) (hpn : va_nd perm = true) (hn0 : As.length = n) (hW : (rest.map fun v => v.category).sum ≤ 8) (hf : cells + mc ≤ R.cells ∧ slots + ms ≤ R.slots) (hdg : decode cc pc = .ok (.invokestatic index, 3)) (kk : ∀ (r : Int32) (u : S), post r u → KW p l e R s m args below meth c (cells + mc) (slots + ms) Q G A nL (ws' u) lv (pc + 3) (.int r :: rest)) : KW p l e R s m args below meth c cells slots Q G A nL ws lv pc (As.reverse ++ rest) :=
  kCall_i C isC isR perm hC hR hn hdis hp hpn (fun H locs ls hP hD hS hl => va_runSN (Ts := Ts) ⟨C.1, C.2.1, C.2.2.1, C.2.2.2.1, C.2.2.2.2.1⟩ (hM H.size) cw ⟨PR_blind, kPre C hP hD hS isC hC hnC⟩ rfl hn0 hl.1 rfl (lv_room hW) hdg hf) kk
theorem kV_l {S : Type} {post : Int64 → S → Prop} {Y : MethodName} {bytes : ByteArray} {maxL mc ms n index : Nat} {rt : Option FieldType} {wsy : List Cond} {rm : Room} {wc : va_W} {W1 : S → va_W} {ws' : S → va_W} {As : List Value} {b ci : Nat} {Cn : String} {T : u_T} {N : Nat} {fs : List Value} (C : Cx p s m args meth c cc nL own Ts ret A G y t) (hM : ∀ sz : Nat, Met l Y wsy rm (va_Pc (.ref b :: As) (PR G y t wc sz)) (va_Ql post (fun u t => PO G (va_A wc sz) (W1 u) t) (va_A wc sz)) mc ms (va_A wc sz)) (cw : CallW R s args own Cn index Y bytes maxL rt wsy rm mc ms n) (isC isR perm : List Nat) (hC : isC.map (fun i => ws[i]?) = wc.map some) (hnC : va_nd isC = true) (hR : isR.map (fun i => ws[i]?) = (isR.filterMap fun i => ws[i]?).map some) (hn : va_nd isR = true) (hdis : ∀ i ∈ isR, i ∉ isC) (hp : ∀ u : S, perm.map (fun i => ((isR.filterMap fun i => ws[i]?) ++ W1 u)[i]?) = (ws' u).map some) (hpn : va_nd perm = true) (q0 : Nat) (he : ws[q0]? = some (b, .inr (ci, fs))) (hc : vwCl[ci]? = some (Cn, T, N)) (hn0 : As.length = n) (hW : (rest.map fun v => v.category).sum ≤ 8) (hf : cells + mc ≤ R.cells ∧ slots + ms ≤ R.slots) (hdg : decode cc pc = .ok (.invokevirtual index, 3)) (kk : ∀ (r : Int64) (u : S), post r u → KW p l e R s m args below meth c (cells + mc) (slots + ms) Q G A nL (ws' u) lv (pc + 3) (.long r :: rest)) : KW p l e R s m args below meth c cells slots Q G A nL ws lv pc (As.reverse ++ .ref b :: rest) :=
  kCall_l C isC isR perm hC hR hn hdis hp hpn (fun H locs ls hP hD hS hl => va_runV (Ts := Ts) ⟨C.1, C.2.1, C.2.2.1, C.2.2.2.1, C.2.2.2.2.1⟩ (hM H.size) cw ⟨PR_blind, va_recv C.2.2.2.2.2.2.2.2.1 hP hc he, kPre C hP hD hS isC hC hnC⟩ rfl hn0 hl.1 rfl (lv_room hW) hdg hf) kk
theorem kS_l {S : Type} {post : Int64 → S → Prop} {Y : MethodName} {bytes : ByteArray} {maxL mc ms n index : Nat} {rt : Option FieldType} {wsy : List Cond} {rm : Room} {wc : va_W} {W1 : S → va_W} {ws' : S → va_W} {As : List Value} (C : Cx p s m args meth c cc nL own Ts ret A G y t) (hM : ∀ sz : Nat, Met l Y wsy rm (va_Pc (As) (PR G y t wc sz)) (va_Ql post (fun u t => PO G (va_A wc sz) (W1 u) t) (va_A wc sz)) mc ms (va_A wc sz)) (cw : CallB R s args own index Y bytes maxL rt wsy rm mc ms n ∧ (Cond.static Y).before args s = true) (isC isR perm : List Nat) (hC : isC.map (fun i => ws[i]?) = wc.map some) (hnC : va_nd isC = true) (hR : isR.map (fun i => ws[i]?) = (isR.filterMap fun i => ws[i]?).map some) (hn : va_nd isR = true) (hdis : ∀ i ∈ isR, i ∉ isC) (hp : ∀ u : S, perm.map (fun i => ((isR.filterMap fun i => ws[i]?) ++ W1 u)[i]?) = (ws' u).map some) (hpn : va_nd perm = true) (hn0 : As.length = n) (hW : (rest.map fun v => v.category).sum ≤ 8) (hf : cells + mc ≤ R.cells ∧ slots + ms ≤ R.slots) (hdg : decode cc pc = .ok (.invokestatic index, 3)) (kk : ∀ (r : Int64) (u : S), post r u → KW p l e R s m args below meth c (cells + mc) (slots + ms) Q G A nL (ws' u) lv (pc + 3) (.long r :: rest)) : KW p l e R s m args below meth c cells slots Q G A nL ws lv pc (As.reverse ++ rest) :=
  kCall_l C isC isR perm hC hR hn hdis hp hpn (fun H locs ls hP hD hS hl => va_runS (Ts := Ts) ⟨C.1, C.2.1, C.2.2.1, C.2.2.2.1, C.2.2.2.2.1⟩ (hM H.size) cw ⟨PR_blind, kPre C hP hD hS isC hC hnC⟩ rfl hn0 hl.1 rfl (lv_room hW) hdg hf) kk
theorem kVN_l {S : Type} {post : Int64 → S → Prop} {Y : MethodName} {bytes : ByteArray} {maxL mc ms n index : Nat} {rt : Option FieldType} {wsy : List Cond} {rm : Room} {wc : va_W} {W1 : S → va_W} {ws' : S → va_W} {As : List Value} {b ci : Nat} {Cn host : String} {T : u_T} {N : Nat} {fs : List Value} (C : Cx p s m args meth c cc nL own Ts ret A G y t) (hM : ∀ sz : Nat, Met l Y wsy rm (va_Pc (.ref b :: As) (PR G y t wc sz)) (va_Ql post (fun u t => PO G (va_A wc sz) (W1 u) t) (va_A wc sz)) mc ms (va_A wc sz)) (cw : va_CN R s args own index Y host bytes maxL rt wsy rm mc ms n ∧ (Cond.instanceMethod Y).before args s = true ∧ (Cond.selects Cn Y Y).before args s = true) (isC isR perm : List Nat) (hC : isC.map (fun i => ws[i]?) = wc.map some) (hnC : va_nd isC = true) (hR : isR.map (fun i => ws[i]?) = (isR.filterMap fun i => ws[i]?).map some) (hn : va_nd isR = true) (hdis : ∀ i ∈ isR, i ∉ isC) (hp : ∀ u : S, perm.map (fun i => ((isR.filterMap fun i => ws[i]?) ++ W1 u)[i]?) = (ws' u).map some) (hpn : va_nd perm = true) (q0 : Nat) (he : ws[q0]? = some (b, .inr (ci, fs))) (hc : vwCl[ci]? = some (Cn, T, N)) (hn0 : As.length = n) (hW : (rest.map fun v => v.category).sum ≤ 8) (hf : cells + mc ≤ R.cells ∧ slots + ms ≤ R.slots) (hdg : decode cc pc = .ok (.invokevirtual index, 3)) (kk : ∀ (r : Int64) (u : S), post r u → KW p l e R s m args below meth c (cells + mc) (slots + ms) Q G A nL (ws' u) lv (pc + 3) (.long r :: rest)) : KW p l e R s m args below meth c cells slots Q G A nL ws lv pc (As.reverse ++ .ref b :: rest) :=
  kCall_l C isC isR perm hC hR hn hdis hp hpn (fun H locs ls hP hD hS hl => va_runVN (Ts := Ts) ⟨C.1, C.2.1, C.2.2.1, C.2.2.2.1, C.2.2.2.2.1⟩ (hM H.size) cw ⟨PR_blind, va_recv C.2.2.2.2.2.2.2.2.1 hP hc he, kPre C hP hD hS isC hC hnC⟩ rfl hn0 hl.1 rfl (lv_room hW) hdg hf) kk
theorem kSN_l {S : Type} {post : Int64 → S → Prop} {Y : MethodName} {bytes : ByteArray} {maxL mc ms n index : Nat} {rt : Option FieldType} {wsy : List Cond} {rm : Room} {wc : va_W} {W1 : S → va_W} {ws' : S → va_W} {As : List Value} {host : String} (C : Cx p s m args meth c cc nL own Ts ret A G y t) (hM : ∀ sz : Nat, Met l Y wsy rm (va_Pc (As) (PR G y t wc sz)) (va_Ql post (fun u t => PO G (va_A wc sz) (W1 u) t) (va_A wc sz)) mc ms (va_A wc sz)) (cw : va_CN R s args own index Y host bytes maxL rt wsy rm mc ms n ∧ (Cond.static Y).before args s = true ∧ True) (isC isR perm : List Nat) (hC : isC.map (fun i => ws[i]?) = wc.map some) (hnC : va_nd isC = true) (hR : isR.map (fun i => ws[i]?) = (isR.filterMap fun i => ws[i]?).map some) (hn : va_nd isR = true) (hdis : ∀ i ∈ isR, i ∉ isC) (hp : ∀ u : S, perm.map (fun i => ((isR.filterMap fun i => ws[i]?) ++ W1 u)[i]?) = (ws' u).map some) (hpn : va_nd perm = true) (hn0 : As.length = n) (hW : (rest.map fun v => v.category).sum ≤ 8) (hf : cells + mc ≤ R.cells ∧ slots + ms ≤ R.slots) (hdg : decode cc pc = .ok (.invokestatic index, 3)) (kk : ∀ (r : Int64) (u : S), post r u → KW p l e R s m args below meth c (cells + mc) (slots + ms) Q G A nL (ws' u) lv (pc + 3) (.long r :: rest)) : KW p l e R s m args below meth c cells slots Q G A nL ws lv pc (As.reverse ++ rest) :=
  kCall_l C isC isR perm hC hR hn hdis hp hpn (fun H locs ls hP hD hS hl => va_runSN (Ts := Ts) ⟨C.1, C.2.1, C.2.2.1, C.2.2.2.1, C.2.2.2.2.1⟩ (hM H.size) cw ⟨PR_blind, kPre C hP hD hS isC hC hnC⟩ rfl hn0 hl.1 rfl (lv_room hW) hdg hf) kk
theorem kV_v {S : Type} {post : S → Prop} {Y : MethodName} {bytes : ByteArray} {maxL mc ms n index : Nat} {rt : Option FieldType} {wsy : List Cond} {rm : Room} {wc : va_W} {W1 : S → va_W} {ws' : S → va_W} {As : List Value} {b ci : Nat} {Cn : String} {T : u_T} {N : Nat} {fs : List Value} (C : Cx p s m args meth c cc nL own Ts ret A G y t) (hM : ∀ sz : Nat, Met l Y wsy rm (va_Pc (.ref b :: As) (PR G y t wc sz)) (va_Qv post (fun u t => PO G (va_A wc sz) (W1 u) t) (va_A wc sz)) mc ms (va_A wc sz)) (cw : CallW R s args own Cn index Y bytes maxL rt wsy rm mc ms n) (isC isR perm : List Nat) (hC : isC.map (fun i => ws[i]?) = wc.map some) (hnC : va_nd isC = true) (hR : isR.map (fun i => ws[i]?) = (isR.filterMap fun i => ws[i]?).map some) (hn : va_nd isR = true) (hdis : ∀ i ∈ isR, i ∉ isC) (hp : ∀ u : S, perm.map (fun i => ((isR.filterMap fun i => ws[i]?) ++ W1 u)[i]?) = (ws' u).map some) (hpn : va_nd perm = true) (q0 : Nat) (he : ws[q0]? = some (b, .inr (ci, fs))) (hc : vwCl[ci]? = some (Cn, T, N)) (hn0 : As.length = n) (hW : (rest.map fun v => v.category).sum ≤ 8) (hf : cells + mc ≤ R.cells ∧ slots + ms ≤ R.slots) (hdg : decode cc pc = .ok (.invokevirtual index, 3)) (kk : ∀ (u : S), post u → KW p l e R s m args below meth c (cells + mc) (slots + ms) Q G A nL (ws' u) lv (pc + 3) rest) : KW p l e R s m args below meth c cells slots Q G A nL ws lv pc (As.reverse ++ .ref b :: rest) :=
  kCall_v C isC isR perm hC hR hn hdis hp hpn (fun H locs ls hP hD hS hl => va_runV (Ts := Ts) ⟨C.1, C.2.1, C.2.2.1, C.2.2.2.1, C.2.2.2.2.1⟩ (hM H.size) cw ⟨PR_blind, va_recv C.2.2.2.2.2.2.2.2.1 hP hc he, kPre C hP hD hS isC hC hnC⟩ rfl hn0 hl.1 rfl (lv_room hW) hdg hf) kk
theorem kS_v {S : Type} {post : S → Prop} {Y : MethodName} {bytes : ByteArray} {maxL mc ms n index : Nat} {rt : Option FieldType} {wsy : List Cond} {rm : Room} {wc : va_W} {W1 : S → va_W} {ws' : S → va_W} {As : List Value} (C : Cx p s m args meth c cc nL own Ts ret A G y t) (hM : ∀ sz : Nat, Met l Y wsy rm (va_Pc (As) (PR G y t wc sz)) (va_Qv post (fun u t => PO G (va_A wc sz) (W1 u) t) (va_A wc sz)) mc ms (va_A wc sz)) (cw : CallB R s args own index Y bytes maxL rt wsy rm mc ms n ∧ (Cond.static Y).before args s = true) (isC isR perm : List Nat) (hC : isC.map (fun i => ws[i]?) = wc.map some) (hnC : va_nd isC = true) (hR : isR.map (fun i => ws[i]?) = (isR.filterMap fun i => ws[i]?).map some) (hn : va_nd isR = true) (hdis : ∀ i ∈ isR, i ∉ isC) (hp : ∀ u : S, perm.map (fun i => ((isR.filterMap fun i => ws[i]?) ++ W1 u)[i]?) = (ws' u).map some) (hpn : va_nd perm = true) (hn0 : As.length = n) (hW : (rest.map fun v => v.category).sum ≤ 8) (hf : cells + mc ≤ R.cells ∧ slots + ms ≤ R.slots) (hdg : decode cc pc = .ok (.invokestatic index, 3)) (kk : ∀ (u : S), post u → KW p l e R s m args below meth c (cells + mc) (slots + ms) Q G A nL (ws' u) lv (pc + 3) rest) : KW p l e R s m args below meth c cells slots Q G A nL ws lv pc (As.reverse ++ rest) :=
  kCall_v C isC isR perm hC hR hn hdis hp hpn (fun H locs ls hP hD hS hl => va_runS (Ts := Ts) ⟨C.1, C.2.1, C.2.2.1, C.2.2.2.1, C.2.2.2.2.1⟩ (hM H.size) cw ⟨PR_blind, kPre C hP hD hS isC hC hnC⟩ rfl hn0 hl.1 rfl (lv_room hW) hdg hf) kk
theorem kVN_v {S : Type} {post : S → Prop} {Y : MethodName} {bytes : ByteArray} {maxL mc ms n index : Nat} {rt : Option FieldType} {wsy : List Cond} {rm : Room} {wc : va_W} {W1 : S → va_W} {ws' : S → va_W} {As : List Value} {b ci : Nat} {Cn host : String} {T : u_T} {N : Nat} {fs : List Value} (C : Cx p s m args meth c cc nL own Ts ret A G y t) (hM : ∀ sz : Nat, Met l Y wsy rm (va_Pc (.ref b :: As) (PR G y t wc sz)) (va_Qv post (fun u t => PO G (va_A wc sz) (W1 u) t) (va_A wc sz)) mc ms (va_A wc sz)) (cw : va_CN R s args own index Y host bytes maxL rt wsy rm mc ms n ∧ (Cond.instanceMethod Y).before args s = true ∧ (Cond.selects Cn Y Y).before args s = true) (isC isR perm : List Nat) (hC : isC.map (fun i => ws[i]?) = wc.map some) (hnC : va_nd isC = true) (hR : isR.map (fun i => ws[i]?) = (isR.filterMap fun i => ws[i]?).map some) (hn : va_nd isR = true) (hdis : ∀ i ∈ isR, i ∉ isC) (hp : ∀ u : S, perm.map (fun i => ((isR.filterMap fun i => ws[i]?) ++ W1 u)[i]?) = (ws' u).map some) (hpn : va_nd perm = true) (q0 : Nat) (he : ws[q0]? = some (b, .inr (ci, fs))) (hc : vwCl[ci]? = some (Cn, T, N)) (hn0 : As.length = n) (hW : (rest.map fun v => v.category).sum ≤ 8) (hf : cells + mc ≤ R.cells ∧ slots + ms ≤ R.slots) (hdg : decode cc pc = .ok (.invokevirtual index, 3)) (kk : ∀ (u : S), post u → KW p l e R s m args below meth c (cells + mc) (slots + ms) Q G A nL (ws' u) lv (pc + 3) rest) : KW p l e R s m args below meth c cells slots Q G A nL ws lv pc (As.reverse ++ .ref b :: rest) :=
  kCall_v C isC isR perm hC hR hn hdis hp hpn (fun H locs ls hP hD hS hl => va_runVN (Ts := Ts) ⟨C.1, C.2.1, C.2.2.1, C.2.2.2.1, C.2.2.2.2.1⟩ (hM H.size) cw ⟨PR_blind, va_recv C.2.2.2.2.2.2.2.2.1 hP hc he, kPre C hP hD hS isC hC hnC⟩ rfl hn0 hl.1 rfl (lv_room hW) hdg hf) kk
theorem kSN_v {S : Type} {post : S → Prop} {Y : MethodName} {bytes : ByteArray} {maxL mc ms n index : Nat} {rt : Option FieldType} {wsy : List Cond} {rm : Room} {wc : va_W} {W1 : S → va_W} {ws' : S → va_W} {As : List Value} {host : String} (C : Cx p s m args meth c cc nL own Ts ret A G y t) (hM : ∀ sz : Nat, Met l Y wsy rm (va_Pc (As) (PR G y t wc sz)) (va_Qv post (fun u t => PO G (va_A wc sz) (W1 u) t) (va_A wc sz)) mc ms (va_A wc sz)) (cw : va_CN R s args own index Y host bytes maxL rt wsy rm mc ms n ∧ (Cond.static Y).before args s = true ∧ True) (isC isR perm : List Nat) (hC : isC.map (fun i => ws[i]?) = wc.map some) (hnC : va_nd isC = true) (hR : isR.map (fun i => ws[i]?) = (isR.filterMap fun i => ws[i]?).map some) (hn : va_nd isR = true) (hdis : ∀ i ∈ isR, i ∉ isC) (hp : ∀ u : S, perm.map (fun i => ((isR.filterMap fun i => ws[i]?) ++ W1 u)[i]?) = (ws' u).map some) (hpn : va_nd perm = true) (hn0 : As.length = n) (hW : (rest.map fun v => v.category).sum ≤ 8) (hf : cells + mc ≤ R.cells ∧ slots + ms ≤ R.slots) (hdg : decode cc pc = .ok (.invokestatic index, 3)) (kk : ∀ (u : S), post u → KW p l e R s m args below meth c (cells + mc) (slots + ms) Q G A nL (ws' u) lv (pc + 3) rest) : KW p l e R s m args below meth c cells slots Q G A nL ws lv pc (As.reverse ++ rest) :=
  kCall_v C isC isR perm hC hR hn hdis hp hpn (fun H locs ls hP hD hS hl => va_runSN (Ts := Ts) ⟨C.1, C.2.1, C.2.2.1, C.2.2.2.1, C.2.2.2.2.1⟩ (hM H.size) cw ⟨PR_blind, kPre C hP hD hS isC hC hnC⟩ rfl hn0 hl.1 rfl (lv_room hW) hdg hf) kk
theorem kR_i {S : Type} {post : Int32 → S → Prop} {W1 : S → va_W} {v : Int32} (C : Cx p s m args meth c cc nL own Ts (some .int) A G y t) (u : S) (hdg : decode cc pc = .ok (.ireturn, 1)) (hpost : post v u) (hw : ws = W1 u) : KW p l e R s m args below meth c cells slots (MQ below (va_Qi post (fun u t => PO G A (W1 u) t) A) args s cells slots A) G A nL ws lv pc [.int v] := fun H locs ls hP hD hS hl =>
  W.iret C.1 C.2.1 C.2.2.2.2.2.1 (fun t ht hW => ⟨⟨v, u, rfl, hpost, by rw [ht, ← hw]; exact hP, hw ▸ hD⟩, hS.F ht⟩) hS.2.2 hdg C.2.2.2.2.2.2.1
theorem kR_z {S : Type} {post : Int32 → S → Prop} {W1 : S → va_W} {v : Int32} (C : Cx p s m args meth c cc nL own Ts (some .boolean) A G y t) (u : S) (hdg : decode cc pc = .ok (.ireturn, 1)) (hb : narrow .boolean (.int v) = .int v) (hpost : post v u) (hw : ws = W1 u) : KW p l e R s m args below meth c cells slots (MQ below (va_Qi post (fun u t => PO G A (W1 u) t) A) args s cells slots A) G A nL ws lv pc [.int v] := fun H locs ls hP hD hS hl =>
  W.zret C.1 C.2.1 C.2.2.2.2.2.1 hb (fun t ht hW => ⟨⟨v, u, rfl, hpost, by rw [ht, ← hw]; exact hP, hw ▸ hD⟩, hS.F ht⟩) hS.2.2 hdg C.2.2.2.2.2.2.1
theorem kR_l {S : Type} {post : Int64 → S → Prop} {W1 : S → va_W} {v : Int64} (C : Cx p s m args meth c cc nL own Ts (some .long) A G y t) (u : S) (hdg : decode cc pc = .ok (.lreturn, 1)) (hpost : post v u) (hw : ws = W1 u) : KW p l e R s m args below meth c cells slots (MQ below (va_Ql post (fun u t => PO G A (W1 u) t) A) args s cells slots A) G A nL ws lv pc [.long v] := fun H locs ls hP hD hS hl =>
  W.lret C.1 C.2.1 C.2.2.2.2.2.1 (fun t ht hW => ⟨⟨v, u, rfl, hpost, by rw [ht, ← hw]; exact hP, hw ▸ hD⟩, hS.F ht⟩) hS.2.2 hdg C.2.2.2.2.2.2.1
theorem kR_v {S : Type} {post : S → Prop} {W1 : S → va_W} (C : Cx p s m args meth c cc nL own Ts none A G y t) (u : S) (hdg : decode cc pc = .ok (.return_, 1)) (hpost : post u) (hw : ws = W1 u) : KW p l e R s m args below meth c cells slots (MQ below (va_Qv post (fun u t => PO G A (W1 u) t) A) args s cells slots A) G A nL ws lv pc [] := fun H locs ls hP hD hS hl =>
  W.vret C.1 C.2.1 C.2.2.2.2.2.1 (fun t ht hW => ⟨⟨u, rfl, hpost, by rw [ht, ← hw]; exact hP, hw ▸ hD⟩, hS.F ht⟩) hS.2.2 hdg C.2.2.2.2.2.2.1
end KWS
/-- a truth value as an int -/
def bI (b : Bool) : Int32 := if b then 1 else 0
theorem bI_t {P : Prop} [Decidable P] (h : P) : bI (decide P) = 1 := by rw [decide_eq_true h]; rfl
theorem bI_f {P : Prop} [Decidable P] (h : ¬ P) : bI (decide P) = 0 := by rw [decide_eq_false h]; rfl
theorem bI_z (b : Bool) : narrow .boolean (.int (bI b)) = .int (bI b) := by cases b <;> decide
theorem bI_v (b : Bool) : vp_nar .boolean (bI b) = bI b := by cases b <;> decide
theorem bI_eq0 {b : Bool} : bI b = 0 ↔ b = false := by cases b <;> decide
section KWN
variable {p : Program} {l : Launch} {e : Env} {R : Room} {s : State} {m : MethodId} {args : Array Value} {below : List Frame} {meth : Method} {c : Code} {cells slots : Nat} {Q : State → Prop}
variable {G : va_G} {A : Nat → Prop} {nL : Nat} {cc : ByteArray} {own : String} {Ts : List Cond} {ret : Option FieldType} {y : Nat → ClassId} {t : Nat} {ws : va_W} {lv : List (Nat × Value)} {pc : Nat} {rest : List Value}
theorem kw_icmp_eq_N (C : Cx p s m args meth c cc nL own Ts ret A G y t) {a b : Nat} {off : Int} {tgt : Nat} (ha : a < 2 ^ 31) (hb : b < 2 ^ 31) (hdg : decode cc pc = .ok (.if_icmp .eq off, 3)) (ht : (pc : Int) + off = (tgt : Int)) (kt : a = b → KW p l e R s m args below meth c cells slots Q G A nL ws lv tgt rest) (kf : a ≠ b → KW p l e R s m args below meth c cells slots Q G A nL ws lv (pc + 3) rest) : KW p l e R s m args below meth c cells slots Q G A nL ws lv pc (.int (nI b) :: .int (nI a) :: rest) := kw_icmp_eq C hdg ht (fun h => kt ((nI_eq ha hb).mp h)) (fun h => kf (fun q => h ((nI_eq ha hb).mpr q)))
theorem kw_icmp_ne_N (C : Cx p s m args meth c cc nL own Ts ret A G y t) {a b : Nat} {off : Int} {tgt : Nat} (ha : a < 2 ^ 31) (hb : b < 2 ^ 31) (hdg : decode cc pc = .ok (.if_icmp .ne off, 3)) (ht : (pc : Int) + off = (tgt : Int)) (kt : a ≠ b → KW p l e R s m args below meth c cells slots Q G A nL ws lv tgt rest) (kf : a = b → KW p l e R s m args below meth c cells slots Q G A nL ws lv (pc + 3) rest) : KW p l e R s m args below meth c cells slots Q G A nL ws lv pc (.int (nI b) :: .int (nI a) :: rest) := kw_icmp_ne C hdg ht (fun h => kt (fun q => h ((nI_eq ha hb).mpr q))) (fun h => kf ((nI_eq ha hb).mp h))
theorem kw_icmp_lt_N (C : Cx p s m args meth c cc nL own Ts ret A G y t) {a b : Nat} {off : Int} {tgt : Nat} (ha : a < 2 ^ 31) (hb : b < 2 ^ 31) (hdg : decode cc pc = .ok (.if_icmp .lt off, 3)) (ht : (pc : Int) + off = (tgt : Int)) (kt : a < b → KW p l e R s m args below meth c cells slots Q G A nL ws lv tgt rest) (kf : b ≤ a → KW p l e R s m args below meth c cells slots Q G A nL ws lv (pc + 3) rest) : KW p l e R s m args below meth c cells slots Q G A nL ws lv pc (.int (nI b) :: .int (nI a) :: rest) := kw_icmp_lt C hdg ht (fun h => kt ((nI_ltI ha hb).mp h)) (fun h => kf (Nat.not_lt.mp fun q => h ((nI_ltI ha hb).mpr q)))
theorem kw_icmp_ge_N (C : Cx p s m args meth c cc nL own Ts ret A G y t) {a b : Nat} {off : Int} {tgt : Nat} (ha : a < 2 ^ 31) (hb : b < 2 ^ 31) (hdg : decode cc pc = .ok (.if_icmp .ge off, 3)) (ht : (pc : Int) + off = (tgt : Int)) (kt : b ≤ a → KW p l e R s m args below meth c cells slots Q G A nL ws lv tgt rest) (kf : a < b → KW p l e R s m args below meth c cells slots Q G A nL ws lv (pc + 3) rest) : KW p l e R s m args below meth c cells slots Q G A nL ws lv pc (.int (nI b) :: .int (nI a) :: rest) := kw_icmp_ge C hdg ht (fun h => kt ((nI_leI hb ha).mp h)) (fun h => kf (Nat.not_le.mp fun q => h ((nI_leI hb ha).mpr q)))
theorem kw_icmp_gt_N (C : Cx p s m args meth c cc nL own Ts ret A G y t) {a b : Nat} {off : Int} {tgt : Nat} (ha : a < 2 ^ 31) (hb : b < 2 ^ 31) (hdg : decode cc pc = .ok (.if_icmp .gt off, 3)) (ht : (pc : Int) + off = (tgt : Int)) (kt : b < a → KW p l e R s m args below meth c cells slots Q G A nL ws lv tgt rest) (kf : a ≤ b → KW p l e R s m args below meth c cells slots Q G A nL ws lv (pc + 3) rest) : KW p l e R s m args below meth c cells slots Q G A nL ws lv pc (.int (nI b) :: .int (nI a) :: rest) := kw_icmp_gt C hdg ht (fun h => kt ((nI_ltI hb ha).mp h)) (fun h => kf (Nat.not_lt.mp fun q => h ((nI_ltI hb ha).mpr q)))
theorem kw_icmp_le_N (C : Cx p s m args meth c cc nL own Ts ret A G y t) {a b : Nat} {off : Int} {tgt : Nat} (ha : a < 2 ^ 31) (hb : b < 2 ^ 31) (hdg : decode cc pc = .ok (.if_icmp .le off, 3)) (ht : (pc : Int) + off = (tgt : Int)) (kt : a ≤ b → KW p l e R s m args below meth c cells slots Q G A nL ws lv tgt rest) (kf : b < a → KW p l e R s m args below meth c cells slots Q G A nL ws lv (pc + 3) rest) : KW p l e R s m args below meth c cells slots Q G A nL ws lv pc (.int (nI b) :: .int (nI a) :: rest) := kw_icmp_le C hdg ht (fun h => kt ((nI_leI ha hb).mp h)) (fun h => kf (Nat.not_le.mp fun q => h ((nI_leI ha hb).mpr q)))
theorem nI_eq0 {a : Nat} (ha : a < 2 ^ 31) : nI a = 0 ↔ a = 0 := by rw [← nI_0]; exact nI_eq ha (by decide)
theorem kw_if_eq_N (C : Cx p s m args meth c cc nL own Ts ret A G y t) {a : Nat} {off : Int} {tgt : Nat} (ha : a < 2 ^ 31) (hdg : decode cc pc = .ok (.ifCond .eq off, 3)) (ht : (pc : Int) + off = (tgt : Int)) (kt : a = 0 → KW p l e R s m args below meth c cells slots Q G A nL ws lv tgt rest) (kf : a ≠ 0 → KW p l e R s m args below meth c cells slots Q G A nL ws lv (pc + 3) rest) : KW p l e R s m args below meth c cells slots Q G A nL ws lv pc (.int (nI a) :: rest) := kw_if_eq C hdg ht (fun h => kt ((nI_eq0 ha).mp h)) (fun h => kf (fun q => h ((nI_eq0 ha).mpr q)))
theorem kw_if_ne_N (C : Cx p s m args meth c cc nL own Ts ret A G y t) {a : Nat} {off : Int} {tgt : Nat} (ha : a < 2 ^ 31) (hdg : decode cc pc = .ok (.ifCond .ne off, 3)) (ht : (pc : Int) + off = (tgt : Int)) (kt : a ≠ 0 → KW p l e R s m args below meth c cells slots Q G A nL ws lv tgt rest) (kf : a = 0 → KW p l e R s m args below meth c cells slots Q G A nL ws lv (pc + 3) rest) : KW p l e R s m args below meth c cells slots Q G A nL ws lv pc (.int (nI a) :: rest) := kw_if_ne C hdg ht (fun h => kt (fun q => h ((nI_eq0 ha).mpr q))) (fun h => kf ((nI_eq0 ha).mp h))
theorem kw_if_lt_N (C : Cx p s m args meth c cc nL own Ts ret A G y t) {a : Nat} {off : Int} {tgt : Nat} (ha : a < 2 ^ 31) (hdg : decode cc pc = .ok (.ifCond .lt off, 3)) (ht : (pc : Int) + off = (tgt : Int)) (kf : KW p l e R s m args below meth c cells slots Q G A nL ws lv (pc + 3) rest) : KW p l e R s m args below meth c cells slots Q G A nL ws lv pc (.int (nI a) :: rest) := kw_if_lt C hdg ht (fun h => absurd h (nI_pos ha)) (fun _ => kf)
theorem kw_if_ge_N (C : Cx p s m args meth c cc nL own Ts ret A G y t) {a : Nat} {off : Int} {tgt : Nat} (ha : a < 2 ^ 31) (hdg : decode cc pc = .ok (.ifCond .ge off, 3)) (ht : (pc : Int) + off = (tgt : Int)) (kt : KW p l e R s m args below meth c cells slots Q G A nL ws lv tgt rest) : KW p l e R s m args below meth c cells slots Q G A nL ws lv pc (.int (nI a) :: rest) := kw_if_ge C hdg ht (fun _ => kt) (fun h => absurd (nI_pos' ha) h)
theorem kw_if_le_N (C : Cx p s m args meth c cc nL own Ts ret A G y t) {a : Nat} {off : Int} {tgt : Nat} (ha : a < 2 ^ 31) (hdg : decode cc pc = .ok (.ifCond .le off, 3)) (ht : (pc : Int) + off = (tgt : Int)) (kt : a = 0 → KW p l e R s m args below meth c cells slots Q G A nL ws lv tgt rest) (kf : 0 < a → KW p l e R s m args below meth c cells slots Q G A nL ws lv (pc + 3) rest) : KW p l e R s m args below meth c cells slots Q G A nL ws lv pc (.int (nI a) :: rest) := kw_if_le C hdg ht (fun h => kt (Nat.eq_zero_of_not_pos fun q => nI_nle q ha h)) (fun h => kf (Nat.pos_of_ne_zero fun q => h (by rw [q, nI_0]; decide)))
theorem kw_if_gt_N (C : Cx p s m args meth c cc nL own Ts ret A G y t) {a : Nat} {off : Int} {tgt : Nat} (ha : a < 2 ^ 31) (hdg : decode cc pc = .ok (.ifCond .gt off, 3)) (ht : (pc : Int) + off = (tgt : Int)) (kt : 0 < a → KW p l e R s m args below meth c cells slots Q G A nL ws lv tgt rest) (kf : a = 0 → KW p l e R s m args below meth c cells slots Q G A nL ws lv (pc + 3) rest) : KW p l e R s m args below meth c cells slots Q G A nL ws lv pc (.int (nI a) :: rest) := kw_if_gt C hdg ht (fun h => kt (Nat.pos_of_ne_zero fun q => absurd h (by rw [q, nI_0]; decide))) (fun h => kf (Nat.eq_zero_of_not_pos fun q => h (by rw [← nI_0]; exact nI_lt q ha)))
theorem kw_if_eq_D (C : Cx p s m args meth c cc nL own Ts ret A G y t) {P : Prop} {dP : Decidable P} {off : Int} {tgt : Nat} (hdg : decode cc pc = .ok (.ifCond .eq off, 3)) (ht : (pc : Int) + off = (tgt : Int)) (kt : ¬ P → KW p l e R s m args below meth c cells slots Q G A nL ws lv tgt rest) (kf : P → KW p l e R s m args below meth c cells slots Q G A nL ws lv (pc + 3) rest) : KW p l e R s m args below meth c cells slots Q G A nL ws lv pc (.int (bI (@decide P dP)) :: rest) := kw_if_eq C hdg ht (fun h => kt (of_decide_eq_false (bI_eq0.mp h))) (fun h => kf (Decidable.byContradiction fun q => h (bI_f q)))
theorem kw_if_ne_D (C : Cx p s m args meth c cc nL own Ts ret A G y t) {P : Prop} {dP : Decidable P} {off : Int} {tgt : Nat} (hdg : decode cc pc = .ok (.ifCond .ne off, 3)) (ht : (pc : Int) + off = (tgt : Int)) (kt : P → KW p l e R s m args below meth c cells slots Q G A nL ws lv tgt rest) (kf : ¬ P → KW p l e R s m args below meth c cells slots Q G A nL ws lv (pc + 3) rest) : KW p l e R s m args below meth c cells slots Q G A nL ws lv pc (.int (bI (@decide P dP)) :: rest) := kw_if_ne C hdg ht (fun h => kt (Decidable.byContradiction fun q => h (bI_f q))) (fun h => kf (of_decide_eq_false (bI_eq0.mp h)))
theorem kw_zast (C : Cx p s m args meth c cc nL own Ts ret A G y t) {a n : Nat} {f : Nat → Int32} {i : Nat} {x : Int32} (q0 : Nat) (ws' : va_W) (ha : ws[q0]? = some (a, .inl (y 3, n, .inl f))) (hi : i < n) (hn : n < 2 ^ 31) (hx : vp_nar .boolean x = x) (hdg : decode cc pc = .ok (.bastore, 1)) (hw : ws.set q0 (a, .inl (y 3, n, .inl (upd f i x))) = ws') (kk : KW p l e R s m args below meth c cells slots Q G A nL ws' lv (pc + 1) rest) : KW p l e R s m args below meth c cells slots Q G A nL ws lv pc (.int x :: .int (nI i) :: .ref a :: rest) := fun H locs ls hP hD hS hl => va_zast (D := G) C.1 C.2.1 C.2.2.2.2.2.2.2.2.1 hP hD hS q0 3 ha rfl (vp_in_nI hi hn) hdg (by rw [nI_clamp (Nat.lt_trans hi hn), hx, hw]; exact fun H locs hP hD hS => kk H locs ls hP hD hS hl)
theorem kw_cast (C : Cx p s m args meth c cc nL own Ts ret A G y t) {a n : Nat} {f : Nat → Int32} {i : Nat} {x : Int32} (q0 : Nat) (ws' : va_W) (ha : ws[q0]? = some (a, .inl (y 0, n, .inl f))) (hi : i < n) (hn : n < 2 ^ 31) (hx : vp_nar .char x = x) (hdg : decode cc pc = .ok (.castore, 1)) (hw : ws.set q0 (a, .inl (y 0, n, .inl (upd f i x))) = ws') (kk : KW p l e R s m args below meth c cells slots Q G A nL ws' lv (pc + 1) rest) : KW p l e R s m args below meth c cells slots Q G A nL ws lv pc (.int x :: .int (nI i) :: .ref a :: rest) := fun H locs ls hP hD hS hl => va_cast (D := G) C.1 C.2.1 C.2.2.2.2.2.2.2.2.1 hP hD hS q0 0 ha rfl (vp_in_nI hi hn) hdg (by rw [nI_clamp (Nat.lt_trans hi hn), hx, hw]; exact fun H locs hP hD hS => kk H locs ls hP hD hS hl)
theorem kw_alen (C : Cx p s m args meth c cc nL own Ts ret A G y t) {a : Nat} {ci : ClassId} {x : vp_A} {ft : FieldType} (q0 t0 : Nat) (ha : ws[q0]? = some (a, .inl (ci, x))) (ht : (TY y)[t0]? = some (ci, ft)) (hdg : decode cc pc = .ok (.arraylength, 1)) (kk : KW p l e R s m args below meth c cells slots Q G A nL ws lv (pc + 1) (.int (nI x.1) :: rest)) : KW p l e R s m args below meth c cells slots Q G A nL ws lv pc (.ref a :: rest) := fun H locs ls hP hD hS hl => va_alen (D := G) C.1 C.2.1 C.2.2.2.2.2.2.2.2.1 hP q0 t0 ha ht rfl hdg (kk H locs ls hP hD hS hl)
theorem kw_gets (C : Cx p s m args meth c cc nL own Ts ret A G y t) {index : Nat} (hlink : Cond.fieldLink own index "SlippedBlocks$Work" "HAVING" "[I" ∈ Ts) (hdg : decode cc pc = .ok (.getstatic index, 3)) (kk : KW p l e R s m args below meth c cells slots Q G A nL ws lv (pc + 3) (.ref t :: rest)) : KW p l e R s m args below meth c cells slots Q G A nL ws lv pc rest := fun H locs ls hP hD hS hl => va_gets C.1 C.2.1 C.2.2.2.2.2.2.2.2.2.2.1 hS C.2.2.2.1 (C.2.2.2.2.1 _ hlink) (fun _ h => h) hdg (kk H locs ls hP hD hS hl)
theorem kw_tlen (C : Cx p s m args meth c cc nL own Ts ret A G y t) (hdg : decode cc pc = .ok (.arraylength, 1)) (kk : KW p l e R s m args below meth c cells slots Q G A nL ws lv (pc + 1) (.int (nI 3) :: rest)) : KW p l e R s m args below meth c cells slots Q G A nL ws lv pc (.ref t :: rest) := fun H locs ls hP hD hS hl => va_tlen C.1 C.2.1 C.2.2.2.2.2.2.2.2.2.2.2 hS rfl hdg (kk H locs ls hP hD hS hl)
theorem kw_ti (C : Cx p s m args meth c cc nL own Ts ret A G y t) {i : Nat} (hi : i < 3) (hdg : decode cc pc = .ok (.iaload, 1)) (kk : KW p l e R s m args below meth c cells slots Q G A nL ws lv (pc + 1) (.int (hvF i) :: rest)) : KW p l e R s m args below meth c cells slots Q G A nL ws lv pc (.int (nI i) :: .ref t :: rest) := fun H locs ls hP hD hS hl => va_ti C.1 C.2.1 C.2.2.2.2.2.2.2.2.2.2.2 hS (vp_in_nI hi (by decide)) (by rw [nI_clamp (Nat.lt_trans hi (by decide))]) hdg (kk H locs ls hP hD hS hl)
theorem kw_mmax (C : Cx p s m args meth c cc nL own Ts ret A G y t) {index : Nat} {x z : Int32} (h1 : Cond.methodLink own index Lib.Math.max.name ∈ Ts) (h2 : Cond.static Lib.Math.max.name ∈ Ts) (h3 : Cond.initialized "java/lang/Math" ∈ Ts) (h4 : Cond.code Lib.Math.max.name Lib.Math.max.code 2 (some .int) ∈ Ts) (hframes : 1 ≤ R.frames) (hlocals : (rest.map fun v => v.category).sum + 13 ≤ R.locals) (hc : cells ≤ R.cells) (hs : slots ≤ R.slots) (hdg : decode cc pc = .ok (.invokestatic index, 3)) (kk : KW p l e R s m args below meth c cells slots Q G A nL ws lv (pc + 3) (.int (if x < z then z else x) :: rest)) : KW p l e R s m args below meth c cells slots Q G A nL ws lv pc (.int z :: .int x :: rest) := fun H locs ls hP hD hS hl => va_mmax C.1 C.2.1 (C.2.2.1.trans hl.1.symm) C.2.2.2.1 (C.2.2.2.2.1 _ h1) (C.2.2.2.2.1 _ h2) (C.2.2.2.2.1 _ h3) (C.2.2.2.2.1 _ h4) hframes hlocals hc hs hdg (kk H locs ls hP hD hS hl)
theorem kw_mmin (C : Cx p s m args meth c cc nL own Ts ret A G y t) {index : Nat} {x z : Int32} (h1 : Cond.methodLink own index Lib.Math.min.name ∈ Ts) (h2 : Cond.static Lib.Math.min.name ∈ Ts) (h3 : Cond.initialized "java/lang/Math" ∈ Ts) (h4 : Cond.code Lib.Math.min.name Lib.Math.min.code 2 (some .int) ∈ Ts) (hframes : 1 ≤ R.frames) (hlocals : (rest.map fun v => v.category).sum + 13 ≤ R.locals) (hc : cells ≤ R.cells) (hs : slots ≤ R.slots) (hdg : decode cc pc = .ok (.invokestatic index, 3)) (kk : KW p l e R s m args below meth c cells slots Q G A nL ws lv (pc + 3) (.int (if z < x then z else x) :: rest)) : KW p l e R s m args below meth c cells slots Q G A nL ws lv pc (.int z :: .int x :: rest) := fun H locs ls hP hD hS hl => va_mmin C.1 C.2.1 (C.2.2.1.trans hl.1.symm) C.2.2.2.1 (C.2.2.2.2.1 _ h1) (C.2.2.2.2.1 _ h2) (C.2.2.2.2.1 _ h3) (C.2.2.2.2.1 _ h4) hframes hlocals hc hs hdg (kk H locs ls hP hD hS hl)
theorem kw_copyi (C : Cx p s m args meth c cc nL own Ts ret A G y t) {index a a0 n0 n1 : Nat} {f g : Nat → Int32} {sp dp n : Nat} (q0 q1 : Nat) (ws' : va_W) (h1 : Cond.methodLink own index arraycopyName ∈ Ts) (h2 : Cond.native arraycopyName ∈ Ts) (h3 : Cond.static arraycopyName ∈ Ts) (h4 : Cond.initialized "java/lang/System" ∈ Ts) (ha0 : ws[q0]? = some (a0, .inl (y 1, n0, .inl f))) (ha1 : ws[q1]? = some (a, .inl (y 1, n1, .inl g))) (hb0 : n0 < 2 ^ 31) (hb1 : n1 < 2 ^ 31) (g1 : sp + n ≤ n0) (g2 : dp + n ≤ n1) (hframes : 1 ≤ R.frames) (hlocals : (rest.map fun v => v.category).sum + (nativeFrameWords "java/lang/System" "arraycopy" 5 + 11) ≤ R.locals) (hdg : decode cc pc = .ok (.invokestatic index, 3)) (hw : ws.set q1 (a, .inl (y 1, n1, .inl (va_cpy f g sp dp n))) = ws') (kk : KW p l e R s m args below meth c cells slots Q G A nL ws' lv (pc + 3) rest) : KW p l e R s m args below meth c cells slots Q G A nL ws lv pc (.int (nI n) :: .int (nI dp) :: .ref a :: .int (nI sp) :: .ref a0 :: rest) := fun H locs ls hP hD hS hl => va_copyi (D := G) (ty := .int) C.1 C.2.1 (C.2.2.1.trans hl.1.symm) C.2.2.2.1 (C.2.2.2.2.1 _ h1) (C.2.2.2.2.1 _ h2) (C.2.2.2.2.1 _ h3) (C.2.2.2.2.1 _ h4) C.2.2.2.2.2.2.2.2.1 hP hD hS q0 q1 1 1 ha0 ha1 rfl rfl rfl (nI_pos (by omega)) (nI_pos (by omega)) (nI_pos (by omega)) (by rw [nI_clamp (by omega), nI_clamp (by omega)]; exact g1) (by rw [nI_clamp (by omega), nI_clamp (by omega)]; exact g2) (fun _ _ => rfl) hframes hlocals hdg (by rw [nI_clamp (by omega), nI_clamp (by omega), nI_clamp (by omega), hw]; exact fun H locs hP hD hS => kk H locs ls hP hD hS hl)
theorem kw_copyl (C : Cx p s m args meth c cc nL own Ts ret A G y t) {index a a0 n0 n1 : Nat} {f g : Nat → Int64} {sp dp n : Nat} (q0 q1 : Nat) (ws' : va_W) (h1 : Cond.methodLink own index arraycopyName ∈ Ts) (h2 : Cond.native arraycopyName ∈ Ts) (h3 : Cond.static arraycopyName ∈ Ts) (h4 : Cond.initialized "java/lang/System" ∈ Ts) (ha0 : ws[q0]? = some (a0, .inl (y 2, n0, .inr (.inl f)))) (ha1 : ws[q1]? = some (a, .inl (y 2, n1, .inr (.inl g)))) (hb0 : n0 < 2 ^ 31) (hb1 : n1 < 2 ^ 31) (g1 : sp + n ≤ n0) (g2 : dp + n ≤ n1) (hframes : 1 ≤ R.frames) (hlocals : (rest.map fun v => v.category).sum + (nativeFrameWords "java/lang/System" "arraycopy" 5 + 11) ≤ R.locals) (hdg : decode cc pc = .ok (.invokestatic index, 3)) (hw : ws.set q1 (a, .inl (y 2, n1, .inr (.inl (va_cpy f g sp dp n)))) = ws') (kk : KW p l e R s m args below meth c cells slots Q G A nL ws' lv (pc + 3) rest) : KW p l e R s m args below meth c cells slots Q G A nL ws lv pc (.int (nI n) :: .int (nI dp) :: .ref a :: .int (nI sp) :: .ref a0 :: rest) := fun H locs ls hP hD hS hl => va_copyl (D := G) (ty := .long) C.1 C.2.1 (C.2.2.1.trans hl.1.symm) C.2.2.2.1 (C.2.2.2.2.1 _ h1) (C.2.2.2.2.1 _ h2) (C.2.2.2.2.1 _ h3) (C.2.2.2.2.1 _ h4) C.2.2.2.2.2.2.2.2.1 hP hD hS q0 q1 2 2 ha0 ha1 rfl rfl rfl (nI_pos (by omega)) (nI_pos (by omega)) (nI_pos (by omega)) (by rw [nI_clamp (by omega), nI_clamp (by omega)]; exact g1) (by rw [nI_clamp (by omega), nI_clamp (by omega)]; exact g2) (fun _ _ => rfl) hframes hlocals hdg (by rw [nI_clamp (by omega), nI_clamp (by omega), nI_clamp (by omega), hw]; exact fun H locs hP hD hS => kk H locs ls hP hD hS hl)
end KWN
end
section
/-! the worlds of the two systems, by chunks; numbers; switches -/
abbrev TSheet : Type := Int64 × Int64 × Int64
def kSheet (a : Nat) (w : TSheet) : va_W := [(a, .inr (2, [.long w.1, .long w.2.1, .long w.2.2]))]
abbrev TWork : Type := Int32 × Int32 × Int32 × Int32 × Int64 × Int64 × Int64 × (Nat → Int32) × (Nat → Int32) × (Nat → Int64) × (Nat → Int32)
def kWork (y : Nat → ClassId) (a : Nat → Nat) (w : TWork) : va_W := [((a 0), .inr (5, [.int w.1, .int w.2.1, .int w.2.2.1, .int w.2.2.2.1, .ref (a 1), .ref (a 2), .ref (a 3), .ref (a 4), .ref (a 5)])), ((a 1), .inr (2, [.long w.2.2.2.2.1, .long w.2.2.2.2.2.1, .long w.2.2.2.2.2.2.1])), ((a 2), .inl (y 1, 6, .inl w.2.2.2.2.2.2.2.1)), ((a 3), .inl (y 1, 6, .inl w.2.2.2.2.2.2.2.2.1)), ((a 4), .inl (y 2, 6, .inr (.inl w.2.2.2.2.2.2.2.2.2.1))), ((a 5), .inl (y 1, 6, .inl w.2.2.2.2.2.2.2.2.2.2))]
abbrev TText : Type := Int32 × Int32 × Int32 × (Nat → Int32)
def kText (y : Nat → ClassId) (a : Nat → Nat) (w : TText) : va_W := [((a 0), .inr (4, [.ref (a 1), .int w.1, .int w.2.1, .int w.2.2.1])), ((a 1), .inl (y 0, 100, .inl w.2.2.2))]
abbrev TPast : Type := Int32 × Int32 × (Nat → Option Nat)
def kPast (y : Nat → ClassId) (a : Nat → Nat) (w : TPast) : va_W := [((a 0), .inr (0, [.ref (a 1), .int w.1, .int w.2.1])), ((a 1), .inl (y 4, 6, .inr (.inr (.inr (.inr w.2.2)))))]
abbrev TSearch : Type := Int32 × Int32 × Int32 × Int32 × (Nat → Int32)
def kSearch (y : Nat → ClassId) (a : Nat → Nat) (w : TSearch) : va_W := [((a 0), .inr (1, [.ref (a 1), .int w.1, .int w.2.1, .int w.2.2.1, .int w.2.2.2.1])), ((a 1), .inl (y 1, 6, .inl w.2.2.2.2))]
abbrev TSight : Type := Int32 × Int64 × Int64 × Int64 × (Nat → Int32) × (Nat → Int32) × (Nat → Int32) × (Nat → Int32)
def kSight (y : Nat → ClassId) (a : Nat → Nat) (w : TSight) : va_W := [((a 0), .inr (3, [.ref (a 1), .ref (a 2), .ref (a 3), .int w.1, .ref (a 4), .ref (a 5)])), ((a 1), .inl (y 1, 6, .inl w.2.2.2.2.1)), ((a 2), .inl (y 1, 6, .inl w.2.2.2.2.2.1)), ((a 3), .inl (y 1, 6, .inl w.2.2.2.2.2.2.1)), ((a 4), .inr (2, [.long w.2.1, .long w.2.2.1, .long w.2.2.2.1])), ((a 5), .inl (y 1, 288, .inl w.2.2.2.2.2.2.2))]
abbrev TModel : Type := Int32 × (Nat → Int32) × (Nat → Int32) × (Nat → Int32) × Int32 × (Nat → Int32) × (Nat → Int32) × (Nat → Int32) × Int32 × (Nat → Int32) × Int32 × Int32 × Int32 × Int32 × Int32 × Int32 × (Nat → Int32) × (Nat → Int32) × (Nat → Int32) × (Nat → Int32) × (Nat → Int32) × (Nat → Int32)
def kModel (y : Nat → ClassId) (a : Nat → Nat) (w : TModel) : va_W := [((a 0), .inr (7, [.int w.1, .ref (a 1), .ref (a 2), .ref (a 3), .int w.2.2.2.2.1, .ref (a 4), .ref (a 5), .ref (a 6), .int w.2.2.2.2.2.2.2.2.1, .ref (a 7), .int w.2.2.2.2.2.2.2.2.2.2.1, .int w.2.2.2.2.2.2.2.2.2.2.2.1, .int w.2.2.2.2.2.2.2.2.2.2.2.2.1, .int w.2.2.2.2.2.2.2.2.2.2.2.2.2.1, .int w.2.2.2.2.2.2.2.2.2.2.2.2.2.2.1, .int w.2.2.2.2.2.2.2.2.2.2.2.2.2.2.2.1, .ref (a 8), .ref (a 9), .ref (a 10), .ref (a 11), .ref (a 12), .ref (a 13)])), ((a 1), .inl (y 1, 99, .inl w.2.1)), ((a 2), .inl (y 1, 99, .inl w.2.2.1)), ((a 3), .inl (y 1, 594, .inl w.2.2.2.1)), ((a 4), .inl (y 1, 198, .inl w.2.2.2.2.2.1)), ((a 5), .inl (y 3, 2, .inl w.2.2.2.2.2.2.1)), ((a 6), .inl (y 1, 100, .inl w.2.2.2.2.2.2.2.1)), ((a 7), .inl (y 1, 18, .inl w.2.2.2.2.2.2.2.2.2.1)), ((a 8), .inl (y 1, 36, .inl w.2.2.2.2.2.2.2.2.2.2.2.2.2.2.2.2.1)), ((a 9), .inl (y 1, 6, .inl w.2.2.2.2.2.2.2.2.2.2.2.2.2.2.2.2.2.1)), ((a 10), .inl (y 1, 64, .inl w.2.2.2.2.2.2.2.2.2.2.2.2.2.2.2.2.2.2.1)), ((a 11), .inl (y 1, 64, .inl w.2.2.2.2.2.2.2.2.2.2.2.2.2.2.2.2.2.2.2.1)), ((a 12), .inl (y 1, 6, .inl w.2.2.2.2.2.2.2.2.2.2.2.2.2.2.2.2.2.2.2.2.1)), ((a 13), .inl (y 1, 288, .inl w.2.2.2.2.2.2.2.2.2.2.2.2.2.2.2.2.2.2.2.2.2))]
theorem n_and (a b : Nat) : nI a &&& nI b = nI (a &&& b) := by
  apply Int32.toBitVec_inj.1
  show BitVec.ofNat 32 a &&& BitVec.ofNat 32 b = BitVec.ofNat 32 (a &&& b)
  apply BitVec.eq_of_getLsbD_eq
  intro i hi
  simp [hi]
theorem n_or (a b : Nat) : nI a ||| nI b = nI (a ||| b) := by
  apply Int32.toBitVec_inj.1
  show BitVec.ofNat 32 a ||| BitVec.ofNat 32 b = BitVec.ofNat 32 (a ||| b)
  apply BitVec.eq_of_getLsbD_eq
  intro i hi
  simp [hi]
theorem n_xor (a b : Nat) : nI a ^^^ nI b = nI (a ^^^ b) := by
  apply Int32.toBitVec_inj.1
  show BitVec.ofNat 32 a ^^^ BitVec.ofNat 32 b = BitVec.ofNat 32 (a ^^^ b)
  apply BitVec.eq_of_getLsbD_eq
  intro i hi
  simp [hi]
theorem n_cnt : ∀ n, n < 32 → ((nI n &&& 31).toBitVec.smod 32).toNat = n := by decide +kernel
theorem n_shl {a k : Nat} (hk : k < 32) (h : a * 2 ^ k < 2 ^ 32) : nI a <<< (nI k &&& 31) = nI (a * 2 ^ k) := pk_shlN _ k (n_cnt k hk) h
theorem n_shl1 {k : Nat} (hk : k < 32) : nI 1 <<< (nI k &&& 31) = nI (2 ^ k) := by
  rw [n_shl hk (by rw [Nat.one_mul]; exact Nat.pow_lt_pow_right (by decide) hk), Nat.one_mul]
theorem n_shr {a k : Nat} (hk : k < 32) (h : a < 2 ^ 31) : nI a >>> (nI k &&& 31) = nI (a / 2 ^ k) := pk_shrN h _ k (n_cnt k hk)
theorem nI_inc (a b : Nat) : nI a + Int32.ofInt (b : Int) = nI (a + b) := by
  rw [← nI_add]; rfl
theorem bI_fit (b : Bool) : fits .boolean (.int (bI b)) = true := by cases b <;> decide
theorem bI_1 : bI true = 1 := rfl
theorem bI_0 : bI false = 0 := rfl
section SW
variable {p : Program} {l : Launch} {e : Env} {R : Room} {s : State} {m : MethodId} {args : Array Value} {below : List Frame} {meth : Method} {c : Code} {cells slots : Nat} {Q : State → Prop}
variable {G : va_G} {A : Nat → Prop} {nL : Nat} {cc : ByteArray} {own : String} {Ts : List Cond} {ret : Option FieldType} {y : Nat → ClassId} {t : Nat} {ws : va_W} {lv : List (Nat × Value)} {pc : Nat} {rest : List Value}
theorem kw_tabIn (C : Cx p s m args meth c cc nL own Ts ret A G y t) {dflt lo hi : Int} {offs : Array Int} {len : Nat} {x v : Int32} {off : Int} {tgt : Nat} (hx : x = v) (hdg : decode cc pc = .ok (.tableswitch dflt lo hi offs, len)) (h1 : ¬ v.toInt < lo) (h2 : ¬ hi < v.toInt) (ho : offs[(v.toInt - lo).toNat]? = some off) (ht : (pc : Int) + off = (tgt : Int)) (k : KW p l e R s m args below meth c cells slots Q G A nL ws lv tgt rest) : KW p l e R s m args below meth c cells slots Q G A nL ws lv pc (.int x :: rest) := by
  subst hx
  exact fun H locs ls hP hD hS hl => lv_tableIn C.1 C.2.1 hdg h1 h2 ho ht (k H locs ls hP hD hS hl)
theorem kw_tabOut (C : Cx p s m args meth c cc nL own Ts ret A G y t) {dflt lo hi : Int} {offs : Array Int} {len : Nat} {x : Int32} {tgt : Nat} (hdg : decode cc pc = .ok (.tableswitch dflt lo hi offs, len)) (h : x.toInt < lo ∨ hi < x.toInt) (ht : (pc : Int) + dflt = (tgt : Int)) (k : KW p l e R s m args below meth c cells slots Q G A nL ws lv tgt rest) : KW p l e R s m args below meth c cells slots Q G A nL ws lv pc (.int x :: rest) := fun H locs ls hP hD hS hl => lv_tableOut C.1 C.2.1 hdg h ht (k H locs ls hP hD hS hl)
theorem kw_look (C : Cx p s m args meth c cc nL own Ts ret A G y t) {dflt : Int} {ps : Array (Int × Int)} {len : Nat} {x : Int32} {off : Int} {tgt : Nat} (hdg : decode cc pc = .ok (.lookupswitch dflt ps, len)) (hp : (ps.toList.zip (ps.toList.drop 1)).all (fun (a, next) => a.1 < next.1) = true) (ho : Op.lookupswitch.offset ps.toList dflt x.toInt = off) (ht : (pc : Int) + off = (tgt : Int)) (k : KW p l e R s m args below meth c cells slots Q G A nL ws lv tgt rest) : KW p l e R s m args below meth c cells slots Q G A nL ws lv pc (.int x :: rest) := fun H locs ls hP hD hS hl => lv_lookup C.1 C.2.1 hdg hp ho ht (k H locs ls hP hD hS hl)
theorem KW.asl {lv' : List (Nat × Value)} (h : lv = lv') (k : KW p l e R s m args below meth c cells slots Q G A nL ws lv' pc rest) : KW p l e R s m args below meth c cells slots Q G A nL ws lv pc rest := h ▸ k
theorem KW.asw {ws' : va_W} (h : ws = ws') (k : KW p l e R s m args below meth c cells slots Q G A nL ws' lv pc rest) : KW p l e R s m args below meth c cells slots Q G A nL ws lv pc rest := h ▸ k
theorem KW.ass {st' : List Value} (h : rest = st') (k : KW p l e R s m args below meth c cells slots Q G A nL ws lv pc st') : KW p l e R s m args below meth c cells slots Q G A nL ws lv pc rest := h ▸ k
end SW
theorem sw_out3 {x : Int32} (h0 : ¬ x = 0) (h1 : ¬ x = 1) (h2 : ¬ x = 2) : x.toInt < 0 ∨ 2 < x.toInt := by
  rcases (show x.toInt < 0 ∨ 2 < x.toInt ∨ x.toInt = 0 ∨ x.toInt = 1 ∨ x.toInt = 2 by omega) with h | h | h | h | h
  · exact Or.inl h
  · exact Or.inr h
  · exact absurd (Int32.toInt_inj.mp (h.trans (by decide))) h0
  · exact absurd (Int32.toInt_inj.mp (h.trans (by decide))) h1
  · exact absurd (Int32.toInt_inj.mp (h.trans (by decide))) h2
theorem sw_out5 {x : Int32} (h0 : ¬ x = 0) (h1 : ¬ x = 1) (h2 : ¬ x = 2) (h3 : ¬ x = 3) (h4 : ¬ x = 4) : x.toInt < 0 ∨ 4 < x.toInt := by
  rcases (show x.toInt < 0 ∨ 4 < x.toInt ∨ x.toInt = 0 ∨ x.toInt = 1 ∨ x.toInt = 2 ∨ x.toInt = 3 ∨ x.toInt = 4 by omega) with h | h | h | h | h | h | h
  · exact Or.inl h
  · exact Or.inr h
  · exact absurd (Int32.toInt_inj.mp (h.trans (by decide))) h0
  · exact absurd (Int32.toInt_inj.mp (h.trans (by decide))) h1
  · exact absurd (Int32.toInt_inj.mp (h.trans (by decide))) h2
  · exact absurd (Int32.toInt_inj.mp (h.trans (by decide))) h3
  · exact absurd (Int32.toInt_inj.mp (h.trans (by decide))) h4
theorem sw_out6 {x : Int32} (h0 : ¬ x = 0) (h1 : ¬ x = 1) (h2 : ¬ x = 2) (h3 : ¬ x = 3) (h4 : ¬ x = 4) (h5 : ¬ x = 5) : x.toInt < 0 ∨ 5 < x.toInt := by
  rcases (show x.toInt < 0 ∨ 5 < x.toInt ∨ x.toInt = 0 ∨ x.toInt = 1 ∨ x.toInt = 2 ∨ x.toInt = 3 ∨ x.toInt = 4 ∨ x.toInt = 5 by omega) with h | h | h | h | h | h | h | h
  · exact Or.inl h
  · exact Or.inr h
  · exact absurd (Int32.toInt_inj.mp (h.trans (by decide))) h0
  · exact absurd (Int32.toInt_inj.mp (h.trans (by decide))) h1
  · exact absurd (Int32.toInt_inj.mp (h.trans (by decide))) h2
  · exact absurd (Int32.toInt_inj.mp (h.trans (by decide))) h3
  · exact absurd (Int32.toInt_inj.mp (h.trans (by decide))) h4
  · exact absurd (Int32.toInt_inj.mp (h.trans (by decide))) h5
theorem sw_out9 {x : Int32} (h0 : ¬ x = 0) (h1 : ¬ x = 1) (h2 : ¬ x = 2) (h3 : ¬ x = 3) (h4 : ¬ x = 4) (h5 : ¬ x = 5) (h6 : ¬ x = 6) (h7 : ¬ x = 7) (h8 : ¬ x = 8) : x.toInt < 0 ∨ 8 < x.toInt := by
  rcases (show x.toInt < 0 ∨ 8 < x.toInt ∨ x.toInt = 0 ∨ x.toInt = 1 ∨ x.toInt = 2 ∨ x.toInt = 3 ∨ x.toInt = 4 ∨ x.toInt = 5 ∨ x.toInt = 6 ∨ x.toInt = 7 ∨ x.toInt = 8 by omega) with h | h | h | h | h | h | h | h | h | h | h
  · exact Or.inl h
  · exact Or.inr h
  · exact absurd (Int32.toInt_inj.mp (h.trans (by decide))) h0
  · exact absurd (Int32.toInt_inj.mp (h.trans (by decide))) h1
  · exact absurd (Int32.toInt_inj.mp (h.trans (by decide))) h2
  · exact absurd (Int32.toInt_inj.mp (h.trans (by decide))) h3
  · exact absurd (Int32.toInt_inj.mp (h.trans (by decide))) h4
  · exact absurd (Int32.toInt_inj.mp (h.trans (by decide))) h5
  · exact absurd (Int32.toInt_inj.mp (h.trans (by decide))) h6
  · exact absurd (Int32.toInt_inj.mp (h.trans (by decide))) h7
  · exact absurd (Int32.toInt_inj.mp (h.trans (by decide))) h8
theorem sw_out22 {x : Int32} (h0 : ¬ x = 0) (h1 : ¬ x = 1) (h2 : ¬ x = 2) (h3 : ¬ x = 3) (h4 : ¬ x = 4) (h5 : ¬ x = 5) (h6 : ¬ x = 6) (h7 : ¬ x = 7) (h8 : ¬ x = 8) (h9 : ¬ x = 9) (h10 : ¬ x = 10) (h11 : ¬ x = 11) (h12 : ¬ x = 12) (h13 : ¬ x = 13) (h14 : ¬ x = 14) (h15 : ¬ x = 15) (h16 : ¬ x = 16) (h17 : ¬ x = 17) (h18 : ¬ x = 18) (h19 : ¬ x = 19) (h20 : ¬ x = 20) (h21 : ¬ x = 21) : x.toInt < 0 ∨ 21 < x.toInt := by
  rcases (show x.toInt < 0 ∨ 21 < x.toInt ∨ x.toInt = 0 ∨ x.toInt = 1 ∨ x.toInt = 2 ∨ x.toInt = 3 ∨ x.toInt = 4 ∨ x.toInt = 5 ∨ x.toInt = 6 ∨ x.toInt = 7 ∨ x.toInt = 8 ∨ x.toInt = 9 ∨ x.toInt = 10 ∨ x.toInt = 11 ∨ x.toInt = 12 ∨ x.toInt = 13 ∨ x.toInt = 14 ∨ x.toInt = 15 ∨ x.toInt = 16 ∨ x.toInt = 17 ∨ x.toInt = 18 ∨ x.toInt = 19 ∨ x.toInt = 20 ∨ x.toInt = 21 by omega) with h | h | h | h | h | h | h | h | h | h | h | h | h | h | h | h | h | h | h | h | h | h | h | h
  · exact Or.inl h
  · exact Or.inr h
  · exact absurd (Int32.toInt_inj.mp (h.trans (by decide))) h0
  · exact absurd (Int32.toInt_inj.mp (h.trans (by decide))) h1
  · exact absurd (Int32.toInt_inj.mp (h.trans (by decide))) h2
  · exact absurd (Int32.toInt_inj.mp (h.trans (by decide))) h3
  · exact absurd (Int32.toInt_inj.mp (h.trans (by decide))) h4
  · exact absurd (Int32.toInt_inj.mp (h.trans (by decide))) h5
  · exact absurd (Int32.toInt_inj.mp (h.trans (by decide))) h6
  · exact absurd (Int32.toInt_inj.mp (h.trans (by decide))) h7
  · exact absurd (Int32.toInt_inj.mp (h.trans (by decide))) h8
  · exact absurd (Int32.toInt_inj.mp (h.trans (by decide))) h9
  · exact absurd (Int32.toInt_inj.mp (h.trans (by decide))) h10
  · exact absurd (Int32.toInt_inj.mp (h.trans (by decide))) h11
  · exact absurd (Int32.toInt_inj.mp (h.trans (by decide))) h12
  · exact absurd (Int32.toInt_inj.mp (h.trans (by decide))) h13
  · exact absurd (Int32.toInt_inj.mp (h.trans (by decide))) h14
  · exact absurd (Int32.toInt_inj.mp (h.trans (by decide))) h15
  · exact absurd (Int32.toInt_inj.mp (h.trans (by decide))) h16
  · exact absurd (Int32.toInt_inj.mp (h.trans (by decide))) h17
  · exact absurd (Int32.toInt_inj.mp (h.trans (by decide))) h18
  · exact absurd (Int32.toInt_inj.mp (h.trans (by decide))) h19
  · exact absurd (Int32.toInt_inj.mp (h.trans (by decide))) h20
  · exact absurd (Int32.toInt_inj.mp (h.trans (by decide))) h21
end
section
/-! the class' own functions, in numbers -/
def cbL (k : Nat) : Int64 := (1 : Int64) <<< ((nI k).toInt64 &&& 63)
def byS (k : Nat) : Int32 := nI 8 * (nI (k / 3) - nI 1) + (nI (k % 3) - nI 1)
def slipL (c : Int64) (k : Nat) : Int64 := if byS k < 0 then (c.toUInt64 >>> ((-byS k).toInt64.toUInt64 &&& Int64.toUInt64 63)).toInt64 else c <<< ((byS k).toInt64 &&& 63)
abbrev inR (x : Int32) (n : Nat) : Prop := 0 ≤ x.toInt ∧ x.toInt < n
theorem ir1 {x : Int32} {n : Nat} (hn : n < 2 ^ 31) (h0 : ¬ x < 0) (h1 : ¬ nI n ≤ x) : inR x n := by
  have a : ¬ x.toInt < (0 : Int32).toInt := fun q => h0 (Int32.lt_iff_toInt_lt.mpr q)
  have b : ¬ (nI n).toInt ≤ x.toInt := fun q => h1 (Int32.le_iff_toInt_le.mpr q)
  rw [nI_toInt hn] at b
  have z : (0 : Int32).toInt = 0 := rfl
  omega
theorem ir2 {x : Int32} {n : Nat} (h0 : x < 0) : ¬ inR x n := by
  have a := Int32.lt_iff_toInt_lt.mp h0
  have z : (0 : Int32).toInt = 0 := rfl
  intro h
  omega
theorem ir3 {x : Int32} {n : Nat} (hn : n < 2 ^ 31) (h1 : nI n ≤ x) : ¬ inR x n := by
  have b := Int32.le_iff_toInt_le.mp h1
  rw [nI_toInt hn] at b
  intro h
  omega
theorem inR_nI {x : Int32} {n : Nat} (h : inR x n) : ∃ k : Nat, k < n ∧ x = nI k := by
  refine ⟨x.toInt.toNat, by omega, ?_⟩
  have h2 : x.toInt < 2 ^ 31 := Int32.toInt_lt x
  apply Int32.toInt_inj.mp
  rw [nI_toInt (by omega)]
  omega
theorem inR_of {n k : Nat} (h : k < n) (hn : n < 2 ^ 31) : inR (nI k) n := by
  constructor
  · rw [nI_toInt (by omega)]; omega
  · rw [nI_toInt (by omega)]; omega
def prL (pl ce : Int64) (has dn : Bool) : Int64 := if has then pl ||| ce else if dn then pl &&& (ce ^^^ (-1)) else pl
theorem bt_0 {q : Nat} (k : Nat) (h : q &&& 2 ^ k = 0) : nI 0 = bI (q.testBit k) := by
  have e : q.testBit k = false := by
    have h1 := congrArg (fun z => z.testBit k) h
    simpa [Nat.testBit_and, Nat.testBit_two_pow_self] using h1
  rw [e]; rfl
theorem bt_1 {q : Nat} (k : Nat) (h : ¬ q &&& 2 ^ k = 0) : nI 1 = bI (q.testBit k) := by
  cases e : q.testBit k with
  | true => rfl
  | false =>
    exfalso; apply h
    apply Nat.eq_of_testBit_eq
    intro i
    rw [Nat.testBit_and, Nat.testBit_two_pow, Nat.zero_testBit]
    by_cases hi : k = i
    · subst hi; simp [e]
    · simp [hi]
theorem lgc {x : Int64} : lg_cmp x 0 = 0 ↔ x = 0 := by
  unfold lg_cmp
  by_cases h2 : x = 0
  · subst h2; simp
  · by_cases h3 : (0 : Int64) < x
    · simp [h2, h3]
    · simp [h2, h3]
/-- whether the cell k is in a plane -/
def tl (p : Int64) (k : Nat) : Bool := decide (¬ p &&& cbL k = 0)
def atL (p1 p2 p3 : Int64) (k : Nat) : Nat := ((if tl p1 k then 1 else 0) ||| (if tl p2 k then 2 else 0)) ||| (if tl p3 k then 4 else 0)
def ofL (p1 p2 p3 : Int64) (q : Nat) : Int64 := ((if q.testBit 0 then p1 else p1 ^^^ (-1)) &&& (if q.testBit 1 then p2 else p2 ^^^ (-1))) &&& (if q.testBit 2 then p3 else p3 ^^^ (-1))
def rowL (W : Nat) : Int64 := ((1 : Int64) <<< ((nI W).toInt64 &&& 63)) - 1
def papL (W : Nat) : Nat → Int64
  | 0 => 0
  | y + 1 => papL W y ||| (rowL W <<< ((nI (8 * y)).toInt64 &&& 63))
theorem dns_0 {D k : Nat} (h : D / 2 ^ k &&& 1 = 0) : nI 0 = bI (D.testBit k) := by
  have e : D.testBit k = false := by
    rw [Nat.testBit, Nat.shiftRight_eq_div_pow, Nat.and_comm, h]; rfl
  rw [e]; rfl
theorem dns_1 {D k : Nat} (h : ¬ D / 2 ^ k &&& 1 = 0) : nI 1 = bI (D.testBit k) := by
  have e : D.testBit k = true := by
    rw [Nat.testBit, Nat.shiftRight_eq_div_pow, Nat.and_comm]; simpa using h
  rw [e]; rfl
theorem tb_f {q : Nat} (k : Nat) (h : q &&& 2 ^ k = 0) : q.testBit k = false := by
  have h1 := congrArg (fun z => z.testBit k) h
  simpa [Nat.testBit_and, Nat.testBit_two_pow_self] using h1
theorem tb_t {q : Nat} (k : Nat) (h : ¬ q &&& 2 ^ k = 0) : q.testBit k = true := by
  cases e : q.testBit k with
  | true => rfl
  | false =>
    exfalso; apply h
    apply Nat.eq_of_testBit_eq
    intro i
    rw [Nat.testBit_and, Nat.testBit_two_pow, Nat.zero_testBit]
    by_cases hi : k = i
    · subst hi; simp [e]
    · simp [hi]
end
section
set_option maxHeartbeats 4000000 in
set_option maxRecDepth 100000 in
theorem c_X6_cellBit (l : Launch) (G : va_G) (y : Nat → ClassId) (t : Nat) (x : Nat) (z : Nat) (sz : Nat) : Met l yX6_cellBit (Cond.code yX6_cellBit cX6_cellBit 2 (some .long) :: TG) ({ frames := 0, cells := 0, slots := 0, locals := 0 }) (va_Pc [.int (nI x), .int (nI z)] (PR G y t ([]) sz)) (va_Ql (fun (r : Int64) (u : Unit) => r = cbL (8 * z + x)) (fun (u : Unit) t => PO G (va_A ([]) sz) ([]) t) (va_A ([]) sz)) 0 0 (va_A ([]) sz) := by
  refine kMet (cc := cX6_cellBit) (maxL := 2) (ret := some .long) (Qc := fun A => va_Ql (fun (r : Int64) (u : Unit) => r = cbL (8 * z + x)) (fun (u : Unit) t => PO G A ([]) t) A) (by decide) rfl (Nat.le_of_ble_eq_true rfl) (fun p e s m below meth c A hsz C hin => ?_)
  refine KW.loc (lv' := [(0, .int (nI x)), (1, .int (nI z))]) [0, 1] rfl ?_
  refine kw_lconst (v := 1) C dX6_cellBit_0 (by decide) ?_
  refine kw_bipush (v := nI 8) C dX6_cellBit_1 (by decide) ?_
  refine kw_iload_n C 1 dX6_cellBit_3 rfl ?_
  refine kw_imul C dX6_cellBit_4 (kw_top (pk_mul _ _) ?_)
  refine kw_iload_n C 0 dX6_cellBit_5 rfl ?_
  refine kw_iadd C dX6_cellBit_6 (kw_top (nI_add _ _) ?_)
  refine kw_lshl (v := (1 : Int64) <<< ((nI ((8 * z) + x)).toInt64 &&& 63)) C dX6_cellBit_7 rfl ?_
  refine kR_l C () dX6_cellBit_8 ?_ rfl
  first | rfl | trivial | (simp; done) | omega

set_option maxHeartbeats 4000000 in
set_option maxRecDepth 100000 in
theorem c_X6_slipOf (l : Launch) (G : va_G) (y : Nat → ClassId) (t : Nat) (dx : Int32) (dy : Int32) (sz : Nat) : Met l yX6_slipOf (Cond.code yX6_slipOf cX6_slipOf 2 (some .int) :: TG) ({ frames := 0, cells := 0, slots := 0, locals := 0 }) (va_Pc [.int dx, .int dy] (PR G y t ([]) sz)) (va_Qi (fun (r : Int32) (u : Unit) => r = nI 3 * (dy + nI 1) + dx + nI 1) (fun (u : Unit) t => PO G (va_A ([]) sz) ([]) t) (va_A ([]) sz)) 0 0 (va_A ([]) sz) := by
  refine kMet (cc := cX6_slipOf) (maxL := 2) (ret := some .int) (Qc := fun A => va_Qi (fun (r : Int32) (u : Unit) => r = nI 3 * (dy + nI 1) + dx + nI 1) (fun (u : Unit) t => PO G A ([]) t) A) (by decide) rfl (Nat.le_of_ble_eq_true rfl) (fun p e s m below meth c A hsz C hin => ?_)
  refine KW.loc (lv' := [(0, .int dx), (1, .int dy)]) [0, 1] rfl ?_
  refine kw_iconst (v := nI 3) C dX6_slipOf_0 (by decide) ?_
  refine kw_iload_n C 1 dX6_slipOf_1 rfl ?_
  refine kw_iconst (v := nI 1) C dX6_slipOf_2 (by decide) ?_
  refine kw_iadd C dX6_slipOf_3 ?_
  refine kw_imul C dX6_slipOf_4 ?_
  refine kw_iload_n C 0 dX6_slipOf_5 rfl ?_
  refine kw_iadd C dX6_slipOf_6 ?_
  refine kw_iconst (v := nI 1) C dX6_slipOf_7 (by decide) ?_
  refine kw_iadd C dX6_slipOf_8 ?_
  refine kR_i C () dX6_slipOf_9 ?_ rfl
  first | rfl | trivial | (simp; done) | omega

set_option maxHeartbeats 4000000 in
set_option maxRecDepth 100000 in
theorem c_X6_dxOf (l : Launch) (G : va_G) (y : Nat → ClassId) (t : Nat) (k : Nat) (hk : k < 9) (sz : Nat) : Met l yX6_dxOf (Cond.code yX6_dxOf cX6_dxOf 1 (some .int) :: TG) ({ frames := 0, cells := 0, slots := 0, locals := 0 }) (va_Pc [.int (nI k)] (PR G y t ([]) sz)) (va_Qi (fun (r : Int32) (u : Unit) => r = nI (k % 3) - nI 1) (fun (u : Unit) t => PO G (va_A ([]) sz) ([]) t) (va_A ([]) sz)) 0 0 (va_A ([]) sz) := by
  refine kMet (cc := cX6_dxOf) (maxL := 1) (ret := some .int) (Qc := fun A => va_Qi (fun (r : Int32) (u : Unit) => r = nI (k % 3) - nI 1) (fun (u : Unit) t => PO G A ([]) t) A) (by decide) rfl (Nat.le_of_ble_eq_true rfl) (fun p e s m below meth c A hsz C hin => ?_)
  refine KW.loc (lv' := [(0, .int (nI k))]) [0] rfl ?_
  refine kw_iload_n C 0 dX6_dxOf_0 rfl ?_
  refine kw_iconst (v := nI 3) C dX6_dxOf_1 (by decide) ?_
  refine kw_irem C dX6_dxOf_2 (by decide) (kw_top (pk_rem (by omega) (by decide) (by decide)) ?_)
  refine kw_iconst (v := nI 1) C dX6_dxOf_3 (by decide) ?_
  refine kw_isub C dX6_dxOf_4 ?_
  refine kR_i C () dX6_dxOf_5 ?_ rfl
  first | rfl | trivial | (simp; done) | omega

set_option maxHeartbeats 4000000 in
set_option maxRecDepth 100000 in
theorem c_X6_dyOf (l : Launch) (G : va_G) (y : Nat → ClassId) (t : Nat) (k : Nat) (hk : k < 9) (sz : Nat) : Met l yX6_dyOf (Cond.code yX6_dyOf cX6_dyOf 1 (some .int) :: TG) ({ frames := 0, cells := 0, slots := 0, locals := 0 }) (va_Pc [.int (nI k)] (PR G y t ([]) sz)) (va_Qi (fun (r : Int32) (u : Unit) => r = nI (k / 3) - nI 1) (fun (u : Unit) t => PO G (va_A ([]) sz) ([]) t) (va_A ([]) sz)) 0 0 (va_A ([]) sz) := by
  refine kMet (cc := cX6_dyOf) (maxL := 1) (ret := some .int) (Qc := fun A => va_Qi (fun (r : Int32) (u : Unit) => r = nI (k / 3) - nI 1) (fun (u : Unit) t => PO G A ([]) t) A) (by decide) rfl (Nat.le_of_ble_eq_true rfl) (fun p e s m below meth c A hsz C hin => ?_)
  refine KW.loc (lv' := [(0, .int (nI k))]) [0] rfl ?_
  refine kw_iload_n C 0 dX6_dyOf_0 rfl ?_
  refine kw_iconst (v := nI 3) C dX6_dyOf_1 (by decide) ?_
  refine kw_idiv C dX6_dyOf_2 (by decide) (kw_top (pk_div (by omega) (by decide) (by decide)) ?_)
  refine kw_iconst (v := nI 1) C dX6_dyOf_3 (by decide) ?_
  refine kw_isub C dX6_dyOf_4 ?_
  refine kR_i C () dX6_dyOf_5 ?_ rfl
  first | rfl | trivial | (simp; done) | omega

set_option maxHeartbeats 4000000 in
set_option maxRecDepth 100000 in
theorem c_X6_slipped (l : Launch) (G : va_G) (y : Nat → ClassId) (t : Nat) (c0 : Int64) (k : Nat) (hk : k < 9) (sz : Nat) : Met l yX6_slipped (Cond.code yX6_slipped cX6_slipped 4 (some .long) :: TG) ({ frames := 1, cells := 0, slots := 0, locals := 20 }) (va_Pc [.long c0, .int (nI k)] (PR G y t ([]) sz)) (va_Ql (fun (r : Int64) (u : Unit) => r = slipL c0 k) (fun (u : Unit) t => PO G (va_A ([]) sz) ([]) t) (va_A ([]) sz)) 0 0 (va_A ([]) sz) := by
  refine kMet (cc := cX6_slipped) (maxL := 4) (ret := some .long) (Qc := fun A => va_Ql (fun (r : Int64) (u : Unit) => r = slipL c0 k) (fun (u : Unit) t => PO G A ([]) t) A) (by decide) rfl (Nat.le_of_ble_eq_true rfl) (fun p e s m below meth c A hsz C hin => ?_)
  refine KW.loc (lv' := [(0, .long c0), (2, .int (nI k))]) [0, 1] rfl ?_
  refine kw_bipush (v := nI 8) C dX6_slipped_0 (by decide) ?_
  refine kw_iload_n C 1 dX6_slipped_2 rfl ?_
  refine kS_i (As := [.int (nI k)]) (rest := [.int (nI 8)]) (ws' := fun (u : Unit) => []) C (c_X6_dyOf l G y t k (by first | assumption | omega | decide)) (va_cwS 1 C.2.2.2.2.1 (goodS cT wd_441 wd_439 wd_440 wd_41) rfl rfl rfl (by decide +kernel) ⟨by decide, by decide⟩) [] [] [] rfl (by decide) rfl (by decide) (by decide) (fun _ => rfl) (by decide) rfl (Nat.le_of_ble_eq_true rfl) ⟨by decide, by decide⟩ dX6_slipped_3 (fun r u hr_1 => ?_)
  subst hr_1
  refine kw_imul C dX6_slipped_6 ?_
  refine kw_iload_n C 1 dX6_slipped_7 rfl ?_
  refine kS_i (As := [.int (nI k)]) (rest := [.int ((nI 8) * (nI (k / 3) - nI 1))]) (ws' := fun (u : Unit) => []) C (c_X6_dxOf l G y t k (by first | assumption | omega | decide)) (va_cwS 1 C.2.2.2.2.1 (goodS cT wd_444 wd_442 wd_443 wd_41) rfl rfl rfl (by decide +kernel) ⟨by decide, by decide⟩) [] [] [] rfl (by decide) rfl (by decide) (by decide) (fun _ => rfl) (by decide) rfl (Nat.le_of_ble_eq_true rfl) ⟨by decide, by decide⟩ dX6_slipped_8 (fun r u hr_2 => ?_)
  subst hr_2
  refine kw_iadd C dX6_slipped_11 ?_
  refine kw_top (show (((nI 8) * (nI (k / 3) - nI 1)) + (nI (k % 3) - nI 1)) = (byS k) from by rfl) ?_
  refine kw_istore_n C [(3, .int (byS k)), (0, .long c0), (2, .int (nI k))] dX6_slipped_12 rfl (by decide) rfl ?_
  refine kw_iload_n C 0 dX6_slipped_13 rfl ?_
  refine kw_if_lt (tgt := 23) C dX6_slipped_14 (by decide) (fun c_14 => ?_) (fun c_14 => ?_)
  ·
    refine kw_lload_n C 1 dX6_slipped_23 rfl ?_
    refine kw_iload_n C 0 dX6_slipped_24 rfl ?_
    refine kw_ineg C dX6_slipped_25 ?_
    refine kw_lushr (v := (c0.toUInt64 >>> ((-(byS k)).toInt64.toUInt64 &&& Int64.toUInt64 63)).toInt64) C dX6_slipped_26 rfl ?_
    refine kR_l C () dX6_slipped_27 ?_ rfl
    simp only [slipL, c_14, if_true, if_false]
  ·
    refine kw_lload_n C 1 dX6_slipped_17 rfl ?_
    refine kw_iload_n C 0 dX6_slipped_18 rfl ?_
    refine kw_lshl (v := c0 <<< ((byS k).toInt64 &&& 63)) C dX6_slipped_19 rfl ?_
    refine kw_goto (tgt := 27) C dX6_slipped_20 (by decide) ?_
    refine kR_l C () dX6_slipped_27 ?_ rfl
    simp only [slipL, c_14, if_true, if_false]

set_option maxHeartbeats 4000000 in
set_option maxRecDepth 100000 in
theorem c_X6_onBoard (l : Launch) (G : va_G) (y : Nat → ClassId) (t : Nat) (x : Int32) (z : Int32) (sz : Nat) : Met l yX6_onBoard (Cond.code yX6_onBoard cX6_onBoard 2 (some .boolean) :: TG) ({ frames := 0, cells := 0, slots := 0, locals := 0 }) (va_Pc [.int x, .int z] (PR G y t ([]) sz)) (va_Qi (fun (r : Int32) (u : Unit) => r = bI (decide (inR x 6 ∧ inR z 6))) (fun (u : Unit) t => PO G (va_A ([]) sz) ([]) t) (va_A ([]) sz)) 0 0 (va_A ([]) sz) := by
  refine kMet (cc := cX6_onBoard) (maxL := 2) (ret := some .boolean) (Qc := fun A => va_Qi (fun (r : Int32) (u : Unit) => r = bI (decide (inR x 6 ∧ inR z 6))) (fun (u : Unit) t => PO G A ([]) t) A) (by decide) rfl (Nat.le_of_ble_eq_true rfl) (fun p e s m below meth c A hsz C hin => ?_)
  refine KW.loc (lv' := [(0, .int x), (1, .int z)]) [0, 1] rfl ?_
  refine kw_iload_n C 0 dX6_onBoard_0 rfl ?_
  refine kw_if_lt (tgt := 24) C dX6_onBoard_1 (by decide) (fun c_1 => ?_) (fun c_1 => ?_)
  ·
    refine kw_iconst (v := nI 0) C dX6_onBoard_24 (by decide) ?_
    refine kR_z C () dX6_onBoard_25 (by first | decide | exact bI_z _ | rfl) ?_ rfl
    first | exact (bI_t ⟨ir1 (by omega) c_1 c_7, ir1 (by omega) c_11 c_17⟩).symm | exact (bI_f (fun h => ir2 c_1 h.1)).symm | exact (bI_f (fun h => ir3 (by omega) c_7 h.1)).symm | exact (bI_f (fun h => ir2 c_11 h.2)).symm | exact (bI_f (fun h => ir3 (by omega) c_17 h.2)).symm
  ·
    refine kw_iload_n C 0 dX6_onBoard_4 rfl ?_
    refine kw_bipush (v := nI 6) C dX6_onBoard_5 (by decide) ?_
    refine kw_icmp_ge (tgt := 24) C dX6_onBoard_7 (by decide) (fun c_7 => ?_) (fun c_7 => ?_)
    ·
      refine kw_iconst (v := nI 0) C dX6_onBoard_24 (by decide) ?_
      refine kR_z C () dX6_onBoard_25 (by first | decide | exact bI_z _ | rfl) ?_ rfl
      first | exact (bI_t ⟨ir1 (by omega) c_1 c_7, ir1 (by omega) c_11 c_17⟩).symm | exact (bI_f (fun h => ir2 c_1 h.1)).symm | exact (bI_f (fun h => ir3 (by omega) c_7 h.1)).symm | exact (bI_f (fun h => ir2 c_11 h.2)).symm | exact (bI_f (fun h => ir3 (by omega) c_17 h.2)).symm
    ·
      refine kw_iload_n C 1 dX6_onBoard_10 rfl ?_
      refine kw_if_lt (tgt := 24) C dX6_onBoard_11 (by decide) (fun c_11 => ?_) (fun c_11 => ?_)
      ·
        refine kw_iconst (v := nI 0) C dX6_onBoard_24 (by decide) ?_
        refine kR_z C () dX6_onBoard_25 (by first | decide | exact bI_z _ | rfl) ?_ rfl
        first | exact (bI_t ⟨ir1 (by omega) c_1 c_7, ir1 (by omega) c_11 c_17⟩).symm | exact (bI_f (fun h => ir2 c_1 h.1)).symm | exact (bI_f (fun h => ir3 (by omega) c_7 h.1)).symm | exact (bI_f (fun h => ir2 c_11 h.2)).symm | exact (bI_f (fun h => ir3 (by omega) c_17 h.2)).symm
      ·
        refine kw_iload_n C 1 dX6_onBoard_14 rfl ?_
        refine kw_bipush (v := nI 6) C dX6_onBoard_15 (by decide) ?_
        refine kw_icmp_ge (tgt := 24) C dX6_onBoard_17 (by decide) (fun c_17 => ?_) (fun c_17 => ?_)
        ·
          refine kw_iconst (v := nI 0) C dX6_onBoard_24 (by decide) ?_
          refine kR_z C () dX6_onBoard_25 (by first | decide | exact bI_z _ | rfl) ?_ rfl
          first | exact (bI_t ⟨ir1 (by omega) c_1 c_7, ir1 (by omega) c_11 c_17⟩).symm | exact (bI_f (fun h => ir2 c_1 h.1)).symm | exact (bI_f (fun h => ir3 (by omega) c_7 h.1)).symm | exact (bI_f (fun h => ir2 c_11 h.2)).symm | exact (bI_f (fun h => ir3 (by omega) c_17 h.2)).symm
        ·
          refine kw_iconst (v := nI 1) C dX6_onBoard_20 (by decide) ?_
          refine kw_goto (tgt := 25) C dX6_onBoard_21 (by decide) ?_
          refine kR_z C () dX6_onBoard_25 (by first | decide | exact bI_z _ | rfl) ?_ rfl
          first | exact (bI_t ⟨ir1 (by omega) c_1 c_7, ir1 (by omega) c_11 c_17⟩).symm | exact (bI_f (fun h => ir2 c_1 h.1)).symm | exact (bI_f (fun h => ir3 (by omega) c_7 h.1)).symm | exact (bI_f (fun h => ir2 c_11 h.2)).symm | exact (bI_f (fun h => ir3 (by omega) c_17 h.2)).symm

set_option maxHeartbeats 4000000 in
set_option maxRecDepth 100000 in
theorem c_X2_printed (l : Launch) (G : va_G) (y : Nat → ClassId) (t : Nat) (pl : Int64) (ce : Int64) (has : Bool) (dn : Bool) (sz : Nat) : Met l yX2_printed (Cond.code yX2_printed cX2_printed 6 (some .long) :: TG) ({ frames := 0, cells := 0, slots := 0, locals := 0 }) (va_Pc [.long pl, .long ce, .int (bI has), .int (bI dn)] (PR G y t ([]) sz)) (va_Ql (fun (r : Int64) (u : Unit) => r = prL pl ce has dn) (fun (u : Unit) t => PO G (va_A ([]) sz) ([]) t) (va_A ([]) sz)) 0 0 (va_A ([]) sz) := by
  refine kMet (cc := cX2_printed) (maxL := 6) (ret := some .long) (Qc := fun A => va_Ql (fun (r : Int64) (u : Unit) => r = prL pl ce has dn) (fun (u : Unit) t => PO G A ([]) t) A) (by decide) rfl (Nat.le_of_ble_eq_true rfl) (fun p e s m below meth c A hsz C hin => ?_)
  refine KW.loc (lv' := [(0, .long pl), (2, .long ce), (4, .int (bI has)), (5, .int (bI dn))]) [0, 1, 2, 3] rfl ?_
  refine kw_iload C 2 dX2_printed_0 rfl ?_
  refine kw_if_eq (tgt := 9) C dX2_printed_2 (by decide) (fun c_2 => ?_) (fun c_2 => ?_)
  ·
    refine kw_iload C 3 dX2_printed_9 rfl ?_
    refine kw_if_eq (tgt := 24) C dX2_printed_11 (by decide) (fun c_11 => ?_) (fun c_11 => ?_)
    ·
      refine kw_lload_n C 0 dX2_printed_24 rfl ?_
      refine kR_l C () dX2_printed_25 ?_ rfl
      cases has with
      | true => exact absurd c_2 (by decide)
      | false => cases dn with
        | true => first | rfl | exact absurd c_11 (by decide)
        | false => first | rfl | exact absurd rfl c_11
    ·
      refine kw_lload_n C 0 dX2_printed_14 rfl ?_
      refine kw_lload_n C 1 dX2_printed_15 rfl ?_
      refine kw_ldc2 (v := (-1)) C (mT wd_303) dX2_printed_16 ?_
      refine kw_lxor C dX2_printed_19 ?_
      refine kw_land C dX2_printed_20 ?_
      refine kw_goto (tgt := 25) C dX2_printed_21 (by decide) ?_
      refine kR_l C () dX2_printed_25 ?_ rfl
      cases has with
      | true => exact absurd c_2 (by decide)
      | false => cases dn with
        | true => first | rfl | exact absurd c_11 (by decide)
        | false => first | rfl | exact absurd rfl c_11
  ·
    refine kw_lload_n C 0 dX2_printed_5 rfl ?_
    refine kw_lload_n C 1 dX2_printed_6 rfl ?_
    refine kw_lor C dX2_printed_7 ?_
    refine kR_l C () dX2_printed_8 ?_ rfl
    cases has with
    | true => rfl
    | false => exact absurd rfl c_2

set_option maxHeartbeats 4000000 in
set_option maxRecDepth 100000 in
theorem c_X2_print (l : Launch) (G : va_G) (y : Nat → ClassId) (t : Nat) (b : Nat) (p1 : Int64) (p2 : Int64) (p3 : Int64) (ce : Int64) (q : Nat) (dn : Bool) (hq : q < 8) (sz : Nat) : Met l yX2_print (Cond.code yX2_print cX2_print 5 (none) :: TG) ({ frames := 1, cells := 0, slots := 0, locals := 25 }) (va_Pc [.ref b, .long ce, .int (nI q), .int (bI dn)] (PR G y t (kSheet b (p1, p2, p3)) sz)) (va_Qv (fun (u : Unit) => True) (fun (u : Unit) t => PO G (va_A (kSheet b (p1, p2, p3)) sz) (kSheet b (prL p1 ce (q.testBit 0) dn, prL p2 ce (q.testBit 1) dn, prL p3 ce (q.testBit 2) dn)) t) (va_A (kSheet b (p1, p2, p3)) sz)) 0 0 (va_A (kSheet b (p1, p2, p3)) sz) := by
  refine kMet (cc := cX2_print) (maxL := 5) (ret := none) (Qc := fun A => va_Qv (fun (u : Unit) => True) (fun (u : Unit) t => PO G A (kSheet b (prL p1 ce (q.testBit 0) dn, prL p2 ce (q.testBit 1) dn, prL p3 ce (q.testBit 2) dn)) t) A) (by decide) rfl (Nat.le_of_ble_eq_true rfl) (fun p e s m below meth c A hsz C hin => ?_)
  refine KW.loc (lv' := [(0, .ref b), (1, .long ce), (3, .int (nI q)), (4, .int (bI dn))]) [0, 1, 2, 3] rfl ?_
  refine kw_aload_n C 0 dX2_print_0 rfl ?_
  refine kw_aload_n C 0 dX2_print_1 rfl ?_
  refine kw_get (v := .long p1) (T := TX2) C 0 0 rfl rfl (by decide) (fun w h => mT (fwX2 w h)) rfl (mT wd_73) rfl dX2_print_2 ?_
  refine kw_lload_n C 1 dX2_print_5 rfl ?_
  refine kw_iload_n C 2 dX2_print_6 rfl ?_
  refine kw_iconst (v := nI 1) C dX2_print_7 (by decide) ?_
  refine kw_iand C dX2_print_8 (kw_top (n_and _ _) ?_)
  have J17_1 : ∀ (_ : Unit), KW p l e ({ frames := 1, cells := 0, slots := 0, locals := 25 }) s m ([.ref b, .long ce, .int (nI q), .int (bI dn)] : List Value).toArray below meth c 0 0 (MQ below (va_Qv (fun (u : Unit) => True) (fun (u : Unit) t => PO G A (kSheet b (prL p1 ce (q.testBit 0) dn, prL p2 ce (q.testBit 1) dn, prL p3 ce (q.testBit 2) dn)) t) A) ([.ref b, .long ce, .int (nI q), .int (bI dn)] : List Value).toArray s 0 0 A) G A 5 (kSheet b (p1, p2, p3)) [(0, .ref b), (1, .long ce), (3, .int (nI q)), (4, .int (bI dn))] 17 [.int (bI (q.testBit 0)), .long ce, .long p1, .ref b] := by
    intro _
    refine kw_iload C 3 dX2_print_17 rfl ?_
    refine kS_l (As := [.long p1, .long ce, .int (bI (q.testBit 0)), .int (bI dn)]) (rest := [.ref b]) (ws' := fun (u : Unit) => kSheet b (p1, p2, p3)) C (c_X2_printed l G y t p1 ce (q.testBit 0) dn) (va_cwS 4 C.2.2.2.2.1 (goodS cT wd_302 wd_300 wd_301 wd_43) rfl rfl rfl (by decide +kernel) ⟨by decide, by decide⟩) [] [0] [0] rfl (by decide) rfl (by decide) (by decide) (fun _ => rfl) (by decide) rfl (Nat.le_of_ble_eq_true rfl) ⟨by decide, by decide⟩ dX2_print_19 (fun r u hr_2 => ?_)
    subst hr_2
    refine kw_put (T := TX2) (ty := .long) C 0 0 (kSheet b (prL p1 ce (q.testBit 0) dn, p2, p3)) rfl rfl (by decide) (fun w h => mT (fwX2 w h)) tyX2 tyX2_ok nmX2 rfl (mT wd_73) rfl (by decide +kernel) rfl rfl (Nat.le_of_ble_eq_true rfl) dX2_print_22 rfl ?_
    refine kw_aload_n C 0 dX2_print_25 rfl ?_
    refine kw_aload_n C 0 dX2_print_26 rfl ?_
    refine kw_get (v := .long p2) (T := TX2) C 0 1 rfl rfl (by decide) (fun w h => mT (fwX2 w h)) rfl (mT wd_74) rfl dX2_print_27 ?_
    refine kw_lload_n C 1 dX2_print_30 rfl ?_
    refine kw_iload_n C 2 dX2_print_31 rfl ?_
    refine kw_iconst (v := nI 2) C dX2_print_32 (by decide) ?_
    refine kw_iand C dX2_print_33 (kw_top (n_and _ _) ?_)
    have J42_3 : ∀ (_ : Unit), KW p l e ({ frames := 1, cells := 0, slots := 0, locals := 25 }) s m ([.ref b, .long ce, .int (nI q), .int (bI dn)] : List Value).toArray below meth c 0 0 (MQ below (va_Qv (fun (u : Unit) => True) (fun (u : Unit) t => PO G A (kSheet b (prL p1 ce (q.testBit 0) dn, prL p2 ce (q.testBit 1) dn, prL p3 ce (q.testBit 2) dn)) t) A) ([.ref b, .long ce, .int (nI q), .int (bI dn)] : List Value).toArray s 0 0 A) G A 5 (kSheet b (prL p1 ce (q.testBit 0) dn, p2, p3)) [(0, .ref b), (1, .long ce), (3, .int (nI q)), (4, .int (bI dn))] 42 [.int (bI (q.testBit 1)), .long ce, .long p2, .ref b] := by
      intro _
      refine kw_iload C 3 dX2_print_42 rfl ?_
      refine kS_l (As := [.long p2, .long ce, .int (bI (q.testBit 1)), .int (bI dn)]) (rest := [.ref b]) (ws' := fun (u : Unit) => kSheet b (prL p1 ce (q.testBit 0) dn, p2, p3)) C (c_X2_printed l G y t p2 ce (q.testBit 1) dn) (va_cwS 4 C.2.2.2.2.1 (goodS cT wd_302 wd_300 wd_301 wd_43) rfl rfl rfl (by decide +kernel) ⟨by decide, by decide⟩) [] [0] [0] rfl (by decide) rfl (by decide) (by decide) (fun _ => rfl) (by decide) rfl (Nat.le_of_ble_eq_true rfl) ⟨by decide, by decide⟩ dX2_print_44 (fun r u hr_4 => ?_)
      subst hr_4
      refine kw_put (T := TX2) (ty := .long) C 0 1 (kSheet b (prL p1 ce (q.testBit 0) dn, prL p2 ce (q.testBit 1) dn, p3)) rfl rfl (by decide) (fun w h => mT (fwX2 w h)) tyX2 tyX2_ok nmX2 rfl (mT wd_74) rfl (by decide +kernel) rfl rfl (Nat.le_of_ble_eq_true rfl) dX2_print_47 rfl ?_
      refine kw_aload_n C 0 dX2_print_50 rfl ?_
      refine kw_aload_n C 0 dX2_print_51 rfl ?_
      refine kw_get (v := .long p3) (T := TX2) C 0 2 rfl rfl (by decide) (fun w h => mT (fwX2 w h)) rfl (mT wd_75) rfl dX2_print_52 ?_
      refine kw_lload_n C 1 dX2_print_55 rfl ?_
      refine kw_iload_n C 2 dX2_print_56 rfl ?_
      refine kw_iconst (v := nI 4) C dX2_print_57 (by decide) ?_
      refine kw_iand C dX2_print_58 (kw_top (n_and _ _) ?_)
      have J67_5 : ∀ (_ : Unit), KW p l e ({ frames := 1, cells := 0, slots := 0, locals := 25 }) s m ([.ref b, .long ce, .int (nI q), .int (bI dn)] : List Value).toArray below meth c 0 0 (MQ below (va_Qv (fun (u : Unit) => True) (fun (u : Unit) t => PO G A (kSheet b (prL p1 ce (q.testBit 0) dn, prL p2 ce (q.testBit 1) dn, prL p3 ce (q.testBit 2) dn)) t) A) ([.ref b, .long ce, .int (nI q), .int (bI dn)] : List Value).toArray s 0 0 A) G A 5 (kSheet b (prL p1 ce (q.testBit 0) dn, prL p2 ce (q.testBit 1) dn, p3)) [(0, .ref b), (1, .long ce), (3, .int (nI q)), (4, .int (bI dn))] 67 [.int (bI (q.testBit 2)), .long ce, .long p3, .ref b] := by
        intro _
        refine kw_iload C 3 dX2_print_67 rfl ?_
        refine kS_l (As := [.long p3, .long ce, .int (bI (q.testBit 2)), .int (bI dn)]) (rest := [.ref b]) (ws' := fun (u : Unit) => kSheet b (prL p1 ce (q.testBit 0) dn, prL p2 ce (q.testBit 1) dn, p3)) C (c_X2_printed l G y t p3 ce (q.testBit 2) dn) (va_cwS 4 C.2.2.2.2.1 (goodS cT wd_302 wd_300 wd_301 wd_43) rfl rfl rfl (by decide +kernel) ⟨by decide, by decide⟩) [] [0] [0] rfl (by decide) rfl (by decide) (by decide) (fun _ => rfl) (by decide) rfl (Nat.le_of_ble_eq_true rfl) ⟨by decide, by decide⟩ dX2_print_69 (fun r u hr_6 => ?_)
        subst hr_6
        refine kw_put (T := TX2) (ty := .long) C 0 2 (kSheet b (prL p1 ce (q.testBit 0) dn, prL p2 ce (q.testBit 1) dn, prL p3 ce (q.testBit 2) dn)) rfl rfl (by decide) (fun w h => mT (fwX2 w h)) tyX2 tyX2_ok nmX2 rfl (mT wd_75) rfl (by decide +kernel) rfl rfl (Nat.le_of_ble_eq_true rfl) dX2_print_72 rfl ?_
        refine kR_v C () dX2_print_75 ?_ rfl
        first | rfl | trivial | (simp; done) | omega
      refine kw_if_eq_N (tgt := 66) C (by exact Nat.lt_of_le_of_lt Nat.and_le_left (by omega)) dX2_print_59 (by decide) (fun c_59 => ?_) (fun c_59 => ?_)
      ·
        refine kw_iconst (v := nI 0) C dX2_print_66 (by decide) ?_
        refine KW.loc (lv' := [(0, .ref b), (1, .long ce), (3, .int (nI q)), (4, .int (bI dn))]) [0, 1, 2, 3] rfl ?_
        refine KW.ass (congrArg (fun zz => ([.int zz, .long ce, .long p3, .ref b] : List Value)) (show (nI 0) = (bI (q.testBit 2)) from by first | exact bt_0 2 c_59 | exact bt_1 2 c_59)) ?_
        exact J67_5 ()
      ·
        refine kw_iconst (v := nI 1) C dX2_print_62 (by decide) ?_
        refine kw_goto (tgt := 67) C dX2_print_63 (by decide) ?_
        refine KW.loc (lv' := [(0, .ref b), (1, .long ce), (3, .int (nI q)), (4, .int (bI dn))]) [0, 1, 2, 3] rfl ?_
        refine KW.ass (congrArg (fun zz => ([.int zz, .long ce, .long p3, .ref b] : List Value)) (show (nI 1) = (bI (q.testBit 2)) from by first | exact bt_0 2 c_59 | exact bt_1 2 c_59)) ?_
        exact J67_5 ()
    refine kw_if_eq_N (tgt := 41) C (by exact Nat.lt_of_le_of_lt Nat.and_le_left (by omega)) dX2_print_34 (by decide) (fun c_34 => ?_) (fun c_34 => ?_)
    ·
      refine kw_iconst (v := nI 0) C dX2_print_41 (by decide) ?_
      refine KW.loc (lv' := [(0, .ref b), (1, .long ce), (3, .int (nI q)), (4, .int (bI dn))]) [0, 1, 2, 3] rfl ?_
      refine KW.ass (congrArg (fun zz => ([.int zz, .long ce, .long p2, .ref b] : List Value)) (show (nI 0) = (bI (q.testBit 1)) from by first | exact bt_0 1 c_34 | exact bt_1 1 c_34)) ?_
      exact J42_3 ()
    ·
      refine kw_iconst (v := nI 1) C dX2_print_37 (by decide) ?_
      refine kw_goto (tgt := 42) C dX2_print_38 (by decide) ?_
      refine KW.loc (lv' := [(0, .ref b), (1, .long ce), (3, .int (nI q)), (4, .int (bI dn))]) [0, 1, 2, 3] rfl ?_
      refine KW.ass (congrArg (fun zz => ([.int zz, .long ce, .long p2, .ref b] : List Value)) (show (nI 1) = (bI (q.testBit 1)) from by first | exact bt_0 1 c_34 | exact bt_1 1 c_34)) ?_
      exact J42_3 ()
  refine kw_if_eq_N (tgt := 16) C (by exact Nat.lt_of_le_of_lt Nat.and_le_left (by omega)) dX2_print_9 (by decide) (fun c_9 => ?_) (fun c_9 => ?_)
  ·
    refine kw_iconst (v := nI 0) C dX2_print_16 (by decide) ?_
    refine KW.loc (lv' := [(0, .ref b), (1, .long ce), (3, .int (nI q)), (4, .int (bI dn))]) [0, 1, 2, 3] rfl ?_
    refine KW.ass (congrArg (fun zz => ([.int zz, .long ce, .long p1, .ref b] : List Value)) (show (nI 0) = (bI (q.testBit 0)) from by first | exact bt_0 0 c_9 | exact bt_1 0 c_9)) ?_
    exact J17_1 ()
  ·
    refine kw_iconst (v := nI 1) C dX2_print_12 (by decide) ?_
    refine kw_goto (tgt := 17) C dX2_print_13 (by decide) ?_
    refine KW.loc (lv' := [(0, .ref b), (1, .long ce), (3, .int (nI q)), (4, .int (bI dn))]) [0, 1, 2, 3] rfl ?_
    refine KW.ass (congrArg (fun zz => ([.int zz, .long ce, .long p1, .ref b] : List Value)) (show (nI 1) = (bI (q.testBit 0)) from by first | exact bt_0 0 c_9 | exact bt_1 0 c_9)) ?_
    exact J17_1 ()

set_option maxHeartbeats 4000000 in
set_option maxRecDepth 100000 in
theorem c_X2_wipe (l : Launch) (G : va_G) (y : Nat → ClassId) (t : Nat) (b : Nat) (p1 : Int64) (p2 : Int64) (p3 : Int64) (sz : Nat) : Met l yX2_wipe (Cond.code yX2_wipe cX2_wipe 1 (none) :: TG) ({ frames := 0, cells := 0, slots := 0, locals := 0 }) (va_Pc [.ref b] (PR G y t (kSheet b (p1, p2, p3)) sz)) (va_Qv (fun (u : Unit) => True) (fun (u : Unit) t => PO G (va_A (kSheet b (p1, p2, p3)) sz) (kSheet b (0, 0, 0)) t) (va_A (kSheet b (p1, p2, p3)) sz)) 0 0 (va_A (kSheet b (p1, p2, p3)) sz) := by
  refine kMet (cc := cX2_wipe) (maxL := 1) (ret := none) (Qc := fun A => va_Qv (fun (u : Unit) => True) (fun (u : Unit) t => PO G A (kSheet b (0, 0, 0)) t) A) (by decide) rfl (Nat.le_of_ble_eq_true rfl) (fun p e s m below meth c A hsz C hin => ?_)
  refine KW.loc (lv' := [(0, .ref b)]) [0] rfl ?_
  refine kw_aload_n C 0 dX2_wipe_0 rfl ?_
  refine kw_lconst (v := 0) C dX2_wipe_1 (by decide) ?_
  refine kw_put (T := TX2) (ty := .long) C 0 0 (kSheet b (0, p2, p3)) rfl rfl (by decide) (fun w h => mT (fwX2 w h)) tyX2 tyX2_ok nmX2 rfl (mT wd_73) rfl (by decide +kernel) rfl rfl (Nat.le_of_ble_eq_true rfl) dX2_wipe_2 rfl ?_
  refine kw_aload_n C 0 dX2_wipe_5 rfl ?_
  refine kw_lconst (v := 0) C dX2_wipe_6 (by decide) ?_
  refine kw_put (T := TX2) (ty := .long) C 0 1 (kSheet b (0, 0, p3)) rfl rfl (by decide) (fun w h => mT (fwX2 w h)) tyX2 tyX2_ok nmX2 rfl (mT wd_74) rfl (by decide +kernel) rfl rfl (Nat.le_of_ble_eq_true rfl) dX2_wipe_7 rfl ?_
  refine kw_aload_n C 0 dX2_wipe_10 rfl ?_
  refine kw_lconst (v := 0) C dX2_wipe_11 (by decide) ?_
  refine kw_put (T := TX2) (ty := .long) C 0 2 (kSheet b (0, 0, 0)) rfl rfl (by decide) (fun w h => mT (fwX2 w h)) tyX2 tyX2_ok nmX2 rfl (mT wd_75) rfl (by decide +kernel) rfl rfl (Nat.le_of_ble_eq_true rfl) dX2_wipe_12 rfl ?_
  refine kR_v C () dX2_wipe_15 ?_ rfl
  first | rfl | trivial | (simp; done) | omega

set_option maxHeartbeats 4000000 in
set_option maxRecDepth 100000 in
theorem c_X2_copy (l : Launch) (G : va_G) (y : Nat → ClassId) (t : Nat) (b : Nat) (p1 : Int64) (p2 : Int64) (p3 : Int64) (b2 : Nat) (q1 : Int64) (q2 : Int64) (q3 : Int64) (sz : Nat) : Met l yX2_copy (Cond.code yX2_copy cX2_copy 2 (none) :: TG) ({ frames := 0, cells := 0, slots := 0, locals := 0 }) (va_Pc [.ref b, .ref b2] (PR G y t (kSheet b (p1, p2, p3) ++ kSheet b2 (q1, q2, q3)) sz)) (va_Qv (fun (u : Unit) => True) (fun (u : Unit) t => PO G (va_A (kSheet b (p1, p2, p3) ++ kSheet b2 (q1, q2, q3)) sz) (kSheet b (q1, q2, q3) ++ kSheet b2 (q1, q2, q3)) t) (va_A (kSheet b (p1, p2, p3) ++ kSheet b2 (q1, q2, q3)) sz)) 0 0 (va_A (kSheet b (p1, p2, p3) ++ kSheet b2 (q1, q2, q3)) sz) := by
  refine kMet (cc := cX2_copy) (maxL := 2) (ret := none) (Qc := fun A => va_Qv (fun (u : Unit) => True) (fun (u : Unit) t => PO G A (kSheet b (q1, q2, q3) ++ kSheet b2 (q1, q2, q3)) t) A) (by decide) rfl (Nat.le_of_ble_eq_true rfl) (fun p e s m below meth c A hsz C hin => ?_)
  refine KW.loc (lv' := [(0, .ref b), (1, .ref b2)]) [0, 1] rfl ?_
  refine kw_aload_n C 0 dX2_copy_0 rfl ?_
  refine kw_aload_n C 1 dX2_copy_1 rfl ?_
  refine kw_get (v := .long q1) (T := TX2) C 1 0 rfl rfl (by decide) (fun w h => mT (fwX2 w h)) rfl (mT wd_73) rfl dX2_copy_2 ?_
  refine kw_put (T := TX2) (ty := .long) C 0 0 (kSheet b (q1, p2, p3) ++ kSheet b2 (q1, q2, q3)) rfl rfl (by decide) (fun w h => mT (fwX2 w h)) tyX2 tyX2_ok nmX2 rfl (mT wd_73) rfl (by decide +kernel) rfl rfl (Nat.le_of_ble_eq_true rfl) dX2_copy_5 rfl ?_
  refine kw_aload_n C 0 dX2_copy_8 rfl ?_
  refine kw_aload_n C 1 dX2_copy_9 rfl ?_
  refine kw_get (v := .long q2) (T := TX2) C 1 1 rfl rfl (by decide) (fun w h => mT (fwX2 w h)) rfl (mT wd_74) rfl dX2_copy_10 ?_
  refine kw_put (T := TX2) (ty := .long) C 0 1 (kSheet b (q1, q2, p3) ++ kSheet b2 (q1, q2, q3)) rfl rfl (by decide) (fun w h => mT (fwX2 w h)) tyX2 tyX2_ok nmX2 rfl (mT wd_74) rfl (by decide +kernel) rfl rfl (Nat.le_of_ble_eq_true rfl) dX2_copy_13 rfl ?_
  refine kw_aload_n C 0 dX2_copy_16 rfl ?_
  refine kw_aload_n C 1 dX2_copy_17 rfl ?_
  refine kw_get (v := .long q3) (T := TX2) C 1 2 rfl rfl (by decide) (fun w h => mT (fwX2 w h)) rfl (mT wd_75) rfl dX2_copy_18 ?_
  refine kw_put (T := TX2) (ty := .long) C 0 2 (kSheet b (q1, q2, q3) ++ kSheet b2 (q1, q2, q3)) rfl rfl (by decide) (fun w h => mT (fwX2 w h)) tyX2 tyX2_ok nmX2 rfl (mT wd_75) rfl (by decide +kernel) rfl rfl (Nat.le_of_ble_eq_true rfl) dX2_copy_21 rfl ?_
  refine kR_v C () dX2_copy_24 ?_ rfl
  first | rfl | trivial | (simp; done) | omega

set_option maxHeartbeats 4000000 in
set_option maxRecDepth 100000 in
theorem c_X2_at (l : Launch) (G : va_G) (y : Nat → ClassId) (t : Nat) (b : Nat) (p1 : Int64) (p2 : Int64) (p3 : Int64) (x : Nat) (z : Nat) (sz : Nat) : Met l yX2_at (Cond.code yX2_at cX2_at 5 (some .int) :: TG) ({ frames := 1, cells := 0, slots := 0, locals := 21 }) (va_Pc [.ref b, .int (nI x), .int (nI z)] (PR G y t (kSheet b (p1, p2, p3)) sz)) (va_Qi (fun (r : Int32) (u : Unit) => r = nI (atL p1 p2 p3 (8 * z + x))) (fun (u : Unit) t => PO G (va_A (kSheet b (p1, p2, p3)) sz) (kSheet b (p1, p2, p3)) t) (va_A (kSheet b (p1, p2, p3)) sz)) 0 0 (va_A (kSheet b (p1, p2, p3)) sz) := by
  refine kMet (cc := cX2_at) (maxL := 5) (ret := some .int) (Qc := fun A => va_Qi (fun (r : Int32) (u : Unit) => r = nI (atL p1 p2 p3 (8 * z + x))) (fun (u : Unit) t => PO G A (kSheet b (p1, p2, p3)) t) A) (by decide) rfl (Nat.le_of_ble_eq_true rfl) (fun p e s m below meth c A hsz C hin => ?_)
  refine KW.loc (lv' := [(0, .ref b), (1, .int (nI x)), (2, .int (nI z))]) [0, 1, 2] rfl ?_
  refine kw_iload_n C 1 dX2_at_0 rfl ?_
  refine kw_iload_n C 2 dX2_at_1 rfl ?_
  refine kSN_l (As := [.int (nI x), .int (nI z)]) (rest := []) (ws' := fun (u : Unit) => kSheet b (p1, p2, p3)) C (c_X6_cellBit l G y t x z) ⟨va_cnB 2 C.2.2.2.2.1 (goodTG cT wd_295) rfl rfl rfl (C.2.2.2.2.2.2.2.2.2.1.2 _ (List.mem_of_getElem? (i := 10) rfl)) (C.2.2.2.2.1 _ (mT wd_41)) (by decide +kernel) ⟨by decide, by decide⟩, C.2.2.2.2.1 _ (mT wd_294), trivial⟩ [] [0] [0] rfl (by decide) rfl (by decide) (by decide) (fun _ => rfl) (by decide) rfl (Nat.le_of_ble_eq_true rfl) ⟨by decide, by decide⟩ dX2_at_2 (fun r u hr_1 => ?_)
  subst hr_1
  refine kw_lstore_n C [(3, .long (cbL (8 * z + x))), (0, .ref b), (1, .int (nI x)), (2, .int (nI z))] dX2_at_5 rfl (by decide) rfl ?_
  refine kw_aload_n C 1 dX2_at_6 rfl ?_
  refine kw_get (v := .long p1) (T := TX2) C 0 0 rfl rfl (by decide) (fun w h => mT (fwX2 w h)) rfl (mT wd_73) rfl dX2_at_7 ?_
  refine kw_lload_n C 0 dX2_at_10 rfl ?_
  refine kw_land C dX2_at_11 ?_
  refine kw_lconst (v := 0) C dX2_at_12 (by decide) ?_
  refine kw_lcmp C dX2_at_13 ?_
  have J22_2 : ∀ (_ : Unit), KW p l e ({ frames := 1, cells := 0, slots := 0, locals := 21 }) s m ([.ref b, .int (nI x), .int (nI z)] : List Value).toArray below meth c 0 0 (MQ below (va_Qi (fun (r : Int32) (u : Unit) => r = nI (atL p1 p2 p3 (8 * z + x))) (fun (u : Unit) t => PO G A (kSheet b (p1, p2, p3)) t) A) ([.ref b, .int (nI x), .int (nI z)] : List Value).toArray s 0 0 A) G A 5 (kSheet b (p1, p2, p3)) [(3, .long (cbL (8 * z + x))), (0, .ref b), (1, .int (nI x)), (2, .int (nI z))] 22 [.int (nI (if tl p1 (8 * z + x) then 1 else 0))] := by
    intro _
    refine kw_aload_n C 1 dX2_at_22 rfl ?_
    refine kw_get (v := .long p2) (T := TX2) C 0 1 rfl rfl (by decide) (fun w h => mT (fwX2 w h)) rfl (mT wd_74) rfl dX2_at_23 ?_
    refine kw_lload_n C 0 dX2_at_26 rfl ?_
    refine kw_land C dX2_at_27 ?_
    refine kw_lconst (v := 0) C dX2_at_28 (by decide) ?_
    refine kw_lcmp C dX2_at_29 ?_
    have J38_3 : ∀ (_ : Unit), KW p l e ({ frames := 1, cells := 0, slots := 0, locals := 21 }) s m ([.ref b, .int (nI x), .int (nI z)] : List Value).toArray below meth c 0 0 (MQ below (va_Qi (fun (r : Int32) (u : Unit) => r = nI (atL p1 p2 p3 (8 * z + x))) (fun (u : Unit) t => PO G A (kSheet b (p1, p2, p3)) t) A) ([.ref b, .int (nI x), .int (nI z)] : List Value).toArray s 0 0 A) G A 5 (kSheet b (p1, p2, p3)) [(3, .long (cbL (8 * z + x))), (0, .ref b), (1, .int (nI x)), (2, .int (nI z))] 38 [.int (nI (if tl p2 (8 * z + x) then 2 else 0)), .int (nI (if tl p1 (8 * z + x) then 1 else 0))] := by
      intro _
      refine kw_ior C dX2_at_38 (kw_top (n_or _ _) ?_)
      refine kw_aload_n C 1 dX2_at_39 rfl ?_
      refine kw_get (v := .long p3) (T := TX2) C 0 2 rfl rfl (by decide) (fun w h => mT (fwX2 w h)) rfl (mT wd_75) rfl dX2_at_40 ?_
      refine kw_lload_n C 0 dX2_at_43 rfl ?_
      refine kw_land C dX2_at_44 ?_
      refine kw_lconst (v := 0) C dX2_at_45 (by decide) ?_
      refine kw_lcmp C dX2_at_46 ?_
      have J55_4 : ∀ (_ : Unit), KW p l e ({ frames := 1, cells := 0, slots := 0, locals := 21 }) s m ([.ref b, .int (nI x), .int (nI z)] : List Value).toArray below meth c 0 0 (MQ below (va_Qi (fun (r : Int32) (u : Unit) => r = nI (atL p1 p2 p3 (8 * z + x))) (fun (u : Unit) t => PO G A (kSheet b (p1, p2, p3)) t) A) ([.ref b, .int (nI x), .int (nI z)] : List Value).toArray s 0 0 A) G A 5 (kSheet b (p1, p2, p3)) [(3, .long (cbL (8 * z + x))), (0, .ref b), (1, .int (nI x)), (2, .int (nI z))] 55 [.int (nI (if tl p3 (8 * z + x) then 4 else 0)), .int (nI ((if tl p1 (8 * z + x) then 1 else 0) ||| (if tl p2 (8 * z + x) then 2 else 0)))] := by
        intro _
        refine kw_ior C dX2_at_55 (kw_top (n_or _ _) ?_)
        refine kR_i C () dX2_at_56 ?_ rfl
        rfl
      refine kw_if_eq (tgt := 54) C dX2_at_47 (by decide) (fun c_47 => ?_) (fun c_47 => ?_)
      ·
        refine kw_iconst (v := nI 0) C dX2_at_54 (by decide) ?_
        refine KW.loc (lv' := [(3, .long (cbL (8 * z + x))), (0, .ref b), (1, .int (nI x)), (2, .int (nI z))]) [0, 1, 2, 3] rfl ?_
        refine KW.ass (congrArg (fun zz => ([.int zz, .int (nI ((if tl p1 (8 * z + x) then 1 else 0) ||| (if tl p2 (8 * z + x) then 2 else 0)))] : List Value)) (show (nI 0) = (nI (if tl p3 (8 * z + x) then 4 else 0)) from by simp only [tl, lgc] at c_47 ⊢; simp [c_47])) ?_
        exact J55_4 ()
      ·
        refine kw_iconst (v := nI 4) C dX2_at_50 (by decide) ?_
        refine kw_goto (tgt := 55) C dX2_at_51 (by decide) ?_
        refine KW.loc (lv' := [(3, .long (cbL (8 * z + x))), (0, .ref b), (1, .int (nI x)), (2, .int (nI z))]) [0, 1, 2, 3] rfl ?_
        refine KW.ass (congrArg (fun zz => ([.int zz, .int (nI ((if tl p1 (8 * z + x) then 1 else 0) ||| (if tl p2 (8 * z + x) then 2 else 0)))] : List Value)) (show (nI 4) = (nI (if tl p3 (8 * z + x) then 4 else 0)) from by simp only [tl, lgc] at c_47 ⊢; simp [c_47])) ?_
        exact J55_4 ()
    refine kw_if_eq (tgt := 37) C dX2_at_30 (by decide) (fun c_30 => ?_) (fun c_30 => ?_)
    ·
      refine kw_iconst (v := nI 0) C dX2_at_37 (by decide) ?_
      refine KW.loc (lv' := [(3, .long (cbL (8 * z + x))), (0, .ref b), (1, .int (nI x)), (2, .int (nI z))]) [0, 1, 2, 3] rfl ?_
      refine KW.ass (congrArg (fun zz => ([.int zz, .int (nI (if tl p1 (8 * z + x) then 1 else 0))] : List Value)) (show (nI 0) = (nI (if tl p2 (8 * z + x) then 2 else 0)) from by simp only [tl, lgc] at c_30 ⊢; simp [c_30])) ?_
      exact J38_3 ()
    ·
      refine kw_iconst (v := nI 2) C dX2_at_33 (by decide) ?_
      refine kw_goto (tgt := 38) C dX2_at_34 (by decide) ?_
      refine KW.loc (lv' := [(3, .long (cbL (8 * z + x))), (0, .ref b), (1, .int (nI x)), (2, .int (nI z))]) [0, 1, 2, 3] rfl ?_
      refine KW.ass (congrArg (fun zz => ([.int zz, .int (nI (if tl p1 (8 * z + x) then 1 else 0))] : List Value)) (show (nI 2) = (nI (if tl p2 (8 * z + x) then 2 else 0)) from by simp only [tl, lgc] at c_30 ⊢; simp [c_30])) ?_
      exact J38_3 ()
  refine kw_if_eq (tgt := 21) C dX2_at_14 (by decide) (fun c_14 => ?_) (fun c_14 => ?_)
  ·
    refine kw_iconst (v := nI 0) C dX2_at_21 (by decide) ?_
    refine KW.loc (lv' := [(3, .long (cbL (8 * z + x))), (0, .ref b), (1, .int (nI x)), (2, .int (nI z))]) [0, 1, 2, 3] rfl ?_
    refine KW.ass (congrArg (fun zz => ([.int zz] : List Value)) (show (nI 0) = (nI (if tl p1 (8 * z + x) then 1 else 0)) from by simp only [tl, lgc] at c_14 ⊢; simp [c_14])) ?_
    exact J22_2 ()
  ·
    refine kw_iconst (v := nI 1) C dX2_at_17 (by decide) ?_
    refine kw_goto (tgt := 22) C dX2_at_18 (by decide) ?_
    refine KW.loc (lv' := [(3, .long (cbL (8 * z + x))), (0, .ref b), (1, .int (nI x)), (2, .int (nI z))]) [0, 1, 2, 3] rfl ?_
    refine KW.ass (congrArg (fun zz => ([.int zz] : List Value)) (show (nI 1) = (nI (if tl p1 (8 * z + x) then 1 else 0)) from by simp only [tl, lgc] at c_14 ⊢; simp [c_14])) ?_
    exact J22_2 ()

set_option maxHeartbeats 4000000 in
set_option maxRecDepth 100000 in
theorem c_X2_cellsOf (l : Launch) (G : va_G) (y : Nat → ClassId) (t : Nat) (b : Nat) (p1 : Int64) (p2 : Int64) (p3 : Int64) (q : Nat) (hq : q < 8) (sz : Nat) : Met l yX2_cellsOf (Cond.code yX2_cellsOf cX2_cellsOf 2 (some .long) :: TG) ({ frames := 0, cells := 0, slots := 0, locals := 0 }) (va_Pc [.ref b, .int (nI q)] (PR G y t (kSheet b (p1, p2, p3)) sz)) (va_Ql (fun (r : Int64) (u : Unit) => r = ofL p1 p2 p3 q) (fun (u : Unit) t => PO G (va_A (kSheet b (p1, p2, p3)) sz) (kSheet b (p1, p2, p3)) t) (va_A (kSheet b (p1, p2, p3)) sz)) 0 0 (va_A (kSheet b (p1, p2, p3)) sz) := by
  refine kMet (cc := cX2_cellsOf) (maxL := 2) (ret := some .long) (Qc := fun A => va_Ql (fun (r : Int64) (u : Unit) => r = ofL p1 p2 p3 q) (fun (u : Unit) t => PO G A (kSheet b (p1, p2, p3)) t) A) (by decide) rfl (Nat.le_of_ble_eq_true rfl) (fun p e s m below meth c A hsz C hin => ?_)
  refine KW.loc (lv' := [(0, .ref b), (1, .int (nI q))]) [0, 1] rfl ?_
  refine kw_iload_n C 1 dX2_cellsOf_0 rfl ?_
  refine kw_iconst (v := nI 1) C dX2_cellsOf_1 (by decide) ?_
  refine kw_iand C dX2_cellsOf_2 (kw_top (n_and _ _) ?_)
  have J21_1 : ∀ (_ : Unit), KW p l e ({ frames := 0, cells := 0, slots := 0, locals := 0 }) s m ([.ref b, .int (nI q)] : List Value).toArray below meth c 0 0 (MQ below (va_Ql (fun (r : Int64) (u : Unit) => r = ofL p1 p2 p3 q) (fun (u : Unit) t => PO G A (kSheet b (p1, p2, p3)) t) A) ([.ref b, .int (nI q)] : List Value).toArray s 0 0 A) G A 2 (kSheet b (p1, p2, p3)) [(0, .ref b), (1, .int (nI q))] 21 [.long (if q.testBit 0 then p1 else p1 ^^^ (-1))] := by
    intro _
    refine kw_iload_n C 1 dX2_cellsOf_21 rfl ?_
    refine kw_iconst (v := nI 2) C dX2_cellsOf_22 (by decide) ?_
    refine kw_iand C dX2_cellsOf_23 (kw_top (n_and _ _) ?_)
    have J42_2 : ∀ (_ : Unit), KW p l e ({ frames := 0, cells := 0, slots := 0, locals := 0 }) s m ([.ref b, .int (nI q)] : List Value).toArray below meth c 0 0 (MQ below (va_Ql (fun (r : Int64) (u : Unit) => r = ofL p1 p2 p3 q) (fun (u : Unit) t => PO G A (kSheet b (p1, p2, p3)) t) A) ([.ref b, .int (nI q)] : List Value).toArray s 0 0 A) G A 2 (kSheet b (p1, p2, p3)) [(0, .ref b), (1, .int (nI q))] 42 [.long (if q.testBit 1 then p2 else p2 ^^^ (-1)), .long (if q.testBit 0 then p1 else p1 ^^^ (-1))] := by
      intro _
      refine kw_land C dX2_cellsOf_42 ?_
      refine kw_iload_n C 1 dX2_cellsOf_43 rfl ?_
      refine kw_iconst (v := nI 4) C dX2_cellsOf_44 (by decide) ?_
      refine kw_iand C dX2_cellsOf_45 (kw_top (n_and _ _) ?_)
      have J64_3 : ∀ (_ : Unit), KW p l e ({ frames := 0, cells := 0, slots := 0, locals := 0 }) s m ([.ref b, .int (nI q)] : List Value).toArray below meth c 0 0 (MQ below (va_Ql (fun (r : Int64) (u : Unit) => r = ofL p1 p2 p3 q) (fun (u : Unit) t => PO G A (kSheet b (p1, p2, p3)) t) A) ([.ref b, .int (nI q)] : List Value).toArray s 0 0 A) G A 2 (kSheet b (p1, p2, p3)) [(0, .ref b), (1, .int (nI q))] 64 [.long (if q.testBit 2 then p3 else p3 ^^^ (-1)), .long ((if q.testBit 0 then p1 else p1 ^^^ (-1)) &&& (if q.testBit 1 then p2 else p2 ^^^ (-1)))] := by
        intro _
        refine kw_land C dX2_cellsOf_64 ?_
        refine kR_l C () dX2_cellsOf_65 ?_ rfl
        rfl
      refine kw_if_eq_N (tgt := 56) C (by exact Nat.lt_of_le_of_lt Nat.and_le_left (by omega)) dX2_cellsOf_46 (by decide) (fun c_46 => ?_) (fun c_46 => ?_)
      ·
        refine kw_aload_n C 0 dX2_cellsOf_56 rfl ?_
        refine kw_get (v := .long p3) (T := TX2) C 0 2 rfl rfl (by decide) (fun w h => mT (fwX2 w h)) rfl (mT wd_75) rfl dX2_cellsOf_57 ?_
        refine kw_ldc2 (v := (-1)) C (mT wd_303) dX2_cellsOf_60 ?_
        refine kw_lxor C dX2_cellsOf_63 ?_
        refine KW.loc (lv' := [(0, .ref b), (1, .int (nI q))]) [0, 1] rfl ?_
        refine KW.ass (congrArg (fun zz => ([.long zz, .long ((if q.testBit 0 then p1 else p1 ^^^ (-1)) &&& (if q.testBit 1 then p2 else p2 ^^^ (-1)))] : List Value)) (show (p3 ^^^ (-1)) = (if q.testBit 2 then p3 else p3 ^^^ (-1)) from by first | (rw [tb_f 2 c_46]; rfl) | (rw [tb_t 2 c_46]; rfl))) ?_
        exact J64_3 ()
      ·
        refine kw_aload_n C 0 dX2_cellsOf_49 rfl ?_
        refine kw_get (v := .long p3) (T := TX2) C 0 2 rfl rfl (by decide) (fun w h => mT (fwX2 w h)) rfl (mT wd_75) rfl dX2_cellsOf_50 ?_
        refine kw_goto (tgt := 64) C dX2_cellsOf_53 (by decide) ?_
        refine KW.loc (lv' := [(0, .ref b), (1, .int (nI q))]) [0, 1] rfl ?_
        refine KW.ass (congrArg (fun zz => ([.long zz, .long ((if q.testBit 0 then p1 else p1 ^^^ (-1)) &&& (if q.testBit 1 then p2 else p2 ^^^ (-1)))] : List Value)) (show p3 = (if q.testBit 2 then p3 else p3 ^^^ (-1)) from by first | (rw [tb_f 2 c_46]; rfl) | (rw [tb_t 2 c_46]; rfl))) ?_
        exact J64_3 ()
    refine kw_if_eq_N (tgt := 34) C (by exact Nat.lt_of_le_of_lt Nat.and_le_left (by omega)) dX2_cellsOf_24 (by decide) (fun c_24 => ?_) (fun c_24 => ?_)
    ·
      refine kw_aload_n C 0 dX2_cellsOf_34 rfl ?_
      refine kw_get (v := .long p2) (T := TX2) C 0 1 rfl rfl (by decide) (fun w h => mT (fwX2 w h)) rfl (mT wd_74) rfl dX2_cellsOf_35 ?_
      refine kw_ldc2 (v := (-1)) C (mT wd_303) dX2_cellsOf_38 ?_
      refine kw_lxor C dX2_cellsOf_41 ?_
      refine KW.loc (lv' := [(0, .ref b), (1, .int (nI q))]) [0, 1] rfl ?_
      refine KW.ass (congrArg (fun zz => ([.long zz, .long (if q.testBit 0 then p1 else p1 ^^^ (-1))] : List Value)) (show (p2 ^^^ (-1)) = (if q.testBit 1 then p2 else p2 ^^^ (-1)) from by first | (rw [tb_f 1 c_24]; rfl) | (rw [tb_t 1 c_24]; rfl))) ?_
      exact J42_2 ()
    ·
      refine kw_aload_n C 0 dX2_cellsOf_27 rfl ?_
      refine kw_get (v := .long p2) (T := TX2) C 0 1 rfl rfl (by decide) (fun w h => mT (fwX2 w h)) rfl (mT wd_74) rfl dX2_cellsOf_28 ?_
      refine kw_goto (tgt := 42) C dX2_cellsOf_31 (by decide) ?_
      refine KW.loc (lv' := [(0, .ref b), (1, .int (nI q))]) [0, 1] rfl ?_
      refine KW.ass (congrArg (fun zz => ([.long zz, .long (if q.testBit 0 then p1 else p1 ^^^ (-1))] : List Value)) (show p2 = (if q.testBit 1 then p2 else p2 ^^^ (-1)) from by first | (rw [tb_f 1 c_24]; rfl) | (rw [tb_t 1 c_24]; rfl))) ?_
      exact J42_2 ()
  refine kw_if_eq_N (tgt := 13) C (by exact Nat.lt_of_le_of_lt Nat.and_le_left (by omega)) dX2_cellsOf_3 (by decide) (fun c_3 => ?_) (fun c_3 => ?_)
  ·
    refine kw_aload_n C 0 dX2_cellsOf_13 rfl ?_
    refine kw_get (v := .long p1) (T := TX2) C 0 0 rfl rfl (by decide) (fun w h => mT (fwX2 w h)) rfl (mT wd_73) rfl dX2_cellsOf_14 ?_
    refine kw_ldc2 (v := (-1)) C (mT wd_303) dX2_cellsOf_17 ?_
    refine kw_lxor C dX2_cellsOf_20 ?_
    refine KW.loc (lv' := [(0, .ref b), (1, .int (nI q))]) [0, 1] rfl ?_
    refine KW.ass (congrArg (fun zz => ([.long zz] : List Value)) (show (p1 ^^^ (-1)) = (if q.testBit 0 then p1 else p1 ^^^ (-1)) from by first | (rw [tb_f 0 c_3]; rfl) | (rw [tb_t 0 c_3]; rfl))) ?_
    exact J21_1 ()
  ·
    refine kw_aload_n C 0 dX2_cellsOf_6 rfl ?_
    refine kw_get (v := .long p1) (T := TX2) C 0 0 rfl rfl (by decide) (fun w h => mT (fwX2 w h)) rfl (mT wd_73) rfl dX2_cellsOf_7 ?_
    refine kw_goto (tgt := 21) C dX2_cellsOf_10 (by decide) ?_
    refine KW.loc (lv' := [(0, .ref b), (1, .int (nI q))]) [0, 1] rfl ?_
    refine KW.ass (congrArg (fun zz => ([.long zz] : List Value)) (show p1 = (if q.testBit 0 then p1 else p1 ^^^ (-1)) from by first | (rw [tb_f 0 c_3]; rfl) | (rw [tb_t 0 c_3]; rfl))) ?_
    exact J21_1 ()

set_option maxHeartbeats 4000000 in
set_option maxRecDepth 100000 in
theorem c_X2_unlike (l : Launch) (G : va_G) (y : Nat → ClassId) (t : Nat) (b : Nat) (p1 : Int64) (p2 : Int64) (p3 : Int64) (b2 : Nat) (q1 : Int64) (q2 : Int64) (q3 : Int64) (sz : Nat) : Met l yX2_unlike (Cond.code yX2_unlike cX2_unlike 2 (some .long) :: TG) ({ frames := 0, cells := 0, slots := 0, locals := 0 }) (va_Pc [.ref b, .ref b2] (PR G y t (kSheet b (p1, p2, p3) ++ kSheet b2 (q1, q2, q3)) sz)) (va_Ql (fun (r : Int64) (u : Unit) => r = ((p1 ^^^ q1) ||| (p2 ^^^ q2)) ||| (p3 ^^^ q3)) (fun (u : Unit) t => PO G (va_A (kSheet b (p1, p2, p3) ++ kSheet b2 (q1, q2, q3)) sz) (kSheet b (p1, p2, p3) ++ kSheet b2 (q1, q2, q3)) t) (va_A (kSheet b (p1, p2, p3) ++ kSheet b2 (q1, q2, q3)) sz)) 0 0 (va_A (kSheet b (p1, p2, p3) ++ kSheet b2 (q1, q2, q3)) sz) := by
  refine kMet (cc := cX2_unlike) (maxL := 2) (ret := some .long) (Qc := fun A => va_Ql (fun (r : Int64) (u : Unit) => r = ((p1 ^^^ q1) ||| (p2 ^^^ q2)) ||| (p3 ^^^ q3)) (fun (u : Unit) t => PO G A (kSheet b (p1, p2, p3) ++ kSheet b2 (q1, q2, q3)) t) A) (by decide) rfl (Nat.le_of_ble_eq_true rfl) (fun p e s m below meth c A hsz C hin => ?_)
  refine KW.loc (lv' := [(0, .ref b), (1, .ref b2)]) [0, 1] rfl ?_
  refine kw_aload_n C 0 dX2_unlike_0 rfl ?_
  refine kw_get (v := .long p1) (T := TX2) C 0 0 rfl rfl (by decide) (fun w h => mT (fwX2 w h)) rfl (mT wd_73) rfl dX2_unlike_1 ?_
  refine kw_aload_n C 1 dX2_unlike_4 rfl ?_
  refine kw_get (v := .long q1) (T := TX2) C 1 0 rfl rfl (by decide) (fun w h => mT (fwX2 w h)) rfl (mT wd_73) rfl dX2_unlike_5 ?_
  refine kw_lxor C dX2_unlike_8 ?_
  refine kw_aload_n C 0 dX2_unlike_9 rfl ?_
  refine kw_get (v := .long p2) (T := TX2) C 0 1 rfl rfl (by decide) (fun w h => mT (fwX2 w h)) rfl (mT wd_74) rfl dX2_unlike_10 ?_
  refine kw_aload_n C 1 dX2_unlike_13 rfl ?_
  refine kw_get (v := .long q2) (T := TX2) C 1 1 rfl rfl (by decide) (fun w h => mT (fwX2 w h)) rfl (mT wd_74) rfl dX2_unlike_14 ?_
  refine kw_lxor C dX2_unlike_17 ?_
  refine kw_lor C dX2_unlike_18 ?_
  refine kw_aload_n C 0 dX2_unlike_19 rfl ?_
  refine kw_get (v := .long p3) (T := TX2) C 0 2 rfl rfl (by decide) (fun w h => mT (fwX2 w h)) rfl (mT wd_75) rfl dX2_unlike_20 ?_
  refine kw_aload_n C 1 dX2_unlike_23 rfl ?_
  refine kw_get (v := .long q3) (T := TX2) C 1 2 rfl rfl (by decide) (fun w h => mT (fwX2 w h)) rfl (mT wd_75) rfl dX2_unlike_24 ?_
  refine kw_lxor C dX2_unlike_27 ?_
  refine kw_lor C dX2_unlike_28 ?_
  refine kR_l C () dX2_unlike_29 ?_ rfl
  first | rfl | trivial | (simp; done) | omega

set_option maxHeartbeats 4000000 in
set_option maxRecDepth 100000 in
theorem c_X5_hasInk (l : Launch) (G : va_G) (y : Nat → ClassId) (t : Nat) (a : Nat → Nat) (W : Nat) (H : Nat) (N : Nat) (D : Nat) (p1 : Int64) (p2 : Int64) (p3 : Int64) (col : Nat → Int32) (od : Nat → Int32) (blk : Nat → Int64) (slp : Nat → Int32) (i : Int32) (hN : N ≤ 6) (sz : Nat) : Met l yX5_hasInk (Cond.code yX5_hasInk cX5_hasInk 2 (some .boolean) :: TG) ({ frames := 0, cells := 0, slots := 0, locals := 0 }) (va_Pc [.ref (a 0), .int i] (PR G y t (kWork y a (nI W, nI H, nI N, nI D, p1, p2, p3, col, od, blk, slp)) sz)) (va_Qi (fun (r : Int32) (u : Unit) => r = bI (decide (inR i N))) (fun (u : Unit) t => PO G (va_A (kWork y a (nI W, nI H, nI N, nI D, p1, p2, p3, col, od, blk, slp)) sz) (kWork y a (nI W, nI H, nI N, nI D, p1, p2, p3, col, od, blk, slp)) t) (va_A (kWork y a (nI W, nI H, nI N, nI D, p1, p2, p3, col, od, blk, slp)) sz)) 0 0 (va_A (kWork y a (nI W, nI H, nI N, nI D, p1, p2, p3, col, od, blk, slp)) sz) := by
  refine kMet (cc := cX5_hasInk) (maxL := 2) (ret := some .boolean) (Qc := fun A => va_Qi (fun (r : Int32) (u : Unit) => r = bI (decide (inR i N))) (fun (u : Unit) t => PO G A (kWork y a (nI W, nI H, nI N, nI D, p1, p2, p3, col, od, blk, slp)) t) A) (by decide) rfl (Nat.le_of_ble_eq_true rfl) (fun p e s m below meth c A hsz C hin => ?_)
  refine KW.loc (lv' := [(0, .ref (a 0)), (1, .int i)]) [0, 1] rfl ?_
  refine kw_iload_n C 1 dX5_hasInk_0 rfl ?_
  refine kw_if_lt (tgt := 16) C dX5_hasInk_1 (by decide) (fun c_1 => ?_) (fun c_1 => ?_)
  ·
    refine kw_iconst (v := nI 0) C dX5_hasInk_16 (by decide) ?_
    refine kR_z C () dX5_hasInk_17 (by first | decide | exact bI_z _ | rfl) ?_ rfl
    first | exact (bI_t (ir1 (by omega) c_1 c_9)).symm | exact (bI_f (ir2 c_1)).symm | exact (bI_f (ir3 (by omega) c_9)).symm
  ·
    refine kw_iload_n C 1 dX5_hasInk_4 rfl ?_
    refine kw_aload_n C 0 dX5_hasInk_5 rfl ?_
    refine kw_get (v := .int (nI N)) (T := TX5) C 0 2 rfl rfl (by decide) (fun w h => mT (fwX5 w h)) rfl (mT wd_91) rfl dX5_hasInk_6 ?_
    refine kw_icmp_ge (tgt := 16) C dX5_hasInk_9 (by decide) (fun c_9 => ?_) (fun c_9 => ?_)
    ·
      refine kw_iconst (v := nI 0) C dX5_hasInk_16 (by decide) ?_
      refine kR_z C () dX5_hasInk_17 (by first | decide | exact bI_z _ | rfl) ?_ rfl
      first | exact (bI_t (ir1 (by omega) c_1 c_9)).symm | exact (bI_f (ir2 c_1)).symm | exact (bI_f (ir3 (by omega) c_9)).symm
    ·
      refine kw_iconst (v := nI 1) C dX5_hasInk_12 (by decide) ?_
      refine kw_goto (tgt := 17) C dX5_hasInk_13 (by decide) ?_
      refine kR_z C () dX5_hasInk_17 (by first | decide | exact bI_z _ | rfl) ?_ rfl
      first | exact (bI_t (ir1 (by omega) c_1 c_9)).symm | exact (bI_f (ir2 c_1)).symm | exact (bI_f (ir3 (by omega) c_9)).symm

set_option maxHeartbeats 4000000 in
set_option maxRecDepth 100000 in
theorem c_X5_hasCell (l : Launch) (G : va_G) (y : Nat → ClassId) (t : Nat) (a : Nat → Nat) (W : Nat) (H : Nat) (N : Nat) (D : Nat) (p1 : Int64) (p2 : Int64) (p3 : Int64) (col : Nat → Int32) (od : Nat → Int32) (blk : Nat → Int64) (slp : Nat → Int32) (x : Int32) (z : Int32) (hW : W ≤ 6) (hH : H ≤ 6) (sz : Nat) : Met l yX5_hasCell (Cond.code yX5_hasCell cX5_hasCell 3 (some .boolean) :: TG) ({ frames := 0, cells := 0, slots := 0, locals := 0 }) (va_Pc [.ref (a 0), .int x, .int z] (PR G y t (kWork y a (nI W, nI H, nI N, nI D, p1, p2, p3, col, od, blk, slp)) sz)) (va_Qi (fun (r : Int32) (u : Unit) => r = bI (decide (inR x W ∧ inR z H))) (fun (u : Unit) t => PO G (va_A (kWork y a (nI W, nI H, nI N, nI D, p1, p2, p3, col, od, blk, slp)) sz) (kWork y a (nI W, nI H, nI N, nI D, p1, p2, p3, col, od, blk, slp)) t) (va_A (kWork y a (nI W, nI H, nI N, nI D, p1, p2, p3, col, od, blk, slp)) sz)) 0 0 (va_A (kWork y a (nI W, nI H, nI N, nI D, p1, p2, p3, col, od, blk, slp)) sz) := by
  refine kMet (cc := cX5_hasCell) (maxL := 3) (ret := some .boolean) (Qc := fun A => va_Qi (fun (r : Int32) (u : Unit) => r = bI (decide (inR x W ∧ inR z H))) (fun (u : Unit) t => PO G A (kWork y a (nI W, nI H, nI N, nI D, p1, p2, p3, col, od, blk, slp)) t) A) (by decide) rfl (Nat.le_of_ble_eq_true rfl) (fun p e s m below meth c A hsz C hin => ?_)
  refine KW.loc (lv' := [(0, .ref (a 0)), (1, .int x), (2, .int z)]) [0, 1, 2] rfl ?_
  refine kw_iload_n C 1 dX5_hasCell_0 rfl ?_
  refine kw_if_lt (tgt := 28) C dX5_hasCell_1 (by decide) (fun c_1 => ?_) (fun c_1 => ?_)
  ·
    refine kw_iconst (v := nI 0) C dX5_hasCell_28 (by decide) ?_
    refine kR_z C () dX5_hasCell_29 (by first | decide | exact bI_z _ | rfl) ?_ rfl
    first | exact (bI_t ⟨ir1 (by omega) c_1 c_9, ir1 (by omega) c_13 c_21⟩).symm | exact (bI_f (fun h => ir2 c_1 h.1)).symm | exact (bI_f (fun h => ir3 (by omega) c_9 h.1)).symm | exact (bI_f (fun h => ir2 c_13 h.2)).symm | exact (bI_f (fun h => ir3 (by omega) c_21 h.2)).symm
  ·
    refine kw_iload_n C 1 dX5_hasCell_4 rfl ?_
    refine kw_aload_n C 0 dX5_hasCell_5 rfl ?_
    refine kw_get (v := .int (nI W)) (T := TX5) C 0 0 rfl rfl (by decide) (fun w h => mT (fwX5 w h)) rfl (mT wd_83) rfl dX5_hasCell_6 ?_
    refine kw_icmp_ge (tgt := 28) C dX5_hasCell_9 (by decide) (fun c_9 => ?_) (fun c_9 => ?_)
    ·
      refine kw_iconst (v := nI 0) C dX5_hasCell_28 (by decide) ?_
      refine kR_z C () dX5_hasCell_29 (by first | decide | exact bI_z _ | rfl) ?_ rfl
      first | exact (bI_t ⟨ir1 (by omega) c_1 c_9, ir1 (by omega) c_13 c_21⟩).symm | exact (bI_f (fun h => ir2 c_1 h.1)).symm | exact (bI_f (fun h => ir3 (by omega) c_9 h.1)).symm | exact (bI_f (fun h => ir2 c_13 h.2)).symm | exact (bI_f (fun h => ir3 (by omega) c_21 h.2)).symm
    ·
      refine kw_iload_n C 2 dX5_hasCell_12 rfl ?_
      refine kw_if_lt (tgt := 28) C dX5_hasCell_13 (by decide) (fun c_13 => ?_) (fun c_13 => ?_)
      ·
        refine kw_iconst (v := nI 0) C dX5_hasCell_28 (by decide) ?_
        refine kR_z C () dX5_hasCell_29 (by first | decide | exact bI_z _ | rfl) ?_ rfl
        first | exact (bI_t ⟨ir1 (by omega) c_1 c_9, ir1 (by omega) c_13 c_21⟩).symm | exact (bI_f (fun h => ir2 c_1 h.1)).symm | exact (bI_f (fun h => ir3 (by omega) c_9 h.1)).symm | exact (bI_f (fun h => ir2 c_13 h.2)).symm | exact (bI_f (fun h => ir3 (by omega) c_21 h.2)).symm
      ·
        refine kw_iload_n C 2 dX5_hasCell_16 rfl ?_
        refine kw_aload_n C 0 dX5_hasCell_17 rfl ?_
        refine kw_get (v := .int (nI H)) (T := TX5) C 0 1 rfl rfl (by decide) (fun w h => mT (fwX5 w h)) rfl (mT wd_87) rfl dX5_hasCell_18 ?_
        refine kw_icmp_ge (tgt := 28) C dX5_hasCell_21 (by decide) (fun c_21 => ?_) (fun c_21 => ?_)
        ·
          refine kw_iconst (v := nI 0) C dX5_hasCell_28 (by decide) ?_
          refine kR_z C () dX5_hasCell_29 (by first | decide | exact bI_z _ | rfl) ?_ rfl
          first | exact (bI_t ⟨ir1 (by omega) c_1 c_9, ir1 (by omega) c_13 c_21⟩).symm | exact (bI_f (fun h => ir2 c_1 h.1)).symm | exact (bI_f (fun h => ir3 (by omega) c_9 h.1)).symm | exact (bI_f (fun h => ir2 c_13 h.2)).symm | exact (bI_f (fun h => ir3 (by omega) c_21 h.2)).symm
        ·
          refine kw_iconst (v := nI 1) C dX5_hasCell_24 (by decide) ?_
          refine kw_goto (tgt := 29) C dX5_hasCell_25 (by decide) ?_
          refine kR_z C () dX5_hasCell_29 (by first | decide | exact bI_z _ | rfl) ?_ rfl
          first | exact (bI_t ⟨ir1 (by omega) c_1 c_9, ir1 (by omega) c_13 c_21⟩).symm | exact (bI_f (fun h => ir2 c_1 h.1)).symm | exact (bI_f (fun h => ir3 (by omega) c_9 h.1)).symm | exact (bI_f (fun h => ir2 c_13 h.2)).symm | exact (bI_f (fun h => ir3 (by omega) c_21 h.2)).symm

set_option maxHeartbeats 4000000 in
set_option maxRecDepth 100000 in
theorem c_X5_isDense (l : Launch) (G : va_G) (y : Nat → ClassId) (t : Nat) (a : Nat → Nat) (W : Nat) (H : Nat) (N : Nat) (D : Nat) (p1 : Int64) (p2 : Int64) (p3 : Int64) (col : Nat → Int32) (od : Nat → Int32) (blk : Nat → Int64) (slp : Nat → Int32) (i : Nat) (hD : D < 64) (hi : i < 6) (sz : Nat) : Met l yX5_isDense (Cond.code yX5_isDense cX5_isDense 2 (some .boolean) :: TG) ({ frames := 0, cells := 0, slots := 0, locals := 0 }) (va_Pc [.ref (a 0), .int (nI i)] (PR G y t (kWork y a (nI W, nI H, nI N, nI D, p1, p2, p3, col, od, blk, slp)) sz)) (va_Qi (fun (r : Int32) (u : Unit) => r = bI (D.testBit i)) (fun (u : Unit) t => PO G (va_A (kWork y a (nI W, nI H, nI N, nI D, p1, p2, p3, col, od, blk, slp)) sz) (kWork y a (nI W, nI H, nI N, nI D, p1, p2, p3, col, od, blk, slp)) t) (va_A (kWork y a (nI W, nI H, nI N, nI D, p1, p2, p3, col, od, blk, slp)) sz)) 0 0 (va_A (kWork y a (nI W, nI H, nI N, nI D, p1, p2, p3, col, od, blk, slp)) sz) := by
  refine kMet (cc := cX5_isDense) (maxL := 2) (ret := some .boolean) (Qc := fun A => va_Qi (fun (r : Int32) (u : Unit) => r = bI (D.testBit i)) (fun (u : Unit) t => PO G A (kWork y a (nI W, nI H, nI N, nI D, p1, p2, p3, col, od, blk, slp)) t) A) (by decide) rfl (Nat.le_of_ble_eq_true rfl) (fun p e s m below meth c A hsz C hin => ?_)
  refine KW.loc (lv' := [(0, .ref (a 0)), (1, .int (nI i))]) [0, 1] rfl ?_
  refine kw_aload_n C 0 dX5_isDense_0 rfl ?_
  refine kw_get (v := .int (nI D)) (T := TX5) C 0 3 rfl rfl (by decide) (fun w h => mT (fwX5 w h)) rfl (mT wd_96) rfl dX5_isDense_1 ?_
  refine kw_iload_n C 1 dX5_isDense_4 rfl ?_
  refine kw_ishr C dX5_isDense_5 (kw_top (n_shr (by omega) (by omega)) ?_)
  refine kw_iconst (v := nI 1) C dX5_isDense_6 (by decide) ?_
  refine kw_iand C dX5_isDense_7 (kw_top (n_and _ _) ?_)
  refine kw_if_eq_N (tgt := 15) C (by exact Nat.lt_of_le_of_lt Nat.and_le_right (by omega)) dX5_isDense_8 (by decide) (fun c_8 => ?_) (fun c_8 => ?_)
  ·
    refine kw_iconst (v := nI 0) C dX5_isDense_15 (by decide) ?_
    refine kR_z C () dX5_isDense_16 (by first | decide | exact bI_z _ | rfl) ?_ rfl
    first | exact dns_0 c_8 | exact dns_1 c_8
  ·
    refine kw_iconst (v := nI 1) C dX5_isDense_11 (by decide) ?_
    refine kw_goto (tgt := 16) C dX5_isDense_12 (by decide) ?_
    refine kR_z C () dX5_isDense_16 (by first | decide | exact bI_z _ | rfl) ?_ rfl
    first | exact dns_0 c_8 | exact dns_1 c_8

set_option maxHeartbeats 4000000 in
set_option maxRecDepth 100000 in
theorem c_X5_paper (l : Launch) (G : va_G) (y : Nat → ClassId) (t : Nat) (a : Nat → Nat) (W : Nat) (H : Nat) (N : Nat) (D : Nat) (p1 : Int64) (p2 : Int64) (p3 : Int64) (col : Nat → Int32) (od : Nat → Int32) (blk : Nat → Int64) (slp : Nat → Int32) (hW : W ≤ 6) (hH : H ≤ 6) (sz : Nat) : Met l yX5_paper (Cond.code yX5_paper cX5_paper 6 (some .long) :: TG) ({ frames := 0, cells := 0, slots := 0, locals := 0 }) (va_Pc [.ref (a 0)] (PR G y t (kWork y a (nI W, nI H, nI N, nI D, p1, p2, p3, col, od, blk, slp)) sz)) (va_Ql (fun (r : Int64) (u : Unit) => r = papL W H) (fun (u : Unit) t => PO G (va_A (kWork y a (nI W, nI H, nI N, nI D, p1, p2, p3, col, od, blk, slp)) sz) (kWork y a (nI W, nI H, nI N, nI D, p1, p2, p3, col, od, blk, slp)) t) (va_A (kWork y a (nI W, nI H, nI N, nI D, p1, p2, p3, col, od, blk, slp)) sz)) 0 0 (va_A (kWork y a (nI W, nI H, nI N, nI D, p1, p2, p3, col, od, blk, slp)) sz) := by
  refine kMet (cc := cX5_paper) (maxL := 6) (ret := some .long) (Qc := fun A => va_Ql (fun (r : Int64) (u : Unit) => r = papL W H) (fun (u : Unit) t => PO G A (kWork y a (nI W, nI H, nI N, nI D, p1, p2, p3, col, od, blk, slp)) t) A) (by decide) rfl (Nat.le_of_ble_eq_true rfl) (fun p e s m below meth c A hsz C hin => ?_)
  refine KW.loc (lv' := [(0, .ref (a 0))]) [0] rfl ?_
  refine kw_lconst (v := 1) C dX5_paper_0 (by decide) ?_
  refine kw_aload_n C 0 dX5_paper_1 rfl ?_
  refine kw_get (v := .int (nI W)) (T := TX5) C 0 0 rfl rfl (by decide) (fun w h => mT (fwX5 w h)) rfl (mT wd_83) rfl dX5_paper_2 ?_
  refine kw_lshl (v := (1 : Int64) <<< ((nI W).toInt64 &&& 63)) C dX5_paper_5 rfl ?_
  refine kw_lconst (v := 1) C dX5_paper_6 (by decide) ?_
  refine kw_lsub C dX5_paper_7 ?_
  refine kw_lstore_n C [(1, .long (((1 : Int64) <<< ((nI W).toInt64 &&& 63)) - 1)), (0, .ref (a 0))] dX5_paper_8 rfl (by decide) rfl ?_
  refine kw_lconst (v := 0) C dX5_paper_9 (by decide) ?_
  refine kw_lstore_n C [(3, .long 0), (1, .long (((1 : Int64) <<< ((nI W).toInt64 &&& 63)) - 1)), (0, .ref (a 0))] dX5_paper_10 rfl (by decide) rfl ?_
  refine kw_iconst (v := nI 0) C dX5_paper_11 (by decide) ?_
  refine kw_istore C [(5, .int (nI 0)), (3, .long 0), (1, .long (((1 : Int64) <<< ((nI W).toInt64 &&& 63)) - 1)), (0, .ref (a 0))] dX5_paper_12 (by decide) rfl ?_
  have L14_1 : ∀ (nn : Nat) (i : Nat) (hi : i ≤ H) (hms : H - i < nn), KW p l e ({ frames := 0, cells := 0, slots := 0, locals := 0 }) s m ([.ref (a 0)] : List Value).toArray below meth c 0 0 (MQ below (va_Ql (fun (r : Int64) (u : Unit) => r = papL W H) (fun (u : Unit) t => PO G A (kWork y a (nI W, nI H, nI N, nI D, p1, p2, p3, col, od, blk, slp)) t) A) ([.ref (a 0)] : List Value).toArray s 0 0 A) G A 6 (kWork y a (nI W, nI H, nI N, nI D, p1, p2, p3, col, od, blk, slp)) [(5, .int (nI i)), (3, .long (papL W i)), (1, .long (((1 : Int64) <<< ((nI W).toInt64 &&& 63)) - 1)), (0, .ref (a 0))] 14 [] := by
    intro nn
    induction nn with
    | zero => intro i hi hms; exact absurd hms (Nat.not_lt_zero _)
    | succ nn ih_14 =>
      intro i hi hms
      refine kw_iload C 0 dX5_paper_14 rfl ?_
      refine kw_aload_n C 3 dX5_paper_16 rfl ?_
      refine kw_get (v := .int (nI H)) (T := TX5) C 0 1 rfl rfl (by decide) (fun w h => mT (fwX5 w h)) rfl (mT wd_87) rfl dX5_paper_17 ?_
      refine kw_icmp_ge_N (tgt := 39) C (by omega) (by omega) dX5_paper_20 (by decide) (fun c_20 => ?_) (fun c_20 => ?_)
      ·
        refine kw_lload_n C 1 dX5_paper_39 rfl ?_
        refine kR_l C () dX5_paper_40 ?_ rfl
        rw [show i = H from by omega]
      ·
        refine kw_lload_n C 1 dX5_paper_23 rfl ?_
        refine kw_lload_n C 2 dX5_paper_24 rfl ?_
        refine kw_bipush (v := nI 8) C dX5_paper_25 (by decide) ?_
        refine kw_iload C 0 dX5_paper_27 rfl ?_
        refine kw_imul C dX5_paper_29 (kw_top (pk_mul _ _) ?_)
        refine kw_lshl (v := (((1 : Int64) <<< ((nI W).toInt64 &&& 63)) - 1) <<< ((nI (8 * i)).toInt64 &&& 63)) C dX5_paper_30 rfl ?_
        refine kw_lor C dX5_paper_31 ?_
        refine kw_lstore_n C [(3, .long ((papL W i) ||| ((((1 : Int64) <<< ((nI W).toInt64 &&& 63)) - 1) <<< ((nI (8 * i)).toInt64 &&& 63)))), (5, .int (nI i)), (1, .long (((1 : Int64) <<< ((nI W).toInt64 &&& 63)) - 1)), (0, .ref (a 0))] dX5_paper_32 rfl (by decide) rfl ?_
        refine kw_iinc (v := nI (i + 1)) C [(5, .int (nI (i + 1))), (3, .long ((papL W i) ||| ((((1 : Int64) <<< ((nI W).toInt64 &&& 63)) - 1) <<< ((nI (8 * i)).toInt64 &&& 63)))), (1, .long (((1 : Int64) <<< ((nI W).toInt64 &&& 63)) - 1)), (0, .ref (a 0))] 1 dX5_paper_33 rfl (nI_1 _) (by decide) rfl ?_
        refine kw_goto (tgt := 14) C dX5_paper_36 (by decide) ?_
        refine KW.loc (lv' := [(5, .int (nI (i + 1))), (3, .long ((papL W i) ||| ((((1 : Int64) <<< ((nI W).toInt64 &&& 63)) - 1) <<< ((nI (8 * i)).toInt64 &&& 63)))), (1, .long (((1 : Int64) <<< ((nI W).toInt64 &&& 63)) - 1)), (0, .ref (a 0))]) [0, 1, 2, 3] rfl ?_
        refine KW.asl (congrArg (fun zz => ([(5, .int (nI (i + 1))), (3, .long zz), (1, .long (((1 : Int64) <<< ((nI W).toInt64 &&& 63)) - 1)), (0, .ref (a 0))] : List (Nat × Value))) (show ((papL W i) ||| ((((1 : Int64) <<< ((nI W).toInt64 &&& 63)) - 1) <<< ((nI (8 * i)).toInt64 &&& 63))) = (papL W (i + 1)) from by rfl)) ?_
        exact ih_14 (i + 1) (by first | assumption | omega | (simp; done)) (by omega)
  refine KW.loc (lv' := [(5, .int (nI 0)), (3, .long 0), (1, .long (((1 : Int64) <<< ((nI W).toInt64 &&& 63)) - 1)), (0, .ref (a 0))]) [0, 1, 2, 3] rfl ?_
  refine KW.asl (congrArg (fun zz => ([(5, .int (nI 0)), (3, .long zz), (1, .long (((1 : Int64) <<< ((nI W).toInt64 &&& 63)) - 1)), (0, .ref (a 0))] : List (Nat × Value))) (show 0 = (papL W 0) from by rfl)) ?_
  exact L14_1 (H - 0 + 1) 0 (by first | assumption | omega | (simp; done)) (Nat.lt_succ_self _)
end
