-- ===== PART A: goes FIRST, ahead of the names: the tables' words, and 'selects' of the private methods out of them =====
/-- a private method of a class that the tables say can be made, by its rows of tables_1 -/
def lw_okq (q : MethodName × Nat) : Prop := (q.1.cls ≠ "java/lang/invoke/MethodHandle" ∧ q.1.cls ≠ "java/lang/invoke/VarHandle") ∧ Cond.instantiable q.1.cls q.2 ∈ tables_1 ∧ Cond.privateMethod q.1 ∈ tables_1 ∧ Cond.instanceMethod q.1 ∈ tables_1
theorem lw_p0 : lw_okq (⟨"TelescopeCourt$Terms", "keepPart", "(I)V"⟩, 10) := ⟨⟨by decide +kernel, by decide +kernel⟩, List.mem_of_getElem? (i := 49) (by decide +kernel), List.mem_of_getElem? (i := 447) (by decide +kernel), List.mem_of_getElem? (i := 448) (by decide +kernel)⟩
theorem lw_p1 : lw_okq (⟨"TelescopeCourt$Terms", "slide", "(II)V"⟩, 10) := ⟨⟨by decide +kernel, by decide +kernel⟩, List.mem_of_getElem? (i := 49) (by decide +kernel), List.mem_of_getElem? (i := 451) (by decide +kernel), List.mem_of_getElem? (i := 452) (by decide +kernel)⟩
theorem lw_p2 : lw_okq (⟨"TelescopeCourt$Terms", "placeNow", "(II)I"⟩, 10) := ⟨⟨by decide +kernel, by decide +kernel⟩, List.mem_of_getElem? (i := 49) (by decide +kernel), List.mem_of_getElem? (i := 455) (by decide +kernel), List.mem_of_getElem? (i := 456) (by decide +kernel)⟩
theorem lw_p3 : lw_okq (⟨"TelescopeCourt$Forms", "goDown", "(I)I"⟩, 3) := ⟨⟨by decide +kernel, by decide +kernel⟩, List.mem_of_getElem? (i := 89) (by decide +kernel), List.mem_of_getElem? (i := 459) (by decide +kernel), List.mem_of_getElem? (i := 460) (by decide +kernel)⟩
theorem lw_p4 : lw_okq (⟨"TelescopeCourt$Forms", "goUp", "(I)I"⟩, 3) := ⟨⟨by decide +kernel, by decide +kernel⟩, List.mem_of_getElem? (i := 89) (by decide +kernel), List.mem_of_getElem? (i := 470) (by decide +kernel), List.mem_of_getElem? (i := 471) (by decide +kernel)⟩
theorem lw_p5 : lw_okq (⟨"TelescopeCourt$Docket", "areAlike", "(LTelescopeCourt$Goal;LTelescopeCourt$Goal;)Z"⟩, 8) := ⟨⟨by decide +kernel, by decide +kernel⟩, List.mem_of_getElem? (i := 145) (by decide +kernel), List.mem_of_getElem? (i := 518) (by decide +kernel), List.mem_of_getElem? (i := 519) (by decide +kernel)⟩
theorem lw_p6 : lw_okq (⟨"java/lang/Throwable", "fillInStackTrace", "(I)Ljava/lang/Throwable;"⟩, 6) := ⟨⟨by decide +kernel, by decide +kernel⟩, List.mem_of_getElem? (i := 577) (by decide +kernel), List.mem_of_getElem? (i := 575) (by decide +kernel), List.mem_of_getElem? (i := 576) (by decide +kernel)⟩
theorem lw_p7 : lw_okq (⟨"TelescopeCourt", "layLeaf", "(II)I"⟩, 10) := ⟨⟨by decide +kernel, by decide +kernel⟩, List.mem_of_getElem? (i := 41) (by decide +kernel), List.mem_of_getElem? (i := 607) (by decide +kernel), List.mem_of_getElem? (i := 608) (by decide +kernel)⟩
theorem lw_p8 : lw_okq (⟨"TelescopeCourt", "layPair", "(III)I"⟩, 10) := ⟨⟨by decide +kernel, by decide +kernel⟩, List.mem_of_getElem? (i := 41) (by decide +kernel), List.mem_of_getElem? (i := 667) (by decide +kernel), List.mem_of_getElem? (i := 668) (by decide +kernel)⟩
theorem lw_p9 : lw_okq (⟨"TelescopeCourt", "termAt", "(I)I"⟩, 10) := ⟨⟨by decide +kernel, by decide +kernel⟩, List.mem_of_getElem? (i := 41) (by decide +kernel), List.mem_of_getElem? (i := 671) (by decide +kernel), List.mem_of_getElem? (i := 672) (by decide +kernel)⟩
theorem lw_p10 : lw_okq (⟨"TelescopeCourt", "functionAt", "(I)LTelescopeCourt$Function;"⟩, 10) := ⟨⟨by decide +kernel, by decide +kernel⟩, List.mem_of_getElem? (i := 41) (by decide +kernel), List.mem_of_getElem? (i := 749) (by decide +kernel), List.mem_of_getElem? (i := 750) (by decide +kernel)⟩
theorem lw_p11 : lw_okq (⟨"TelescopeCourt", "numberOfScratch", "(II)I"⟩, 10) := ⟨⟨by decide +kernel, by decide +kernel⟩, List.mem_of_getElem? (i := 41) (by decide +kernel), List.mem_of_getElem? (i := 812) (by decide +kernel), List.mem_of_getElem? (i := 813) (by decide +kernel)⟩
theorem lw_p12 : lw_okq (⟨"TelescopeCourt", "goalAt", "(I)LTelescopeCourt$Goal;"⟩, 10) := ⟨⟨by decide +kernel, by decide +kernel⟩, List.mem_of_getElem? (i := 41) (by decide +kernel), List.mem_of_getElem? (i := 967) (by decide +kernel), List.mem_of_getElem? (i := 968) (by decide +kernel)⟩
theorem lw_p13 : lw_okq (⟨"TelescopeCourt$Docket", "childOf", "(LTelescopeCourt$Goal;II)LTelescopeCourt$Goal;"⟩, 8) := ⟨⟨by decide +kernel, by decide +kernel⟩, List.mem_of_getElem? (i := 145) (by decide +kernel), List.mem_of_getElem? (i := 999) (by decide +kernel), List.mem_of_getElem? (i := 1000) (by decide +kernel)⟩
theorem lw_p14 : lw_okq (⟨"TelescopeCourt$Docket", "formWithValue", "(IIII)I"⟩, 8) := ⟨⟨by decide +kernel, by decide +kernel⟩, List.mem_of_getElem? (i := 145) (by decide +kernel), List.mem_of_getElem? (i := 1008) (by decide +kernel), List.mem_of_getElem? (i := 1009) (by decide +kernel)⟩
theorem lw_p15 : lw_okq (⟨"TelescopeCourt$Docket", "withValue", "(IIII)I"⟩, 8) := ⟨⟨by decide +kernel, by decide +kernel⟩, List.mem_of_getElem? (i := 145) (by decide +kernel), List.mem_of_getElem? (i := 1012) (by decide +kernel), List.mem_of_getElem? (i := 1013) (by decide +kernel)⟩
def lw_privs_1 : List (MethodName × Nat) := [(⟨"TelescopeCourt$Terms", "keepPart", "(I)V"⟩, 10), (⟨"TelescopeCourt$Terms", "slide", "(II)V"⟩, 10), (⟨"TelescopeCourt$Terms", "placeNow", "(II)I"⟩, 10), (⟨"TelescopeCourt$Forms", "goDown", "(I)I"⟩, 3), (⟨"TelescopeCourt$Forms", "goUp", "(I)I"⟩, 3), (⟨"TelescopeCourt$Docket", "areAlike", "(LTelescopeCourt$Goal;LTelescopeCourt$Goal;)Z"⟩, 8), (⟨"java/lang/Throwable", "fillInStackTrace", "(I)Ljava/lang/Throwable;"⟩, 6), (⟨"TelescopeCourt", "layLeaf", "(II)I"⟩, 10), (⟨"TelescopeCourt", "layPair", "(III)I"⟩, 10), (⟨"TelescopeCourt", "termAt", "(I)I"⟩, 10), (⟨"TelescopeCourt", "functionAt", "(I)LTelescopeCourt$Function;"⟩, 10), (⟨"TelescopeCourt", "numberOfScratch", "(II)I"⟩, 10), (⟨"TelescopeCourt", "goalAt", "(I)LTelescopeCourt$Goal;"⟩, 10), (⟨"TelescopeCourt$Docket", "childOf", "(LTelescopeCourt$Goal;II)LTelescopeCourt$Goal;"⟩, 8), (⟨"TelescopeCourt$Docket", "formWithValue", "(IIII)I"⟩, 8), (⟨"TelescopeCourt$Docket", "withValue", "(IIII)I"⟩, 8)]
theorem lw_r1 : ∀ q ∈ lw_privs_1, lw_okq q := List.forall_mem_cons.mpr ⟨lw_p0, List.forall_mem_cons.mpr ⟨lw_p1, List.forall_mem_cons.mpr ⟨lw_p2, List.forall_mem_cons.mpr ⟨lw_p3, List.forall_mem_cons.mpr ⟨lw_p4, List.forall_mem_cons.mpr ⟨lw_p5, List.forall_mem_cons.mpr ⟨lw_p6, List.forall_mem_cons.mpr ⟨lw_p7, List.forall_mem_cons.mpr ⟨lw_p8, List.forall_mem_cons.mpr ⟨lw_p9, List.forall_mem_cons.mpr ⟨lw_p10, List.forall_mem_cons.mpr ⟨lw_p11, List.forall_mem_cons.mpr ⟨lw_p12, List.forall_mem_cons.mpr ⟨lw_p13, List.forall_mem_cons.mpr ⟨lw_p14, List.forall_mem_cons.mpr ⟨lw_p15, fun _ h => absurd h List.not_mem_nil⟩⟩⟩⟩⟩⟩⟩⟩⟩⟩⟩⟩⟩⟩⟩⟩
theorem lw_p16 : lw_okq (⟨"TelescopeCourt$Graphs", "graphOf", "(LTelescopeCourt$Goal;II)I"⟩, 6) := ⟨⟨by decide +kernel, by decide +kernel⟩, List.mem_of_getElem? (i := 230) (by decide +kernel), List.mem_of_getElem? (i := 1140) (by decide +kernel), List.mem_of_getElem? (i := 1141) (by decide +kernel)⟩
theorem lw_p17 : lw_okq (⟨"TelescopeCourt$Graphs", "signsOf", "(LTelescopeCourt$Goal;II)I"⟩, 6) := ⟨⟨by decide +kernel, by decide +kernel⟩, List.mem_of_getElem? (i := 230) (by decide +kernel), List.mem_of_getElem? (i := 1144) (by decide +kernel), List.mem_of_getElem? (i := 1145) (by decide +kernel)⟩
theorem lw_p18 : lw_okq (⟨"TelescopeCourt$Graphs", "add", "(I)V"⟩, 6) := ⟨⟨by decide +kernel, by decide +kernel⟩, List.mem_of_getElem? (i := 230) (by decide +kernel), List.mem_of_getElem? (i := 1153) (by decide +kernel), List.mem_of_getElem? (i := 1154) (by decide +kernel)⟩
theorem lw_p19 : lw_okq (⟨"TelescopeCourt$Graphs", "behind", "(II)I"⟩, 6) := ⟨⟨by decide +kernel, by decide +kernel⟩, List.mem_of_getElem? (i := 230) (by decide +kernel), List.mem_of_getElem? (i := 1161) (by decide +kernel), List.mem_of_getElem? (i := 1162) (by decide +kernel)⟩
theorem lw_p20 : lw_okq (⟨"TelescopeCourt$Graphs", "hasLess", "(I)Z"⟩, 6) := ⟨⟨by decide +kernel, by decide +kernel⟩, List.mem_of_getElem? (i := 230) (by decide +kernel), List.mem_of_getElem? (i := 1165) (by decide +kernel), List.mem_of_getElem? (i := 1166) (by decide +kernel)⟩
theorem lw_p21 : lw_okq (⟨"TelescopeCourt$Machine", "push", "(IZ)V"⟩, 12) := ⟨⟨by decide +kernel, by decide +kernel⟩, List.mem_of_getElem? (i := 256) (by decide +kernel), List.mem_of_getElem? (i := 1196) (by decide +kernel), List.mem_of_getElem? (i := 1197) (by decide +kernel)⟩
theorem lw_p22 : lw_okq (⟨"TelescopeCourt$Machine", "applied", "(II)I"⟩, 12) := ⟨⟨by decide +kernel, by decide +kernel⟩, List.mem_of_getElem? (i := 256) (by decide +kernel), List.mem_of_getElem? (i := 1201) (by decide +kernel), List.mem_of_getElem? (i := 1202) (by decide +kernel)⟩
theorem lw_p23 : lw_okq (⟨"TelescopeCourt$Machine", "takeStep", "()Z"⟩, 12) := ⟨⟨by decide +kernel, by decide +kernel⟩, List.mem_of_getElem? (i := 256) (by decide +kernel), List.mem_of_getElem? (i := 1205) (by decide +kernel), List.mem_of_getElem? (i := 1206) (by decide +kernel)⟩
theorem lw_p24 : lw_okq (⟨"TelescopeCourt$Machine", "rightSideFor", "(LTelescopeCourt$Function;II)I"⟩, 12) := ⟨⟨by decide +kernel, by decide +kernel⟩, List.mem_of_getElem? (i := 256) (by decide +kernel), List.mem_of_getElem? (i := 1218) (by decide +kernel), List.mem_of_getElem? (i := 1219) (by decide +kernel)⟩
theorem lw_p25 : lw_okq (⟨"TelescopeCourt$Machine", "clauseBySplits", "(LTelescopeCourt$Function;)LTelescopeCourt$Goal;"⟩, 12) := ⟨⟨by decide +kernel, by decide +kernel⟩, List.mem_of_getElem? (i := 256) (by decide +kernel), List.mem_of_getElem? (i := 1222) (by decide +kernel), List.mem_of_getElem? (i := 1223) (by decide +kernel)⟩
theorem lw_p26 : lw_okq (⟨"TelescopeCourt$Machine", "goDown", "(LTelescopeCourt$Goal;)LTelescopeCourt$Goal;"⟩, 12) := ⟨⟨by decide +kernel, by decide +kernel⟩, List.mem_of_getElem? (i := 256) (by decide +kernel), List.mem_of_getElem? (i := 1227) (by decide +kernel), List.mem_of_getElem? (i := 1228) (by decide +kernel)⟩
theorem lw_p27 : lw_okq (⟨"TelescopeCourt$Machine", "clauseByOrder", "(I)LTelescopeCourt$Goal;"⟩, 12) := ⟨⟨by decide +kernel, by decide +kernel⟩, List.mem_of_getElem? (i := 256) (by decide +kernel), List.mem_of_getElem? (i := 1238) (by decide +kernel), List.mem_of_getElem? (i := 1239) (by decide +kernel)⟩
theorem lw_p28 : lw_okq (⟨"TelescopeCourtModel", "isFull", "()Z"⟩, 9) := ⟨⟨by decide +kernel, by decide +kernel⟩, List.mem_of_getElem? (i := 1311) (by decide +kernel), List.mem_of_getElem? (i := 1385) (by decide +kernel), List.mem_of_getElem? (i := 1386) (by decide +kernel)⟩
theorem lw_p29 : lw_okq (⟨"TelescopeCourtModel", "fails", "(I)Z"⟩, 9) := ⟨⟨by decide +kernel, by decide +kernel⟩, List.mem_of_getElem? (i := 1311) (by decide +kernel), List.mem_of_getElem? (i := 1393) (by decide +kernel), List.mem_of_getElem? (i := 1394) (by decide +kernel)⟩
theorem lw_p30 : lw_okq (⟨"TelescopeCourtModel", "lays", "(LTelescopeCourtModel$Term;)I"⟩, 9) := ⟨⟨by decide +kernel, by decide +kernel⟩, List.mem_of_getElem? (i := 1311) (by decide +kernel), List.mem_of_getElem? (i := 1432) (by decide +kernel), List.mem_of_getElem? (i := 1433) (by decide +kernel)⟩
theorem lw_p31 : lw_okq (⟨"java/util/ArrayList", "add", "(Ljava/lang/Object;[Ljava/lang/Object;I)V"⟩, 3) := ⟨⟨by decide +kernel, by decide +kernel⟩, List.mem_of_getElem? (i := 1317) (by decide +kernel), List.mem_of_getElem? (i := 1440) (by decide +kernel), List.mem_of_getElem? (i := 1441) (by decide +kernel)⟩
def lw_privs_2 : List (MethodName × Nat) := [(⟨"TelescopeCourt$Graphs", "graphOf", "(LTelescopeCourt$Goal;II)I"⟩, 6), (⟨"TelescopeCourt$Graphs", "signsOf", "(LTelescopeCourt$Goal;II)I"⟩, 6), (⟨"TelescopeCourt$Graphs", "add", "(I)V"⟩, 6), (⟨"TelescopeCourt$Graphs", "behind", "(II)I"⟩, 6), (⟨"TelescopeCourt$Graphs", "hasLess", "(I)Z"⟩, 6), (⟨"TelescopeCourt$Machine", "push", "(IZ)V"⟩, 12), (⟨"TelescopeCourt$Machine", "applied", "(II)I"⟩, 12), (⟨"TelescopeCourt$Machine", "takeStep", "()Z"⟩, 12), (⟨"TelescopeCourt$Machine", "rightSideFor", "(LTelescopeCourt$Function;II)I"⟩, 12), (⟨"TelescopeCourt$Machine", "clauseBySplits", "(LTelescopeCourt$Function;)LTelescopeCourt$Goal;"⟩, 12), (⟨"TelescopeCourt$Machine", "goDown", "(LTelescopeCourt$Goal;)LTelescopeCourt$Goal;"⟩, 12), (⟨"TelescopeCourt$Machine", "clauseByOrder", "(I)LTelescopeCourt$Goal;"⟩, 12), (⟨"TelescopeCourtModel", "isFull", "()Z"⟩, 9), (⟨"TelescopeCourtModel", "fails", "(I)Z"⟩, 9), (⟨"TelescopeCourtModel", "lays", "(LTelescopeCourtModel$Term;)I"⟩, 9), (⟨"java/util/ArrayList", "add", "(Ljava/lang/Object;[Ljava/lang/Object;I)V"⟩, 3)]
theorem lw_r2 : ∀ q ∈ lw_privs_2, lw_okq q := List.forall_mem_cons.mpr ⟨lw_p16, List.forall_mem_cons.mpr ⟨lw_p17, List.forall_mem_cons.mpr ⟨lw_p18, List.forall_mem_cons.mpr ⟨lw_p19, List.forall_mem_cons.mpr ⟨lw_p20, List.forall_mem_cons.mpr ⟨lw_p21, List.forall_mem_cons.mpr ⟨lw_p22, List.forall_mem_cons.mpr ⟨lw_p23, List.forall_mem_cons.mpr ⟨lw_p24, List.forall_mem_cons.mpr ⟨lw_p25, List.forall_mem_cons.mpr ⟨lw_p26, List.forall_mem_cons.mpr ⟨lw_p27, List.forall_mem_cons.mpr ⟨lw_p28, List.forall_mem_cons.mpr ⟨lw_p29, List.forall_mem_cons.mpr ⟨lw_p30, List.forall_mem_cons.mpr ⟨lw_p31, fun _ h => absurd h List.not_mem_nil⟩⟩⟩⟩⟩⟩⟩⟩⟩⟩⟩⟩⟩⟩⟩⟩
theorem lw_p32 : lw_okq (⟨"java/util/ArrayList", "grow", "()[Ljava/lang/Object;"⟩, 3) := ⟨⟨by decide +kernel, by decide +kernel⟩, List.mem_of_getElem? (i := 1317) (by decide +kernel), List.mem_of_getElem? (i := 1444) (by decide +kernel), List.mem_of_getElem? (i := 1445) (by decide +kernel)⟩
theorem lw_p33 : lw_okq (⟨"java/util/ArrayList", "grow", "(I)[Ljava/lang/Object;"⟩, 3) := ⟨⟨by decide +kernel, by decide +kernel⟩, List.mem_of_getElem? (i := 1317) (by decide +kernel), List.mem_of_getElem? (i := 1448) (by decide +kernel), List.mem_of_getElem? (i := 1449) (by decide +kernel)⟩
theorem lw_p34 : lw_okq (⟨"TelescopeCourtModel", "laysTwo", "(CII)I"⟩, 9) := ⟨⟨by decide +kernel, by decide +kernel⟩, List.mem_of_getElem? (i := 1311) (by decide +kernel), List.mem_of_getElem? (i := 1513) (by decide +kernel), List.mem_of_getElem? (i := 1514) (by decide +kernel)⟩
theorem lw_p35 : lw_okq (⟨"TelescopeCourtModel", "isNode", "(I)Z"⟩, 9) := ⟨⟨by decide +kernel, by decide +kernel⟩, List.mem_of_getElem? (i := 1311) (by decide +kernel), List.mem_of_getElem? (i := 1517) (by decide +kernel), List.mem_of_getElem? (i := 1518) (by decide +kernel)⟩
theorem lw_p36 : lw_okq (⟨"TelescopeCourtModel", "laysOf", "(CII)I"⟩, 9) := ⟨⟨by decide +kernel, by decide +kernel⟩, List.mem_of_getElem? (i := 1311) (by decide +kernel), List.mem_of_getElem? (i := 1547) (by decide +kernel), List.mem_of_getElem? (i := 1548) (by decide +kernel)⟩
theorem lw_p37 : lw_okq (⟨"TelescopeCourtModel", "isData", "(I)Z"⟩, 9) := ⟨⟨by decide +kernel, by decide +kernel⟩, List.mem_of_getElem? (i := 1311) (by decide +kernel), List.mem_of_getElem? (i := 1567) (by decide +kernel), List.mem_of_getElem? (i := 1568) (by decide +kernel)⟩
theorem lw_p38 : lw_okq (⟨"TelescopeCourtModel", "isAnyAccepted", "()Z"⟩, 9) := ⟨⟨by decide +kernel, by decide +kernel⟩, List.mem_of_getElem? (i := 1311) (by decide +kernel), List.mem_of_getElem? (i := 1571) (by decide +kernel), List.mem_of_getElem? (i := 1572) (by decide +kernel)⟩
theorem lw_p39 : lw_okq (⟨"TelescopeCourtModel", "failsNode", "(I)Z"⟩, 9) := ⟨⟨by decide +kernel, by decide +kernel⟩, List.mem_of_getElem? (i := 1311) (by decide +kernel), List.mem_of_getElem? (i := 1659) (by decide +kernel), List.mem_of_getElem? (i := 1660) (by decide +kernel)⟩
theorem lw_p40 : lw_okq (⟨"TelescopeCourtModel", "normalType", "(LTelescopeCourtModel$Context;LTelescopeCourtModel$Term;)LTelescopeCourtModel$Term;"⟩, 9) := ⟨⟨by decide +kernel, by decide +kernel⟩, List.mem_of_getElem? (i := 1311) (by decide +kernel), List.mem_of_getElem? (i := 1700) (by decide +kernel), List.mem_of_getElem? (i := 1701) (by decide +kernel)⟩
theorem lw_p41 : lw_okq (⟨"TelescopeCourtModel", "type", "(LTelescopeCourtModel$Context;LTelescopeCourtModel$Term;)LTelescopeCourtModel$Term;"⟩, 9) := ⟨⟨by decide +kernel, by decide +kernel⟩, List.mem_of_getElem? (i := 1311) (by decide +kernel), List.mem_of_getElem? (i := 1704) (by decide +kernel), List.mem_of_getElem? (i := 1705) (by decide +kernel)⟩
theorem lw_p42 : lw_okq (⟨"TelescopeCourtModel", "levelIn", "(LTelescopeCourtModel$Context;LTelescopeCourtModel$Term;)I"⟩, 9) := ⟨⟨by decide +kernel, by decide +kernel⟩, List.mem_of_getElem? (i := 1311) (by decide +kernel), List.mem_of_getElem? (i := 1708) (by decide +kernel), List.mem_of_getElem? (i := 1709) (by decide +kernel)⟩
theorem lw_p43 : lw_okq (⟨"TelescopeCourtModel", "typeOfApplication", "(LTelescopeCourtModel$Context;LTelescopeCourtModel$Term;)LTelescopeCourtModel$Term;"⟩, 9) := ⟨⟨by decide +kernel, by decide +kernel⟩, List.mem_of_getElem? (i := 1311) (by decide +kernel), List.mem_of_getElem? (i := 1728) (by decide +kernel), List.mem_of_getElem? (i := 1729) (by decide +kernel)⟩
theorem lw_p44 : lw_okq (⟨"TelescopeCourtModel", "isGoal", "(I)Z"⟩, 9) := ⟨⟨by decide +kernel, by decide +kernel⟩, List.mem_of_getElem? (i := 1311) (by decide +kernel), List.mem_of_getElem? (i := 1804) (by decide +kernel), List.mem_of_getElem? (i := 1805) (by decide +kernel)⟩
theorem lw_p45 : lw_okq (⟨"TelescopeCourtModel", "countOf", "(I)I"⟩, 9) := ⟨⟨by decide +kernel, by decide +kernel⟩, List.mem_of_getElem? (i := 1311) (by decide +kernel), List.mem_of_getElem? (i := 1808) (by decide +kernel), List.mem_of_getElem? (i := 1809) (by decide +kernel)⟩
theorem lw_p46 : lw_okq (⟨"TelescopeCourtModel", "isSmall", "(LTelescopeCourtModel$Goal;I)Z"⟩, 9) := ⟨⟨by decide +kernel, by decide +kernel⟩, List.mem_of_getElem? (i := 1311) (by decide +kernel), List.mem_of_getElem? (i := 1812) (by decide +kernel), List.mem_of_getElem? (i := 1813) (by decide +kernel)⟩
theorem lw_p47 : lw_okq (⟨"TelescopeCourtModel", "splitBy", "(LTelescopeCourtModel$Goal;II)LTelescopeCourtModel$Goal;"⟩, 9) := ⟨⟨by decide +kernel, by decide +kernel⟩, List.mem_of_getElem? (i := 1311) (by decide +kernel), List.mem_of_getElem? (i := 1816) (by decide +kernel), List.mem_of_getElem? (i := 1817) (by decide +kernel)⟩
def lw_privs_3 : List (MethodName × Nat) := [(⟨"java/util/ArrayList", "grow", "()[Ljava/lang/Object;"⟩, 3), (⟨"java/util/ArrayList", "grow", "(I)[Ljava/lang/Object;"⟩, 3), (⟨"TelescopeCourtModel", "laysTwo", "(CII)I"⟩, 9), (⟨"TelescopeCourtModel", "isNode", "(I)Z"⟩, 9), (⟨"TelescopeCourtModel", "laysOf", "(CII)I"⟩, 9), (⟨"TelescopeCourtModel", "isData", "(I)Z"⟩, 9), (⟨"TelescopeCourtModel", "isAnyAccepted", "()Z"⟩, 9), (⟨"TelescopeCourtModel", "failsNode", "(I)Z"⟩, 9), (⟨"TelescopeCourtModel", "normalType", "(LTelescopeCourtModel$Context;LTelescopeCourtModel$Term;)LTelescopeCourtModel$Term;"⟩, 9), (⟨"TelescopeCourtModel", "type", "(LTelescopeCourtModel$Context;LTelescopeCourtModel$Term;)LTelescopeCourtModel$Term;"⟩, 9), (⟨"TelescopeCourtModel", "levelIn", "(LTelescopeCourtModel$Context;LTelescopeCourtModel$Term;)I"⟩, 9), (⟨"TelescopeCourtModel", "typeOfApplication", "(LTelescopeCourtModel$Context;LTelescopeCourtModel$Term;)LTelescopeCourtModel$Term;"⟩, 9), (⟨"TelescopeCourtModel", "isGoal", "(I)Z"⟩, 9), (⟨"TelescopeCourtModel", "countOf", "(I)I"⟩, 9), (⟨"TelescopeCourtModel", "isSmall", "(LTelescopeCourtModel$Goal;I)Z"⟩, 9), (⟨"TelescopeCourtModel", "splitBy", "(LTelescopeCourtModel$Goal;II)LTelescopeCourtModel$Goal;"⟩, 9)]
theorem lw_r3 : ∀ q ∈ lw_privs_3, lw_okq q := List.forall_mem_cons.mpr ⟨lw_p32, List.forall_mem_cons.mpr ⟨lw_p33, List.forall_mem_cons.mpr ⟨lw_p34, List.forall_mem_cons.mpr ⟨lw_p35, List.forall_mem_cons.mpr ⟨lw_p36, List.forall_mem_cons.mpr ⟨lw_p37, List.forall_mem_cons.mpr ⟨lw_p38, List.forall_mem_cons.mpr ⟨lw_p39, List.forall_mem_cons.mpr ⟨lw_p40, List.forall_mem_cons.mpr ⟨lw_p41, List.forall_mem_cons.mpr ⟨lw_p42, List.forall_mem_cons.mpr ⟨lw_p43, List.forall_mem_cons.mpr ⟨lw_p44, List.forall_mem_cons.mpr ⟨lw_p45, List.forall_mem_cons.mpr ⟨lw_p46, List.forall_mem_cons.mpr ⟨lw_p47, fun _ h => absurd h List.not_mem_nil⟩⟩⟩⟩⟩⟩⟩⟩⟩⟩⟩⟩⟩⟩⟩⟩
theorem lw_p48 : lw_okq (⟨"TelescopeCourtModel", "callsWell", "(LTelescopeCourtModel$Term;I)Z"⟩, 9) := ⟨⟨by decide +kernel, by decide +kernel⟩, List.mem_of_getElem? (i := 1311) (by decide +kernel), List.mem_of_getElem? (i := 1842) (by decide +kernel), List.mem_of_getElem? (i := 1843) (by decide +kernel)⟩
theorem lw_p49 : lw_okq (⟨"TelescopeCourtModel", "opens", "(I)I"⟩, 9) := ⟨⟨by decide +kernel, by decide +kernel⟩, List.mem_of_getElem? (i := 1311) (by decide +kernel), List.mem_of_getElem? (i := 1852) (by decide +kernel), List.mem_of_getElem? (i := 1853) (by decide +kernel)⟩
theorem lw_p50 : lw_okq (⟨"TelescopeCourtModel", "failsGoal", "(I)Z"⟩, 9) := ⟨⟨by decide +kernel, by decide +kernel⟩, List.mem_of_getElem? (i := 1311) (by decide +kernel), List.mem_of_getElem? (i := 1868) (by decide +kernel), List.mem_of_getElem? (i := 1869) (by decide +kernel)⟩
theorem lw_p51 : lw_okq (⟨"TelescopeCourtModel", "failsFunction", "(I)Z"⟩, 9) := ⟨⟨by decide +kernel, by decide +kernel⟩, List.mem_of_getElem? (i := 1311) (by decide +kernel), List.mem_of_getElem? (i := 1888) (by decide +kernel), List.mem_of_getElem? (i := 1889) (by decide +kernel)⟩
theorem lw_p52 : lw_okq (⟨"TelescopeCourtModel", "graphs", "(I)I"⟩, 9) := ⟨⟨by decide +kernel, by decide +kernel⟩, List.mem_of_getElem? (i := 1311) (by decide +kernel), List.mem_of_getElem? (i := 1896) (by decide +kernel), List.mem_of_getElem? (i := 1897) (by decide +kernel)⟩
theorem lw_p53 : lw_okq (⟨"TelescopeCourtModel", "calls", "(LTelescopeCourtModel$Goal;LTelescopeCourtModel$Term;Ljava/util/ArrayList;ILjava/util/ArrayList;)V"⟩, 9) := ⟨⟨by decide +kernel, by decide +kernel⟩, List.mem_of_getElem? (i := 1311) (by decide +kernel), List.mem_of_getElem? (i := 1900) (by decide +kernel), List.mem_of_getElem? (i := 1901) (by decide +kernel)⟩
theorem lw_p54 : lw_okq (⟨"TelescopeCourtModel", "graph", "(LTelescopeCourtModel$Goal;Ljava/util/ArrayList;I)[I"⟩, 9) := ⟨⟨by decide +kernel, by decide +kernel⟩, List.mem_of_getElem? (i := 1311) (by decide +kernel), List.mem_of_getElem? (i := 1904) (by decide +kernel), List.mem_of_getElem? (i := 1905) (by decide +kernel)⟩
theorem lw_p55 : lw_okq (⟨"TelescopeCourtModel", "runs", "(I)LTelescopeCourtModel$Term;"⟩, 9) := ⟨⟨by decide +kernel, by decide +kernel⟩, List.mem_of_getElem? (i := 1311) (by decide +kernel), List.mem_of_getElem? (i := 1929) (by decide +kernel), List.mem_of_getElem? (i := 1930) (by decide +kernel)⟩
theorem lw_p56 : lw_okq (⟨"TelescopeCourtModel", "value", "(LTelescopeCourtModel$Term;)LTelescopeCourtModel$Term;"⟩, 9) := ⟨⟨by decide +kernel, by decide +kernel⟩, List.mem_of_getElem? (i := 1311) (by decide +kernel), List.mem_of_getElem? (i := 1933) (by decide +kernel), List.mem_of_getElem? (i := 1934) (by decide +kernel)⟩
theorem lw_p57 : lw_okq (⟨"TelescopeCourtModel", "stepped", "(LTelescopeCourtModel$Term;)LTelescopeCourtModel$Term;"⟩, 9) := ⟨⟨by decide +kernel, by decide +kernel⟩, List.mem_of_getElem? (i := 1311) (by decide +kernel), List.mem_of_getElem? (i := 1937) (by decide +kernel), List.mem_of_getElem? (i := 1938) (by decide +kernel)⟩
theorem lw_p58 : lw_okq (⟨"TelescopeCourtModel", "rightOf", "(ILTelescopeCourtModel$Term;)LTelescopeCourtModel$Term;"⟩, 9) := ⟨⟨by decide +kernel, by decide +kernel⟩, List.mem_of_getElem? (i := 1311) (by decide +kernel), List.mem_of_getElem? (i := 1947) (by decide +kernel), List.mem_of_getElem? (i := 1948) (by decide +kernel)⟩
def lw_privs_4 : List (MethodName × Nat) := [(⟨"TelescopeCourtModel", "callsWell", "(LTelescopeCourtModel$Term;I)Z"⟩, 9), (⟨"TelescopeCourtModel", "opens", "(I)I"⟩, 9), (⟨"TelescopeCourtModel", "failsGoal", "(I)Z"⟩, 9), (⟨"TelescopeCourtModel", "failsFunction", "(I)Z"⟩, 9), (⟨"TelescopeCourtModel", "graphs", "(I)I"⟩, 9), (⟨"TelescopeCourtModel", "calls", "(LTelescopeCourtModel$Goal;LTelescopeCourtModel$Term;Ljava/util/ArrayList;ILjava/util/ArrayList;)V"⟩, 9), (⟨"TelescopeCourtModel", "graph", "(LTelescopeCourtModel$Goal;Ljava/util/ArrayList;I)[I"⟩, 9), (⟨"TelescopeCourtModel", "runs", "(I)LTelescopeCourtModel$Term;"⟩, 9), (⟨"TelescopeCourtModel", "value", "(LTelescopeCourtModel$Term;)LTelescopeCourtModel$Term;"⟩, 9), (⟨"TelescopeCourtModel", "stepped", "(LTelescopeCourtModel$Term;)LTelescopeCourtModel$Term;"⟩, 9), (⟨"TelescopeCourtModel", "rightOf", "(ILTelescopeCourtModel$Term;)LTelescopeCourtModel$Term;"⟩, 9)]
theorem lw_r4 : ∀ q ∈ lw_privs_4, lw_okq q := List.forall_mem_cons.mpr ⟨lw_p48, List.forall_mem_cons.mpr ⟨lw_p49, List.forall_mem_cons.mpr ⟨lw_p50, List.forall_mem_cons.mpr ⟨lw_p51, List.forall_mem_cons.mpr ⟨lw_p52, List.forall_mem_cons.mpr ⟨lw_p53, List.forall_mem_cons.mpr ⟨lw_p54, List.forall_mem_cons.mpr ⟨lw_p55, List.forall_mem_cons.mpr ⟨lw_p56, List.forall_mem_cons.mpr ⟨lw_p57, List.forall_mem_cons.mpr ⟨lw_p58, fun _ h => absurd h List.not_mem_nil⟩⟩⟩⟩⟩⟩⟩⟩⟩⟩⟩
def lw_privs : List (MethodName × Nat) := lw_privs_1 ++ (lw_privs_2 ++ (lw_privs_3 ++ (lw_privs_4)))
def lw_tbl : List Cond := k2_sels lw_privs ++ tables_1
theorem lw_privs_ok : ∀ q ∈ lw_privs, lw_okq q := by
  show ∀ q ∈ lw_privs_1 ++ (lw_privs_2 ++ (lw_privs_3 ++ (lw_privs_4))), lw_okq q
  exact List.forall_mem_append.mpr ⟨lw_r1, List.forall_mem_append.mpr ⟨lw_r2, List.forall_mem_append.mpr ⟨lw_r3, lw_r4⟩⟩⟩
/-- the streams that the claim lets the run draw from -/
abbrev lw_cs : List Choice := [Jvm.Choice.named "NaN.bits"]
theorem lw_bits : nanBits ∈ lw_cs := by first | decide | exact List.mem_cons_self | simp [lw_cs, nanBits]

/-! ===== BEGIN words of one list among another's, by their places ===== -/
theorem goodIn_r {big : List Cond} (ws : List Cond) (ps : List Nat) (hp : ws = ps.filterMap (fun i => big[i]?)) (h : ws.all goodWord = true) : GoodIn big ws := by
  intro w hw
  have h1 := List.all_eq_true.mp h w hw
  rw [hp] at hw
  obtain ⟨i, -, hi⟩ := List.mem_filterMap.mp hw
  have hm : w ∈ big := by first | exact List.mem_of_getElem? hi | exact List.getElem?_mem hi
  exact ⟨hm, good_of_word h1⟩
theorem goodIn_app {big a b : List Cond} (ha : GoodIn big a) (hb : GoodIn big b) : GoodIn big (a ++ b) := fun w h => (List.mem_append.mp h).elim (ha w) (hb w)
theorem goodIn_ca {big a b : List Cond} {c : Cond} (ha : GoodIn big (c :: a)) (hb : GoodIn big b) : GoodIn big (c :: (a ++ b)) := fun w h => (List.mem_cons.mp h).elim (fun e => ha w (List.mem_cons.mpr (Or.inl e))) (fun h => (List.mem_append.mp h).elim (fun h => ha w (List.mem_cons.mpr (Or.inr h))) (hb w))
theorem goodIn_sub {big ws : List Cond} (hm : ∀ w ∈ ws, w ∈ big) (h : ws.all goodWord = true) : GoodIn big ws := fun w hw => ⟨hm w hw, good_of_word (List.all_eq_true.mp h w hw)⟩
/-! ===== END ===== -/

/-! ===== BEGIN exceptions that leave a method, and their catching by the caller (launches without stack traces) ===== -/
section VXA
/-! The laws vx_back, vx_callV, vx_callS, vx_callSW, vx_throw0, vx_throwS follow proofs of the library, with one case more: JvmDerived/Free/Laws.lean (Back.of_free), Shelf42/LK1.lean (callV, callS), Shelf/KitTraced.lean (throwNew0V, throwNewS). -/
/-- where a method has thrown q: the class by its name, the cell, what was written, the world -/
def vx_T (XC : String → State → State → Prop) (st : State) (q : Addr) (t : State) (mc ms : Nat) (free : Addr → Prop) : Prop :=
  ∃ (E : String) (ce : Cell) (L : List Loc), XC E st t ∧ t.heap[q]? = some ce ∧ ce.vm = .none ∧ st.vm.findClass E = some ce.cls ∧ st.WarmedH t.vm ∧ st.sameButNew ({ t with vm := st.vm } : State) L mc ms ∧ ∀ z ∈ L, free z.base
def vx_Q (Qc : Array Value → State → Outcome → State → Prop) (XC : String → State → State → Prop) (mc ms : Nat) (free : Addr → Prop) : Array Value → State → Outcome → State → Prop := fun a st o t =>
  (Qc a st o t ∧ ∃ L, FrameEnd st o t L mc ms ∧ ∀ q ∈ L, free q.base) ∨ ∃ q, o = .threw q ∧ vx_T XC st q t mc ms free
/-- a callee that returns or throws -/
def vx_Met (l : Launch) (y : MethodName) (ws : List Cond) (rm : Room) (Pc : Array Value → State → Prop) (Qc : Array Value → State → Outcome → State → Prop) (XC : String → State → State → Prop) (mc ms : Nat) (free : Addr → Prop) : Prop :=
  MetFree l y (headSpec ws rm) Pc (fun _ _ _ _ _ => True) (vx_Q Qc XC mc ms free)
def vx_Post (XC : String → State → State → Prop) (mc ms : Nat) (free : Addr → Prop) : Pt → Array Value → Addr → Pt → Prop := fun A a q B =>
  ∃ (g : JFrame) (mk : MethodId) (t : State) (L : List Loc) (E : String) (ce : Cell), B.U.heap = t.heap ∧ B.U.vm = t.vm ∧ XC E (A.U.calling g mk a) t ∧ t.heap[q]? = some ce ∧ ce.vm = .none ∧ A.U.vm.findClass E = some ce.cls ∧ B.locs = A.locs ++ L ∧ (∀ z ∈ L, free z.base) ∧ B.cells = A.cells + mc ∧ B.slots = A.slots + ms
def vx_Back (l : Launch) (R : Room) (p : Program) (e : Env) (below : List Frame) (s : State) (sargs : Array Value) (y : MethodName) (len W9 : Nat)
    (Pre : Pt → Array Value → Prop) (Post : Pt → Array Value → Option Value → Pt → Prop) (PostX : Pt → Array Value → Addr → Pt → Prop) : Prop :=
  ∀ (m : MethodId) (meth : Method) (c : Code) (A : Pt) (g : JFrame) (ig : Instr) (mk : MethodId) (a : Array Value),
    Stand p l e R s m sargs below meth c A.U A.locs A.cells A.slots → g.method = m → g.locals.size = c.maxLocals → decode c.code g.pc = .ok (ig, len) →
    2 * g.monitorRoom + (g.stack.map fun v => v.category).sum ≤ W9 → A.U.methodNamed? y = some mk → Pre A a →
    (∃ (v : Option Value) (B : Pt), Stand p l e R s m sargs below meth c B.U B.locs B.cells B.slots ∧ Post A a v B ∧
      Steps p.tables e below (doInvoke e (A.U.setTop g) [] mk a).1 (B.U.setTop { g with pc := g.pc + len, stack := v.toList ++ g.stack })) ∨
    (∃ (q : Addr) (B : Pt), Stand p l e R s m sargs below meth c B.U B.locs B.cells B.slots ∧ PostX A a q B ∧
      Steps p.tables e below (doInvoke e (A.U.setTop g) [] mk a).1 ((B.U.setTop g).pushFrame (.throwing q)))
section Payer
variable {l : Launch} {R : Room} {p : Program} {e : Env} {below : List Frame} {s : State} {sargs : Array Value} {y : MethodName} {len W9 : Nat}
theorem vx_back {ws : List Cond} {rm : Room} {Pc : Array Value → State → Prop} {Qc : Array Value → State → Outcome → State → Prop} {XC : String → State → State → Prop} {mc ms : Nat} {free : Addr → Prop} {bytes : ByteArray} {maxL : Nat} {ret : Option FieldType}
    (hM : vx_Met l y ws rm Pc Qc XC mc ms free) (hblind : FrameBlind Pc) (hrc : rm.cells = mc) (hrs : rm.slots = ms)
    (hframes : rm.frames + 1 ≤ R.frames) (hlocals : W9 + (maxL + 11) + rm.locals ≤ R.locals)
    (hws : ∀ w ∈ ws, ∀ a' U, s.WarmedH U.vm → w.before a' U = true) (hcode : Cond.code y bytes maxL ret ∈ ws) (hinit : ∀ a' U, s.WarmedH U.vm → (Cond.initialized y.cls).before a' U = true) :
    vx_Back l R p e below s sargs y len W9 (PreOf R mc ms Pc) (PostOf Qc mc ms free) (vx_Post XC mc ms free) := by
  intro m meth c A g ig mk a X hg hsize hdg hW hn hp
  have h1 : (headSpec ws rm).pre.before a A.U = true := atoms_intro fun w hw => hws w hw _ _ X.warmed
  have h2 : (Cond.code y bytes maxL ret).before a A.U = true := hws _ hcode _ _ X.warmed
  have h3 : (Cond.initialized y.cls).before a A.U = true := hinit _ _ X.warmed
  have h4 : A.cells + (headSpec ws rm).room.cells ≤ R.cells := by rw [show (headSpec ws rm).room.cells = mc from hrc]; exact hp.1
  have h5 : A.slots + (headSpec ws rm).room.slots ≤ R.slots := by rw [show (headSpec ws rm).room.slots = ms from hrs]; exact hp.2.1
  have hPc : Pc a (A.U.calling g mk a) := hblind _ _ _ _ hp.2.2
  obtain ⟨U, Ls, c0, s0⟩ := A
  dsimp only [Pt.U, Pt.locs, Pt.cells, Pt.slots] at h1 h2 h3 h4 h5 X hn hPc ⊢
  obtain ⟨methY, cY, hmY, hcY, -, hlY, -, -, -, -⟩ := Cond.code_spec hn h2
  obtain ⟨kY, hkY, -⟩ := className_of_methodNamed hn
  have hinitY : kY.init = .initialized := Cond.initialized_spec (findClass_of_methodNamed hn) hkY h3
  have h : At U g.method c below := by rw [hg]; exact X.here
  have hlocals9 : W9 + (maxL + 11) + (headSpec ws rm).room.locals ≤ R.locals := hlocals
  have happ : (headSpec ws rm).appliesLoose y e.platform (U.calling g mk a) = true :=
    Spec.appliesLoose_calling (g := g) h hdg hn hkY hinitY
      (X.room_calling (g := g) (R' := (headSpec ws rm).room) hsize hmY hcY hframes (by rw [hlY]; omega) h4 h5) h1
  obtain ⟨mid, hmid⟩ := h.above
  have hfr : (U.setTop g).frames = (.java g :: mid) ++ below := by rw [State.frames_setTop' g h.top, hmid]; rfl
  obtain ⟨o, s₂, hsteps, -, hend, hq⟩ := Steps.callFree hM p X.admits X.cas X.clock (acts := []) hfr happ hPc trivial
  have hq' : vx_Q Qc XC mc ms free a (U.calling g mk a) o s₂ := hq
  rw [State.frames_setTop' g h.top] at hend
  obtain ⟨g₀, hg0⟩ := Option.isSome_iff_exists.mp h.top
  obtain ⟨r, hr⟩ := State.topJava?_eq_some.mp hg0
  have hr' : (({ U with heap := s₂.heap, slotsUsed := s₂.slotsUsed } : State).setVm s₂.vm).frames = .java g₀ :: r := hr
  rcases hq' with ⟨hqc, L, hfe, hL⟩ | ⟨q, rfl, E, ce, L, hx, hce, hcv, hcl, hW₂, hsm, hL⟩
  · obtain ⟨⟨v, rfl⟩, hW₂, e2, q2, q3, q4, q5, q6⟩ := id hfe
    have e3 : s₂ = ({ (U.calling g mk a).setFrames s₂.frames with heap := s₂.heap, slotsUsed := s₂.slotsUsed } : State).setVm s₂.vm := by
      have : s₂ = ({ s₂ with vm := (U.calling g mk a).vm } : State).setVm s₂.vm := rfl
      rw [e2] at this
      exact this
    obtain ⟨c₂, i₂, len₂, hc₂, hd₂, hf₂⟩ := hend
    have hW' : U.WarmedH s₂.vm := hW₂
    have hcc : c₂ = c := by
      have h1 : s₂.code? g.method = U.code? g.method := by
        rw [State.code?_eq, State.code?_eq, hW'.alike.method?]
      exact Option.some.inj (hc₂.symm.trans (h1.trans h.code))
    subst hcc
    have hlen : len₂ = len := by rw [hdg] at hd₂; cases hd₂; rfl
    subst hlen
    have hs₂ : s₂ = (({ U with heap := s₂.heap, slotsUsed := s₂.slotsUsed } : State).setVm s₂.vm).setTop { g with pc := g.pc + len₂, stack := v.toList ++ g.stack } := by
      refine e3.trans ?_
      rw [hf₂, State.calling_eq h.top, State.setFrames_setFrames, State.setTop_of_frames _ hr', hr]
      rfl
    have hsame : U.sameButNew ({ U with heap := s₂.heap, slotsUsed := s₂.slotsUsed } : State) L mc ms := by
      refine ⟨?_, q2, q3, q4, q5, q6⟩
      obtain ⟨t, ht, -⟩ := State.frames_cons hr
      show ({ U with heap := s₂.heap, slotsUsed := s₂.slotsUsed } : State) = { U.setFrames U.frames with heap := s₂.heap, slotsUsed := s₂.slotsUsed }
      rw [State.setFrames_self ht]
    subst hg
    refine Or.inl ⟨v, ⟨(({ U with heap := s₂.heap, slotsUsed := s₂.slotsUsed } : State).setVm s₂.vm), Ls ++ L, c0 + mc, s0 + ms⟩,
      ⟨X.admits, X.cas, X.clock, X.frames, X.room, X.hears, X.method, X.code, (X.here.setHeapUsed s₂.heap s₂.slotsUsed).setVm hW'.alike, X.tail, State.WarmedH.trans X.warmed hW', X.limits, X.bytes, X.same.trans (hsame.setVm s.vm)⟩,
      ⟨g, mk, s₂, L, rfl, rfl, hqc, rfl, hL, rfl, rfl⟩, ?_⟩
    show Steps p.tables e below _ ((({ U with heap := s₂.heap, slotsUsed := s₂.slotsUsed } : State).setVm s₂.vm).setTop { g with pc := g.pc + len₂, stack := v.toList ++ g.stack })
    rw [← hs₂]
    exact hsteps
  · obtain ⟨e2, q2, q3, q4, q5, q6⟩ := id hsm
    have e3 : s₂ = ({ (U.calling g mk a).setFrames s₂.frames with heap := s₂.heap, slotsUsed := s₂.slotsUsed } : State).setVm s₂.vm := by
      have : s₂ = ({ s₂ with vm := (U.calling g mk a).vm } : State).setVm s₂.vm := rfl
      rw [e2] at this
      exact this
    have hf₂ : s₂.frames = .throwing q :: .java g :: U.frames.tail := hend
    have hW' : U.WarmedH s₂.vm := hW₂
    have hs₂ : s₂ = ((({ U with heap := s₂.heap, slotsUsed := s₂.slotsUsed } : State).setVm s₂.vm).setTop g).pushFrame (.throwing q) := by
      refine e3.trans ?_
      rw [hf₂, State.calling_eq h.top, State.setFrames_setFrames, State.pushFrame, State.frames_setTop _ hr', State.setTop_of_frames _ hr', State.setFrames_setFrames, hr]
      rfl
    have hsame : U.sameButNew ({ U with heap := s₂.heap, slotsUsed := s₂.slotsUsed } : State) L mc ms := by
      refine ⟨?_, q2, q3, q4, q5, q6⟩
      obtain ⟨t, ht, -⟩ := State.frames_cons hr
      show ({ U with heap := s₂.heap, slotsUsed := s₂.slotsUsed } : State) = { U.setFrames U.frames with heap := s₂.heap, slotsUsed := s₂.slotsUsed }
      rw [State.setFrames_self ht]
    subst hg
    refine Or.inr ⟨q, ⟨(({ U with heap := s₂.heap, slotsUsed := s₂.slotsUsed } : State).setVm s₂.vm), Ls ++ L, c0 + mc, s0 + ms⟩,
      ⟨X.admits, X.cas, X.clock, X.frames, X.room, X.hears, X.method, X.code, (X.here.setHeapUsed s₂.heap s₂.slotsUsed).setVm hW'.alike, X.tail, State.WarmedH.trans X.warmed hW', X.limits, X.bytes, X.same.trans (hsame.setVm s.vm)⟩,
      ⟨g, mk, s₂, L, E, ce, rfl, rfl, hx, hce, hcv, hcl, rfl, hL, rfl, rfl⟩, ?_⟩
    show Steps p.tables e below _ (((({ U with heap := s₂.heap, slotsUsed := s₂.slotsUsed } : State).setVm s₂.vm).setTop g).pushFrame (.throwing q))
    rw [← hs₂]
    exact hsteps
end Payer
section Calls
variable {p : Program} {l : Launch} {e : Env} {R : Room} {s : State} {m : MethodId} {args : Array Value} {below : List Frame} {meth : Method} {c : Code} {T : State} {locs : List Loc} {cells slots : Nat}
theorem vx_callV (X : Stand p l e R s m args below meth c T locs cells slots) (hexec : p.tables.exec = Jvm.exec) {own C : String} {index : Nat} {y : MethodName} {bytes : ByteArray} {maxL : Nat} {ret : Option FieldType}
    (hown : s.vm.findClass own = some m.cls) (hlink : (Cond.methodLink own index y).before args s = true) (hinst : (Cond.instanceMethod y).before args s = true) (hsel : (Cond.selects C y y).before args s = true)
    (hcode : (Cond.code y bytes maxL ret).before args s = true) (hy : y.cls ≠ "java/lang/invoke/MethodHandle" ∧ y.cls ≠ "java/lang/invoke/VarHandle")
    {W9 : Nat} {Pre : Pt → Array Value → Prop} {Post : Pt → Array Value → Option Value → Pt → Prop} {PostX : Pt → Array Value → Addr → Pt → Prop} (hK : vx_Back l R p e below s args y 3 W9 Pre Post PostX)
    {b : Addr} {cellB : Cell} (hcell : T.heap[b]? = some cellB) (hobj : cellB.vm.isStatics = false) (hcls : s.vm.findClass C = some cellB.cls)
    {g : JFrame} (hg : g.method = m) (hsize : g.locals.size = c.maxLocals) {argsL rest : List Value} (hlen : ∀ sig, parseMethodDescriptor y.desc = some sig → argsL.length = sig.parameters.length)
    (hstack : g.stack = argsL.reverse ++ .ref b :: rest) (hW : 2 * g.monitorRoom + (rest.map fun v => v.category).sum ≤ W9) (hdg : decode c.code g.pc = .ok (.invokevirtual index, 3))
    (hpre : ∀ vm₁, s.WarmedH vm₁ → Pre ⟨T.setVm vm₁, locs, cells, slots⟩ (Value.ref b :: argsL).toArray) :
    (∃ (v : Option Value) (vm₁ : Vm) (B : Pt), s.WarmedH vm₁ ∧ Stand p l e R s m args below meth c B.U B.locs B.cells B.slots ∧ Post ⟨T.setVm vm₁, locs, cells, slots⟩ (Value.ref b :: argsL).toArray v B ∧
      ∀ target, Steps p.tables e below (B.U.setTop { g with pc := g.pc + 3, stack := v.toList ++ rest }) target → Steps p.tables e below (T.setTop g) target) ∨
    (∃ (q : Addr) (vm₁ : Vm) (B : Pt), s.WarmedH vm₁ ∧ Stand p l e R s m args below meth c B.U B.locs B.cells B.slots ∧ PostX ⟨T.setVm vm₁, locs, cells, slots⟩ (Value.ref b :: argsL).toArray q B ∧
      Steps p.tables e below (T.setTop g) ((B.U.setTop { g with stack := rest }).pushFrame (.throwing q))) := by
  obtain ⟨mk, methM, hnamed, hmethM, hstM, habM⟩ := Cond.instanceMethod_spec hinst
  obtain ⟨methM', cM, hmethM', -, -, -, -, -, -, hsigM⟩ := Cond.code_spec hnamed hcode
  cases hmethM.symm.trans hmethM'
  obtain ⟨c2, r2, m2, q1, q2, q3, q4, kP, hkP, hkPi⟩ := Cond.selects_spec hsel
  cases hcls.symm.trans q1
  cases (State.methodFound?_of_named hnamed hy).symm.trans q2
  cases hnamed.symm.trans q3
  have hselP : selectMethod e.platform s.vm cellB.cls mk = .method mk := by rw [Launch.admits_selectMethod X.admits]; exact q4
  obtain ⟨vm₁, X₁, hstep₁⟩ := X.invokevirtual hexec hown hlink hnamed hmethM hstM hkP hkPi hy (a := b) (cell := cellB) hcell
    (fun z h => by rw [h] at hobj; cases hobj) hselP hmethM habM hkP hkPi (g := g) hg (argsL := argsL) (rest := rest) (hlen _ hsigM) hstack hdg
  rcases hK m meth c ⟨T.setVm vm₁, locs, cells, slots⟩ { g with stack := rest } (.invokevirtual index) mk (Value.ref b :: argsL).toArray X₁ hg hsize hdg hW (X₁.named hnamed) (hpre vm₁ X₁.warmed) with ⟨v, B, X', hpost, hsteps⟩ | ⟨q, B, X', hpost, hsteps⟩
  · exact Or.inl ⟨v, vm₁, B, X₁.warmed, X', hpost, fun target h => hstep₁ _ fun acts => by rw [doInvoke_state]; exact hsteps.trans h⟩
  · exact Or.inr ⟨q, vm₁, B, X₁.warmed, X', hpost, hstep₁ _ fun acts => by rw [doInvoke_state]; exact hsteps⟩
theorem vx_callS (X : Stand p l e R s m args below meth c T locs cells slots) (hexec : p.tables.exec = Jvm.exec) {own : String} {index : Nat} {y : MethodName} {bytes : ByteArray} {maxL : Nat} {ret : Option FieldType}
    (hown : s.vm.findClass own = some m.cls) (hlink : (Cond.methodLink own index y).before args s = true) (hstat : (Cond.static y).before args s = true) (hinit : (Cond.initialized y.cls).before args s = true)
    (hcode : (Cond.code y bytes maxL ret).before args s = true) (hy : y.cls ≠ "java/lang/invoke/MethodHandle" ∧ y.cls ≠ "java/lang/invoke/VarHandle")
    {W9 : Nat} {Pre : Pt → Array Value → Prop} {Post : Pt → Array Value → Option Value → Pt → Prop} {PostX : Pt → Array Value → Addr → Pt → Prop} (hK : vx_Back l R p e below s args y 3 W9 Pre Post PostX)
    {g : JFrame} (hg : g.method = m) (hsize : g.locals.size = c.maxLocals) {argsL rest : List Value} (hlen : ∀ sig, parseMethodDescriptor y.desc = some sig → argsL.length = sig.parameters.length)
    (hstack : g.stack = argsL.reverse ++ rest) (hW : 2 * g.monitorRoom + (rest.map fun v => v.category).sum ≤ W9) (hdg : decode c.code g.pc = .ok (.invokestatic index, 3))
    (hpre : ∀ vm₁, s.WarmedH vm₁ → Pre ⟨T.setVm vm₁, locs, cells, slots⟩ argsL.toArray) :
    (∃ (v : Option Value) (vm₁ : Vm) (B : Pt), s.WarmedH vm₁ ∧ Stand p l e R s m args below meth c B.U B.locs B.cells B.slots ∧ Post ⟨T.setVm vm₁, locs, cells, slots⟩ argsL.toArray v B ∧
      ∀ target, Steps p.tables e below (B.U.setTop { g with pc := g.pc + 3, stack := v.toList ++ rest }) target → Steps p.tables e below (T.setTop g) target) ∨
    (∃ (q : Addr) (vm₁ : Vm) (B : Pt), s.WarmedH vm₁ ∧ Stand p l e R s m args below meth c B.U B.locs B.cells B.slots ∧ PostX ⟨T.setVm vm₁, locs, cells, slots⟩ argsL.toArray q B ∧
      Steps p.tables e below (T.setTop g) ((B.U.setTop { g with stack := rest }).pushFrame (.throwing q))) := by
  obtain ⟨mk, hnamed⟩ := Cond.code_named hcode
  obtain ⟨methM, cM, hmethM, -, -, -, -, -, -, hsigM⟩ := Cond.code_spec hnamed hcode
  have hstatic : methM.isStatic = true := Cond.static_spec hnamed hmethM hstat
  obtain ⟨kP, hkP, -⟩ := className_of_methodNamed hnamed
  have hinitP : kP.init = .initialized := Cond.initialized_spec (findClass_of_methodNamed hnamed) hkP hinit
  obtain ⟨vm₁, X₁, hstep₁⟩ := X.invokestatic hexec hown hlink hnamed hmethM hstatic hkP hinitP hy (g := g) hg (argsL := argsL) (rest := rest) (hlen _ hsigM) hstack hdg
  rcases hK m meth c ⟨T.setVm vm₁, locs, cells, slots⟩ { g with stack := rest } (.invokestatic index) mk argsL.toArray X₁ hg hsize hdg hW (X₁.named hnamed) (hpre vm₁ X₁.warmed) with ⟨v, B, X', hpost, hsteps⟩ | ⟨q, B, X', hpost, hsteps⟩
  · exact Or.inl ⟨v, vm₁, B, X₁.warmed, X', hpost, fun target h => hstep₁ _ fun acts => by rw [doInvoke_state]; exact hsteps.trans h⟩
  · exact Or.inr ⟨q, vm₁, B, X₁.warmed, X', hpost, hstep₁ _ fun acts => by rw [doInvoke_state]; exact hsteps⟩
end Calls
theorem vx_cls {s : State} {T : State} {vm₁ : Vm} {E : String} {k : ClassId} (hW : s.WarmedH vm₁) (h : (T.setVm vm₁).vm.findClass E = some k) : s.vm.findClass E = some k := by
  have h1 : vm₁.findClass E = some k := h
  rw [hW.alike.findClass] at h1
  exact h1
/-- the method's frame g, with q thrown over it -/
def vx_W (p : Program) (l : Launch) (e : Env) (R : Room) (s : State) (m : MethodId) (args : Array Value) (below : List Frame) (meth : Method) (c : Code) (H : Heap) (locs : List Loc) (cells slots : Nat) (Q : State → Prop) (g : JFrame) (q : Addr) : Prop :=
  ∀ T : State, T.heap = H → Stand p l e R s m args below meth c T locs cells slots → ∃ t, Steps p.tables e below ((T.setTop g).pushFrame (.throwing q)) t ∧ Q t
def vx_Run (p : Program) (l : Launch) (e : Env) (R : Room) (s : State) (m : MethodId) (args : Array Value) (below : List Frame) (meth : Method) (c : Code) (H : Heap) (locs : List Loc) (cells slots mc ms : Nat) (g : JFrame) (rest : List Value) (Qa : State → Outcome → State → Prop) (XC : String → State → State → Prop) (free : Addr → Prop) : Prop :=
  ∀ T : State, T.heap = H → Stand p l e R s m args below meth c T locs cells slots →
    (∃ (v : Option Value) (st₀ t T' : State) (L : List Loc), st₀.heap = H ∧ Stand p l e R s m args below meth c T' (locs ++ L) (cells + mc) (slots + ms) ∧ (∀ q ∈ L, free q.base) ∧ T'.heap = t.heap ∧ T'.vm = t.vm ∧ Qa st₀ (.returned v) t ∧
      Goes p e below T g T' { g with pc := g.pc + 3, stack := v.toList ++ rest }) ∨
    (∃ (q : Addr) (st₀ t T' : State) (L : List Loc) (E : String) (ce : Cell), st₀.heap = H ∧ Stand p l e R s m args below meth c T' (locs ++ L) (cells + mc) (slots + ms) ∧ (∀ z ∈ L, free z.base) ∧ T'.heap = t.heap ∧ T'.vm = t.vm ∧ XC E st₀ t ∧ t.heap[q]? = some ce ∧ ce.vm = .none ∧ s.vm.findClass E = some ce.cls ∧
      Steps p.tables e below (T.setTop g) ((T'.setTop { g with stack := rest }).pushFrame (.throwing q)))
def vx_X {S : Type} (px : S → Prop) (B : String → S → State → Prop) (A : Nat → Prop) : String → State → State → Prop := fun E st t => ∃ u : S, px u ∧ B E u t ∧ va_F A st t
section Runs
variable {p : Program} {l : Launch} {e : Env} {R : Room} {s : State} {m : MethodId} {args : Array Value} {below : List Frame} {meth : Method} {c : Code} {H : Heap} {locs : List Loc} {cells slots : Nat}
variable {y : MethodName} {bytes cc : ByteArray} {maxL nL mc ms n index : Nat} {ret : Option FieldType} {ws : List Cond} {rm : Room} {Pc : Array Value → State → Prop} {Qc : Array Value → State → Outcome → State → Prop} {XC : String → State → State → Prop} {free : Addr → Prop} {Ts : List Cond} {own C : String} {b : Addr} {As rest : List Value} {g : JFrame}
theorem vx_callBack (cb : CallB R s args own index y bytes maxL ret ws rm mc ms n) (hM : vx_Met l y ws rm Pc Qc XC mc ms free) (hbl : FrameBlind Pc) : vx_Back l R p e below s args y 3 8 (PreOf R mc ms Pc) (PostOf Qc mc ms free) (vx_Post XC mc ms free) := by
  obtain ⟨hrc, hrs, hfr, hlo, hws, hcw, -, hini, -⟩ := cb
  exact vx_back (bytes := bytes) (maxL := maxL) (ret := ret) hM hbl hrc hrs hfr hlo hws hcw (fun a' U hW => word_at hW (Or.inl (by first | rfl | simp [Cond.onTables, Cond.keeps, Cond.steady])) hini)
theorem vx_runV (S : CallFix p m c cc nL s args Ts own) (hM : vx_Met l y ws rm Pc Qc XC mc ms free) (cw : CallW R s args own C index y bytes maxL ret ws rm mc ms n) (hp : PreV s H C b Pc As)
    (hg : g.method = m) (hn : As.length = n) (hsize : g.locals.size = nL) (hstack : g.stack = As.reverse ++ .ref b :: rest) (hW : 2 * g.monitorRoom + (rest.map fun v => v.category).sum ≤ 8) (hdg : decode cc g.pc = .ok (.invokevirtual index, 3)) (hf : cells + mc ≤ R.cells ∧ slots + ms ≤ R.slots) :
    vx_Run p l e R s m args below meth c H locs cells slots mc ms g rest (Qc (Value.ref b :: As).toArray) XC free := by
  have hK : vx_Back l R p e below s args y 3 8 (PreOf R mc ms Pc) (PostOf Qc mc ms free) (vx_Post XC mc ms free) := vx_callBack cw.1 hM hp.1
  obtain ⟨⟨-, -, -, -, -, -, hcode, -, hy, hlen, hl⟩, hin, hse⟩ := cw
  obtain ⟨hx, hb, hml, ho, -⟩ := S
  obtain ⟨-, ⟨cellB, hcB, hoB, hclB⟩, hPc⟩ := hp
  intro T hT X
  rcases vx_callV X hx (C := C) (bytes := bytes) (maxL := maxL) (ret := ret) ho hl hin hse hcode hy hK (by rw [hT]; exact hcB) hoB hclB hg (hsize.trans hml.symm) (argsL := As) (rest := rest) (fun sig h => hn.trans (hlen sig h)) hstack hW (by rw [hb]; exact hdg)
    (fun vm₁ hW₁ => ⟨hf.1, hf.2, hPc (T.setVm vm₁) hT hW₁⟩) with ⟨v, vm₁, ⟨U', l2, c2, s2⟩, hW₁, X', ⟨g', mk, t, L, e1, e2, hq, h1, hL, h2, h3⟩, st⟩ | ⟨q, vm₁, ⟨U', l2, c2, s2⟩, hW₁, X', ⟨g', mk, t, L, E, ce, e1, e2, hq, hce, hcv, hcl, h1, hL, h2, h3⟩, st⟩
  · dsimp only [Pt.U, Pt.locs, Pt.cells, Pt.slots] at X' e1 e2 h1 h2 h3 st
    subst h1; subst h2; subst h3
    exact Or.inl ⟨v, (T.setVm vm₁).calling g' mk (Value.ref b :: As).toArray, t, U', L, hT, X', hL, e1, e2, hq, st⟩
  · dsimp only [Pt.U, Pt.locs, Pt.cells, Pt.slots] at X' e1 e2 h1 h2 h3 st hcl
    subst h1; subst h2; subst h3
    exact Or.inr ⟨q, (T.setVm vm₁).calling g' mk (Value.ref b :: As).toArray, t, U', L, E, ce, hT, X', hL, e1, e2, hq, hce, hcv, vx_cls hW₁ hcl, st⟩
theorem vx_runS (S : CallFix p m c cc nL s args Ts own) (hM : vx_Met l y ws rm Pc Qc XC mc ms free) (cw : CallB R s args own index y bytes maxL ret ws rm mc ms n ∧ (Cond.static y).before args s = true) (hp : PreS s H Pc As)
    (hg : g.method = m) (hn : As.length = n) (hsize : g.locals.size = nL) (hstack : g.stack = As.reverse ++ rest) (hW : 2 * g.monitorRoom + (rest.map fun v => v.category).sum ≤ 8) (hdg : decode cc g.pc = .ok (.invokestatic index, 3)) (hf : cells + mc ≤ R.cells ∧ slots + ms ≤ R.slots) :
    vx_Run p l e R s m args below meth c H locs cells slots mc ms g rest (Qc As.toArray) XC free := by
  have hK : vx_Back l R p e below s args y 3 8 (PreOf R mc ms Pc) (PostOf Qc mc ms free) (vx_Post XC mc ms free) := vx_callBack cw.1 hM hp.1
  obtain ⟨⟨-, -, -, -, -, -, hcode, hini, hy, hlen, hl⟩, hstt⟩ := cw
  obtain ⟨hx, hb, hml, ho, -⟩ := S
  intro T hT X
  rcases vx_callS X hx (bytes := bytes) (maxL := maxL) (ret := ret) ho hl hstt hini hcode hy hK hg (hsize.trans hml.symm) (argsL := As) (rest := rest) (fun sig h => hn.trans (hlen sig h)) hstack hW (by rw [hb]; exact hdg)
    (fun vm₁ hW₁ => ⟨hf.1, hf.2, hp.2 (T.setVm vm₁) hT hW₁⟩) with ⟨v, vm₁, ⟨U', l2, c2, s2⟩, hW₁, X', ⟨g', mk, t, L, e1, e2, hq, h1, hL, h2, h3⟩, st⟩ | ⟨q, vm₁, ⟨U', l2, c2, s2⟩, hW₁, X', ⟨g', mk, t, L, E, ce, e1, e2, hq, hce, hcv, hcl, h1, hL, h2, h3⟩, st⟩
  · dsimp only [Pt.U, Pt.locs, Pt.cells, Pt.slots] at X' e1 e2 h1 h2 h3 st
    subst h1; subst h2; subst h3
    exact Or.inl ⟨v, (T.setVm vm₁).calling g' mk As.toArray, t, U', L, hT, X', hL, e1, e2, hq, st⟩
  · dsimp only [Pt.U, Pt.locs, Pt.cells, Pt.slots] at X' e1 e2 h1 h2 h3 st hcl
    subst h1; subst h2; subst h3
    exact Or.inr ⟨q, (T.setVm vm₁).calling g' mk As.toArray, t, U', L, E, ce, hT, X', hL, e1, e2, hq, hce, hcv, vx_cls hW₁ hcl, st⟩
end Runs
section Rows
variable {p : Program} {l : Launch} {e : Env} {R : Room} {s : State} {m : MethodId} {args : Array Value} {below : List Frame} {meth : Method} {c : Code} {H : Heap} {locs : List Loc} {cells slots : Nat} {Q : State → Prop}
variable {mc ms : Nat} {free : Addr → Prop} {A0 A1 : Nat → Prop} {H0 : Heap} {a : Array Value} {pc : Nat} {ls : Array Slot} {st0 rest : List Value}
theorem vx_keep {st₀ t T' : State} {L : List Loc} (h0 : st₀.heap = H) (e1 : T'.heap = t.heap) (hS : va_S A0 H0 H locs) (hA : ∀ q, q < H.size → A1 q → A0 q) (hf : ∀ q, free q → A0 q) (hL : ∀ q ∈ L, free q.base) (hF : va_F A1 st₀ t) :
    H.size ≤ T'.heap.size ∧ (∀ q : Nat, q < H.size → ¬ A1 q → T'.heap[q]? = H[q]?) ∧ va_S A0 H0 T'.heap (locs ++ L) := by
  obtain ⟨hz, hk⟩ := hF
  rw [h0] at hz hk
  exact ⟨by rw [e1]; exact hz, fun q h1 h2 => by rw [e1]; exact hk q h1 h2,
    ⟨Nat.le_trans hS.1 (by rw [e1]; exact hz), fun q h1 h2 => by rw [e1, hk q (Nat.lt_of_lt_of_le h1 hS.1) (fun z => h2 (hA q (Nat.lt_of_lt_of_le h1 hS.1) z))]; exact hS.2.1 q h1 h2, fun q hq => by
      rcases List.mem_append.mp hq with h | h
      · exact hS.2.2 q h
      · exact hf _ (hL q h)⟩⟩
theorem vx_calli {S SX : Type} {post : Int32 → S → Prop} {px : SX → Prop} {B : S → State → Prop} {BX : String → SX → State → Prop} {AX : Nat → Prop} (hr : vx_Run p l e R s m args below meth c H locs cells slots mc ms (F0 m pc ls st0) rest (va_Qi post B A1 a) (vx_X px BX AX) free) (hS : va_S A0 H0 H locs) (hA : ∀ q, q < H.size → A1 q → A0 q) (hf : ∀ q, free q → A0 q) (hAX : ∀ q, q < H.size → AX q → A0 q)
    (kx : ∀ (E : String) (ce : Cell) (q9 : Addr) (u : SX) (t : State) (H1 : Heap) (locs1 : List Loc), t.heap = H1 → s.vm.Alike t.vm → px u → BX E u t → H.size ≤ H1.size → (∀ q : Nat, q < H.size → ¬ AX q → H1[q]? = H[q]?) → va_S A0 H0 H1 locs1 → H1[q9]? = some ce → ce.vm = .none → s.vm.findClass E = some ce.cls → vx_W p l e R s m args below meth c H1 locs1 (cells + mc) (slots + ms) Q (F0 m pc ls rest) q9)
    (kk : ∀ (r : Int32) (u : S) (t : State) (H1 : Heap) (locs1 : List Loc), t.heap = H1 → s.vm.Alike t.vm → post r u → B u t → H.size ≤ H1.size → (∀ q : Nat, q < H.size → ¬ A1 q → H1[q]? = H[q]?) → va_S A0 H0 H1 locs1 → W p l e R s m args below meth c H1 locs1 (cells + mc) (slots + ms) Q (F0 m (pc + 3) ls (.int r :: rest))) : W p l e R s m args below meth c H locs cells slots Q (F0 m pc ls st0) := by
  intro T hT X
  rcases hr T hT X with ⟨v, st₀, t, T', L, h0, X', hL, e1, e2, ⟨⟨r, u, hv, hp, hb⟩, hF⟩, st⟩ | ⟨q, st₀, t, T', L, E, ce, h0, X', hL, e1, e2, ⟨u, hp, hb, hF⟩, hce, hcv, hcl, st⟩
  · cases hv
    obtain ⟨k1, k2, k3⟩ := vx_keep h0 e1 hS hA hf hL hF
    obtain ⟨t2, a1, b1⟩ := kk r u t T'.heap (locs ++ L) e1.symm (by rw [← e2]; exact X'.warmed.alike) hp hb k1 k2 k3 T' rfl X'
    exact ⟨t2, st t2 a1, b1⟩
  · obtain ⟨k1, k2, k3⟩ := vx_keep h0 e1 hS hAX hf hL hF
    obtain ⟨t2, a1, b1⟩ := kx E ce q u t T'.heap (locs ++ L) e1.symm (by rw [← e2]; exact X'.warmed.alike) hp hb k1 k2 k3 (by rw [e1]; exact hce) hcv hcl T' rfl X'
    exact ⟨t2, st.trans a1, b1⟩
theorem vx_calll {S SX : Type} {post : Int64 → S → Prop} {px : SX → Prop} {B : S → State → Prop} {BX : String → SX → State → Prop} {AX : Nat → Prop} (hr : vx_Run p l e R s m args below meth c H locs cells slots mc ms (F0 m pc ls st0) rest (va_Ql post B A1 a) (vx_X px BX AX) free) (hS : va_S A0 H0 H locs) (hA : ∀ q, q < H.size → A1 q → A0 q) (hf : ∀ q, free q → A0 q) (hAX : ∀ q, q < H.size → AX q → A0 q)
    (kx : ∀ (E : String) (ce : Cell) (q9 : Addr) (u : SX) (t : State) (H1 : Heap) (locs1 : List Loc), t.heap = H1 → s.vm.Alike t.vm → px u → BX E u t → H.size ≤ H1.size → (∀ q : Nat, q < H.size → ¬ AX q → H1[q]? = H[q]?) → va_S A0 H0 H1 locs1 → H1[q9]? = some ce → ce.vm = .none → s.vm.findClass E = some ce.cls → vx_W p l e R s m args below meth c H1 locs1 (cells + mc) (slots + ms) Q (F0 m pc ls rest) q9)
    (kk : ∀ (r : Int64) (u : S) (t : State) (H1 : Heap) (locs1 : List Loc), t.heap = H1 → s.vm.Alike t.vm → post r u → B u t → H.size ≤ H1.size → (∀ q : Nat, q < H.size → ¬ A1 q → H1[q]? = H[q]?) → va_S A0 H0 H1 locs1 → W p l e R s m args below meth c H1 locs1 (cells + mc) (slots + ms) Q (F0 m (pc + 3) ls (.long r :: rest))) : W p l e R s m args below meth c H locs cells slots Q (F0 m pc ls st0) := by
  intro T hT X
  rcases hr T hT X with ⟨v, st₀, t, T', L, h0, X', hL, e1, e2, ⟨⟨r, u, hv, hp, hb⟩, hF⟩, st⟩ | ⟨q, st₀, t, T', L, E, ce, h0, X', hL, e1, e2, ⟨u, hp, hb, hF⟩, hce, hcv, hcl, st⟩
  · cases hv
    obtain ⟨k1, k2, k3⟩ := vx_keep h0 e1 hS hA hf hL hF
    obtain ⟨t2, a1, b1⟩ := kk r u t T'.heap (locs ++ L) e1.symm (by rw [← e2]; exact X'.warmed.alike) hp hb k1 k2 k3 T' rfl X'
    exact ⟨t2, st t2 a1, b1⟩
  · obtain ⟨k1, k2, k3⟩ := vx_keep h0 e1 hS hAX hf hL hF
    obtain ⟨t2, a1, b1⟩ := kx E ce q u t T'.heap (locs ++ L) e1.symm (by rw [← e2]; exact X'.warmed.alike) hp hb k1 k2 k3 (by rw [e1]; exact hce) hcv hcl T' rfl X'
    exact ⟨t2, st.trans a1, b1⟩
theorem vx_callf {S SX : Type} {post : UInt32 → S → Prop} {px : SX → Prop} {B : S → State → Prop} {BX : String → SX → State → Prop} {AX : Nat → Prop} (hr : vx_Run p l e R s m args below meth c H locs cells slots mc ms (F0 m pc ls st0) rest (va_Qf post B A1 a) (vx_X px BX AX) free) (hS : va_S A0 H0 H locs) (hA : ∀ q, q < H.size → A1 q → A0 q) (hf : ∀ q, free q → A0 q) (hAX : ∀ q, q < H.size → AX q → A0 q)
    (kx : ∀ (E : String) (ce : Cell) (q9 : Addr) (u : SX) (t : State) (H1 : Heap) (locs1 : List Loc), t.heap = H1 → s.vm.Alike t.vm → px u → BX E u t → H.size ≤ H1.size → (∀ q : Nat, q < H.size → ¬ AX q → H1[q]? = H[q]?) → va_S A0 H0 H1 locs1 → H1[q9]? = some ce → ce.vm = .none → s.vm.findClass E = some ce.cls → vx_W p l e R s m args below meth c H1 locs1 (cells + mc) (slots + ms) Q (F0 m pc ls rest) q9)
    (kk : ∀ (r : UInt32) (u : S) (t : State) (H1 : Heap) (locs1 : List Loc), t.heap = H1 → s.vm.Alike t.vm → post r u → B u t → H.size ≤ H1.size → (∀ q : Nat, q < H.size → ¬ A1 q → H1[q]? = H[q]?) → va_S A0 H0 H1 locs1 → W p l e R s m args below meth c H1 locs1 (cells + mc) (slots + ms) Q (F0 m (pc + 3) ls (.float r :: rest))) : W p l e R s m args below meth c H locs cells slots Q (F0 m pc ls st0) := by
  intro T hT X
  rcases hr T hT X with ⟨v, st₀, t, T', L, h0, X', hL, e1, e2, ⟨⟨r, u, hv, hp, hb⟩, hF⟩, st⟩ | ⟨q, st₀, t, T', L, E, ce, h0, X', hL, e1, e2, ⟨u, hp, hb, hF⟩, hce, hcv, hcl, st⟩
  · cases hv
    obtain ⟨k1, k2, k3⟩ := vx_keep h0 e1 hS hA hf hL hF
    obtain ⟨t2, a1, b1⟩ := kk r u t T'.heap (locs ++ L) e1.symm (by rw [← e2]; exact X'.warmed.alike) hp hb k1 k2 k3 T' rfl X'
    exact ⟨t2, st t2 a1, b1⟩
  · obtain ⟨k1, k2, k3⟩ := vx_keep h0 e1 hS hAX hf hL hF
    obtain ⟨t2, a1, b1⟩ := kx E ce q u t T'.heap (locs ++ L) e1.symm (by rw [← e2]; exact X'.warmed.alike) hp hb k1 k2 k3 (by rw [e1]; exact hce) hcv hcl T' rfl X'
    exact ⟨t2, st.trans a1, b1⟩
theorem vx_calld {S SX : Type} {post : UInt64 → S → Prop} {px : SX → Prop} {B : S → State → Prop} {BX : String → SX → State → Prop} {AX : Nat → Prop} (hr : vx_Run p l e R s m args below meth c H locs cells slots mc ms (F0 m pc ls st0) rest (va_Qd post B A1 a) (vx_X px BX AX) free) (hS : va_S A0 H0 H locs) (hA : ∀ q, q < H.size → A1 q → A0 q) (hf : ∀ q, free q → A0 q) (hAX : ∀ q, q < H.size → AX q → A0 q)
    (kx : ∀ (E : String) (ce : Cell) (q9 : Addr) (u : SX) (t : State) (H1 : Heap) (locs1 : List Loc), t.heap = H1 → s.vm.Alike t.vm → px u → BX E u t → H.size ≤ H1.size → (∀ q : Nat, q < H.size → ¬ AX q → H1[q]? = H[q]?) → va_S A0 H0 H1 locs1 → H1[q9]? = some ce → ce.vm = .none → s.vm.findClass E = some ce.cls → vx_W p l e R s m args below meth c H1 locs1 (cells + mc) (slots + ms) Q (F0 m pc ls rest) q9)
    (kk : ∀ (r : UInt64) (u : S) (t : State) (H1 : Heap) (locs1 : List Loc), t.heap = H1 → s.vm.Alike t.vm → post r u → B u t → H.size ≤ H1.size → (∀ q : Nat, q < H.size → ¬ A1 q → H1[q]? = H[q]?) → va_S A0 H0 H1 locs1 → W p l e R s m args below meth c H1 locs1 (cells + mc) (slots + ms) Q (F0 m (pc + 3) ls (.double r :: rest))) : W p l e R s m args below meth c H locs cells slots Q (F0 m pc ls st0) := by
  intro T hT X
  rcases hr T hT X with ⟨v, st₀, t, T', L, h0, X', hL, e1, e2, ⟨⟨r, u, hv, hp, hb⟩, hF⟩, st⟩ | ⟨q, st₀, t, T', L, E, ce, h0, X', hL, e1, e2, ⟨u, hp, hb, hF⟩, hce, hcv, hcl, st⟩
  · cases hv
    obtain ⟨k1, k2, k3⟩ := vx_keep h0 e1 hS hA hf hL hF
    obtain ⟨t2, a1, b1⟩ := kk r u t T'.heap (locs ++ L) e1.symm (by rw [← e2]; exact X'.warmed.alike) hp hb k1 k2 k3 T' rfl X'
    exact ⟨t2, st t2 a1, b1⟩
  · obtain ⟨k1, k2, k3⟩ := vx_keep h0 e1 hS hAX hf hL hF
    obtain ⟨t2, a1, b1⟩ := kx E ce q u t T'.heap (locs ++ L) e1.symm (by rw [← e2]; exact X'.warmed.alike) hp hb k1 k2 k3 (by rw [e1]; exact hce) hcv hcl T' rfl X'
    exact ⟨t2, st.trans a1, b1⟩
theorem vx_callv {S SX : Type} {post : S → Prop} {px : SX → Prop} {B : S → State → Prop} {BX : String → SX → State → Prop} {AX : Nat → Prop} (hr : vx_Run p l e R s m args below meth c H locs cells slots mc ms (F0 m pc ls st0) rest (va_Qv post B A1 a) (vx_X px BX AX) free) (hS : va_S A0 H0 H locs) (hA : ∀ q, q < H.size → A1 q → A0 q) (hf : ∀ q, free q → A0 q) (hAX : ∀ q, q < H.size → AX q → A0 q)
    (kx : ∀ (E : String) (ce : Cell) (q9 : Addr) (u : SX) (t : State) (H1 : Heap) (locs1 : List Loc), t.heap = H1 → s.vm.Alike t.vm → px u → BX E u t → H.size ≤ H1.size → (∀ q : Nat, q < H.size → ¬ AX q → H1[q]? = H[q]?) → va_S A0 H0 H1 locs1 → H1[q9]? = some ce → ce.vm = .none → s.vm.findClass E = some ce.cls → vx_W p l e R s m args below meth c H1 locs1 (cells + mc) (slots + ms) Q (F0 m pc ls rest) q9)
    (kk : ∀ (u : S) (t : State) (H1 : Heap) (locs1 : List Loc), t.heap = H1 → s.vm.Alike t.vm → post u → B u t → H.size ≤ H1.size → (∀ q : Nat, q < H.size → ¬ A1 q → H1[q]? = H[q]?) → va_S A0 H0 H1 locs1 → W p l e R s m args below meth c H1 locs1 (cells + mc) (slots + ms) Q (F0 m (pc + 3) ls (rest))) : W p l e R s m args below meth c H locs cells slots Q (F0 m pc ls st0) := by
  intro T hT X
  rcases hr T hT X with ⟨v, st₀, t, T', L, h0, X', hL, e1, e2, ⟨⟨u, hv, hp, hb⟩, hF⟩, st⟩ | ⟨q, st₀, t, T', L, E, ce, h0, X', hL, e1, e2, ⟨u, hp, hb, hF⟩, hce, hcv, hcl, st⟩
  · cases hv
    obtain ⟨k1, k2, k3⟩ := vx_keep h0 e1 hS hA hf hL hF
    obtain ⟨t2, a1, b1⟩ := kk u t T'.heap (locs ++ L) e1.symm (by rw [← e2]; exact X'.warmed.alike) hp hb k1 k2 k3 T' rfl X'
    exact ⟨t2, st t2 a1, b1⟩
  · obtain ⟨k1, k2, k3⟩ := vx_keep h0 e1 hS hAX hf hL hF
    obtain ⟨t2, a1, b1⟩ := kx E ce q u t T'.heap (locs ++ L) e1.symm (by rw [← e2]; exact X'.warmed.alike) hp hb k1 k2 k3 (by rw [e1]; exact hce) hcv hcl T' rfl X'
    exact ⟨t2, st.trans a1, b1⟩
/-- caught by the row x of this method's table; the rows ahead don't take it -/
theorem vx_catch {own name : String} {E : String} {ce : Cell} {q : Addr} (hown : s.vm.findClass own = some m.cls) (pre : List ExceptionTableEntry) (x : ExceptionTableEntry) (suf : List ExceptionTableEntry) (hsplit : c.exceptionTable.toList = pre ++ x :: suf)
    (hpass : ∀ z ∈ pre, covers z pc = false ∨ (z.catchType ≠ 0 ∧ ∃ nm : String, (Cond.classLink own z.catchType nm).before args s = true ∧ va_Nc E nm s)) (hx : covers x pc = true) (h0 : x.catchType ≠ 0)
    (hlink : (Cond.classLink own x.catchType name).before args s = true) (hcast : (Cond.castable E name).before args s = true) (hcell : H[q]? = some ce) (hv : ce.vm = .none) (hcl : s.vm.findClass E = some ce.cls)
    (kk : W p l e R s m args below meth c H locs cells slots Q (F0 m x.handlerPc ls [.ref q])) : vx_W p l e R s m args below meth c H locs cells slots Q (F0 m pc ls rest) q := by
  intro T hT X
  have hpl : e.platform.magicAccessors = ({} : Platform).magicAccessors := by rw [X.admits.platform]
  obtain ⟨c3, c4, hc3, hc4, hasg⟩ := Cond.castable_spec hcast
  cases Option.some.inj (hc3.symm.trans hcl)
  obtain ⟨c5, hc5, hcl5⟩ := Cond.classLink_spec hown hlink e.platform hpl
  cases Option.some.inj (hc4.symm.trans hc5)
  obtain ⟨vm', X', st⟩ := X.thenCaughtThrough q (g := F0 m pc ls rest) rfl (Steps.refl _) (by rw [hT]; exact hcell) (by rw [hv]; rfl) (by obtain ⟨k9, h9, -⟩ := Vm.findClass_spec hcl; exact ⟨k9, h9⟩) pre x suf hsplit
    (fun z hz => by
      rcases hpass z hz with h | ⟨hz0, nm, hl1, hn1⟩
      · exact Or.inl h
      · obtain ⟨c6, hc6, hcl6⟩ := Cond.classLink_spec hown hl1 e.platform hpl
        obtain ⟨a8, b8, h1, h2, h3⟩ := hn1
        cases Option.some.inj (h1.symm.trans hcl)
        cases Option.some.inj (h2.symm.trans hc6)
        exact Or.inr ⟨hz0, _, hcl6, h3⟩) hx (Or.inr ⟨h0, c4, hcl5, hasg⟩)
  obtain ⟨t, a1, b1⟩ := kk (T.setVm vm') hT X'
  exact ⟨t, st.trans a1, b1⟩
end Rows
section Ends
variable {p : Program} {l : Launch} {e : Env} {R : Room} {s : State} {m : MethodId} {args : Array Value} {below : List Frame} {meth : Method} {c : Code} {H : Heap} {locs : List Loc} {cells slots : Nat} {Q : State → Prop}
variable {mc ms : Nat} {free : Addr → Prop} {A0 A1 : Nat → Prop} {H0 : Heap} {a : Array Value} {ls : Array Slot} {st0 rest : List Value}
variable {Qc : Array Value → State → Outcome → State → Prop} {XC : String → State → State → Prop}
/-- what a body that may throw owes at its end -/
def vx_MQ (below : List Frame) (Qc : Array Value → State → Outcome → State → Prop) (XC : String → State → State → Prop) (a : Array Value) (s : State) (mc ms : Nat) (free : Addr → Prop) : State → Prop := fun t =>
  ∃ o, t.status = .running ∧ Ended t below o ∧ vx_Q Qc XC mc ms free a s o t
theorem vx_ret {g : JFrame} {mc ms : Nat} (k : W p l e R s m args below meth c H locs cells slots (MQ below Qc args s mc ms free) g) : W p l e R s m args below meth c H locs cells slots (vx_MQ below Qc XC args s mc ms free) g := by
  intro T hT X
  obtain ⟨t, a1, o, b1, b2, b3, b4⟩ := k T hT X
  exact ⟨t, a1, o, b1, b2, Or.inl ⟨b3, b4⟩⟩
/-- not caught here: it goes on to the caller -/
theorem vx_widen {g : JFrame} {q : Addr} {k n : Nat} (h1 : cells ≤ k) (h2 : slots ≤ n) (kk : vx_W p l e R s m args below meth c H locs k n Q g q) : vx_W p l e R s m args below meth c H locs cells slots Q g q := fun T hT X => kk T hT (stand_widen X h1 h2)
theorem vx_out {pc : Nat} {E : String} {ce : Cell} {q : Addr} {mc ms : Nat} (hout : ∀ x ∈ c.exceptionTable.toList, covers x pc = false) (hlocks : meth.locks = false) (hcell : H[q]? = some ce) (hv : ce.vm = .none) (hcl : s.vm.findClass E = some ce.cls)
    (hx : ∀ t : State, t.heap = H → s.vm.Alike t.vm → XC E s t) (hf : ∀ z ∈ locs, free z.base) (hc : cells ≤ mc) (hs : slots ≤ ms) :
    vx_W p l e R s m args below meth c H locs cells slots (vx_MQ below Qc XC args s mc ms free) (F0 m pc ls rest) q := by
  intro T hT X
  obtain ⟨st1, hrun, hend, hW, hsm⟩ := X.leaveThrown q (g := F0 m pc ls rest) rfl rfl rfl hout hlocks
  have hcell9 : (T.setFrames (.throwing q :: below)).heap[q]? = some ce := by
    show T.heap[q]? = some ce
    rw [hT]; exact hcell
  exact ⟨_, st1, .threw q, hrun, hend, Or.inr ⟨q, rfl, E, ce, locs, hx _ hT hW.alike, hcell9, hv, hcl, hW, hsm.mono hc hs, hf⟩⟩
theorem vx_frame {U : State} {k n : Nat} (h : s.sameButNew ({ U with vm := s.vm } : State) locs k n) : s.heap.size ≤ U.heap.size ∧ ∀ q : Nat, q < s.heap.size → (∀ z ∈ locs, z.base ≠ q) → U.heap[q]? = s.heap[q]? := by
  obtain ⟨-, h2, -, -, -, h6⟩ := h
  refine ⟨h2, fun q hq hz => ?_⟩
  obtain ⟨c9, e1, e2, e3, e4⟩ := h6 q _ (Array.getElem?_eq_getElem hq)
  have hs : c9.slots = (s.heap[q]).slots := Array.ext_getElem? fun i => e4 i fun hm => hz _ hm rfl
  have h9 : c9 = s.heap[q] := by
    rw [hs] at e2
    exact e2
  have e5 : U.heap[q]? = some c9 := e1
  rw [e5, h9, Array.getElem?_eq_getElem hq]
/-- the words of a throw but the four that speak of the heap -/
def vx_no (w : Cond) : Bool := decide (w ≠ .isRef (.static Bundle.tN "UNASSIGNED_STACK" Bundle.steD)) && decide (w ≠ .isRef (.static Bundle.tN "SUPPRESSED_SENTINEL" Bundle.listD)) && decide (w ≠ .laysStatic Bundle.tN "UNASSIGNED_STACK" Bundle.steD) && decide (w ≠ .laysStatic Bundle.tN "SUPPRESSED_SENTINEL" Bundle.listD)
def vx_at0 (own : String) (ic : Nat) (X : String) (names : List String) : List Cond := (Bundle.ownAtoms0 own ic X names).filter vx_no
def vx_atS (own : String) (ic : Nat) (X : String) (names : List String) : List Cond := (Bundle.ownAtoms own ic X names).filter vx_no
/-- a word that the tables alone decide, or a good one -/
def vx_ot (w : Cond) : Bool := w.onTables || goodWord w
theorem vx_ot_at {args a' : Array Value} {s U : State} {w : Cond} (hW : s.WarmedH U.vm) (hvm : s.vm = U.vm) (hg : vx_ot w = true) (h : w.before args s = true) : w.before a' U = true := by
  simp only [vx_ot, Bool.or_eq_true] at hg
  rcases hg with hg | hg
  · exact va_tabs hg hvm h
  · exact word_at hW (good_of_word hg) h
/-- a list's words: the good ones out of the method's own list, the others by premises of their own -/
theorem vx_hat {args : Array Value} {s : State} {L B : List Cond} (h1 : ∀ w ∈ L.filter goodWord, w.before args s = true) (h2 : ∀ w ∈ L.filter (fun w => !goodWord w), w ∈ B) (h3 : ∀ w ∈ B, w.before args s = true) : ∀ w ∈ L, w.before args s = true := by
  intro w hw
  by_cases g : goodWord w = true
  · exact h1 w (List.mem_filter.mpr ⟨hw, g⟩)
  · refine h3 w (h2 w (List.mem_filter.mpr ⟨hw, ?_⟩))
    show (!goodWord w) = true
    cases hgw : goodWord w
    · rfl
    · exact absurd hgw g
theorem vx_c {args : Array Value} {s : State} {w : Cond} {B : List Cond} (h : w.before args s = true) (t : ∀ w ∈ B, w.before args s = true) : ∀ w' ∈ w :: B, w'.before args s = true := fun w' h' => (List.mem_cons.mp h').elim (fun e => by rw [e]; exact h) (t w')
theorem vx_n {args : Array Value} {s : State} : ∀ w ∈ ([] : List Cond), w.before args s = true := fun _ h => nomatch h
theorem vx_own {args : Array Value} {s : State} {L : List Cond} (h1 : ∀ w ∈ L.filter vx_no, w.before args s = true)
    (hU : (Cond.isRef (.static Bundle.tN "UNASSIGNED_STACK" Bundle.steD)).before args s = true) (hN : (Cond.isRef (.static Bundle.tN "SUPPRESSED_SENTINEL" Bundle.listD)).before args s = true)
    (lU : (Cond.laysStatic Bundle.tN "UNASSIGNED_STACK" Bundle.steD).before args s = true) (lN : (Cond.laysStatic Bundle.tN "SUPPRESSED_SENTINEL" Bundle.listD).before args s = true) : ∀ w ∈ L, w.before args s = true := by
  intro w hw
  by_cases e1 : w = .isRef (.static Bundle.tN "UNASSIGNED_STACK" Bundle.steD)
  · rw [e1]; exact hU
  · by_cases e2 : w = .isRef (.static Bundle.tN "SUPPRESSED_SENTINEL" Bundle.listD)
    · rw [e2]; exact hN
    · by_cases e3 : w = .laysStatic Bundle.tN "UNASSIGNED_STACK" Bundle.steD
      · rw [e3]; exact lU
      · by_cases e4 : w = .laysStatic Bundle.tN "SUPPRESSED_SENTINEL" Bundle.listD
        · rw [e4]; exact lN
        · exact h1 w (List.mem_filter.mpr ⟨hw, by unfold vx_no; rw [decide_eq_true e1, decide_eq_true e2, decide_eq_true e3, decide_eq_true e4]; rfl⟩)
/-- where a static field lies, its class's statics cell in H -/
def vx_L (C n d : String) (A : Nat → Prop) (U : State) (H : Heap) : Prop := ∃ (c : ClassId) (k : Class) (i : Nat) (f : Field) (a : Nat) (cell : Cell), U.vm.findClass C = some c ∧ U.fieldFound? C n d = some (c, k, i, f) ∧ f.isStatic = true ∧ k.statics = some a ∧ H[a]? = some cell ∧ cell.vm.isStatics = true ∧ cell.cls = c ∧ f.slot < cell.slots.size ∧ k.staticTypes[f.slot]? = some f.type ∧ ¬ A a
theorem vx_L.moved {C n d : String} {A : Nat → Prop} {u U : State} {H : Heap} (hvm : u.vm.Alike U.vm) (h : vx_L C n d A u H) : vx_L C n d A U H := by
  obtain ⟨c, k, i, f, a, cell, h1, h2, h3, h4, h5, h6, h7, h8, h9, h10⟩ := h
  obtain ⟨k', hi', he⟩ := State.fieldFound?_setVm hvm h2
  exact ⟨c, k', i, f, a, cell, by rw [hvm.findClass]; exact h1, hi', h3, by rw [he]; exact h4, h5, h6, h7, h8, by rw [he]; exact h9, h10⟩
theorem vx_L.kept {C n d : String} {A : Nat → Prop} {U : State} {H H1 : Heap} (h : vx_L C n d A U H) (hq : ∀ a : Nat, a < H.size → ¬ A a → H1[a]? = H[a]?) : vx_L C n d A U H1 := by
  obtain ⟨c, k, i, f, a, cell, h1, h2, h3, h4, h5, h6, h7, h8, h9, h10⟩ := h
  exact ⟨c, k, i, f, a, cell, h1, h2, h3, h4, by rw [hq a (Array.getElem?_eq_some_iff.mp h5).1 h10]; exact h5, h6, h7, h8, h9, h10⟩
theorem vx_L.narrow {C n d : String} {A B : Nat → Prop} {U : State} {H : Heap} (h : vx_L C n d A U H) (hAB : ∀ q, B q → A q) : vx_L C n d B U H := by
  obtain ⟨c, k, i, f, a, cell, h1, h2, h3, h4, h5, h6, h7, h8, h9, h10⟩ := h
  exact ⟨c, k, i, f, a, cell, h1, h2, h3, h4, h5, h6, h7, h8, h9, fun z => h10 (hAB _ z)⟩
theorem vx_L.word {C n d : String} {A : Nat → Prop} {s : State} {args : Array Value} (h : vx_L C n d A s s.heap) : (Cond.laysStatic C n d).before args s = true := by
  obtain ⟨c, k, i, f, a, cell, h1, h2, h3, h4, h5, h6, h7, h8, h9, -⟩ := h
  show (Cond.laysStatic C n d).holds args s none s [] = true
  exact Cond.laysStatic_of h1 h2 h3 h4 h5 h6 h7 h8 h9
/-- .. and what it holds: null or some reference -/
def vx_Zq (C n d : String) (A : Nat → Prop) (U : State) (H : Heap) : Prop := va_Zq C n d A U H ∧ vx_L C n d A U H
theorem vx_Zq.moved {C n d : String} {A : Nat → Prop} {u U : State} {H : Heap} (hvm : u.vm.Alike U.vm) (h : vx_Zq C n d A u H) : vx_Zq C n d A U H := ⟨va_Zq.moved hvm h.1, vx_L.moved hvm h.2⟩
theorem vx_Zq.kept {C n d : String} {A : Nat → Prop} {U : State} {H H1 : Heap} (h : vx_Zq C n d A U H) (hq : ∀ a : Nat, a < H.size → ¬ A a → H1[a]? = H[a]?) : vx_Zq C n d A U H1 := ⟨va_Zq.kept h.1 hq, vx_L.kept h.2 hq⟩
theorem vx_Zq.narrow {C n d : String} {A B : Nat → Prop} {U : State} {H : Heap} (h : vx_Zq C n d A U H) (hAB : ∀ q, B q → A q) : vx_Zq C n d B U H := ⟨va_Zq.narrow h.1 hAB, vx_L.narrow h.2 hAB⟩
theorem vx_Zqof {args : Array Value} {s : State} {C n d : String} {A : Nat → Prop} (hl : (Cond.laysStatic C n d).before args s = true) (hini : (Cond.initialized C).before args s = true) (h : (Cond.isRef (.static C n d)).before args s = true) (hA : ∀ a : Nat, a < s.heap.size → ¬ A a) : vx_Zq C n d A s s.heap := by
  refine ⟨va_Zqof hl hini h hA, ?_⟩
  obtain ⟨c, k, i, f, a, cell, h1, h2, h3, h4, h5, h6, h7, h8, h9⟩ := Cond.laysStatic_spec hl
  exact ⟨c, k, i, f, a, cell, h1, h2, h3, h4, h5, h6, h7, h8, h9, hA a (Array.getElem?_eq_some_iff.mp h5).1⟩
theorem vx_isRef {C n d : String} {v : Value} {A : Nat → Prop} {s : State} {args : Array Value} (h : va_Z C n d v A s s.heap) (hv : v.isRef = true) : (Cond.isRef (.static C n d)).before args s = true := by
  obtain ⟨cf, kf, fi, f, a, cell, h1, h2, h3, h4, h5, h6, h7, -⟩ := h
  have he : (Term.static C n d).eval args s none [] s = some v := by
    simp [Term.eval, State.fieldNamed?, h1, h2, h4, h5, h6, h7]
  simp only [Cond.before, Cond.holds, Cond.value, he]
  cases v <;> simp_all [Value.isRef]
theorem vx_isRefq {C n d : String} {A : Nat → Prop} {s : State} {args : Array Value} (h : va_Zq C n d A s s.heap) : (Cond.isRef (.static C n d)).before args s = true := by
  rcases h with h | ⟨t, h⟩
  · exact vx_isRef h rfl
  · exact vx_isRef h rfl
/-- the same frame, seen from here: as if the method were called anew in this heap -/
theorem vx_rebase {T : State} (X : Stand p l e R s m args below meth c T locs cells slots) {R' : Room} (hf : R'.frames ≤ R.frames) (hl : R'.locals ≤ R.locals) (hc : cells + R'.cells ≤ R.cells) (hs : slots + R'.slots ≤ R.slots) :
    Stand p l e R' ((T.setVm s.vm).setFrames (.invoking m args :: below)) m args below meth c T [] 0 0 := by
  have htop : (T.setVm s.vm).topJava?.isSome := X.here.top
  have hF : ((T.setVm s.vm).setFrames (.invoking m args :: below)).frames = .invoking m args :: below := State.frames_setFrames _ (State.cur_lt_of_top htop)
  obtain ⟨g₀, hg0⟩ := Option.isSome_iff_exists.mp htop
  obtain ⟨r, hr⟩ := State.topJava?_eq_some.mp hg0
  have hl9 : e.platform.stackLimits (T.setVm s.vm).me = e.platform.stackLimits s.me := X.limits
  have hb9 : (T.setVm s.vm).me.stackBytes = s.me.stackBytes := X.bytes
  refine ⟨X.admits, X.cas, X.clock, hF, ?_, X.hears, X.method, X.code, X.here, X.tail, X.warmed, ?_, ?_, ?_⟩
  · have h := X.room
    have hU : ((T.setVm s.vm).setFrames (.invoking m args :: below)).localsInUse = s.localsInUse := by
      rw [State.localsInUse_invoking hF (meth := meth) (c := c) X.method X.code, State.localsInUse_invoking X.frames X.method X.code]
    simp only [State.hasRoom, Bool.and_eq_true, decide_eq_true_eq] at h ⊢
    obtain ⟨⟨⟨⟨h1, h2, h3, h4, h5, h6⟩, h7⟩, h8⟩, h9⟩ := h
    rw [X.frames, List.length_cons] at h2 h3
    have q1 := X.heapSize
    have q2 := X.used
    simp only [hF, hU, List.length_cons, State.stackLimits_setFrames, State.stackBytes_setFrames, hl9, hb9]
    refine ⟨⟨⟨⟨by omega, by omega, by omega, by omega, by omega, h6⟩, ?_⟩, ?_⟩, X.book⟩
    · show T.heap.size + R'.cells ≤ e.platform.maxCells
      omega
    · show T.slotsUsed + R'.slots ≤ e.platform.maxSlots
      omega
  · rw [State.stackLimits_setFrames]; rfl
  · rw [State.stackBytes_setFrames]; rfl
  · refine ⟨?_, Nat.le_refl _, Nat.le_refl _, ?_, ?_, fun a c9 h9 => ⟨c9, h9, rfl, rfl, fun _ _ => rfl⟩⟩
    · obtain ⟨t, ht, -⟩ := State.frames_cons hr
      show T.setVm s.vm = { ((T.setVm s.vm).setFrames (.invoking m args :: below)).setFrames (T.setVm s.vm).frames with heap := T.heap, slotsUsed := T.slotsUsed }
      rw [State.setFrames_setFrames, State.setFrames_self ht]
      rfl
    · show T.slotsUsed = T.slotsUsed + ((T.heap.toList.drop T.heap.size).map (·.slots.size)).sum
      rw [List.drop_eq_nil_of_le (Nat.le_of_eq Array.length_toList)]
      rfl
    · show ((T.heap.toList.drop T.heap.size).map (·.slots.size)).sum ≤ 0
      rw [List.drop_eq_nil_of_le (Nat.le_of_eq Array.length_toList)]
      exact Nat.le_refl _
/-- 'throw new E()': new; dup; invokespecial; athrow -/
theorem vx_throw0 {cc : ByteArray} {pc : Nat} (hexec : p.tables.exec = Jvm.exec) (hb : c.code = cc) (hl : l.stackTraces = false) {own cls : String} {names : List String} {ik ic mc ms : Nat} {A : Nat → Prop}
    (hown : s.vm.findClass own = some m.cls) (hcls : Bundle.fit cls = true) (hnames : ∀ n ∈ names, Bundle.fit n = true)
    (hk : (Cond.classLink own ik cls).before args s = true) (hini : (Cond.initialized cls).before args s = true) (hat : ∀ w ∈ vx_at0 own ic cls names, w.before args s = true)
    (hgood : ∀ w ∈ Cond.classLink own ik cls :: Cond.initialized cls :: vx_at0 own ic cls names, vx_ot w = true)
    (hU : vx_Zq Bundle.tN "UNASSIGNED_STACK" Bundle.steD A s s.heap) (hN : vx_Zq Bundle.tN "SUPPRESSED_SENTINEL" Bundle.listD A s s.heap) (hS : va_S A s.heap H locs) (hsize : ls.size = c.maxLocals)
    (d0 : decode cc pc = .ok (.new ik, 3)) (d3 : decode cc (pc + 3) = .ok (.dup, 1)) (d4 : decode cc (pc + 4) = .ok (.invokespecial ic, 3)) (d7 : decode cc (pc + 7) = .ok (.athrow, 1))
    (hout : ∀ x ∈ c.exceptionTable.toList, covers x (pc + 7) = false)
    (hRframes : names.length + 3 < R.frames) (hRlocals : (rest.map fun v => v.category).sum + (13 * (names.length + 1) + 42) ≤ R.locals) (hRcells : cells + 1 ≤ R.cells) (hRslots : slots + 6 ≤ R.slots) (hlocks : meth.locks = false)
    (hx : ∀ t : State, s.vm.Alike t.vm → H.size ≤ t.heap.size → (∀ q : Nat, q < H.size → t.heap[q]? = H[q]?) → XC cls s t)
    (hf : ∀ z ∈ locs, free z.base) (hc : cells + 1 ≤ mc) (hs : slots + 6 ≤ ms) :
    W p l e R s m args below meth c H locs cells slots (vx_MQ below Qc XC args s mc ms free) (F0 m pc ls rest) := by
  intro T hT X
  have htr : e.platform.stackTraces = false := (show e.platform.stackTraces = l.stackTraces by rw [X.admits.platform]).trans hl
  have Y := vx_rebase X (R' := { frames := R.frames, locals := R.locals, cells := 1, slots := 6 }) (Nat.le_refl _) (Nat.le_refl _) hRcells hRslots
  obtain ⟨s', hA⟩ : ∃ z, z = (T.setVm s.vm).setFrames (.invoking m args :: below) := ⟨_, rfl⟩
  rw [← hA] at Y
  have hvm : s'.vm = s.vm := by rw [hA]; rfl
  have hhp : s'.heap = H := by rw [hA]; exact hT
  have hW0 : s.WarmedH s'.vm := by rw [hvm]; exact State.WarmedH.refl s
  have hat' : ∀ w ∈ vx_at0 own ic cls names, w.before args s' = true := fun w hw => vx_ot_at hW0 hvm.symm (hgood w (List.mem_cons_of_mem _ (List.mem_cons_of_mem _ hw))) (hat w hw)
  have hk' : (Cond.classLink own ik cls).before args s' = true := vx_ot_at hW0 hvm.symm (hgood _ List.mem_cons_self) hk
  have hini' : (Cond.initialized cls).before args s' = true := vx_ot_at hW0 hvm.symm (hgood _ (List.mem_cons_of_mem _ List.mem_cons_self)) hini
  have hU' : vx_Zq Bundle.tN "UNASSIGNED_STACK" Bundle.steD A s' s'.heap := by rw [hhp]; exact vx_Zq.moved hW0.alike (hU.kept hS.2.1)
  have hN' : vx_Zq Bundle.tN "SUPPRESSED_SENTINEL" Bundle.listD A s' s'.heap := by rw [hhp]; exact vx_Zq.moved hW0.alike (hN.kept hS.2.1)
  have h : ∀ w ∈ Bundle.ownAtoms0 own ic cls names, w.before args s' = true := vx_own hat' (vx_isRefq hU'.1) (vx_isRefq hN'.1) hU'.2.word hN'.2.word
  have hown' : s'.vm.findClass own = some m.cls := by rw [hvm]; exact hown
  have hins : (Cond.instantiable cls 6).before args s' = true := h _ (by simp [Bundle.ownAtoms0])
  obtain ⟨vm₁, cX, kX, hfX, hkX, -, -, X₁, st1⟩ := Y.newCold hexec (own := own) (C := cls) (index := ik) (n := 6) hown' hk' hins hini'
    (g := F0 m pc ls rest) rfl (by rw [hb]; exact d0) (Nat.le_refl _) (Nat.le_refl _)
  generalize hT1 : (T.setVm vm₁).pushCell { cls := cX, slots := kX.instanceTypes.map defaultValue, vm := .none } = T1 at X₁ st1
  have hcat : (Value.ref T.heap.size).category = 1 := rfl
  have hcellA : T1.heap[T.heap.size]? = some (freshCell cX kX) := by rw [← hT1]; exact State.heap_pushCell_size _ _
  have d3' : decode c.code (pc + 3) = .ok (.dup, 1) := by rw [hb]; exact d3
  obtain ⟨U, hsteps, hrun, hend, hW, hsame, ce, hce, hO⟩ := X₁.ctorThrow0 hexec htr (own := own) (cls := cls) (names := names) (ic := ic) hown' hcls hnames h (fun x hx => nomatch hx) hfX hkX hcellA (by rw [hhp, hT]; exact Nat.le_refl _)
    (g := { method := m, pc := pc + 4, locals := ls, stack := .ref T.heap.size :: .ref T.heap.size :: rest, locked := none }) rfl hsize rfl rfl (rest := rest) rfl
    (by rw [hb]; exact d4) (by rw [hb]; exact d7) hout hRframes (by simp only [List.map_cons, List.sum_cons, hcat]; omega) hlocks
  obtain ⟨f1, f2⟩ := vx_frame hsame
  rw [hhp] at f1 f2
  have hWs : s.WarmedH U.vm := State.WarmedH.trans hW0 hW
  have hcl : s.vm.findClass cls = some ce.cls := by
    have h9 := hO.cls
    rw [hvm] at h9
    exact h9
  have hall : s.sameButNew ({ U with vm := s.vm } : State) locs mc ms := by
    subst hA
    obtain ⟨e1, e2⟩ := hsame
    rw [State.setFrames_setFrames] at e1
    have h2 : (T.setVm s.vm).sameButNew ({ U with vm := s.vm } : State) [] (0 + 1) (0 + 6) := ⟨e1, e2⟩
    have h3 := X.same.trans h2
    rw [List.append_nil] at h3
    exact h3.mono hc hs
  refine ⟨U, ?_, .threw T.heap.size, hrun, hend, Or.inr ⟨T.heap.size, rfl, cls, ce, locs, hx U hWs.alike f1 (fun q hq => f2 q hq (fun z hz => nomatch hz)), hce, hO.vm, hcl, hWs, hall, hf⟩⟩
  refine st1 _ ?_
  show Steps p.tables e below (T1.setTop { method := m, pc := pc + 3, locals := ls, stack := .ref T.heap.size :: rest, locked := none }) _
  jvm_step X₁.here [X₁.here.top, hexec, d3', Value.category]
  exact hsteps
/-- 'throw new E("text")': new; dup; ldc; invokespecial; athrow -/
theorem vx_throwS {cc : ByteArray} {pc : Nat} (hexec : p.tables.exec = Jvm.exec) (hb : c.code = cc) (hl : l.stackTraces = false) {own cls text : String} {names : List String} {ik is ic mc ms sa : Nat} {A : Nat → Prop}
    (hown : s.vm.findClass own = some m.cls) (hcls : Bundle.fit cls = true) (hnames : ∀ n ∈ names, Bundle.fit n = true)
    (hk : (Cond.classLink own ik cls).before args s = true) (hini : (Cond.initialized cls).before args s = true) (hstr : vk_R own is text sa s) (hat : ∀ w ∈ vx_atS own ic cls names, w.before args s = true)
    (hgood : ∀ w ∈ Cond.classLink own ik cls :: Cond.initialized cls :: vx_atS own ic cls names, vx_ot w = true)
    (hU : vx_Zq Bundle.tN "UNASSIGNED_STACK" Bundle.steD A s s.heap) (hN : vx_Zq Bundle.tN "SUPPRESSED_SENTINEL" Bundle.listD A s s.heap) (hS : va_S A s.heap H locs) (hsize : ls.size = c.maxLocals)
    (d0 : decode cc pc = .ok (.new ik, 3)) (d3 : decode cc (pc + 3) = .ok (.dup, 1)) (d4 : decode cc (pc + 4) = .ok (.ldc is, 2)) (d6 : decode cc (pc + 6) = .ok (.invokespecial ic, 3)) (d9 : decode cc (pc + 9) = .ok (.athrow, 1))
    (hout : ∀ x ∈ c.exceptionTable.toList, covers x (pc + 9) = false)
    (hRframes : names.length + 3 < R.frames) (hRlocals : (rest.map fun v => v.category).sum + (13 * (names.length + 1) + 43) ≤ R.locals) (hRcells : cells + 1 ≤ R.cells) (hRslots : slots + 6 ≤ R.slots) (hlocks : meth.locks = false)
    (hx : ∀ t : State, s.vm.Alike t.vm → H.size ≤ t.heap.size → (∀ q : Nat, q < H.size → t.heap[q]? = H[q]?) → XC cls s t)
    (hf : ∀ z ∈ locs, free z.base) (hc : cells + 1 ≤ mc) (hs : slots + 6 ≤ ms) :
    W p l e R s m args below meth c H locs cells slots (vx_MQ below Qc XC args s mc ms free) (F0 m pc ls rest) := by
  intro T hT X
  have htr : e.platform.stackTraces = false := (show e.platform.stackTraces = l.stackTraces by rw [X.admits.platform]).trans hl
  have Y := vx_rebase X (R' := { frames := R.frames, locals := R.locals, cells := 1, slots := 6 }) (Nat.le_refl _) (Nat.le_refl _) hRcells hRslots
  obtain ⟨s', hA⟩ : ∃ z, z = (T.setVm s.vm).setFrames (.invoking m args :: below) := ⟨_, rfl⟩
  rw [← hA] at Y
  have hvm : s'.vm = s.vm := by rw [hA]; rfl
  have hhp : s'.heap = H := by rw [hA]; exact hT
  have hW0 : s.WarmedH s'.vm := by rw [hvm]; exact State.WarmedH.refl s
  have hat' : ∀ w ∈ vx_atS own ic cls names, w.before args s' = true := fun w hw => vx_ot_at hW0 hvm.symm (hgood w (List.mem_cons_of_mem _ (List.mem_cons_of_mem _ hw))) (hat w hw)
  have hk' : (Cond.classLink own ik cls).before args s' = true := vx_ot_at hW0 hvm.symm (hgood _ List.mem_cons_self) hk
  have hini' : (Cond.initialized cls).before args s' = true := vx_ot_at hW0 hvm.symm (hgood _ (List.mem_cons_of_mem _ List.mem_cons_self)) hini
  have hU' : vx_Zq Bundle.tN "UNASSIGNED_STACK" Bundle.steD A s' s'.heap := by rw [hhp]; exact vx_Zq.moved hW0.alike (hU.kept hS.2.1)
  have hN' : vx_Zq Bundle.tN "SUPPRESSED_SENTINEL" Bundle.listD A s' s'.heap := by rw [hhp]; exact vx_Zq.moved hW0.alike (hN.kept hS.2.1)
  have h : ∀ w ∈ Bundle.ownAtoms own ic cls names, w.before args s' = true := vx_own hat' (vx_isRefq hU'.1) (vx_isRefq hN'.1) hU'.2.word hN'.2.word
  have hown' : s'.vm.findClass own = some m.cls := by rw [hvm]; exact hown
  have hins : (Cond.instantiable cls 6).before args s' = true := h _ (by simp [Bundle.ownAtoms])
  obtain ⟨vm₁, cX, kX, hfX, hkX, -, -, X₁, st1⟩ := Y.newCold hexec (own := own) (C := cls) (index := ik) (n := 6) hown' hk' hins hini'
    (g := F0 m pc ls rest) rfl (by rw [hb]; exact d0) (Nat.le_refl _) (Nat.le_refl _)
  generalize hT1 : (T.setVm vm₁).pushCell { cls := cX, slots := kX.instanceTypes.map defaultValue, vm := .none } = T1 at X₁ st1
  have hcat : (Value.ref T.heap.size).category = 1 := rfl
  have hcellA : T1.heap[T.heap.size]? = some (freshCell cX kX) := by rw [← hT1]; exact State.heap_pushCell_size _ _
  have d3' : decode c.code (pc + 3) = .ok (.dup, 1) := by rw [hb]; exact d3
  have d4' : decode c.code (pc + 4) = .ok (.ldc is, 2) := by rw [hb]; exact d4
  have hstr' : vk_R own is text sa s' := vk_R.warm hW0 hstr
  obtain ⟨U, hsteps, hrun, hend, hW, hsame, ce, hce, hO⟩ := X₁.ctorThrowS hexec htr (own := own) (cls := cls) (names := names) (ic := ic) hown' hcls hnames h (fun x hx => nomatch hx) hfX hkX hcellA (by rw [hhp, hT]; exact Nat.le_refl _) (msg := .ref sa) rfl
    (g := { method := m, pc := pc + 6, locals := ls, stack := .ref sa :: .ref T.heap.size :: .ref T.heap.size :: rest, locked := none }) rfl hsize rfl rfl (rest := rest) rfl
    (by rw [hb]; exact d6) (by rw [hb]; exact d9) hout hRframes (by simp only [List.map_cons, List.sum_cons, hcat]; omega) hlocks
  obtain ⟨f1, f2⟩ := vx_frame hsame
  rw [hhp] at f1 f2
  have hWs : s.WarmedH U.vm := State.WarmedH.trans hW0 hW
  have hcl : s.vm.findClass cls = some ce.cls := by
    have h9 := hO.cls
    rw [hvm] at h9
    exact h9
  have hall : s.sameButNew ({ U with vm := s.vm } : State) locs mc ms := by
    subst hA
    obtain ⟨e1, e2⟩ := hsame
    rw [State.setFrames_setFrames] at e1
    have h2 : (T.setVm s.vm).sameButNew ({ U with vm := s.vm } : State) [] (0 + 1) (0 + 6) := ⟨e1, e2⟩
    have h3 := X.same.trans h2
    rw [List.append_nil] at h3
    exact h3.mono hc hs
  refine ⟨U, ?_, .threw T.heap.size, hrun, hend, Or.inr ⟨T.heap.size, rfl, cls, ce, locs, hx U hWs.alike f1 (fun q hq => f2 q hq (fun z hz => nomatch hz)), hce, hO.vm, hcl, hWs, hall, hf⟩⟩
  refine st1 _ ?_
  show Steps p.tables e below (T1.setTop { method := m, pc := pc + 3, locals := ls, stack := .ref T.heap.size :: rest, locked := none }) _
  jvm_step X₁.here [X₁.here.top, hexec, d3', Value.category]
  exact X₁.ldcString hexec (own := own) (text := text) (index := is) (a := sa) hown' hstr'.1 hstr'.2
    (g := { method := m, pc := pc + 4, locals := ls, stack := .ref T.heap.size :: .ref T.heap.size :: rest, locked := none }) rfl d4' _ hsteps
/-- 'throw new E("text")', the text by a wide index -/
theorem vx_throwSW {cc : ByteArray} {pc : Nat} (hexec : p.tables.exec = Jvm.exec) (hb : c.code = cc) (hl : l.stackTraces = false) {own cls text : String} {names : List String} {ik is ic mc ms sa : Nat} {A : Nat → Prop}
    (hown : s.vm.findClass own = some m.cls) (hcls : Bundle.fit cls = true) (hnames : ∀ n ∈ names, Bundle.fit n = true)
    (hk : (Cond.classLink own ik cls).before args s = true) (hini : (Cond.initialized cls).before args s = true) (hstr : vk_R own is text sa s) (hat : ∀ w ∈ vx_atS own ic cls names, w.before args s = true)
    (hgood : ∀ w ∈ Cond.classLink own ik cls :: Cond.initialized cls :: vx_atS own ic cls names, vx_ot w = true)
    (hU : vx_Zq Bundle.tN "UNASSIGNED_STACK" Bundle.steD A s s.heap) (hN : vx_Zq Bundle.tN "SUPPRESSED_SENTINEL" Bundle.listD A s s.heap) (hS : va_S A s.heap H locs) (hsize : ls.size = c.maxLocals)
    (d0 : decode cc pc = .ok (.new ik, 3)) (d3 : decode cc (pc + 3) = .ok (.dup, 1)) (d4 : decode cc (pc + 4) = .ok (.ldc_w is, 3)) (d7 : decode cc (pc + 7) = .ok (.invokespecial ic, 3)) (d10 : decode cc (pc + 10) = .ok (.athrow, 1))
    (hout : ∀ x ∈ c.exceptionTable.toList, covers x (pc + 10) = false)
    (hRframes : names.length + 3 < R.frames) (hRlocals : (rest.map fun v => v.category).sum + (13 * (names.length + 1) + 43) ≤ R.locals) (hRcells : cells + 1 ≤ R.cells) (hRslots : slots + 6 ≤ R.slots) (hlocks : meth.locks = false)
    (hx : ∀ t : State, s.vm.Alike t.vm → H.size ≤ t.heap.size → (∀ q : Nat, q < H.size → t.heap[q]? = H[q]?) → XC cls s t)
    (hf : ∀ z ∈ locs, free z.base) (hc : cells + 1 ≤ mc) (hs : slots + 6 ≤ ms) :
    W p l e R s m args below meth c H locs cells slots (vx_MQ below Qc XC args s mc ms free) (F0 m pc ls rest) := by
  intro T hT X
  have htr : e.platform.stackTraces = false := (show e.platform.stackTraces = l.stackTraces by rw [X.admits.platform]).trans hl
  have Y := vx_rebase X (R' := { frames := R.frames, locals := R.locals, cells := 1, slots := 6 }) (Nat.le_refl _) (Nat.le_refl _) hRcells hRslots
  obtain ⟨s', hA⟩ : ∃ z, z = (T.setVm s.vm).setFrames (.invoking m args :: below) := ⟨_, rfl⟩
  rw [← hA] at Y
  have hvm : s'.vm = s.vm := by rw [hA]; rfl
  have hhp : s'.heap = H := by rw [hA]; exact hT
  have hW0 : s.WarmedH s'.vm := by rw [hvm]; exact State.WarmedH.refl s
  have hat' : ∀ w ∈ vx_atS own ic cls names, w.before args s' = true := fun w hw => vx_ot_at hW0 hvm.symm (hgood w (List.mem_cons_of_mem _ (List.mem_cons_of_mem _ hw))) (hat w hw)
  have hk' : (Cond.classLink own ik cls).before args s' = true := vx_ot_at hW0 hvm.symm (hgood _ List.mem_cons_self) hk
  have hini' : (Cond.initialized cls).before args s' = true := vx_ot_at hW0 hvm.symm (hgood _ (List.mem_cons_of_mem _ List.mem_cons_self)) hini
  have hU' : vx_Zq Bundle.tN "UNASSIGNED_STACK" Bundle.steD A s' s'.heap := by rw [hhp]; exact vx_Zq.moved hW0.alike (hU.kept hS.2.1)
  have hN' : vx_Zq Bundle.tN "SUPPRESSED_SENTINEL" Bundle.listD A s' s'.heap := by rw [hhp]; exact vx_Zq.moved hW0.alike (hN.kept hS.2.1)
  have h : ∀ w ∈ Bundle.ownAtoms own ic cls names, w.before args s' = true := vx_own hat' (vx_isRefq hU'.1) (vx_isRefq hN'.1) hU'.2.word hN'.2.word
  have hown' : s'.vm.findClass own = some m.cls := by rw [hvm]; exact hown
  have hins : (Cond.instantiable cls 6).before args s' = true := h _ (by simp [Bundle.ownAtoms])
  obtain ⟨vm₁, cX, kX, hfX, hkX, -, -, X₁, st1⟩ := Y.newCold hexec (own := own) (C := cls) (index := ik) (n := 6) hown' hk' hins hini'
    (g := F0 m pc ls rest) rfl (by rw [hb]; exact d0) (Nat.le_refl _) (Nat.le_refl _)
  generalize hT1 : (T.setVm vm₁).pushCell { cls := cX, slots := kX.instanceTypes.map defaultValue, vm := .none } = T1 at X₁ st1
  have hcat : (Value.ref T.heap.size).category = 1 := rfl
  have hcellA : T1.heap[T.heap.size]? = some (freshCell cX kX) := by rw [← hT1]; exact State.heap_pushCell_size _ _
  have d3' : decode c.code (pc + 3) = .ok (.dup, 1) := by rw [hb]; exact d3
  have d4' : decode c.code (pc + 4) = .ok (.ldc_w is, 3) := by rw [hb]; exact d4
  have hstr' : vk_R own is text sa s' := vk_R.warm hW0 hstr
  obtain ⟨U, hsteps, hrun, hend, hW, hsame, ce, hce, hO⟩ := X₁.ctorThrowS hexec htr (own := own) (cls := cls) (names := names) (ic := ic) hown' hcls hnames h (fun x hx => nomatch hx) hfX hkX hcellA (by rw [hhp, hT]; exact Nat.le_refl _) (msg := .ref sa) rfl
    (g := { method := m, pc := pc + 7, locals := ls, stack := .ref sa :: .ref T.heap.size :: .ref T.heap.size :: rest, locked := none }) rfl hsize rfl rfl (rest := rest) rfl
    (by rw [hb]; exact d7) (by rw [hb]; exact d10) hout hRframes (by simp only [List.map_cons, List.sum_cons, hcat]; omega) hlocks
  obtain ⟨f1, f2⟩ := vx_frame hsame
  rw [hhp] at f1 f2
  have hWs : s.WarmedH U.vm := State.WarmedH.trans hW0 hW
  have hcl : s.vm.findClass cls = some ce.cls := by
    have h9 := hO.cls
    rw [hvm] at h9
    exact h9
  have hall : s.sameButNew ({ U with vm := s.vm } : State) locs mc ms := by
    subst hA
    obtain ⟨e1, e2⟩ := hsame
    rw [State.setFrames_setFrames] at e1
    have h2 : (T.setVm s.vm).sameButNew ({ U with vm := s.vm } : State) [] (0 + 1) (0 + 6) := ⟨e1, e2⟩
    have h3 := X.same.trans h2
    rw [List.append_nil] at h3
    exact h3.mono hc hs
  refine ⟨U, ?_, .threw T.heap.size, hrun, hend, Or.inr ⟨T.heap.size, rfl, cls, ce, locs, hx U hWs.alike f1 (fun q hq => f2 q hq (fun z hz => nomatch hz)), hce, hO.vm, hcl, hWs, hall, hf⟩⟩
  refine st1 _ ?_
  show Steps p.tables e below (T1.setTop { method := m, pc := pc + 3, locals := ls, stack := .ref T.heap.size :: rest, locked := none }) _
  jvm_step X₁.here [X₁.here.top, hexec, d3', Value.category]
  exact X₁.ldcStringW hexec (own := own) (text := text) (index := is) (a := sa) hown' hstr'.1 hstr'.2
    (g := { method := m, pc := pc + 4, locals := ls, stack := .ref T.heap.size :: .ref T.heap.size :: rest, locked := none }) rfl d4' _ hsteps
end Ends
section Bodies
variable {l : Launch}
theorem vx_ofW {y : MethodName} {ws ws' : List Cond} {rm : Room} {Pc : Array Value → State → Prop} {Qc : Array Value → State → Outcome → State → Prop} {XC : String → State → State → Prop} {mc ms : Nat} {free : Addr → Prop} {cc : ByteArray} {maxL : Nat} {ret : Option FieldType}
    (hy : plainName y.cls = true) (hw : ws = Cond.code y cc maxL ret :: ws')
    (body : ∀ p e s m args below meth c s₁, BodyLoose p l y (headSpec ws rm) cc maxL ret e s m args below meth c s₁ → c.maxLocals = maxL → (∀ x ∈ c.exceptionTable.toList, False) → Pc args s →
      W p l e (headSpec ws rm).room s m args below meth c s.heap [] 0 0 (vx_MQ below Qc XC args s mc ms free) (entryFrame m args maxL)) : vx_Met l y ws rm Pc Qc XC mc ms free := by
  refine MetFree.of_bodyS (code := cc) (maxLocals := maxL) (ret := ret) hy ?_ ?_
  · intro args s m h hn
    obtain ⟨meth, c, h1, h2, h3, h4, h5, h6, -, -⟩ := Cond.code_spec hn (atoms_spec (ws := ws) h _ (by rw [hw]; exact List.mem_cons_self))
    exact ⟨meth, c, h1, h2, h3, h4, h5, h6⟩
  · intro p e s m args below meth c s₁ B hml hP _
    have hh0 : s₁.heap = s.heap := by rw [B.state]; rfl
    have ht : ∀ x ∈ c.exceptionTable.toList, False := by
      obtain ⟨meth9, c9, h1, h2, -, -, -, -, h7, -⟩ := Cond.code_spec B.named (atoms_spec (ws := ws) B.pre _ (by rw [hw]; exact List.mem_cons_self))
      cases Option.some.inj (h1.symm.trans B.method)
      cases Option.some.inj (h2.symm.trans (Stand.of_body B).code)
      intro x hx
      rw [Array.isEmpty_iff.mp h7] at hx
      cases hx
    obtain ⟨t, a1, o, b1, b2, b3⟩ := body p e s m args below meth c s₁ B hml ht hP s₁ hh0 (Stand.of_body B)
    exact ⟨t, o, a1, b1, b2, b3⟩
/-- the table of a body with handlers -/
theorem vx_table {p : Program} {x y : MethodName} {S : Spec} {cc bytes : ByteArray} {maxL maxL' : Nat} {ret ret' : Option FieldType} {e : Env} {s s₁ : State} {m : MethodId} {args : Array Value} {below : List Frame} {meth : Method} {c : Code} {hh : List (Nat × Nat × Nat × Nat)}
    (B : BodyLoose p l y S cc maxL ret e s m args below meth c s₁) (h : (Cond.codeWith y bytes maxL' ret' hh).before args s = true) : c.exceptionTable.toList = tableOf hh := by
  obtain ⟨m9, meth9, c9, hn9, h1, h2, -, -, h6, -⟩ := Cond.codeWith_spec h
  cases Option.some.inj (hn9.symm.trans B.named)
  cases Option.some.inj (h1.symm.trans B.method)
  cases Option.some.inj (h2.symm.trans (Stand.of_body B).code)
  rw [← h6, table_eq]
end Bodies
end VXA
/-! ===== END ===== -/
/-! ===== BEGIN a static call of a method with an exception table ===== -/
section VXS
variable {p : Program} {l : Launch} {e : Env} {R : Room} {s : State} {m : MethodId} {args : Array Value} {below : List Frame} {meth : Method} {c : Code} {T : State} {H : Heap} {locs : List Loc} {cells slots : Nat}
abbrev vx_CSW (R : Room) (s : State) (args : Array Value) (own : String) (index : Nat) (y : MethodName) (bytes : ByteArray) (maxL : Nat) (ret : Option FieldType) (hh : List (Nat × Nat × Nat × Nat)) (ws : List Cond) (rm : Room) (mc ms n : Nat) : Prop :=
  (rm.cells = mc ∧ rm.slots = ms ∧ rm.frames + 1 ≤ R.frames ∧ 8 + (maxL + 11) + rm.locals ≤ R.locals ∧ (∀ w ∈ ws, ∀ (a' : Array Value) (U : State), s.WarmedH U.vm → w.before a' U = true) ∧ Cond.codeWith y bytes maxL ret hh ∈ ws) ∧
  (Cond.codeWith y bytes maxL ret hh).before args s = true ∧ (Cond.initialized y.cls).before args s = true ∧ (y.cls ≠ "java/lang/invoke/MethodHandle" ∧ y.cls ≠ "java/lang/invoke/VarHandle") ∧
  (∀ sig, parseMethodDescriptor y.desc = some sig → n = sig.parameters.length) ∧ (Cond.methodLink own index y).before args s = true ∧ (Cond.static y).before args s = true
theorem vx_cwSW {own : String} {index maxL mc ms : Nat} {y : MethodName} {bytes : ByteArray} {ret : Option FieldType} {hh : List (Nat × Nat × Nat × Nat)} {Ts ws ws' : List Cond} {rm : Room} (n : Nat) (ht : ∀ w ∈ Ts, w.before args s = true) (hT : GoodIn Ts (va_wsS own index y ws)) (hw : ws = Cond.codeWith y bytes maxL ret hh :: ws') (hrc : rm.cells = mc) (hrs : rm.slots = ms)
    (hd : y.cls ≠ "java/lang/invoke/MethodHandle" ∧ y.cls ≠ "java/lang/invoke/VarHandle" ∧ (parseMethodDescriptor y.desc).map (fun d => d.parameters.length) = some n) (hR : rm.frames + 1 ≤ R.frames ∧ 8 + (maxL + 11) + rm.locals ≤ R.locals) :
    vx_CSW R s args own index y bytes maxL ret hh ws rm mc ms n := by
  have ok : ∀ w ∈ va_wsS own index y ws, w.before args s = true := fun w h => ht w (hT w h).1
  have hG : GoodIn Ts ws := fun w h => hT w (by unfold va_wsS; exact List.mem_append_right _ h)
  have hc : Cond.codeWith y bytes maxL ret hh ∈ ws := by rw [hw]; exact List.mem_cons_self
  refine ⟨⟨hrc, hrs, hR.1, hR.2, pay_in ht hG, hc⟩, ht _ (hG _ hc).1, ok _ (by simp [va_wsS]), ⟨hd.1, hd.2.1⟩, fun sig h => ?_, ok _ (by simp [va_wsS]), ok _ (by simp [va_wsS])⟩
  have h2 := hd.2.2
  rw [h] at h2
  exact (Option.some.inj h2).symm
theorem vx_callSW (X : Stand p l e R s m args below meth c T locs cells slots) (hexec : p.tables.exec = Jvm.exec) {own : String} {index : Nat} {y : MethodName} {bytes : ByteArray} {maxL : Nat} {ret : Option FieldType} {hh : List (Nat × Nat × Nat × Nat)}
    (hown : s.vm.findClass own = some m.cls) (hlink : (Cond.methodLink own index y).before args s = true) (hstat : (Cond.static y).before args s = true) (hinit : (Cond.initialized y.cls).before args s = true)
    (hcode : (Cond.codeWith y bytes maxL ret hh).before args s = true) (hy : y.cls ≠ "java/lang/invoke/MethodHandle" ∧ y.cls ≠ "java/lang/invoke/VarHandle")
    {W9 : Nat} {Pre : Pt → Array Value → Prop} {Post : Pt → Array Value → Option Value → Pt → Prop} (hK : Back l R p e below s args y 3 W9 Pre Post)
    {g : JFrame} (hg : g.method = m) (hsize : g.locals.size = c.maxLocals) {argsL rest : List Value} (hlen : ∀ sig, parseMethodDescriptor y.desc = some sig → argsL.length = sig.parameters.length)
    (hstack : g.stack = argsL.reverse ++ rest) (hW : 2 * g.monitorRoom + (rest.map fun v => v.category).sum ≤ W9) (hdg : decode c.code g.pc = .ok (.invokestatic index, 3))
    (hpre : ∀ vm₁, s.WarmedH vm₁ → Pre ⟨T.setVm vm₁, locs, cells, slots⟩ argsL.toArray) :
    ∃ (v : Option Value) (vm₁ : Vm) (B : Pt), s.WarmedH vm₁ ∧ Stand p l e R s m args below meth c B.U B.locs B.cells B.slots ∧ Post ⟨T.setVm vm₁, locs, cells, slots⟩ argsL.toArray v B ∧
      ∀ target, Steps p.tables e below (B.U.setTop { g with pc := g.pc + 3, stack := v.toList ++ rest }) target → Steps p.tables e below (T.setTop g) target := by
  obtain ⟨mk, methM, cM, hnamed, hmethM, -, -, -, -, -, -, hsigM⟩ := Cond.codeWith_spec hcode
  have hstatic : methM.isStatic = true := Cond.static_spec hnamed hmethM hstat
  obtain ⟨kP, hkP, -⟩ := className_of_methodNamed hnamed
  have hinitP : kP.init = .initialized := Cond.initialized_spec (findClass_of_methodNamed hnamed) hkP hinit
  obtain ⟨vm₁, X₁, hstep₁⟩ := X.invokestatic hexec hown hlink hnamed hmethM hstatic hkP hinitP hy (g := g) hg (argsL := argsL) (rest := rest) (hlen _ hsigM) hstack hdg
  obtain ⟨v, B, X', hpost, hsteps⟩ := hK m meth c ⟨T.setVm vm₁, locs, cells, slots⟩ { g with stack := rest } (.invokestatic index) mk argsL.toArray X₁ hg hsize hdg hW (X₁.named hnamed) (hpre vm₁ X₁.warmed)
  exact ⟨v, vm₁, B, X₁.warmed, X', hpost, fun target h => hstep₁ _ fun acts => by rw [doInvoke_state]; exact hsteps.trans h⟩
theorem vx_runSW {y : MethodName} {bytes cc : ByteArray} {maxL nL mc ms n index : Nat} {ret : Option FieldType} {hh : List (Nat × Nat × Nat × Nat)} {ws : List Cond} {rm : Room} {Pc : Array Value → State → Prop} {Qc : Array Value → State → Outcome → State → Prop} {free : Addr → Prop} {Ts : List Cond} {own : String} {As rest : List Value} {g : JFrame}
    (S : CallFix p m c cc nL s args Ts own) (hM : Met l y ws rm Pc Qc mc ms free) (cw : vx_CSW R s args own index y bytes maxL ret hh ws rm mc ms n) (hp : PreS s H Pc As)
    (hg : g.method = m) (hn : As.length = n) (hsize : g.locals.size = nL) (hstack : g.stack = As.reverse ++ rest) (hW : 2 * g.monitorRoom + (rest.map fun v => v.category).sum ≤ 8) (hdg : decode cc g.pc = .ok (.invokestatic index, 3)) (hf : cells + mc ≤ R.cells ∧ slots + ms ≤ R.slots) :
    va_Run p l e R s m args below meth c H locs cells slots mc ms g rest (Qc As.toArray) (free) := by
  obtain ⟨⟨hrc, hrs, hfr, hlo, hws, hcw⟩, hcode, hini, hy, hlen, hl, hstt⟩ := cw
  have hK : Back l R p e below s args y 3 8 (PreOf R mc ms Pc) (PostOf Qc mc ms free) := va_backW (hh := hh) (bytes := bytes) (maxL := maxL) (ret := ret) hM hp.1 hrc hrs hfr hlo hws hcw (fun a' U hW => word_at hW (Or.inl (by first | rfl | simp [Cond.onTables, Cond.keeps, Cond.steady])) hini)
  obtain ⟨hx, hb, hml, ho, -⟩ := S
  intro T hT X
  obtain ⟨v, vm₁, ⟨U', l2, c2, s2⟩, hW₁, X', ⟨g', mk, t, L, e1, e2, hq, h1, hL, h2, h3⟩, st⟩ := vx_callSW X hx (hh := hh) (bytes := bytes) (maxL := maxL) (ret := ret) ho hl hstt hini hcode hy hK hg (hsize.trans hml.symm) (argsL := As) (rest := rest) (fun sig h => hn.trans (hlen sig h)) hstack hW (by rw [hb]; exact hdg)
    (fun vm₁ hW₁ => ⟨hf.1, hf.2, hp.2 (T.setVm vm₁) hT hW₁⟩)
  dsimp only [Pt.U, Pt.locs, Pt.cells, Pt.slots] at X' e1 e2 h1 h2 h3 st
  subst h1; subst h2; subst h3
  exact ⟨v, (T.setVm vm₁).calling g' mk As.toArray, t, U', L, hT, X', hL, e1, e2, hq, st⟩
/-- not caught here, past rows that name other classes: it goes on to the caller -/
theorem vx_outP {p : Program} {l : Launch} {e : Env} {R : Room} {s : State} {m : MethodId} {args : Array Value} {below : List Frame} {meth : Method} {c : Code} {H : Heap} {locs : List Loc} {cells slots : Nat} {free : Addr → Prop} {ls : Array Slot} {rest : List Value} {Qc : Array Value → State → Outcome → State → Prop} {XC : String → State → State → Prop}
    {pc : Nat} {own E : String} {ce : Cell} {q : Addr} {mc ms : Nat} (hown : s.vm.findClass own = some m.cls) (hlocks : meth.locks = false)
    (hpass : ∀ z ∈ c.exceptionTable.toList, covers z pc = false ∨ (z.catchType ≠ 0 ∧ ∃ nm : String, (Cond.classLink own z.catchType nm).before args s = true ∧ va_Nc E nm s)) (hcell : H[q]? = some ce) (hv : ce.vm = .none) (hcl : s.vm.findClass E = some ce.cls)
    (hx : ∀ t : State, t.heap = H → s.vm.Alike t.vm → XC E s t) (hf : ∀ z ∈ locs, free z.base) (hc : cells ≤ mc) (hs : slots ≤ ms) :
    vx_W p l e R s m args below meth c H locs cells slots (vx_MQ below Qc XC args s mc ms free) (F0 m pc ls rest) q := by
  intro T hT X
  have hpl : e.platform.magicAccessors = ({} : Platform).magicAccessors := by rw [X.admits.platform]
  obtain ⟨vm', hW', X', st⟩ := X.outThrough hlocks q (g := F0 m pc ls rest) rfl rfl rfl (cell := ce) (by rw [hT]; exact hcell) (by rw [hv]; rfl)
    (by obtain ⟨k9, h9, -⟩ := Vm.findClass_spec hcl; exact ⟨k9, h9⟩) (fun z hz => by
      rcases hpass z hz with h | ⟨hz0, nm, hl1, hn1⟩
      · exact Or.inl h
      · obtain ⟨c6, hc6, hcl6⟩ := Cond.classLink_spec hown hl1 e.platform hpl
        obtain ⟨a8, b8, h1, h2, h3⟩ := hn1
        cases Option.some.inj (h1.symm.trans hcl)
        cases Option.some.inj (h2.symm.trans hc6)
        exact Or.inr ⟨hz0, _, hcl6, h3⟩)
  obtain ⟨g₀, hfr⟩ := X'.frames_eq
  have hcell9 : ((T.setVm vm').setFrames (.throwing q :: below)).heap[q]? = some ce := by
    show T.heap[q]? = some ce
    rw [hT]; exact hcell
  have hend : Ended ((T.setVm vm').setFrames (.throwing q :: below)) below (.threw q) := State.frames_setFrames _ (State.cur_lt_of_frames hfr)
  refine ⟨(T.setVm vm').setFrames (.throwing q :: below), ?_, .threw q, X'.here.running, hend, Or.inr ⟨q, rfl, E, ce, locs, hx _ hT (X'.ends _).1.alike, hcell9, hv, hcl, (X'.ends _).1, (X'.ends _).2.mono hc hs, hf⟩⟩
  rw [X.pushThrowing_eq]
  exact st
/-- a thing of a world lies in the heap -/
theorem vx_lt {D : va_G} {cl : List vw_C} {ws : va_W} {H1 : Heap} (h : va_P D cl ws H1) {k : Nat} {q : Nat × va_E} (hk : ws[k]? = some q) : q.1 < H1.size := (h k q hk).lt
end VXS
/-! ===== END ===== -/
/-! ===== BEGIN methods with a table of their own: called by a name, returning or throwing ===== -/
section VXH
/-! vx_backW, vx_callVX, vx_callSX, vx_callVW, vx_runVW, vx_runVX, vx_runSX, vx_ofWH follow the same proofs as their sisters above (Free/Laws.lean, Shelf42/LK1.lean); vx_outP calls Shelf42/NT130.lean (outThrough). -/
section
variable {l : Launch} {R : Room} {p : Program} {e : Env} {below : List Frame} {s : State} {sargs : Array Value} {y : MethodName} {len W9 : Nat}
theorem vx_backW {ws : List Cond} {rm : Room} {Pc : Array Value → State → Prop} {Qc : Array Value → State → Outcome → State → Prop} {XC : String → State → State → Prop} {mc ms : Nat} {free : Addr → Prop} {bytes : ByteArray} {maxL : Nat} {ret : Option FieldType} {hh : List (Nat × Nat × Nat × Nat)}
    (hM : vx_Met l y ws rm Pc Qc XC mc ms free) (hblind : FrameBlind Pc) (hrc : rm.cells = mc) (hrs : rm.slots = ms)
    (hframes : rm.frames + 1 ≤ R.frames) (hlocals : W9 + (maxL + 11) + rm.locals ≤ R.locals)
    (hws : ∀ w ∈ ws, ∀ a' U, s.WarmedH U.vm → w.before a' U = true) (hcode : Cond.codeWith y bytes maxL ret hh ∈ ws) (hinit : ∀ a' U, s.WarmedH U.vm → (Cond.initialized y.cls).before a' U = true) :
    vx_Back l R p e below s sargs y len W9 (PreOf R mc ms Pc) (PostOf Qc mc ms free) (vx_Post XC mc ms free) := by
  intro m meth c A g ig mk a X hg hsize hdg hW hn hp
  have h1 : (headSpec ws rm).pre.before a A.U = true := atoms_intro fun w hw => hws w hw _ _ X.warmed
  have h2 : (Cond.codeWith y bytes maxL ret hh).before a A.U = true := hws _ hcode _ _ X.warmed
  have h3 : (Cond.initialized y.cls).before a A.U = true := hinit _ _ X.warmed
  have h4 : A.cells + (headSpec ws rm).room.cells ≤ R.cells := by rw [show (headSpec ws rm).room.cells = mc from hrc]; exact hp.1
  have h5 : A.slots + (headSpec ws rm).room.slots ≤ R.slots := by rw [show (headSpec ws rm).room.slots = ms from hrs]; exact hp.2.1
  have hPc : Pc a (A.U.calling g mk a) := hblind _ _ _ _ hp.2.2
  obtain ⟨U, Ls, c0, s0⟩ := A
  dsimp only [Pt.U, Pt.locs, Pt.cells, Pt.slots] at h1 h2 h3 h4 h5 X hn hPc ⊢
  obtain ⟨m9, methY, cY, hn9, hmY, hcY, -, hlY, -⟩ := Cond.codeWith_spec h2
  cases Option.some.inj (hn9.symm.trans hn)
  obtain ⟨kY, hkY, -⟩ := className_of_methodNamed hn
  have hinitY : kY.init = .initialized := Cond.initialized_spec (findClass_of_methodNamed hn) hkY h3
  have h : At U g.method c below := by rw [hg]; exact X.here
  have hlocals9 : W9 + (maxL + 11) + (headSpec ws rm).room.locals ≤ R.locals := hlocals
  have happ : (headSpec ws rm).appliesLoose y e.platform (U.calling g mk a) = true :=
    Spec.appliesLoose_calling (g := g) h hdg hn hkY hinitY
      (X.room_calling (g := g) (R' := (headSpec ws rm).room) hsize hmY hcY hframes (by rw [hlY]; omega) h4 h5) h1
  obtain ⟨mid, hmid⟩ := h.above
  have hfr : (U.setTop g).frames = (.java g :: mid) ++ below := by rw [State.frames_setTop' g h.top, hmid]; rfl
  obtain ⟨o, s₂, hsteps, -, hend, hq⟩ := Steps.callFree hM p X.admits X.cas X.clock (acts := []) hfr happ hPc trivial
  have hq' : vx_Q Qc XC mc ms free a (U.calling g mk a) o s₂ := hq
  rw [State.frames_setTop' g h.top] at hend
  obtain ⟨g₀, hg0⟩ := Option.isSome_iff_exists.mp h.top
  obtain ⟨r, hr⟩ := State.topJava?_eq_some.mp hg0
  have hr' : (({ U with heap := s₂.heap, slotsUsed := s₂.slotsUsed } : State).setVm s₂.vm).frames = .java g₀ :: r := hr
  rcases hq' with ⟨hqc, L, hfe, hL⟩ | ⟨q, rfl, E, ce, L, hx, hce, hcv, hcl, hW₂, hsm, hL⟩
  · obtain ⟨⟨v, rfl⟩, hW₂, e2, q2, q3, q4, q5, q6⟩ := id hfe
    have e3 : s₂ = ({ (U.calling g mk a).setFrames s₂.frames with heap := s₂.heap, slotsUsed := s₂.slotsUsed } : State).setVm s₂.vm := by
      have : s₂ = ({ s₂ with vm := (U.calling g mk a).vm } : State).setVm s₂.vm := rfl
      rw [e2] at this
      exact this
    obtain ⟨c₂, i₂, len₂, hc₂, hd₂, hf₂⟩ := hend
    have hW' : U.WarmedH s₂.vm := hW₂
    have hcc : c₂ = c := by
      have h1 : s₂.code? g.method = U.code? g.method := by
        rw [State.code?_eq, State.code?_eq, hW'.alike.method?]
      exact Option.some.inj (hc₂.symm.trans (h1.trans h.code))
    subst hcc
    have hlen : len₂ = len := by rw [hdg] at hd₂; cases hd₂; rfl
    subst hlen
    have hs₂ : s₂ = (({ U with heap := s₂.heap, slotsUsed := s₂.slotsUsed } : State).setVm s₂.vm).setTop { g with pc := g.pc + len₂, stack := v.toList ++ g.stack } := by
      refine e3.trans ?_
      rw [hf₂, State.calling_eq h.top, State.setFrames_setFrames, State.setTop_of_frames _ hr', hr]
      rfl
    have hsame : U.sameButNew ({ U with heap := s₂.heap, slotsUsed := s₂.slotsUsed } : State) L mc ms := by
      refine ⟨?_, q2, q3, q4, q5, q6⟩
      obtain ⟨t, ht, -⟩ := State.frames_cons hr
      show ({ U with heap := s₂.heap, slotsUsed := s₂.slotsUsed } : State) = { U.setFrames U.frames with heap := s₂.heap, slotsUsed := s₂.slotsUsed }
      rw [State.setFrames_self ht]
    subst hg
    refine Or.inl ⟨v, ⟨(({ U with heap := s₂.heap, slotsUsed := s₂.slotsUsed } : State).setVm s₂.vm), Ls ++ L, c0 + mc, s0 + ms⟩,
      ⟨X.admits, X.cas, X.clock, X.frames, X.room, X.hears, X.method, X.code, (X.here.setHeapUsed s₂.heap s₂.slotsUsed).setVm hW'.alike, X.tail, State.WarmedH.trans X.warmed hW', X.limits, X.bytes, X.same.trans (hsame.setVm s.vm)⟩,
      ⟨g, mk, s₂, L, rfl, rfl, hqc, rfl, hL, rfl, rfl⟩, ?_⟩
    show Steps p.tables e below _ ((({ U with heap := s₂.heap, slotsUsed := s₂.slotsUsed } : State).setVm s₂.vm).setTop { g with pc := g.pc + len₂, stack := v.toList ++ g.stack })
    rw [← hs₂]
    exact hsteps
  · obtain ⟨e2, q2, q3, q4, q5, q6⟩ := id hsm
    have e3 : s₂ = ({ (U.calling g mk a).setFrames s₂.frames with heap := s₂.heap, slotsUsed := s₂.slotsUsed } : State).setVm s₂.vm := by
      have : s₂ = ({ s₂ with vm := (U.calling g mk a).vm } : State).setVm s₂.vm := rfl
      rw [e2] at this
      exact this
    have hf₂ : s₂.frames = .throwing q :: .java g :: U.frames.tail := hend
    have hW' : U.WarmedH s₂.vm := hW₂
    have hs₂ : s₂ = ((({ U with heap := s₂.heap, slotsUsed := s₂.slotsUsed } : State).setVm s₂.vm).setTop g).pushFrame (.throwing q) := by
      refine e3.trans ?_
      rw [hf₂, State.calling_eq h.top, State.setFrames_setFrames, State.pushFrame, State.frames_setTop _ hr', State.setTop_of_frames _ hr', State.setFrames_setFrames, hr]
      rfl
    have hsame : U.sameButNew ({ U with heap := s₂.heap, slotsUsed := s₂.slotsUsed } : State) L mc ms := by
      refine ⟨?_, q2, q3, q4, q5, q6⟩
      obtain ⟨t, ht, -⟩ := State.frames_cons hr
      show ({ U with heap := s₂.heap, slotsUsed := s₂.slotsUsed } : State) = { U.setFrames U.frames with heap := s₂.heap, slotsUsed := s₂.slotsUsed }
      rw [State.setFrames_self ht]
    subst hg
    refine Or.inr ⟨q, ⟨(({ U with heap := s₂.heap, slotsUsed := s₂.slotsUsed } : State).setVm s₂.vm), Ls ++ L, c0 + mc, s0 + ms⟩,
      ⟨X.admits, X.cas, X.clock, X.frames, X.room, X.hears, X.method, X.code, (X.here.setHeapUsed s₂.heap s₂.slotsUsed).setVm hW'.alike, X.tail, State.WarmedH.trans X.warmed hW', X.limits, X.bytes, X.same.trans (hsame.setVm s.vm)⟩,
      ⟨g, mk, s₂, L, E, ce, rfl, rfl, hx, hce, hcv, hcl, rfl, hL, rfl, rfl⟩, ?_⟩
    show Steps p.tables e below _ (((({ U with heap := s₂.heap, slotsUsed := s₂.slotsUsed } : State).setVm s₂.vm).setTop g).pushFrame (.throwing q))
    rw [← hs₂]
    exact hsteps
end
variable {p : Program} {l : Launch} {e : Env} {R : Room} {s : State} {m : MethodId} {args : Array Value} {below : List Frame} {meth : Method} {c : Code} {T : State} {H : Heap} {locs : List Loc} {cells slots : Nat}
theorem vx_callVX (X : Stand p l e R s m args below meth c T locs cells slots) (hexec : p.tables.exec = Jvm.exec) {own C : String} {index : Nat} {y : MethodName} {bytes : ByteArray} {maxL : Nat} {ret : Option FieldType} {hh : List (Nat × Nat × Nat × Nat)}
    (hown : s.vm.findClass own = some m.cls) (hlink : (Cond.methodLink own index y).before args s = true) (hinst : (Cond.instanceMethod y).before args s = true) (hsel : (Cond.selects C y y).before args s = true)
    (hcode : (Cond.codeWith y bytes maxL ret hh).before args s = true) (hy : y.cls ≠ "java/lang/invoke/MethodHandle" ∧ y.cls ≠ "java/lang/invoke/VarHandle")
    {W9 : Nat} {Pre : Pt → Array Value → Prop} {Post : Pt → Array Value → Option Value → Pt → Prop} {PostX : Pt → Array Value → Addr → Pt → Prop} (hK : vx_Back l R p e below s args y 3 W9 Pre Post PostX)
    {b : Addr} {cellB : Cell} (hcell : T.heap[b]? = some cellB) (hobj : cellB.vm.isStatics = false) (hcls : s.vm.findClass C = some cellB.cls)
    {g : JFrame} (hg : g.method = m) (hsize : g.locals.size = c.maxLocals) {argsL rest : List Value} (hlen : ∀ sig, parseMethodDescriptor y.desc = some sig → argsL.length = sig.parameters.length)
    (hstack : g.stack = argsL.reverse ++ .ref b :: rest) (hW : 2 * g.monitorRoom + (rest.map fun v => v.category).sum ≤ W9) (hdg : decode c.code g.pc = .ok (.invokevirtual index, 3))
    (hpre : ∀ vm₁, s.WarmedH vm₁ → Pre ⟨T.setVm vm₁, locs, cells, slots⟩ (Value.ref b :: argsL).toArray) :
    (∃ (v : Option Value) (vm₁ : Vm) (B : Pt), s.WarmedH vm₁ ∧ Stand p l e R s m args below meth c B.U B.locs B.cells B.slots ∧ Post ⟨T.setVm vm₁, locs, cells, slots⟩ (Value.ref b :: argsL).toArray v B ∧
      ∀ target, Steps p.tables e below (B.U.setTop { g with pc := g.pc + 3, stack := v.toList ++ rest }) target → Steps p.tables e below (T.setTop g) target) ∨
    (∃ (q : Addr) (vm₁ : Vm) (B : Pt), s.WarmedH vm₁ ∧ Stand p l e R s m args below meth c B.U B.locs B.cells B.slots ∧ PostX ⟨T.setVm vm₁, locs, cells, slots⟩ (Value.ref b :: argsL).toArray q B ∧
      Steps p.tables e below (T.setTop g) ((B.U.setTop { g with stack := rest }).pushFrame (.throwing q))) := by
  obtain ⟨mk, methM, hnamed, hmethM, hstM, habM⟩ := Cond.instanceMethod_spec hinst
  obtain ⟨m8, methM', cM, hn8, hmethM', -, -, -, -, -, -, hsigM⟩ := Cond.codeWith_spec hcode
  cases Option.some.inj (hn8.symm.trans hnamed)
  cases hmethM.symm.trans hmethM'
  obtain ⟨c2, r2, m2, q1, q2, q3, q4, kP, hkP, hkPi⟩ := Cond.selects_spec hsel
  cases hcls.symm.trans q1
  cases (State.methodFound?_of_named hnamed hy).symm.trans q2
  cases hnamed.symm.trans q3
  have hselP : selectMethod e.platform s.vm cellB.cls mk = .method mk := by rw [Launch.admits_selectMethod X.admits]; exact q4
  obtain ⟨vm₁, X₁, hstep₁⟩ := X.invokevirtual hexec hown hlink hnamed hmethM hstM hkP hkPi hy (a := b) (cell := cellB) hcell
    (fun z h => by rw [h] at hobj; cases hobj) hselP hmethM habM hkP hkPi (g := g) hg (argsL := argsL) (rest := rest) (hlen _ hsigM) hstack hdg
  rcases hK m meth c ⟨T.setVm vm₁, locs, cells, slots⟩ { g with stack := rest } (.invokevirtual index) mk (Value.ref b :: argsL).toArray X₁ hg hsize hdg hW (X₁.named hnamed) (hpre vm₁ X₁.warmed) with ⟨v, B, X', hpost, hsteps⟩ | ⟨q, B, X', hpost, hsteps⟩
  · exact Or.inl ⟨v, vm₁, B, X₁.warmed, X', hpost, fun target h => hstep₁ _ fun acts => by rw [doInvoke_state]; exact hsteps.trans h⟩
  · exact Or.inr ⟨q, vm₁, B, X₁.warmed, X', hpost, hstep₁ _ fun acts => by rw [doInvoke_state]; exact hsteps⟩
theorem vx_callSX (X : Stand p l e R s m args below meth c T locs cells slots) (hexec : p.tables.exec = Jvm.exec) {own : String} {index : Nat} {y : MethodName} {bytes : ByteArray} {maxL : Nat} {ret : Option FieldType} {hh : List (Nat × Nat × Nat × Nat)}
    (hown : s.vm.findClass own = some m.cls) (hlink : (Cond.methodLink own index y).before args s = true) (hstat : (Cond.static y).before args s = true) (hinit : (Cond.initialized y.cls).before args s = true)
    (hcode : (Cond.codeWith y bytes maxL ret hh).before args s = true) (hy : y.cls ≠ "java/lang/invoke/MethodHandle" ∧ y.cls ≠ "java/lang/invoke/VarHandle")
    {W9 : Nat} {Pre : Pt → Array Value → Prop} {Post : Pt → Array Value → Option Value → Pt → Prop} {PostX : Pt → Array Value → Addr → Pt → Prop} (hK : vx_Back l R p e below s args y 3 W9 Pre Post PostX)
    {g : JFrame} (hg : g.method = m) (hsize : g.locals.size = c.maxLocals) {argsL rest : List Value} (hlen : ∀ sig, parseMethodDescriptor y.desc = some sig → argsL.length = sig.parameters.length)
    (hstack : g.stack = argsL.reverse ++ rest) (hW : 2 * g.monitorRoom + (rest.map fun v => v.category).sum ≤ W9) (hdg : decode c.code g.pc = .ok (.invokestatic index, 3))
    (hpre : ∀ vm₁, s.WarmedH vm₁ → Pre ⟨T.setVm vm₁, locs, cells, slots⟩ argsL.toArray) :
    (∃ (v : Option Value) (vm₁ : Vm) (B : Pt), s.WarmedH vm₁ ∧ Stand p l e R s m args below meth c B.U B.locs B.cells B.slots ∧ Post ⟨T.setVm vm₁, locs, cells, slots⟩ argsL.toArray v B ∧
      ∀ target, Steps p.tables e below (B.U.setTop { g with pc := g.pc + 3, stack := v.toList ++ rest }) target → Steps p.tables e below (T.setTop g) target) ∨
    (∃ (q : Addr) (vm₁ : Vm) (B : Pt), s.WarmedH vm₁ ∧ Stand p l e R s m args below meth c B.U B.locs B.cells B.slots ∧ PostX ⟨T.setVm vm₁, locs, cells, slots⟩ argsL.toArray q B ∧
      Steps p.tables e below (T.setTop g) ((B.U.setTop { g with stack := rest }).pushFrame (.throwing q))) := by
  obtain ⟨mk, methM, cM, hnamed, hmethM, -, -, -, -, -, -, hsigM⟩ := Cond.codeWith_spec hcode
  have hstatic : methM.isStatic = true := Cond.static_spec hnamed hmethM hstat
  obtain ⟨kP, hkP, -⟩ := className_of_methodNamed hnamed
  have hinitP : kP.init = .initialized := Cond.initialized_spec (findClass_of_methodNamed hnamed) hkP hinit
  obtain ⟨vm₁, X₁, hstep₁⟩ := X.invokestatic hexec hown hlink hnamed hmethM hstatic hkP hinitP hy (g := g) hg (argsL := argsL) (rest := rest) (hlen _ hsigM) hstack hdg
  rcases hK m meth c ⟨T.setVm vm₁, locs, cells, slots⟩ { g with stack := rest } (.invokestatic index) mk argsL.toArray X₁ hg hsize hdg hW (X₁.named hnamed) (hpre vm₁ X₁.warmed) with ⟨v, B, X', hpost, hsteps⟩ | ⟨q, B, X', hpost, hsteps⟩
  · exact Or.inl ⟨v, vm₁, B, X₁.warmed, X', hpost, fun target h => hstep₁ _ fun acts => by rw [doInvoke_state]; exact hsteps.trans h⟩
  · exact Or.inr ⟨q, vm₁, B, X₁.warmed, X', hpost, hstep₁ _ fun acts => by rw [doInvoke_state]; exact hsteps⟩
theorem vx_callVW (X : Stand p l e R s m args below meth c T locs cells slots) (hexec : p.tables.exec = Jvm.exec) {own C : String} {index : Nat} {y : MethodName} {bytes : ByteArray} {maxL : Nat} {ret : Option FieldType} {hh : List (Nat × Nat × Nat × Nat)}
    (hown : s.vm.findClass own = some m.cls) (hlink : (Cond.methodLink own index y).before args s = true) (hinst : (Cond.instanceMethod y).before args s = true) (hsel : (Cond.selects C y y).before args s = true)
    (hcode : (Cond.codeWith y bytes maxL ret hh).before args s = true) (hy : y.cls ≠ "java/lang/invoke/MethodHandle" ∧ y.cls ≠ "java/lang/invoke/VarHandle")
    {W9 : Nat} {Pre : Pt → Array Value → Prop} {Post : Pt → Array Value → Option Value → Pt → Prop} (hK : Back l R p e below s args y 3 W9 Pre Post)
    {b : Addr} {cellB : Cell} (hcell : T.heap[b]? = some cellB) (hobj : cellB.vm.isStatics = false) (hcls : s.vm.findClass C = some cellB.cls)
    {g : JFrame} (hg : g.method = m) (hsize : g.locals.size = c.maxLocals) {argsL rest : List Value} (hlen : ∀ sig, parseMethodDescriptor y.desc = some sig → argsL.length = sig.parameters.length)
    (hstack : g.stack = argsL.reverse ++ .ref b :: rest) (hW : 2 * g.monitorRoom + (rest.map fun v => v.category).sum ≤ W9) (hdg : decode c.code g.pc = .ok (.invokevirtual index, 3))
    (hpre : ∀ vm₁, s.WarmedH vm₁ → Pre ⟨T.setVm vm₁, locs, cells, slots⟩ (Value.ref b :: argsL).toArray) :
    ∃ (v : Option Value) (vm₁ : Vm) (B : Pt), s.WarmedH vm₁ ∧ Stand p l e R s m args below meth c B.U B.locs B.cells B.slots ∧ Post ⟨T.setVm vm₁, locs, cells, slots⟩ (Value.ref b :: argsL).toArray v B ∧
      ∀ target, Steps p.tables e below (B.U.setTop { g with pc := g.pc + 3, stack := v.toList ++ rest }) target → Steps p.tables e below (T.setTop g) target := by
  obtain ⟨mk, methM, hnamed, hmethM, hstM, habM⟩ := Cond.instanceMethod_spec hinst
  obtain ⟨m8, methM', cM, hn8, hmethM', -, -, -, -, -, -, hsigM⟩ := Cond.codeWith_spec hcode
  cases Option.some.inj (hn8.symm.trans hnamed)
  cases hmethM.symm.trans hmethM'
  obtain ⟨c2, r2, m2, q1, q2, q3, q4, kP, hkP, hkPi⟩ := Cond.selects_spec hsel
  cases hcls.symm.trans q1
  cases (State.methodFound?_of_named hnamed hy).symm.trans q2
  cases hnamed.symm.trans q3
  have hselP : selectMethod e.platform s.vm cellB.cls mk = .method mk := by rw [Launch.admits_selectMethod X.admits]; exact q4
  obtain ⟨vm₁, X₁, hstep₁⟩ := X.invokevirtual hexec hown hlink hnamed hmethM hstM hkP hkPi hy (a := b) (cell := cellB) hcell
    (fun z h => by rw [h] at hobj; cases hobj) hselP hmethM habM hkP hkPi (g := g) hg (argsL := argsL) (rest := rest) (hlen _ hsigM) hstack hdg
  obtain ⟨v, B, X', hpost, hsteps⟩ := hK m meth c ⟨T.setVm vm₁, locs, cells, slots⟩ { g with stack := rest } (.invokevirtual index) mk (Value.ref b :: argsL).toArray X₁ hg hsize hdg hW (X₁.named hnamed) (hpre vm₁ X₁.warmed)
  exact ⟨v, vm₁, B, X₁.warmed, X', hpost, fun target h => hstep₁ _ fun acts => by rw [doInvoke_state]; exact hsteps.trans h⟩
abbrev vx_CVW (R : Room) (s : State) (args : Array Value) (own C : String) (index : Nat) (y : MethodName) (bytes : ByteArray) (maxL : Nat) (ret : Option FieldType) (hh : List (Nat × Nat × Nat × Nat)) (ws : List Cond) (rm : Room) (mc ms n : Nat) : Prop :=
  (rm.cells = mc ∧ rm.slots = ms ∧ rm.frames + 1 ≤ R.frames ∧ 8 + (maxL + 11) + rm.locals ≤ R.locals ∧ (∀ w ∈ ws, ∀ (a' : Array Value) (U : State), s.WarmedH U.vm → w.before a' U = true) ∧ Cond.codeWith y bytes maxL ret hh ∈ ws) ∧
  (Cond.codeWith y bytes maxL ret hh).before args s = true ∧ (Cond.initialized y.cls).before args s = true ∧ (y.cls ≠ "java/lang/invoke/MethodHandle" ∧ y.cls ≠ "java/lang/invoke/VarHandle") ∧
  (∀ sig, parseMethodDescriptor y.desc = some sig → n = sig.parameters.length) ∧ (Cond.methodLink own index y).before args s = true ∧ (Cond.instanceMethod y).before args s = true ∧ (Cond.selects C y y).before args s = true
theorem vx_cwVW {own C : String} {index maxL mc ms : Nat} {y : MethodName} {bytes : ByteArray} {ret : Option FieldType} {hh : List (Nat × Nat × Nat × Nat)} {Ts ws ws' : List Cond} {rm : Room} (n : Nat) (ht : ∀ w ∈ Ts, w.before args s = true) (hT : GoodIn Ts (wsV own index C y ws)) (hw : ws = Cond.codeWith y bytes maxL ret hh :: ws') (hrc : rm.cells = mc) (hrs : rm.slots = ms)
    (hd : y.cls = C ∧ y.cls ≠ "java/lang/invoke/MethodHandle" ∧ y.cls ≠ "java/lang/invoke/VarHandle" ∧ (parseMethodDescriptor y.desc).map (fun d => d.parameters.length) = some n) (hR : rm.frames + 1 ≤ R.frames ∧ 8 + (maxL + 11) + rm.locals ≤ R.locals) :
    vx_CVW R s args own C index y bytes maxL ret hh ws rm mc ms n := by
  obtain ⟨hC, hd⟩ := hd
  subst hC
  have ok : ∀ w ∈ wsV own index y.cls y ws, w.before args s = true := fun w h => ht w (hT w h).1
  have hG : GoodIn Ts ws := fun w h => hT w (by unfold wsV; exact List.mem_append_right _ h)
  have hc : Cond.codeWith y bytes maxL ret hh ∈ ws := by rw [hw]; exact List.mem_cons_self
  refine ⟨⟨hrc, hrs, hR.1, hR.2, pay_in ht hG, hc⟩, ht _ (hG _ hc).1, ok _ (by simp [wsV]), ⟨hd.1, hd.2.1⟩, fun sig h => ?_, ok _ (by simp [wsV]), ok _ (by simp [wsV]), ok _ (by simp [wsV])⟩
  have h2 := hd.2.2
  rw [h] at h2
  exact (Option.some.inj h2).symm
theorem vx_runVW {y : MethodName} {bytes cc : ByteArray} {maxL nL mc ms n index : Nat} {ret : Option FieldType} {hh : List (Nat × Nat × Nat × Nat)} {ws : List Cond} {rm : Room} {Pc : Array Value → State → Prop} {Qc : Array Value → State → Outcome → State → Prop} {free : Addr → Prop} {Ts : List Cond} {own C : String} {b : Addr} {As rest : List Value} {g : JFrame}
    (S : CallFix p m c cc nL s args Ts own) (hM : Met l y ws rm Pc Qc mc ms free) (cw : vx_CVW R s args own C index y bytes maxL ret hh ws rm mc ms n) (hp : PreV s H C b Pc As)
    (hg : g.method = m) (hn : As.length = n) (hsize : g.locals.size = nL) (hstack : g.stack = As.reverse ++ .ref b :: rest) (hW : 2 * g.monitorRoom + (rest.map fun v => v.category).sum ≤ 8) (hdg : decode cc g.pc = .ok (.invokevirtual index, 3)) (hf : cells + mc ≤ R.cells ∧ slots + ms ≤ R.slots) :
    va_Run p l e R s m args below meth c H locs cells slots mc ms g rest (Qc (Value.ref b :: As).toArray) free := by
  obtain ⟨⟨hrc, hrs, hfr, hlo, hws, hcw⟩, hcode, hini, hy, hlen, hl, hin, hse⟩ := cw
  have hK : Back l R p e below s args y 3 8 (PreOf R mc ms Pc) (PostOf Qc mc ms free) := va_backW (hh := hh) (bytes := bytes) (maxL := maxL) (ret := ret) hM hp.1 hrc hrs hfr hlo hws hcw (fun a' U hW => word_at hW (Or.inl (by first | rfl | simp [Cond.onTables, Cond.keeps, Cond.steady])) hini)
  obtain ⟨hx, hb, hml, ho, -⟩ := S
  obtain ⟨-, ⟨cellB, hcB, hoB, hclB⟩, hPc⟩ := hp
  intro T hT X
  obtain ⟨v, vm₁, ⟨U', l2, c2, s2⟩, hW₁, X', ⟨g', mk, t, L, e1, e2, hq, h1, hL, h2, h3⟩, st⟩ := vx_callVW X hx (C := C) (hh := hh) (bytes := bytes) (maxL := maxL) (ret := ret) ho hl hin hse hcode hy hK (by rw [hT]; exact hcB) hoB hclB hg (hsize.trans hml.symm) (argsL := As) (rest := rest) (fun sig h => hn.trans (hlen sig h)) hstack hW (by rw [hb]; exact hdg)
    (fun vm₁ hW₁ => ⟨hf.1, hf.2, hPc (T.setVm vm₁) hT hW₁⟩)
  dsimp only [Pt.U, Pt.locs, Pt.cells, Pt.slots] at X' e1 e2 h1 h2 h3 st
  subst h1; subst h2; subst h3
  exact ⟨v, (T.setVm vm₁).calling g' mk (Value.ref b :: As).toArray, t, U', L, hT, X', hL, e1, e2, hq, st⟩
section
variable {y : MethodName} {bytes cc : ByteArray} {maxL nL mc ms n index : Nat} {ret : Option FieldType} {ws : List Cond} {rm : Room} {Pc : Array Value → State → Prop} {Qc : Array Value → State → Outcome → State → Prop} {XC : String → State → State → Prop} {free : Addr → Prop} {Ts : List Cond} {own C : String} {b : Addr} {As rest : List Value} {g : JFrame}
theorem vx_runVX {hh : List (Nat × Nat × Nat × Nat)} (S : CallFix p m c cc nL s args Ts own) (hM : vx_Met l y ws rm Pc Qc XC mc ms free) (cw : vx_CVW R s args own C index y bytes maxL ret hh ws rm mc ms n) (hp : PreV s H C b Pc As)
    (hg : g.method = m) (hn : As.length = n) (hsize : g.locals.size = nL) (hstack : g.stack = As.reverse ++ .ref b :: rest) (hW : 2 * g.monitorRoom + (rest.map fun v => v.category).sum ≤ 8) (hdg : decode cc g.pc = .ok (.invokevirtual index, 3)) (hf : cells + mc ≤ R.cells ∧ slots + ms ≤ R.slots) :
    vx_Run p l e R s m args below meth c H locs cells slots mc ms g rest (Qc (Value.ref b :: As).toArray) XC free := by
  obtain ⟨⟨hrc, hrs, hfr, hlo, hws, hcw⟩, hcode, hini, hy, hlen, hl, hin, hse⟩ := cw
  have hK : vx_Back l R p e below s args y 3 8 (PreOf R mc ms Pc) (PostOf Qc mc ms free) (vx_Post XC mc ms free) := vx_backW (hh := hh) (bytes := bytes) (maxL := maxL) (ret := ret) hM hp.1 hrc hrs hfr hlo hws hcw (fun a' U hW => word_at hW (Or.inl (by first | rfl | simp [Cond.onTables, Cond.keeps, Cond.steady])) hini)
  obtain ⟨hx, hb, hml, ho, -⟩ := S
  obtain ⟨-, ⟨cellB, hcB, hoB, hclB⟩, hPc⟩ := hp
  intro T hT X
  rcases vx_callVX X hx (C := C) (hh := hh) (bytes := bytes) (maxL := maxL) (ret := ret) ho hl hin hse hcode hy hK (by rw [hT]; exact hcB) hoB hclB hg (hsize.trans hml.symm) (argsL := As) (rest := rest) (fun sig h => hn.trans (hlen sig h)) hstack hW (by rw [hb]; exact hdg)
    (fun vm₁ hW₁ => ⟨hf.1, hf.2, hPc (T.setVm vm₁) hT hW₁⟩) with ⟨v, vm₁, ⟨U', l2, c2, s2⟩, hW₁, X', ⟨g', mk, t, L, e1, e2, hq, h1, hL, h2, h3⟩, st⟩ | ⟨q, vm₁, ⟨U', l2, c2, s2⟩, hW₁, X', ⟨g', mk, t, L, E, ce, e1, e2, hq, hce, hcv, hcl, h1, hL, h2, h3⟩, st⟩
  · dsimp only [Pt.U, Pt.locs, Pt.cells, Pt.slots] at X' e1 e2 h1 h2 h3 st
    subst h1; subst h2; subst h3
    exact Or.inl ⟨v, (T.setVm vm₁).calling g' mk (Value.ref b :: As).toArray, t, U', L, hT, X', hL, e1, e2, hq, st⟩
  · dsimp only [Pt.U, Pt.locs, Pt.cells, Pt.slots] at X' e1 e2 h1 h2 h3 st hcl
    subst h1; subst h2; subst h3
    exact Or.inr ⟨q, (T.setVm vm₁).calling g' mk (Value.ref b :: As).toArray, t, U', L, E, ce, hT, X', hL, e1, e2, hq, hce, hcv, vx_cls hW₁ hcl, st⟩
theorem vx_runSX {hh : List (Nat × Nat × Nat × Nat)} (S : CallFix p m c cc nL s args Ts own) (hM : vx_Met l y ws rm Pc Qc XC mc ms free) (cw : vx_CSW R s args own index y bytes maxL ret hh ws rm mc ms n) (hp : PreS s H Pc As)
    (hg : g.method = m) (hn : As.length = n) (hsize : g.locals.size = nL) (hstack : g.stack = As.reverse ++ rest) (hW : 2 * g.monitorRoom + (rest.map fun v => v.category).sum ≤ 8) (hdg : decode cc g.pc = .ok (.invokestatic index, 3)) (hf : cells + mc ≤ R.cells ∧ slots + ms ≤ R.slots) :
    vx_Run p l e R s m args below meth c H locs cells slots mc ms g rest (Qc As.toArray) XC free := by
  obtain ⟨⟨hrc, hrs, hfr, hlo, hws, hcw⟩, hcode, hini, hy, hlen, hl, hstt⟩ := cw
  have hK : vx_Back l R p e below s args y 3 8 (PreOf R mc ms Pc) (PostOf Qc mc ms free) (vx_Post XC mc ms free) := vx_backW (hh := hh) (bytes := bytes) (maxL := maxL) (ret := ret) hM hp.1 hrc hrs hfr hlo hws hcw (fun a' U hW => word_at hW (Or.inl (by first | rfl | simp [Cond.onTables, Cond.keeps, Cond.steady])) hini)
  obtain ⟨hx, hb, hml, ho, -⟩ := S
  intro T hT X
  rcases vx_callSX X hx (hh := hh) (bytes := bytes) (maxL := maxL) (ret := ret) ho hl hstt hini hcode hy hK hg (hsize.trans hml.symm) (argsL := As) (rest := rest) (fun sig h => hn.trans (hlen sig h)) hstack hW (by rw [hb]; exact hdg)
    (fun vm₁ hW₁ => ⟨hf.1, hf.2, hp.2 (T.setVm vm₁) hT hW₁⟩) with ⟨v, vm₁, ⟨U', l2, c2, s2⟩, hW₁, X', ⟨g', mk, t, L, e1, e2, hq, h1, hL, h2, h3⟩, st⟩ | ⟨q, vm₁, ⟨U', l2, c2, s2⟩, hW₁, X', ⟨g', mk, t, L, E, ce, e1, e2, hq, hce, hcv, hcl, h1, hL, h2, h3⟩, st⟩
  · dsimp only [Pt.U, Pt.locs, Pt.cells, Pt.slots] at X' e1 e2 h1 h2 h3 st
    subst h1; subst h2; subst h3
    exact Or.inl ⟨v, (T.setVm vm₁).calling g' mk As.toArray, t, U', L, hT, X', hL, e1, e2, hq, st⟩
  · dsimp only [Pt.U, Pt.locs, Pt.cells, Pt.slots] at X' e1 e2 h1 h2 h3 st hcl
    subst h1; subst h2; subst h3
    exact Or.inr ⟨q, (T.setVm vm₁).calling g' mk As.toArray, t, U', L, E, ce, hT, X', hL, e1, e2, hq, hce, hcv, vx_cls hW₁ hcl, st⟩
end
end VXH
theorem vx_ofWH {l : Launch} {y : MethodName} {ws ws' : List Cond} {rm : Room} {Pc : Array Value → State → Prop} {Qc : Array Value → State → Outcome → State → Prop} {XC : String → State → State → Prop} {mc ms : Nat} {free : Addr → Prop} {cc : ByteArray} {maxL : Nat} {ret : Option FieldType} {hh : List (Nat × Nat × Nat × Nat)}
    (hy : plainName y.cls = true) (hw : ws = Cond.codeWith y cc maxL ret hh :: ws')
    (body : ∀ p e s m args below meth c s₁, BodyLoose p l y (headSpec ws rm) cc maxL ret e s m args below meth c s₁ → c.maxLocals = maxL → Pc args s →
      W p l e (headSpec ws rm).room s m args below meth c s.heap [] 0 0 (vx_MQ below Qc XC args s mc ms free) (entryFrame m args maxL)) : vx_Met l y ws rm Pc Qc XC mc ms free := by
  refine MetFree.of_bodyS (code := cc) (maxLocals := maxL) (ret := ret) hy ?_ ?_
  · intro args s m h hn
    obtain ⟨m9, meth, c, hn9, h1, h2, h3, h4, -, h5, h6, -⟩ := Cond.codeWith_spec (atoms_spec (ws := ws) h _ (by rw [hw]; exact List.mem_cons_self))
    cases hn.symm.trans hn9
    exact ⟨meth, c, h1, h2, h3, h4, h5, h6⟩
  · intro p e s m args below meth c s₁ B hml hP _
    have hh0 : s₁.heap = s.heap := by rw [B.state]; rfl
    obtain ⟨t, a1, o, b1, b2, b3⟩ := body p e s m args below meth c s₁ B hml hP s₁ hh0 (Stand.of_body B)
    exact ⟨t, o, a1, b1, b2, b3⟩
/-! ===== END ===== -/

def RX0 : String := "TelescopeCourt$Docket"
def TX0 : u_T := fun k => match k with
  | 0 => ("TelescopeCourt$Docket", "terms", "LTelescopeCourt$Terms;", true)
  | 1 => ("TelescopeCourt$Docket", "forms", "LTelescopeCourt$Forms;", true)
  | 2 => ("TelescopeCourt$Docket", "signature", "LTelescopeCourt$Signature;", true)
  | 3 => ("TelescopeCourt$Docket", "declared", "[LTelescopeCourt$Function;", true)
  | 4 => ("TelescopeCourt$Docket", "goals", "[LTelescopeCourt$Goal;", true)
  | 5 => ("TelescopeCourt$Docket", "functionCount", "I", false)
  | 6 => ("TelescopeCourt$Docket", "goalCount", "I", false)
  | _ => ("TelescopeCourt$Docket", "acceptedOnes", "I", false)
def tyX0 : Nat → FieldType := fun k => match k with
  | 0 => .object "TelescopeCourt$Terms"
  | 1 => .object "TelescopeCourt$Forms"
  | 2 => .object "TelescopeCourt$Signature"
  | 3 => .array (.object "TelescopeCourt$Function")
  | 4 => .array (.object "TelescopeCourt$Goal")
  | 5 => .int
  | 6 => .int
  | _ => .int
abbrev wsX00 : List Cond := u_ws RX0 TX0 8
theorem nmX0 : ∀ a, a < 8 → ∀ b, b < 8 → a ≠ b → (TX0 a).2.1 ≠ (TX0 b).2.1 := by decide +kernel
theorem tyX0_ok : ∀ k, k < 8 → parseFieldDescriptor (TX0 k).2.2.1 = some (tyX0 k) := by decide +kernel
abbrev cX0_init : ByteArray := prog_2_method_1_code
def yX0_init : MethodName := ⟨RX0, "<init>", "(LTelescopeCourt$Terms;LTelescopeCourt$Forms;LTelescopeCourt$Signature;)V"⟩
abbrev cX0_function : ByteArray := prog_2_method_2_code
def yX0_function : MethodName := ⟨RX0, "function", "(I)LTelescopeCourt$Function;"⟩
abbrev cX0_goal : ByteArray := prog_2_method_3_code
def yX0_goal : MethodName := ⟨RX0, "goal", "(I)LTelescopeCourt$Goal;"⟩
abbrev cX0_goalsThatAre : ByteArray := prog_2_method_15_code
def yX0_goalsThatAre : MethodName := ⟨RX0, "goalsThatAre", "(C)I"⟩
abbrev cX0_anAcceptedOneIsOpen : ByteArray := prog_2_method_17_code
def yX0_anAcceptedOneIsOpen : MethodName := ⟨RX0, "anAcceptedOneIsOpen", "()Z"⟩
abbrev cX0_twoAreAlike : ByteArray := prog_2_method_18_code
def yX0_twoAreAlike : MethodName := ⟨RX0, "twoAreAlike", "()Z"⟩
def RX1 : String := "TelescopeCourt$Forms"
def TX1 : u_T := fun k => match k with
  | 0 => ("TelescopeCourt$Forms", "terms", "LTelescopeCourt$Terms;", true)
  | 1 => ("TelescopeCourt$Forms", "path", "[I", true)
  | _ => ("TelescopeCourt$Forms", "depth", "I", false)
def tyX1 : Nat → FieldType := fun k => match k with
  | 0 => .object "TelescopeCourt$Terms"
  | 1 => .array .int
  | _ => .int
abbrev wsX10 : List Cond := u_ws RX1 TX1 3
theorem nmX1 : ∀ a, a < 3 → ∀ b, b < 3 → a ≠ b → (TX1 a).2.1 ≠ (TX1 b).2.1 := by decide +kernel
theorem tyX1_ok : ∀ k, k < 3 → parseFieldDescriptor (TX1 k).2.2.1 = some (tyX1 k) := by decide +kernel
abbrev cX1_init : ByteArray := prog_3_method_1_code
def yX1_init : MethodName := ⟨RX1, "<init>", "(LTelescopeCourt$Terms;)V"⟩
def RX4 : String := "TelescopeCourt$Graphs"
def TX4 : u_T := fun k => match k with
  | 0 => ("TelescopeCourt$Graphs", "terms", "LTelescopeCourt$Terms;", true)
  | 1 => ("TelescopeCourt$Graphs", "found", "[I", true)
  | 2 => ("TelescopeCourt$Graphs", "function", "I", false)
  | 3 => ("TelescopeCourt$Graphs", "arity", "I", false)
  | 4 => ("TelescopeCourt$Graphs", "many", "I", false)
  | _ => ("TelescopeCourt$Graphs", "tooMany", "Z", false)
def tyX4 : Nat → FieldType := fun k => match k with
  | 0 => .object "TelescopeCourt$Terms"
  | 1 => .array .int
  | 2 => .int
  | 3 => .int
  | 4 => .int
  | _ => .boolean
abbrev wsX40 : List Cond := u_ws RX4 TX4 6
theorem nmX4 : ∀ a, a < 6 → ∀ b, b < 6 → a ≠ b → (TX4 a).2.1 ≠ (TX4 b).2.1 := by decide +kernel
theorem tyX4_ok : ∀ k, k < 6 → parseFieldDescriptor (TX4 k).2.2.1 = some (tyX4 k) := by decide +kernel
abbrev cX4_init : ByteArray := prog_6_method_1_code
def yX4_init : MethodName := ⟨RX4, "<init>", "(LTelescopeCourt$Terms;)V"⟩
def RX5 : String := "TelescopeCourt$Machine"
def TX5 : u_T := fun k => match k with
  | 0 => ("TelescopeCourt$Machine", "terms", "LTelescopeCourt$Terms;", true)
  | 1 => ("TelescopeCourt$Machine", "signature", "LTelescopeCourt$Signature;", true)
  | 2 => ("TelescopeCourt$Machine", "docket", "LTelescopeCourt$Docket;", true)
  | 3 => ("TelescopeCourt$Machine", "waiting", "[I", true)
  | 4 => ("TelescopeCourt$Machine", "waitsForArgument", "[Z", true)
  | 5 => ("TelescopeCourt$Machine", "given", "[I", true)
  | 6 => ("TelescopeCourt$Machine", "values", "[I", true)
  | 7 => ("TelescopeCourt$Machine", "valueCount", "I", false)
  | 8 => ("TelescopeCourt$Machine", "depth", "I", false)
  | 9 => ("TelescopeCourt$Machine", "taken", "I", false)
  | 10 => ("TelescopeCourt$Machine", "wasStep", "Z", false)
  | _ => ("TelescopeCourt$Machine", "bySplits", "Z", false)
def tyX5 : Nat → FieldType := fun k => match k with
  | 0 => .object "TelescopeCourt$Terms"
  | 1 => .object "TelescopeCourt$Signature"
  | 2 => .object "TelescopeCourt$Docket"
  | 3 => .array .int
  | 4 => .array .boolean
  | 5 => .array .int
  | 6 => .array .int
  | 7 => .int
  | 8 => .int
  | 9 => .int
  | 10 => .boolean
  | _ => .boolean
abbrev wsX50 : List Cond := u_ws RX5 TX5 12
theorem nmX5 : ∀ a, a < 12 → ∀ b, b < 12 → a ≠ b → (TX5 a).2.1 ≠ (TX5 b).2.1 := by decide +kernel
theorem tyX5_ok : ∀ k, k < 12 → parseFieldDescriptor (TX5 k).2.2.1 = some (tyX5 k) := by decide +kernel
abbrev cX5_init : ByteArray := prog_7_method_1_code
def yX5_init : MethodName := ⟨RX5, "<init>", "(LTelescopeCourt$Terms;LTelescopeCourt$Signature;LTelescopeCourt$Docket;)V"⟩
def RX7 : String := "TelescopeCourt$Signature"
def TX7 : u_T := fun k => match k with
  | 0 => ("TelescopeCourt$Signature", "terms", "LTelescopeCourt$Terms;", true)
  | 1 => ("TelescopeCourt$Signature", "splitBy", "[Z", true)
  | 2 => ("TelescopeCourt$Signature", "owners", "[I", true)
  | 3 => ("TelescopeCourt$Signature", "partCounts", "[I", true)
  | 4 => ("TelescopeCourt$Signature", "parts", "[I", true)
  | 5 => ("TelescopeCourt$Signature", "types", "[I", true)
  | 6 => ("TelescopeCourt$Signature", "ranks", "[I", true)
  | 7 => ("TelescopeCourt$Signature", "constructorsOfData", "[I", true)
  | 8 => ("TelescopeCourt$Signature", "dataCount", "I", false)
  | _ => ("TelescopeCourt$Signature", "constructorCount", "I", false)
def tyX7 : Nat → FieldType := fun k => match k with
  | 0 => .object "TelescopeCourt$Terms"
  | 1 => .array .boolean
  | 2 => .array .int
  | 3 => .array .int
  | 4 => .array .int
  | 5 => .array .int
  | 6 => .array .int
  | 7 => .array .int
  | 8 => .int
  | _ => .int
abbrev wsX70 : List Cond := u_ws RX7 TX7 10
theorem nmX7 : ∀ a, a < 10 → ∀ b, b < 10 → a ≠ b → (TX7 a).2.1 ≠ (TX7 b).2.1 := by decide +kernel
theorem tyX7_ok : ∀ k, k < 10 → parseFieldDescriptor (TX7 k).2.2.1 = some (tyX7 k) := by decide +kernel
abbrev cX7_init : ByteArray := prog_9_method_1_code
def yX7_init : MethodName := ⟨RX7, "<init>", "(LTelescopeCourt$Terms;)V"⟩
abbrev cX7_hasData : ByteArray := prog_9_method_2_code
def yX7_hasData : MethodName := ⟨RX7, "hasData", "(I)Z"⟩
abbrev cX7_hasConstructor : ByteArray := prog_9_method_3_code
def yX7_hasConstructor : MethodName := ⟨RX7, "hasConstructor", "(I)Z"⟩
abbrev cX7_enterData : ByteArray := prog_9_method_6_code
def yX7_enterData : MethodName := ⟨RX7, "enterData", "()I"⟩
def RX8 : String := "TelescopeCourt$Telescope"
def TX8 : u_T := fun k => match k with
  | 0 => ("TelescopeCourt$Telescope", "types", "[I", true)
  | _ => ("TelescopeCourt$Telescope", "many", "I", false)
def tyX8 : Nat → FieldType := fun k => match k with
  | 0 => .array .int
  | _ => .int
abbrev wsX80 : List Cond := u_ws RX8 TX8 2
theorem nmX8 : ∀ a, a < 2 → ∀ b, b < 2 → a ≠ b → (TX8 a).2.1 ≠ (TX8 b).2.1 := by decide +kernel
theorem tyX8_ok : ∀ k, k < 2 → parseFieldDescriptor (TX8 k).2.2.1 = some (tyX8 k) := by decide +kernel
abbrev cX8_init : ByteArray := prog_10_method_1_code
def yX8_init : MethodName := ⟨RX8, "<init>", "(I)V"⟩
def RX9 : String := "TelescopeCourt$Terms"
def TX9 : u_T := fun k => match k with
  | 0 => ("TelescopeCourt$Terms", "kind", "[I", true)
  | 1 => ("TelescopeCourt$Terms", "first", "[I", true)
  | 2 => ("TelescopeCourt$Terms", "second", "[I", true)
  | 3 => ("TelescopeCourt$Terms", "sizes", "[I", true)
  | 4 => ("TelescopeCourt$Terms", "numbers", "[I", true)
  | 5 => ("TelescopeCourt$Terms", "free", "[I", true)
  | 6 => ("TelescopeCourt$Terms", "calls", "[I", true)
  | 7 => ("TelescopeCourt$Terms", "loose", "[Z", true)
  | 8 => ("TelescopeCourt$Terms", "moved", "[I", true)
  | _ => ("TelescopeCourt$Terms", "many", "I", false)
def tyX9 : Nat → FieldType := fun k => match k with
  | 0 => .array .int
  | 1 => .array .int
  | 2 => .array .int
  | 3 => .array .int
  | 4 => .array .int
  | 5 => .array .int
  | 6 => .array .int
  | 7 => .array .boolean
  | 8 => .array .int
  | _ => .int
abbrev wsX90 : List Cond := u_ws RX9 TX9 10
theorem nmX9 : ∀ a, a < 10 → ∀ b, b < 10 → a ≠ b → (TX9 a).2.1 ≠ (TX9 b).2.1 := by decide +kernel
theorem tyX9_ok : ∀ k, k < 10 → parseFieldDescriptor (TX9 k).2.2.1 = some (tyX9 k) := by decide +kernel
abbrev cX9_init : ByteArray := prog_11_method_1_code
def yX9_init : MethodName := ⟨RX9, "<init>", "()V"⟩
abbrev cX9_leaf : ByteArray := prog_11_method_2_code
def yX9_leaf : MethodName := ⟨RX9, "leaf", "(II)I"⟩
def RX10 : String := "TelescopeCourt$Typing"
def TX10 : u_T := fun k => match k with
  | 0 => ("TelescopeCourt$Typing", "terms", "LTelescopeCourt$Terms;", true)
  | 1 => ("TelescopeCourt$Typing", "forms", "LTelescopeCourt$Forms;", true)
  | 2 => ("TelescopeCourt$Typing", "signature", "LTelescopeCourt$Signature;", true)
  | 3 => ("TelescopeCourt$Typing", "docket", "LTelescopeCourt$Docket;", true)
  | 4 => ("TelescopeCourt$Typing", "nothing", "LTelescopeCourt$Telescope;", true)
  | _ => ("TelescopeCourt$Typing", "around", "LTelescopeCourt$Telescope;", true)
def tyX10 : Nat → FieldType := fun k => match k with
  | 0 => .object "TelescopeCourt$Terms"
  | 1 => .object "TelescopeCourt$Forms"
  | 2 => .object "TelescopeCourt$Signature"
  | 3 => .object "TelescopeCourt$Docket"
  | 4 => .object "TelescopeCourt$Telescope"
  | _ => .object "TelescopeCourt$Telescope"
abbrev wsX100 : List Cond := u_ws RX10 TX10 6
theorem nmX10 : ∀ a, a < 6 → ∀ b, b < 6 → a ≠ b → (TX10 a).2.1 ≠ (TX10 b).2.1 := by decide +kernel
theorem tyX10_ok : ∀ k, k < 6 → parseFieldDescriptor (TX10 k).2.2.1 = some (tyX10 k) := by decide +kernel
abbrev cX10_init : ByteArray := prog_12_method_1_code
def yX10_init : MethodName := ⟨RX10, "<init>", "(LTelescopeCourt$Terms;LTelescopeCourt$Forms;LTelescopeCourt$Signature;LTelescopeCourt$Docket;)V"⟩
def RX11 : String := "TelescopeCourt"
def TX11 : u_T := fun k => match k with
  | 0 => ("TelescopeCourt", "terms", "LTelescopeCourt$Terms;", true)
  | 1 => ("TelescopeCourt", "forms", "LTelescopeCourt$Forms;", true)
  | 2 => ("TelescopeCourt", "signature", "LTelescopeCourt$Signature;", true)
  | 3 => ("TelescopeCourt", "docket", "LTelescopeCourt$Docket;", true)
  | 4 => ("TelescopeCourt", "typing", "LTelescopeCourt$Typing;", true)
  | 5 => ("TelescopeCourt", "graphs", "LTelescopeCourt$Graphs;", true)
  | 6 => ("TelescopeCourt", "machine", "LTelescopeCourt$Machine;", true)
  | 7 => ("TelescopeCourt", "nodes", "[I", true)
  | 8 => ("TelescopeCourt", "laid", "I", false)
  | _ => ("TelescopeCourt", "stepsOfRuns", "J", false)
def tyX11 : Nat → FieldType := fun k => match k with
  | 0 => .object "TelescopeCourt$Terms"
  | 1 => .object "TelescopeCourt$Forms"
  | 2 => .object "TelescopeCourt$Signature"
  | 3 => .object "TelescopeCourt$Docket"
  | 4 => .object "TelescopeCourt$Typing"
  | 5 => .object "TelescopeCourt$Graphs"
  | 6 => .object "TelescopeCourt$Machine"
  | 7 => .array .int
  | 8 => .int
  | _ => .long
abbrev wsX110 : List Cond := u_ws RX11 TX11 10
theorem nmX11 : ∀ a, a < 10 → ∀ b, b < 10 → a ≠ b → (TX11 a).2.1 ≠ (TX11 b).2.1 := by decide +kernel
theorem tyX11_ok : ∀ k, k < 10 → parseFieldDescriptor (TX11 k).2.2.1 = some (tyX11 k) := by decide +kernel
abbrev cX11_init : ByteArray := prog_1_method_1_code
def yX11_init : MethodName := ⟨RX11, "<init>", "()V"⟩
abbrev cX11_universe : ByteArray := prog_1_method_2_code
def yX11_universe : MethodName := ⟨RX11, "universe", "(I)I"⟩
abbrev cX11_variable : ByteArray := prog_1_method_3_code
def yX11_variable : MethodName := ⟨RX11, "variable", "(I)I"⟩
abbrev cX11_functions : ByteArray := prog_1_method_4_code
def yX11_functions : MethodName := ⟨RX11, "functions", "(II)I"⟩
abbrev cX11_lambda : ByteArray := prog_1_method_5_code
def yX11_lambda : MethodName := ⟨RX11, "lambda", "(II)I"⟩
abbrev cX11_apply : ByteArray := prog_1_method_6_code
def yX11_apply : MethodName := ⟨RX11, "apply", "(II)I"⟩
abbrev cX11_dataNode : ByteArray := prog_1_method_7_code
def yX11_dataNode : MethodName := ⟨RX11, "dataNode", "(I)I"⟩
abbrev cX11_constructorNode : ByteArray := prog_1_method_8_code
def yX11_constructorNode : MethodName := ⟨RX11, "constructorNode", "(I)I"⟩
abbrev cX11_functionNode : ByteArray := prog_1_method_9_code
def yX11_functionNode : MethodName := ⟨RX11, "functionNode", "(I)I"⟩
abbrev cX11_addData : ByteArray := prog_1_method_10_code
def yX11_addData : MethodName := ⟨RX11, "addData", "()I"⟩
abbrev cX11_addConstructor : ByteArray := prog_1_method_11_code
def yX11_addConstructor : MethodName := ⟨RX11, "addConstructor", "(IIIII)I"⟩
abbrev cX11_size : ByteArray := prog_1_method_12_code
def yX11_size : MethodName := ⟨RX11, "size", "(I)I"⟩
abbrev cX11_number : ByteArray := prog_1_method_13_code
def yX11_number : MethodName := ⟨RX11, "number", "(I)I"⟩
abbrev cX11_normal : ByteArray := prog_1_method_14_code
def yX11_normal : MethodName := ⟨RX11, "normal", "(I)I"⟩
abbrev cX11_typeOf : ByteArray := prog_1_method_15_code
def yX11_typeOf : MethodName := ⟨RX11, "typeOf", "(I)I"⟩
abbrev cX11_level : ByteArray := prog_1_method_16_code
def yX11_level : MethodName := ⟨RX11, "level", "(I)I"⟩
abbrev cX11_isOf : ByteArray := prog_1_method_17_code
def yX11_isOf : MethodName := ⟨RX11, "isOf", "(II)Z"⟩
abbrev cX11_declare : ByteArray := prog_1_method_18_code
def yX11_declare : MethodName := ⟨RX11, "declare", "(I)I"⟩
abbrev cX11_split : ByteArray := prog_1_method_19_code
def yX11_split : MethodName := ⟨RX11, "split", "(II)I"⟩
abbrev cX11_fill : ByteArray := prog_1_method_20_code
def yX11_fill : MethodName := ⟨RX11, "fill", "(II)I"⟩
abbrev cX11_auto : ByteArray := prog_1_method_21_code
def yX11_auto : MethodName := ⟨RX11, "auto", "(I)I"⟩
abbrev cX11_reopen : ByteArray := prog_1_method_22_code
def yX11_reopen : MethodName := ⟨RX11, "reopen", "(I)I"⟩
abbrev cX11_goalState : ByteArray := prog_1_method_23_code
def yX11_goalState : MethodName := ⟨RX11, "goalState", "(I)C"⟩
abbrev cX11_contextSize : ByteArray := prog_1_method_24_code
def yX11_contextSize : MethodName := ⟨RX11, "contextSize", "(I)I"⟩
abbrev cX11_contextType : ByteArray := prog_1_method_25_code
def yX11_contextType : MethodName := ⟨RX11, "contextType", "(II)I"⟩
abbrev cX11_goalType : ByteArray := prog_1_method_26_code
def yX11_goalType : MethodName := ⟨RX11, "goalType", "(I)I"⟩
abbrev cX11_openGoals : ByteArray := prog_1_method_27_code
def yX11_openGoals : MethodName := ⟨RX11, "openGoals", "(I)I"⟩
abbrev cX11_accept : ByteArray := prog_1_method_28_code
def yX11_accept : MethodName := ⟨RX11, "accept", "(I)I"⟩
abbrev cX11_isAccepted : ByteArray := prog_1_method_29_code
def yX11_isAccepted : MethodName := ⟨RX11, "isAccepted", "(I)Z"⟩
abbrev cX11_run : ByteArray := prog_1_method_30_code
def yX11_run : MethodName := ⟨RX11, "run", "(I)I"⟩
abbrev cX11_runByClauses : ByteArray := prog_1_method_31_code
def yX11_runByClauses : MethodName := ⟨RX11, "runByClauses", "(I)I"⟩
abbrev cX11_steps : ByteArray := prog_1_method_32_code
def yX11_steps : MethodName := ⟨RX11, "steps", "(I)I"⟩
abbrev cX11_valueSize : ByteArray := prog_1_method_33_code
def yX11_valueSize : MethodName := ⟨RX11, "valueSize", "(I)I"⟩
abbrev cX11_allSteps : ByteArray := prog_1_method_34_code
def yX11_allSteps : MethodName := ⟨RX11, "allSteps", "()J"⟩
abbrev cX11_filledShare : ByteArray := prog_1_method_35_code
def yX11_filledShare : MethodName := ⟨RX11, "filledShare", "()F"⟩
abbrev cX11_meanSize : ByteArray := prog_1_method_36_code
def yX11_meanSize : MethodName := ⟨RX11, "meanSize", "()D"⟩
abbrev cX11_isSound : ByteArray := prog_1_method_37_code
def yX11_isSound : MethodName := ⟨RX11, "isSound", "()Z"⟩
abbrev cX11_layLeaf : ByteArray := prog_1_method_38_code
def yX11_layLeaf : MethodName := ⟨RX11, "layLeaf", "(II)I"⟩
abbrev cX11_layPair : ByteArray := prog_1_method_39_code
def yX11_layPair : MethodName := ⟨RX11, "layPair", "(III)I"⟩
abbrev cX11_termAt : ByteArray := prog_1_method_40_code
def yX11_termAt : MethodName := ⟨RX11, "termAt", "(I)I"⟩
abbrev cX11_functionAt : ByteArray := prog_1_method_41_code
def yX11_functionAt : MethodName := ⟨RX11, "functionAt", "(I)LTelescopeCourt$Function;"⟩
abbrev cX11_goalAt : ByteArray := prog_1_method_42_code
def yX11_goalAt : MethodName := ⟨RX11, "goalAt", "(I)LTelescopeCourt$Goal;"⟩
def RX16 : String := "TelescopeCourtModel$Term"
def TX16 : u_T := fun k => match k with
  | 0 => ("TelescopeCourtModel$Term", "kind", "C", true)
  | 1 => ("TelescopeCourtModel$Term", "number", "I", true)
  | 2 => ("TelescopeCourtModel$Term", "one", "LTelescopeCourtModel$Term;", true)
  | 3 => ("TelescopeCourtModel$Term", "other", "LTelescopeCourtModel$Term;", true)
  | 4 => ("TelescopeCourtModel$Term", "size", "I", true)
  | _ => ("TelescopeCourtModel$Term", "free", "I", true)
def tyX16 : Nat → FieldType := fun k => match k with
  | 0 => .char
  | 1 => .int
  | 2 => .object "TelescopeCourtModel$Term"
  | 3 => .object "TelescopeCourtModel$Term"
  | 4 => .int
  | _ => .int
abbrev wsX160 : List Cond := u_ws RX16 TX16 6
theorem nmX16 : ∀ a, a < 6 → ∀ b, b < 6 → a ≠ b → (TX16 a).2.1 ≠ (TX16 b).2.1 := by decide +kernel
theorem tyX16_ok : ∀ k, k < 6 → parseFieldDescriptor (TX16 k).2.2.1 = some (tyX16 k) := by decide +kernel
abbrev cX16_init : ByteArray := prog_19_method_1_code
def yX16_init : MethodName := ⟨RX16, "<init>", "(CILTelescopeCourtModel$Term;LTelescopeCourtModel$Term;)V"⟩
def RX17 : String := "TelescopeCourtModel"
def TX17 : u_T := fun k => match k with
  | 0 => ("TelescopeCourtModel", "thrown", "I", false)
  | 1 => ("TelescopeCourtModel", "nodes", "Ljava/util/ArrayList;", true)
  | 2 => ("TelescopeCourtModel", "datas", "I", false)
  | 3 => ("TelescopeCourtModel", "split", "[Z", true)
  | 4 => ("TelescopeCourtModel", "constructors", "Ljava/util/ArrayList;", true)
  | 5 => ("TelescopeCourtModel", "functions", "Ljava/util/ArrayList;", true)
  | 6 => ("TelescopeCourtModel", "goals", "Ljava/util/ArrayList;", true)
  | 7 => ("TelescopeCourtModel", "all", "J", false)
  | _ => ("TelescopeCourtModel", "steps", "I", false)
def tyX17 : Nat → FieldType := fun k => match k with
  | 0 => .int
  | 1 => .object "java/util/ArrayList"
  | 2 => .int
  | 3 => .array .boolean
  | 4 => .object "java/util/ArrayList"
  | 5 => .object "java/util/ArrayList"
  | 6 => .object "java/util/ArrayList"
  | 7 => .long
  | _ => .int
abbrev wsX170 : List Cond := u_ws RX17 TX17 9
theorem nmX17 : ∀ a, a < 9 → ∀ b, b < 9 → a ≠ b → (TX17 a).2.1 ≠ (TX17 b).2.1 := by decide +kernel
theorem tyX17_ok : ∀ k, k < 9 → parseFieldDescriptor (TX17 k).2.2.1 = some (tyX17 k) := by decide +kernel
abbrev cX17_leaf : ByteArray := prog_14_method_1_code
def yX17_leaf : MethodName := ⟨RX17, "leaf", "(CI)LTelescopeCourtModel$Term;"⟩
abbrev cX17_init : ByteArray := prog_14_method_7_code
def yX17_init : MethodName := ⟨RX17, "<init>", "()V"⟩
abbrev cX17_thrown : ByteArray := prog_14_method_8_code
def yX17_thrown : MethodName := ⟨RX17, "thrown", "()I"⟩
abbrev cX17_fails : ByteArray := prog_14_method_9_code
def yX17_fails : MethodName := ⟨RX17, "fails", "(I)Z"⟩
abbrev cX17_in : ByteArray := prog_14_method_10_code
def yX17_in : MethodName := ⟨RX17, "in", "(III)Z"⟩
abbrev cX17_isNode : ByteArray := prog_14_method_11_code
def yX17_isNode : MethodName := ⟨RX17, "isNode", "(I)Z"⟩
abbrev cX17_lays : ByteArray := prog_14_method_12_code
def yX17_lays : MethodName := ⟨RX17, "lays", "(LTelescopeCourtModel$Term;)I"⟩
abbrev cX17_isFull : ByteArray := prog_14_method_13_code
def yX17_isFull : MethodName := ⟨RX17, "isFull", "()Z"⟩
abbrev cX17_universe : ByteArray := prog_14_method_14_code
def yX17_universe : MethodName := ⟨RX17, "universe", "(I)I"⟩
abbrev cX17_variable : ByteArray := prog_14_method_15_code
def yX17_variable : MethodName := ⟨RX17, "variable", "(I)I"⟩
abbrev cX17_laysTwo : ByteArray := prog_14_method_16_code
def yX17_laysTwo : MethodName := ⟨RX17, "laysTwo", "(CII)I"⟩
abbrev cX17_functions : ByteArray := prog_14_method_17_code
def yX17_functions : MethodName := ⟨RX17, "functions", "(II)I"⟩
abbrev cX17_lambda : ByteArray := prog_14_method_18_code
def yX17_lambda : MethodName := ⟨RX17, "lambda", "(II)I"⟩
abbrev cX17_apply : ByteArray := prog_14_method_19_code
def yX17_apply : MethodName := ⟨RX17, "apply", "(II)I"⟩
abbrev cX17_laysOf : ByteArray := prog_14_method_20_code
def yX17_laysOf : MethodName := ⟨RX17, "laysOf", "(CII)I"⟩
abbrev cX17_dataNode : ByteArray := prog_14_method_21_code
def yX17_dataNode : MethodName := ⟨RX17, "dataNode", "(I)I"⟩
abbrev cX17_constructorNode : ByteArray := prog_14_method_22_code
def yX17_constructorNode : MethodName := ⟨RX17, "constructorNode", "(I)I"⟩
abbrev cX17_functionNode : ByteArray := prog_14_method_23_code
def yX17_functionNode : MethodName := ⟨RX17, "functionNode", "(I)I"⟩
abbrev cX17_addData : ByteArray := prog_14_method_24_code
def yX17_addData : MethodName := ⟨RX17, "addData", "()I"⟩
abbrev cX17_isData : ByteArray := prog_14_method_25_code
def yX17_isData : MethodName := ⟨RX17, "isData", "(I)Z"⟩
abbrev cX17_addConstructor : ByteArray := prog_14_method_27_code
def yX17_addConstructor : MethodName := ⟨RX17, "addConstructor", "(IIIII)I"⟩
abbrev cX17_failsNode : ByteArray := prog_14_method_32_code
def yX17_failsNode : MethodName := ⟨RX17, "failsNode", "(I)Z"⟩
abbrev cX17_size : ByteArray := prog_14_method_33_code
def yX17_size : MethodName := ⟨RX17, "size", "(I)I"⟩
abbrev cX17_number : ByteArray := prog_14_method_34_code
def yX17_number : MethodName := ⟨RX17, "number", "(I)I"⟩
abbrev cX17_normal : ByteArray := prog_14_method_35_code
def yX17_normal : MethodName := ⟨RX17, "normal", "(I)I"⟩
abbrev cX17_typeOf : ByteArray := prog_14_method_36_code
def yX17_typeOf : MethodName := ⟨RX17, "typeOf", "(I)I"⟩
abbrev cX17_level : ByteArray := prog_14_method_37_code
def yX17_level : MethodName := ⟨RX17, "level", "(I)I"⟩
abbrev cX17_isOf : ByteArray := prog_14_method_38_code
def yX17_isOf : MethodName := ⟨RX17, "isOf", "(II)Z"⟩
abbrev cX17_declare : ByteArray := prog_14_method_40_code
def yX17_declare : MethodName := ⟨RX17, "declare", "(I)I"⟩
abbrev cX17_isGoal : ByteArray := prog_14_method_41_code
def yX17_isGoal : MethodName := ⟨RX17, "isGoal", "(I)Z"⟩
abbrev cX17_split : ByteArray := prog_14_method_46_code
def yX17_split : MethodName := ⟨RX17, "split", "(II)I"⟩
abbrev cX17_fill : ByteArray := prog_14_method_49_code
def yX17_fill : MethodName := ⟨RX17, "fill", "(II)I"⟩
abbrev cX17_auto : ByteArray := prog_14_method_50_code
def yX17_auto : MethodName := ⟨RX17, "auto", "(I)I"⟩
abbrev cX17_reopen : ByteArray := prog_14_method_51_code
def yX17_reopen : MethodName := ⟨RX17, "reopen", "(I)I"⟩
abbrev cX17_failsGoal : ByteArray := prog_14_method_52_code
def yX17_failsGoal : MethodName := ⟨RX17, "failsGoal", "(I)Z"⟩
abbrev cX17_goalState : ByteArray := prog_14_method_53_code
def yX17_goalState : MethodName := ⟨RX17, "goalState", "(I)C"⟩
abbrev cX17_contextSize : ByteArray := prog_14_method_54_code
def yX17_contextSize : MethodName := ⟨RX17, "contextSize", "(I)I"⟩
abbrev cX17_contextType : ByteArray := prog_14_method_55_code
def yX17_contextType : MethodName := ⟨RX17, "contextType", "(II)I"⟩
abbrev cX17_goalType : ByteArray := prog_14_method_56_code
def yX17_goalType : MethodName := ⟨RX17, "goalType", "(I)I"⟩
abbrev cX17_failsFunction : ByteArray := prog_14_method_57_code
def yX17_failsFunction : MethodName := ⟨RX17, "failsFunction", "(I)Z"⟩
abbrev cX17_openGoals : ByteArray := prog_14_method_58_code
def yX17_openGoals : MethodName := ⟨RX17, "openGoals", "(I)I"⟩
abbrev cX17_accept : ByteArray := prog_14_method_66_code
def yX17_accept : MethodName := ⟨RX17, "accept", "(I)I"⟩
abbrev cX17_isAccepted : ByteArray := prog_14_method_67_code
def yX17_isAccepted : MethodName := ⟨RX17, "isAccepted", "(I)Z"⟩
abbrev cX17_runs : ByteArray := prog_14_method_74_code
def yX17_runs : MethodName := ⟨RX17, "runs", "(I)LTelescopeCourtModel$Term;"⟩
abbrev cX17_run : ByteArray := prog_14_method_75_code
def yX17_run : MethodName := ⟨RX17, "run", "(I)I"⟩
abbrev cX17_runByClauses : ByteArray := prog_14_method_76_code
def yX17_runByClauses : MethodName := ⟨RX17, "runByClauses", "(I)I"⟩
abbrev cX17_steps : ByteArray := prog_14_method_77_code
def yX17_steps : MethodName := ⟨RX17, "steps", "(I)I"⟩
abbrev cX17_valueSize : ByteArray := prog_14_method_78_code
def yX17_valueSize : MethodName := ⟨RX17, "valueSize", "(I)I"⟩
abbrev cX17_allSteps : ByteArray := prog_14_method_79_code
def yX17_allSteps : MethodName := ⟨RX17, "allSteps", "()J"⟩
abbrev cX17_filledShare : ByteArray := prog_14_method_80_code
def yX17_filledShare : MethodName := ⟨RX17, "filledShare", "()F"⟩
abbrev cX17_meanSize : ByteArray := prog_14_method_81_code
def yX17_meanSize : MethodName := ⟨RX17, "meanSize", "()D"⟩
abbrev cX17_isSound : ByteArray := prog_14_method_82_code
def yX17_isSound : MethodName := ⟨RX17, "isSound", "()Z"⟩
def RJxa1e45 : String := "java/util/AbstractCollection"
def TJxa1e45 : u_T := fun k => match k with
  | _ => ("", "", "", false)
def tyJxa1e45 : Nat → FieldType := fun k => match k with
  | _ => .int
abbrev wsJxa1e450 : List Cond := u_ws RJxa1e45 TJxa1e45 0
theorem nmJxa1e45 : ∀ a, a < 0 → ∀ b, b < 0 → a ≠ b → (TJxa1e45 a).2.1 ≠ (TJxa1e45 b).2.1 := by decide +kernel
theorem tyJxa1e45_ok : ∀ k, k < 0 → parseFieldDescriptor (TJxa1e45 k).2.2.1 = some (tyJxa1e45 k) := by decide +kernel
abbrev cJxa1e45_init_da8c8 : ByteArray := prog_35_method_1_code
def yJxa1e45_init_da8c8 : MethodName := ⟨RJxa1e45, "<init>", "()V"⟩
def RJxc12de : String := "java/util/AbstractList"
def TJxc12de : u_T := fun k => match k with
  | _ => ("", "", "", false)
def tyJxc12de : Nat → FieldType := fun k => match k with
  | _ => .int
abbrev wsJxc12de0 : List Cond := u_ws RJxc12de TJxc12de 0
theorem nmJxc12de : ∀ a, a < 0 → ∀ b, b < 0 → a ≠ b → (TJxc12de a).2.1 ≠ (TJxc12de b).2.1 := by decide +kernel
theorem tyJxc12de_ok : ∀ k, k < 0 → parseFieldDescriptor (TJxc12de k).2.2.1 = some (tyJxc12de k) := by decide +kernel
abbrev cJxc12de_init_da8c8 : ByteArray := prog_36_method_1_code
def yJxc12de_init_da8c8 : MethodName := ⟨RJxc12de, "<init>", "()V"⟩
def RJx35411 : String := "java/util/ArrayList$Itr"
def TJx35411 : u_T := fun k => match k with
  | 0 => ("java/util/ArrayList$Itr", "cursor", "I", false)
  | 1 => ("java/util/ArrayList$Itr", "lastRet", "I", false)
  | 2 => ("java/util/ArrayList$Itr", "expectedModCount", "I", false)
  | _ => ("java/util/ArrayList$Itr", "this$0", "Ljava/util/ArrayList;", true)
def tyJx35411 : Nat → FieldType := fun k => match k with
  | 0 => .int
  | 1 => .int
  | 2 => .int
  | _ => .object "java/util/ArrayList"
abbrev wsJx354110 : List Cond := u_ws RJx35411 TJx35411 4
theorem nmJx35411 : ∀ a, a < 4 → ∀ b, b < 4 → a ≠ b → (TJx35411 a).2.1 ≠ (TJx35411 b).2.1 := by decide +kernel
theorem tyJx35411_ok : ∀ k, k < 4 → parseFieldDescriptor (TJx35411 k).2.2.1 = some (tyJx35411 k) := by decide +kernel
abbrev cJx35411_init_45d68 : ByteArray := prog_38_method_1_code
def yJx35411_init_45d68 : MethodName := ⟨RJx35411, "<init>", "(Ljava/util/ArrayList;)V"⟩
abbrev cJx35411_hasNext_aae02 : ByteArray := prog_38_method_2_code
def yJx35411_hasNext_aae02 : MethodName := ⟨RJx35411, "hasNext", "()Z"⟩
def RJx4a65c : String := "java/util/ArrayList"
def TJx4a65c : u_T := fun k => match k with
  | 0 => ("java/util/AbstractList", "modCount", "I", false)
  | 1 => ("java/util/ArrayList", "elementData", "[Ljava/lang/Object;", false)
  | _ => ("java/util/ArrayList", "size", "I", false)
def tyJx4a65c : Nat → FieldType := fun k => match k with
  | 0 => .int
  | 1 => .array (.object "java/lang/Object")
  | _ => .int
abbrev wsJx4a65c0 : List Cond := u_ws RJx4a65c TJx4a65c 3
theorem nmJx4a65c : ∀ a, a < 3 → ∀ b, b < 3 → a ≠ b → (TJx4a65c a).2.1 ≠ (TJx4a65c b).2.1 := by decide +kernel
theorem tyJx4a65c_ok : ∀ k, k < 3 → parseFieldDescriptor (TJx4a65c k).2.2.1 = some (tyJx4a65c k) := by decide +kernel
abbrev cJx4a65c_init_da8c8 : ByteArray := prog_37_method_2_code
def yJx4a65c_init_da8c8 : MethodName := ⟨RJx4a65c, "<init>", "()V"⟩
abbrev cJx4a65c_grow_92f84 : ByteArray := prog_37_method_6_code
def yJx4a65c_grow_92f84 : MethodName := ⟨RJx4a65c, "grow", "(I)[Ljava/lang/Object;"⟩
abbrev cJx4a65c_grow_d5877 : ByteArray := prog_37_method_7_code
def yJx4a65c_grow_d5877 : MethodName := ⟨RJx4a65c, "grow", "()[Ljava/lang/Object;"⟩
abbrev cJx4a65c_size_8abf5 : ByteArray := prog_37_method_8_code
def yJx4a65c_size_8abf5 : MethodName := ⟨RJx4a65c, "size", "()I"⟩
abbrev cJx4a65c_add_72be8 : ByteArray := prog_37_method_24_code
def yJx4a65c_add_72be8 : MethodName := ⟨RJx4a65c, "add", "(Ljava/lang/Object;[Ljava/lang/Object;I)V"⟩
abbrev cJx4a65c_add_9ea2d : ByteArray := prog_37_method_25_code
def yJx4a65c_add_9ea2d : MethodName := ⟨RJx4a65c, "add", "(Ljava/lang/Object;)Z"⟩
abbrev cJx4a65c_iterator_32c93 : ByteArray := prog_37_method_55_code
def yJx4a65c_iterator_32c93 : MethodName := ⟨RJx4a65c, "iterator", "()Ljava/util/Iterator;"⟩
def RL : String := "TelescopeCourtLaw"
abbrev cL_universe : ByteArray := method_3_code
def yL_universe : MethodName := ⟨RL, "universe", "(LTelescopeCourt;I[J)I"⟩
abbrev cL_variable : ByteArray := method_4_code
def yL_variable : MethodName := ⟨RL, "variable", "(LTelescopeCourt;I[J)I"⟩
abbrev cL_functions : ByteArray := method_5_code
def yL_functions : MethodName := ⟨RL, "functions", "(LTelescopeCourt;II[J)I"⟩
abbrev cL_lambda : ByteArray := method_6_code
def yL_lambda : MethodName := ⟨RL, "lambda", "(LTelescopeCourt;II[J)I"⟩
abbrev cL_apply : ByteArray := method_7_code
def yL_apply : MethodName := ⟨RL, "apply", "(LTelescopeCourt;II[J)I"⟩
abbrev cL_dataNode : ByteArray := method_8_code
def yL_dataNode : MethodName := ⟨RL, "dataNode", "(LTelescopeCourt;I[J)I"⟩
abbrev cL_constructorNode : ByteArray := method_9_code
def yL_constructorNode : MethodName := ⟨RL, "constructorNode", "(LTelescopeCourt;I[J)I"⟩
abbrev cL_functionNode : ByteArray := method_10_code
def yL_functionNode : MethodName := ⟨RL, "functionNode", "(LTelescopeCourt;I[J)I"⟩
abbrev cL_addData : ByteArray := method_11_code
def yL_addData : MethodName := ⟨RL, "addData", "(LTelescopeCourt;[J)I"⟩
abbrev cL_addConstructor : ByteArray := method_12_code
def yL_addConstructor : MethodName := ⟨RL, "addConstructor", "(LTelescopeCourt;IIIII[J)I"⟩
abbrev cL_size : ByteArray := method_13_code
def yL_size : MethodName := ⟨RL, "size", "(LTelescopeCourt;I[J)I"⟩
abbrev cL_number : ByteArray := method_14_code
def yL_number : MethodName := ⟨RL, "number", "(LTelescopeCourt;I[J)I"⟩
abbrev cL_normal : ByteArray := method_15_code
def yL_normal : MethodName := ⟨RL, "normal", "(LTelescopeCourt;I[J)I"⟩
abbrev cL_typeOf : ByteArray := method_16_code
def yL_typeOf : MethodName := ⟨RL, "typeOf", "(LTelescopeCourt;I[J)I"⟩
abbrev cL_level : ByteArray := method_17_code
def yL_level : MethodName := ⟨RL, "level", "(LTelescopeCourt;I[J)I"⟩
abbrev cL_isOf : ByteArray := method_18_code
def yL_isOf : MethodName := ⟨RL, "isOf", "(LTelescopeCourt;II[J)I"⟩
abbrev cL_declare : ByteArray := method_19_code
def yL_declare : MethodName := ⟨RL, "declare", "(LTelescopeCourt;I[J)I"⟩
abbrev cL_split : ByteArray := method_20_code
def yL_split : MethodName := ⟨RL, "split", "(LTelescopeCourt;II[J)I"⟩
abbrev cL_fill : ByteArray := method_21_code
def yL_fill : MethodName := ⟨RL, "fill", "(LTelescopeCourt;II[J)I"⟩
abbrev cL_auto : ByteArray := method_22_code
def yL_auto : MethodName := ⟨RL, "auto", "(LTelescopeCourt;I[J)I"⟩
abbrev cL_reopen : ByteArray := method_23_code
def yL_reopen : MethodName := ⟨RL, "reopen", "(LTelescopeCourt;I[J)I"⟩
abbrev cL_goalState : ByteArray := method_24_code
def yL_goalState : MethodName := ⟨RL, "goalState", "(LTelescopeCourt;I[J)I"⟩
abbrev cL_contextSize : ByteArray := method_25_code
def yL_contextSize : MethodName := ⟨RL, "contextSize", "(LTelescopeCourt;I[J)I"⟩
abbrev cL_contextType : ByteArray := method_26_code
def yL_contextType : MethodName := ⟨RL, "contextType", "(LTelescopeCourt;II[J)I"⟩
abbrev cL_goalType : ByteArray := method_27_code
def yL_goalType : MethodName := ⟨RL, "goalType", "(LTelescopeCourt;I[J)I"⟩
abbrev cL_openGoals : ByteArray := method_28_code
def yL_openGoals : MethodName := ⟨RL, "openGoals", "(LTelescopeCourt;I[J)I"⟩
abbrev cL_accept : ByteArray := method_29_code
def yL_accept : MethodName := ⟨RL, "accept", "(LTelescopeCourt;I[J)I"⟩
abbrev cL_isAccepted : ByteArray := method_30_code
def yL_isAccepted : MethodName := ⟨RL, "isAccepted", "(LTelescopeCourt;I[J)I"⟩
abbrev cL_run : ByteArray := method_31_code
def yL_run : MethodName := ⟨RL, "run", "(LTelescopeCourt;I[J)I"⟩
abbrev cL_runByClauses : ByteArray := method_32_code
def yL_runByClauses : MethodName := ⟨RL, "runByClauses", "(LTelescopeCourt;I[J)I"⟩
abbrev cL_steps : ByteArray := method_33_code
def yL_steps : MethodName := ⟨RL, "steps", "(LTelescopeCourt;I[J)I"⟩
abbrev cL_valueSize : ByteArray := method_34_code
def yL_valueSize : MethodName := ⟨RL, "valueSize", "(LTelescopeCourt;I[J)I"⟩
abbrev cL_filledShare : ByteArray := method_35_code
def yL_filledShare : MethodName := ⟨RL, "filledShare", "(LTelescopeCourt;[D)I"⟩
abbrev cL_meanSize : ByteArray := method_36_code
def yL_meanSize : MethodName := ⟨RL, "meanSize", "(LTelescopeCourt;[D)I"⟩
abbrev cL_law : ByteArray := code
def yL_law : MethodName := ⟨RL, "law", "([I)Z"⟩
theorem dX0_init_0 : decode cX0_init 0 = .ok (.aload_n 0, 1) := by decide +kernel
theorem dX0_init_1 : decode cX0_init 1 = .ok (.invokespecial 3, 3) := by decide +kernel
theorem dX0_init_4 : decode cX0_init 4 = .ok (.aload_n 0, 1) := by decide +kernel
theorem dX0_init_5 : decode cX0_init 5 = .ok (.bipush 8, 2) := by decide +kernel
theorem dX0_init_7 : decode cX0_init 7 = .ok (.anewarray 9, 3) := by decide +kernel
theorem dX0_init_10 : decode cX0_init 10 = .ok (.putfield 11, 3) := by decide +kernel
theorem dX0_init_13 : decode cX0_init 13 = .ok (.aload_n 0, 1) := by decide +kernel
theorem dX0_init_14 : decode cX0_init 14 = .ok (.bipush 40, 2) := by decide +kernel
theorem dX0_init_16 : decode cX0_init 16 = .ok (.anewarray 17, 3) := by decide +kernel
theorem dX0_init_19 : decode cX0_init 19 = .ok (.putfield 19, 3) := by decide +kernel
theorem dX0_init_22 : decode cX0_init 22 = .ok (.aload_n 0, 1) := by decide +kernel
theorem dX0_init_23 : decode cX0_init 23 = .ok (.aload_n 1, 1) := by decide +kernel
theorem dX0_init_24 : decode cX0_init 24 = .ok (.putfield 23, 3) := by decide +kernel
theorem dX0_init_27 : decode cX0_init 27 = .ok (.aload_n 0, 1) := by decide +kernel
theorem dX0_init_28 : decode cX0_init 28 = .ok (.aload_n 2, 1) := by decide +kernel
theorem dX0_init_29 : decode cX0_init 29 = .ok (.putfield 27, 3) := by decide +kernel
theorem dX0_init_32 : decode cX0_init 32 = .ok (.aload_n 0, 1) := by decide +kernel
theorem dX0_init_33 : decode cX0_init 33 = .ok (.aload_n 3, 1) := by decide +kernel
theorem dX0_init_34 : decode cX0_init 34 = .ok (.putfield 31, 3) := by decide +kernel
theorem dX0_init_37 : decode cX0_init 37 = .ok (.return_, 1) := by decide +kernel
theorem dX0_function_0 : decode cX0_function 0 = .ok (.iload_n 1, 1) := by decide +kernel
theorem dX0_function_1 : decode cX0_function 1 = .ok (.ifCond .lt 20, 3) := by decide +kernel
theorem dX0_function_4 : decode cX0_function 4 = .ok (.iload_n 1, 1) := by decide +kernel
theorem dX0_function_5 : decode cX0_function 5 = .ok (.aload_n 0, 1) := by decide +kernel
theorem dX0_function_6 : decode cX0_function 6 = .ok (.getfield 35, 3) := by decide +kernel
theorem dX0_function_9 : decode cX0_function 9 = .ok (.if_icmp .ge 12, 3) := by decide +kernel
theorem dX0_function_21 : decode cX0_function 21 = .ok (.aconst_null, 1) := by decide +kernel
theorem dX0_function_22 : decode cX0_function 22 = .ok (.areturn, 1) := by decide +kernel
theorem dX0_goal_0 : decode cX0_goal 0 = .ok (.iload_n 1, 1) := by decide +kernel
theorem dX0_goal_1 : decode cX0_goal 1 = .ok (.ifCond .lt 20, 3) := by decide +kernel
theorem dX0_goal_4 : decode cX0_goal 4 = .ok (.iload_n 1, 1) := by decide +kernel
theorem dX0_goal_5 : decode cX0_goal 5 = .ok (.aload_n 0, 1) := by decide +kernel
theorem dX0_goal_6 : decode cX0_goal 6 = .ok (.getfield 39, 3) := by decide +kernel
theorem dX0_goal_9 : decode cX0_goal 9 = .ok (.if_icmp .ge 12, 3) := by decide +kernel
theorem dX0_goal_21 : decode cX0_goal 21 = .ok (.aconst_null, 1) := by decide +kernel
theorem dX0_goal_22 : decode cX0_goal 22 = .ok (.areturn, 1) := by decide +kernel
theorem dX0_goalsThatAre_0 : decode cX0_goalsThatAre 0 = .ok (.iconst 0, 1) := by decide +kernel
theorem dX0_goalsThatAre_1 : decode cX0_goalsThatAre 1 = .ok (.istore_n 2, 1) := by decide +kernel
theorem dX0_goalsThatAre_2 : decode cX0_goalsThatAre 2 = .ok (.iconst 0, 1) := by decide +kernel
theorem dX0_goalsThatAre_3 : decode cX0_goalsThatAre 3 = .ok (.istore_n 3, 1) := by decide +kernel
theorem dX0_goalsThatAre_4 : decode cX0_goalsThatAre 4 = .ok (.iload_n 3, 1) := by decide +kernel
theorem dX0_goalsThatAre_5 : decode cX0_goalsThatAre 5 = .ok (.aload_n 0, 1) := by decide +kernel
theorem dX0_goalsThatAre_6 : decode cX0_goalsThatAre 6 = .ok (.getfield 39, 3) := by decide +kernel
theorem dX0_goalsThatAre_9 : decode cX0_goalsThatAre 9 = .ok (.if_icmp .ge 33, 3) := by decide +kernel
theorem dX0_goalsThatAre_42 : decode cX0_goalsThatAre 42 = .ok (.iload_n 2, 1) := by decide +kernel
theorem dX0_goalsThatAre_43 : decode cX0_goalsThatAre 43 = .ok (.ireturn, 1) := by decide +kernel
theorem dX0_anAcceptedOneIsOpen_0 : decode cX0_anAcceptedOneIsOpen 0 = .ok (.iconst 0, 1) := by decide +kernel
theorem dX0_anAcceptedOneIsOpen_1 : decode cX0_anAcceptedOneIsOpen 1 = .ok (.istore_n 1, 1) := by decide +kernel
theorem dX0_anAcceptedOneIsOpen_2 : decode cX0_anAcceptedOneIsOpen 2 = .ok (.iload_n 1, 1) := by decide +kernel
theorem dX0_anAcceptedOneIsOpen_3 : decode cX0_anAcceptedOneIsOpen 3 = .ok (.aload_n 0, 1) := by decide +kernel
theorem dX0_anAcceptedOneIsOpen_4 : decode cX0_anAcceptedOneIsOpen 4 = .ok (.getfield 35, 3) := by decide +kernel
theorem dX0_anAcceptedOneIsOpen_7 : decode cX0_anAcceptedOneIsOpen 7 = .ok (.if_icmp .ge 27, 3) := by decide +kernel
theorem dX0_anAcceptedOneIsOpen_34 : decode cX0_anAcceptedOneIsOpen 34 = .ok (.iconst 0, 1) := by decide +kernel
theorem dX0_anAcceptedOneIsOpen_35 : decode cX0_anAcceptedOneIsOpen 35 = .ok (.ireturn, 1) := by decide +kernel
theorem dX0_twoAreAlike_0 : decode cX0_twoAreAlike 0 = .ok (.iconst 0, 1) := by decide +kernel
theorem dX0_twoAreAlike_1 : decode cX0_twoAreAlike 1 = .ok (.istore_n 1, 1) := by decide +kernel
theorem dX0_twoAreAlike_2 : decode cX0_twoAreAlike 2 = .ok (.iload_n 1, 1) := by decide +kernel
theorem dX0_twoAreAlike_3 : decode cX0_twoAreAlike 3 = .ok (.aload_n 0, 1) := by decide +kernel
theorem dX0_twoAreAlike_4 : decode cX0_twoAreAlike 4 = .ok (.getfield 39, 3) := by decide +kernel
theorem dX0_twoAreAlike_7 : decode cX0_twoAreAlike 7 = .ok (.if_icmp .ge 46, 3) := by decide +kernel
theorem dX0_twoAreAlike_53 : decode cX0_twoAreAlike 53 = .ok (.iconst 0, 1) := by decide +kernel
theorem dX0_twoAreAlike_54 : decode cX0_twoAreAlike 54 = .ok (.ireturn, 1) := by decide +kernel
theorem dX1_init_0 : decode cX1_init 0 = .ok (.aload_n 0, 1) := by decide +kernel
theorem dX1_init_1 : decode cX1_init 1 = .ok (.invokespecial 3, 3) := by decide +kernel
theorem dX1_init_4 : decode cX1_init 4 = .ok (.aload_n 0, 1) := by decide +kernel
theorem dX1_init_5 : decode cX1_init 5 = .ok (.bipush 80, 2) := by decide +kernel
theorem dX1_init_7 : decode cX1_init 7 = .ok (.newarray .int, 2) := by decide +kernel
theorem dX1_init_9 : decode cX1_init 9 = .ok (.putfield 9, 3) := by decide +kernel
theorem dX1_init_12 : decode cX1_init 12 = .ok (.aload_n 0, 1) := by decide +kernel
theorem dX1_init_13 : decode cX1_init 13 = .ok (.aload_n 1, 1) := by decide +kernel
theorem dX1_init_14 : decode cX1_init 14 = .ok (.putfield 15, 3) := by decide +kernel
theorem dX1_init_17 : decode cX1_init 17 = .ok (.return_, 1) := by decide +kernel
theorem dX4_init_0 : decode cX4_init 0 = .ok (.aload_n 0, 1) := by decide +kernel
theorem dX4_init_1 : decode cX4_init 1 = .ok (.invokespecial 3, 3) := by decide +kernel
theorem dX4_init_4 : decode cX4_init 4 = .ok (.aload_n 0, 1) := by decide +kernel
theorem dX4_init_5 : decode cX4_init 5 = .ok (.sipush 200, 3) := by decide +kernel
theorem dX4_init_8 : decode cX4_init 8 = .ok (.newarray .int, 2) := by decide +kernel
theorem dX4_init_10 : decode cX4_init 10 = .ok (.putfield 9, 3) := by decide +kernel
theorem dX4_init_13 : decode cX4_init 13 = .ok (.aload_n 0, 1) := by decide +kernel
theorem dX4_init_14 : decode cX4_init 14 = .ok (.aload_n 1, 1) := by decide +kernel
theorem dX4_init_15 : decode cX4_init 15 = .ok (.putfield 15, 3) := by decide +kernel
theorem dX4_init_18 : decode cX4_init 18 = .ok (.return_, 1) := by decide +kernel
theorem dX5_init_0 : decode cX5_init 0 = .ok (.aload_n 0, 1) := by decide +kernel
theorem dX5_init_1 : decode cX5_init 1 = .ok (.invokespecial 3, 3) := by decide +kernel
theorem dX5_init_4 : decode cX5_init 4 = .ok (.aload_n 0, 1) := by decide +kernel
theorem dX5_init_5 : decode cX5_init 5 = .ok (.sipush 4200, 3) := by decide +kernel
theorem dX5_init_8 : decode cX5_init 8 = .ok (.newarray .int, 2) := by decide +kernel
theorem dX5_init_10 : decode cX5_init 10 = .ok (.putfield 11, 3) := by decide +kernel
theorem dX5_init_13 : decode cX5_init 13 = .ok (.aload_n 0, 1) := by decide +kernel
theorem dX5_init_14 : decode cX5_init 14 = .ok (.sipush 4200, 3) := by decide +kernel
theorem dX5_init_17 : decode cX5_init 17 = .ok (.newarray .boolean, 2) := by decide +kernel
theorem dX5_init_19 : decode cX5_init 19 = .ok (.putfield 15, 3) := by decide +kernel
theorem dX5_init_22 : decode cX5_init 22 = .ok (.aload_n 0, 1) := by decide +kernel
theorem dX5_init_23 : decode cX5_init 23 = .ok (.iconst 4, 1) := by decide +kernel
theorem dX5_init_24 : decode cX5_init 24 = .ok (.newarray .int, 2) := by decide +kernel
theorem dX5_init_26 : decode cX5_init 26 = .ok (.putfield 19, 3) := by decide +kernel
theorem dX5_init_29 : decode cX5_init 29 = .ok (.aload_n 0, 1) := by decide +kernel
theorem dX5_init_30 : decode cX5_init 30 = .ok (.bipush 12, 2) := by decide +kernel
theorem dX5_init_32 : decode cX5_init 32 = .ok (.newarray .int, 2) := by decide +kernel
theorem dX5_init_34 : decode cX5_init 34 = .ok (.putfield 22, 3) := by decide +kernel
theorem dX5_init_37 : decode cX5_init 37 = .ok (.aload_n 0, 1) := by decide +kernel
theorem dX5_init_38 : decode cX5_init 38 = .ok (.aload_n 1, 1) := by decide +kernel
theorem dX5_init_39 : decode cX5_init 39 = .ok (.putfield 25, 3) := by decide +kernel
theorem dX5_init_42 : decode cX5_init 42 = .ok (.aload_n 0, 1) := by decide +kernel
theorem dX5_init_43 : decode cX5_init 43 = .ok (.aload_n 2, 1) := by decide +kernel
theorem dX5_init_44 : decode cX5_init 44 = .ok (.putfield 29, 3) := by decide +kernel
theorem dX5_init_47 : decode cX5_init 47 = .ok (.aload_n 0, 1) := by decide +kernel
theorem dX5_init_48 : decode cX5_init 48 = .ok (.aload_n 3, 1) := by decide +kernel
theorem dX5_init_49 : decode cX5_init 49 = .ok (.putfield 33, 3) := by decide +kernel
theorem dX5_init_52 : decode cX5_init 52 = .ok (.return_, 1) := by decide +kernel
theorem dX7_init_0 : decode cX7_init 0 = .ok (.aload_n 0, 1) := by decide +kernel
theorem dX7_init_1 : decode cX7_init 1 = .ok (.invokespecial 3, 3) := by decide +kernel
theorem dX7_init_4 : decode cX7_init 4 = .ok (.aload_n 0, 1) := by decide +kernel
theorem dX7_init_5 : decode cX7_init 5 = .ok (.bipush 6, 2) := by decide +kernel
theorem dX7_init_7 : decode cX7_init 7 = .ok (.newarray .boolean, 2) := by decide +kernel
theorem dX7_init_9 : decode cX7_init 9 = .ok (.putfield 9, 3) := by decide +kernel
theorem dX7_init_12 : decode cX7_init 12 = .ok (.aload_n 0, 1) := by decide +kernel
theorem dX7_init_13 : decode cX7_init 13 = .ok (.bipush 16, 2) := by decide +kernel
theorem dX7_init_15 : decode cX7_init 15 = .ok (.newarray .int, 2) := by decide +kernel
theorem dX7_init_17 : decode cX7_init 17 = .ok (.putfield 15, 3) := by decide +kernel
theorem dX7_init_20 : decode cX7_init 20 = .ok (.aload_n 0, 1) := by decide +kernel
theorem dX7_init_21 : decode cX7_init 21 = .ok (.bipush 16, 2) := by decide +kernel
theorem dX7_init_23 : decode cX7_init 23 = .ok (.newarray .int, 2) := by decide +kernel
theorem dX7_init_25 : decode cX7_init 25 = .ok (.putfield 19, 3) := by decide +kernel
theorem dX7_init_28 : decode cX7_init 28 = .ok (.aload_n 0, 1) := by decide +kernel
theorem dX7_init_29 : decode cX7_init 29 = .ok (.bipush 48, 2) := by decide +kernel
theorem dX7_init_31 : decode cX7_init 31 = .ok (.newarray .int, 2) := by decide +kernel
theorem dX7_init_33 : decode cX7_init 33 = .ok (.putfield 22, 3) := by decide +kernel
theorem dX7_init_36 : decode cX7_init 36 = .ok (.aload_n 0, 1) := by decide +kernel
theorem dX7_init_37 : decode cX7_init 37 = .ok (.bipush 16, 2) := by decide +kernel
theorem dX7_init_39 : decode cX7_init 39 = .ok (.newarray .int, 2) := by decide +kernel
theorem dX7_init_41 : decode cX7_init 41 = .ok (.putfield 25, 3) := by decide +kernel
theorem dX7_init_44 : decode cX7_init 44 = .ok (.aload_n 0, 1) := by decide +kernel
theorem dX7_init_45 : decode cX7_init 45 = .ok (.bipush 16, 2) := by decide +kernel
theorem dX7_init_47 : decode cX7_init 47 = .ok (.newarray .int, 2) := by decide +kernel
theorem dX7_init_49 : decode cX7_init 49 = .ok (.putfield 28, 3) := by decide +kernel
theorem dX7_init_52 : decode cX7_init 52 = .ok (.aload_n 0, 1) := by decide +kernel
theorem dX7_init_53 : decode cX7_init 53 = .ok (.bipush 6, 2) := by decide +kernel
theorem dX7_init_55 : decode cX7_init 55 = .ok (.newarray .int, 2) := by decide +kernel
theorem dX7_init_57 : decode cX7_init 57 = .ok (.putfield 31, 3) := by decide +kernel
theorem dX7_init_60 : decode cX7_init 60 = .ok (.aload_n 0, 1) := by decide +kernel
theorem dX7_init_61 : decode cX7_init 61 = .ok (.aload_n 1, 1) := by decide +kernel
theorem dX7_init_62 : decode cX7_init 62 = .ok (.putfield 34, 3) := by decide +kernel
theorem dX7_init_65 : decode cX7_init 65 = .ok (.return_, 1) := by decide +kernel
theorem dX7_hasData_0 : decode cX7_hasData 0 = .ok (.iload_n 1, 1) := by decide +kernel
theorem dX7_hasData_1 : decode cX7_hasData 1 = .ok (.ifCond .lt 15, 3) := by decide +kernel
theorem dX7_hasData_4 : decode cX7_hasData 4 = .ok (.iload_n 1, 1) := by decide +kernel
theorem dX7_hasData_5 : decode cX7_hasData 5 = .ok (.aload_n 0, 1) := by decide +kernel
theorem dX7_hasData_6 : decode cX7_hasData 6 = .ok (.getfield 38, 3) := by decide +kernel
theorem dX7_hasData_9 : decode cX7_hasData 9 = .ok (.if_icmp .ge 7, 3) := by decide +kernel
theorem dX7_hasData_16 : decode cX7_hasData 16 = .ok (.iconst 0, 1) := by decide +kernel
theorem dX7_hasData_17 : decode cX7_hasData 17 = .ok (.ireturn, 1) := by decide +kernel
theorem dX7_hasConstructor_0 : decode cX7_hasConstructor 0 = .ok (.iload_n 1, 1) := by decide +kernel
theorem dX7_hasConstructor_1 : decode cX7_hasConstructor 1 = .ok (.ifCond .lt 15, 3) := by decide +kernel
theorem dX7_hasConstructor_4 : decode cX7_hasConstructor 4 = .ok (.iload_n 1, 1) := by decide +kernel
theorem dX7_hasConstructor_5 : decode cX7_hasConstructor 5 = .ok (.aload_n 0, 1) := by decide +kernel
theorem dX7_hasConstructor_6 : decode cX7_hasConstructor 6 = .ok (.getfield 42, 3) := by decide +kernel
theorem dX7_hasConstructor_9 : decode cX7_hasConstructor 9 = .ok (.if_icmp .ge 7, 3) := by decide +kernel
theorem dX7_hasConstructor_16 : decode cX7_hasConstructor 16 = .ok (.iconst 0, 1) := by decide +kernel
theorem dX7_hasConstructor_17 : decode cX7_hasConstructor 17 = .ok (.ireturn, 1) := by decide +kernel
theorem dX7_enterData_0 : decode cX7_enterData 0 = .ok (.aload_n 0, 1) := by decide +kernel
theorem dX7_enterData_1 : decode cX7_enterData 1 = .ok (.dup, 1) := by decide +kernel
theorem dX7_enterData_2 : decode cX7_enterData 2 = .ok (.getfield 38, 3) := by decide +kernel
theorem dX7_enterData_5 : decode cX7_enterData 5 = .ok (.iconst 1, 1) := by decide +kernel
theorem dX7_enterData_6 : decode cX7_enterData 6 = .ok (.iadd, 1) := by decide +kernel
theorem dX7_enterData_7 : decode cX7_enterData 7 = .ok (.putfield 38, 3) := by decide +kernel
theorem dX7_enterData_10 : decode cX7_enterData 10 = .ok (.aload_n 0, 1) := by decide +kernel
theorem dX7_enterData_11 : decode cX7_enterData 11 = .ok (.getfield 38, 3) := by decide +kernel
theorem dX7_enterData_14 : decode cX7_enterData 14 = .ok (.iconst 1, 1) := by decide +kernel
theorem dX7_enterData_15 : decode cX7_enterData 15 = .ok (.isub, 1) := by decide +kernel
theorem dX7_enterData_16 : decode cX7_enterData 16 = .ok (.ireturn, 1) := by decide +kernel
theorem dX8_init_0 : decode cX8_init 0 = .ok (.aload_n 0, 1) := by decide +kernel
theorem dX8_init_1 : decode cX8_init 1 = .ok (.invokespecial 3, 3) := by decide +kernel
theorem dX8_init_4 : decode cX8_init 4 = .ok (.aload_n 0, 1) := by decide +kernel
theorem dX8_init_5 : decode cX8_init 5 = .ok (.iload_n 1, 1) := by decide +kernel
theorem dX8_init_6 : decode cX8_init 6 = .ok (.iconst 0, 1) := by decide +kernel
theorem dX8_init_7 : decode cX8_init 7 = .ok (.invokestatic 9, 3) := by decide +kernel
theorem dX8_init_10 : decode cX8_init 10 = .ok (.newarray .int, 2) := by decide +kernel
theorem dX8_init_12 : decode cX8_init 12 = .ok (.putfield 15, 3) := by decide +kernel
theorem dX8_init_15 : decode cX8_init 15 = .ok (.return_, 1) := by decide +kernel
theorem dX9_init_0 : decode cX9_init 0 = .ok (.aload_n 0, 1) := by decide +kernel
theorem dX9_init_1 : decode cX9_init 1 = .ok (.invokespecial 3, 3) := by decide +kernel
theorem dX9_init_4 : decode cX9_init 4 = .ok (.aload_n 0, 1) := by decide +kernel
theorem dX9_init_5 : decode cX9_init 5 = .ok (.ldc 11, 2) := by decide +kernel
theorem dX9_init_7 : decode cX9_init 7 = .ok (.newarray .int, 2) := by decide +kernel
theorem dX9_init_9 : decode cX9_init 9 = .ok (.putfield 12, 3) := by decide +kernel
theorem dX9_init_12 : decode cX9_init 12 = .ok (.aload_n 0, 1) := by decide +kernel
theorem dX9_init_13 : decode cX9_init 13 = .ok (.ldc 11, 2) := by decide +kernel
theorem dX9_init_15 : decode cX9_init 15 = .ok (.newarray .int, 2) := by decide +kernel
theorem dX9_init_17 : decode cX9_init 17 = .ok (.putfield 16, 3) := by decide +kernel
theorem dX9_init_20 : decode cX9_init 20 = .ok (.aload_n 0, 1) := by decide +kernel
theorem dX9_init_21 : decode cX9_init 21 = .ok (.ldc 11, 2) := by decide +kernel
theorem dX9_init_23 : decode cX9_init 23 = .ok (.newarray .int, 2) := by decide +kernel
theorem dX9_init_25 : decode cX9_init 25 = .ok (.putfield 19, 3) := by decide +kernel
theorem dX9_init_28 : decode cX9_init 28 = .ok (.aload_n 0, 1) := by decide +kernel
theorem dX9_init_29 : decode cX9_init 29 = .ok (.ldc 11, 2) := by decide +kernel
theorem dX9_init_31 : decode cX9_init 31 = .ok (.newarray .int, 2) := by decide +kernel
theorem dX9_init_33 : decode cX9_init 33 = .ok (.putfield 22, 3) := by decide +kernel
theorem dX9_init_36 : decode cX9_init 36 = .ok (.aload_n 0, 1) := by decide +kernel
theorem dX9_init_37 : decode cX9_init 37 = .ok (.ldc 11, 2) := by decide +kernel
theorem dX9_init_39 : decode cX9_init 39 = .ok (.newarray .int, 2) := by decide +kernel
theorem dX9_init_41 : decode cX9_init 41 = .ok (.putfield 25, 3) := by decide +kernel
theorem dX9_init_44 : decode cX9_init 44 = .ok (.aload_n 0, 1) := by decide +kernel
theorem dX9_init_45 : decode cX9_init 45 = .ok (.ldc 11, 2) := by decide +kernel
theorem dX9_init_47 : decode cX9_init 47 = .ok (.newarray .int, 2) := by decide +kernel
theorem dX9_init_49 : decode cX9_init 49 = .ok (.putfield 28, 3) := by decide +kernel
theorem dX9_init_52 : decode cX9_init 52 = .ok (.aload_n 0, 1) := by decide +kernel
theorem dX9_init_53 : decode cX9_init 53 = .ok (.ldc 11, 2) := by decide +kernel
theorem dX9_init_55 : decode cX9_init 55 = .ok (.newarray .int, 2) := by decide +kernel
theorem dX9_init_57 : decode cX9_init 57 = .ok (.putfield 31, 3) := by decide +kernel
theorem dX9_init_60 : decode cX9_init 60 = .ok (.aload_n 0, 1) := by decide +kernel
theorem dX9_init_61 : decode cX9_init 61 = .ok (.ldc 11, 2) := by decide +kernel
theorem dX9_init_63 : decode cX9_init 63 = .ok (.newarray .boolean, 2) := by decide +kernel
theorem dX9_init_65 : decode cX9_init 65 = .ok (.putfield 34, 3) := by decide +kernel
theorem dX9_init_68 : decode cX9_init 68 = .ok (.aload_n 0, 1) := by decide +kernel
theorem dX9_init_69 : decode cX9_init 69 = .ok (.ldc 11, 2) := by decide +kernel
theorem dX9_init_71 : decode cX9_init 71 = .ok (.newarray .int, 2) := by decide +kernel
theorem dX9_init_73 : decode cX9_init 73 = .ok (.putfield 38, 3) := by decide +kernel
theorem dX9_init_76 : decode cX9_init 76 = .ok (.return_, 1) := by decide +kernel
theorem dX9_leaf_0 : decode cX9_leaf 0 = .ok (.iload_n 1, 1) := by decide +kernel
theorem dX9_leaf_1 : decode cX9_leaf 1 = .ok (.ifCond .lt 17, 3) := by decide +kernel
theorem dX9_leaf_4 : decode cX9_leaf 4 = .ok (.iload_n 1, 1) := by decide +kernel
theorem dX9_leaf_5 : decode cX9_leaf 5 = .ok (.iconst 4, 1) := by decide +kernel
theorem dX9_leaf_6 : decode cX9_leaf 6 = .ok (.if_icmp .gt 12, 3) := by decide +kernel
theorem dX9_leaf_9 : decode cX9_leaf 9 = .ok (.aload_n 0, 1) := by decide +kernel
theorem dX9_leaf_10 : decode cX9_leaf 10 = .ok (.getfield 41, 3) := by decide +kernel
theorem dX9_leaf_13 : decode cX9_leaf 13 = .ok (.ldc 11, 2) := by decide +kernel
theorem dX9_leaf_15 : decode cX9_leaf 15 = .ok (.if_icmp .lt 5, 3) := by decide +kernel
theorem dX9_leaf_20 : decode cX9_leaf 20 = .ok (.aload_n 0, 1) := by decide +kernel
theorem dX9_leaf_21 : decode cX9_leaf 21 = .ok (.getfield 41, 3) := by decide +kernel
theorem dX9_leaf_24 : decode cX9_leaf 24 = .ok (.istore_n 3, 1) := by decide +kernel
theorem dX9_leaf_25 : decode cX9_leaf 25 = .ok (.aload_n 0, 1) := by decide +kernel
theorem dX9_leaf_26 : decode cX9_leaf 26 = .ok (.dup, 1) := by decide +kernel
theorem dX9_leaf_27 : decode cX9_leaf 27 = .ok (.getfield 41, 3) := by decide +kernel
theorem dX9_leaf_30 : decode cX9_leaf 30 = .ok (.iconst 1, 1) := by decide +kernel
theorem dX9_leaf_31 : decode cX9_leaf 31 = .ok (.iadd, 1) := by decide +kernel
theorem dX9_leaf_32 : decode cX9_leaf 32 = .ok (.putfield 41, 3) := by decide +kernel
theorem dX9_leaf_35 : decode cX9_leaf 35 = .ok (.aload_n 0, 1) := by decide +kernel
theorem dX9_leaf_36 : decode cX9_leaf 36 = .ok (.getfield 12, 3) := by decide +kernel
theorem dX9_leaf_39 : decode cX9_leaf 39 = .ok (.iload_n 3, 1) := by decide +kernel
theorem dX9_leaf_40 : decode cX9_leaf 40 = .ok (.iload_n 1, 1) := by decide +kernel
theorem dX9_leaf_41 : decode cX9_leaf 41 = .ok (.iastore, 1) := by decide +kernel
theorem dX9_leaf_42 : decode cX9_leaf 42 = .ok (.aload_n 0, 1) := by decide +kernel
theorem dX9_leaf_43 : decode cX9_leaf 43 = .ok (.getfield 16, 3) := by decide +kernel
theorem dX9_leaf_46 : decode cX9_leaf 46 = .ok (.iload_n 3, 1) := by decide +kernel
theorem dX9_leaf_47 : decode cX9_leaf 47 = .ok (.iload_n 2, 1) := by decide +kernel
theorem dX9_leaf_48 : decode cX9_leaf 48 = .ok (.iastore, 1) := by decide +kernel
theorem dX9_leaf_49 : decode cX9_leaf 49 = .ok (.aload_n 0, 1) := by decide +kernel
theorem dX9_leaf_50 : decode cX9_leaf 50 = .ok (.getfield 19, 3) := by decide +kernel
theorem dX9_leaf_53 : decode cX9_leaf 53 = .ok (.iload_n 3, 1) := by decide +kernel
theorem dX9_leaf_54 : decode cX9_leaf 54 = .ok (.iconst (-1), 1) := by decide +kernel
theorem dX9_leaf_55 : decode cX9_leaf 55 = .ok (.iastore, 1) := by decide +kernel
theorem dX9_leaf_56 : decode cX9_leaf 56 = .ok (.aload_n 0, 1) := by decide +kernel
theorem dX9_leaf_57 : decode cX9_leaf 57 = .ok (.getfield 22, 3) := by decide +kernel
theorem dX9_leaf_60 : decode cX9_leaf 60 = .ok (.iload_n 3, 1) := by decide +kernel
theorem dX9_leaf_61 : decode cX9_leaf 61 = .ok (.iconst 1, 1) := by decide +kernel
theorem dX9_leaf_62 : decode cX9_leaf 62 = .ok (.iastore, 1) := by decide +kernel
theorem dX9_leaf_63 : decode cX9_leaf 63 = .ok (.aload_n 0, 1) := by decide +kernel
theorem dX9_leaf_64 : decode cX9_leaf 64 = .ok (.getfield 25, 3) := by decide +kernel
theorem dX9_leaf_67 : decode cX9_leaf 67 = .ok (.iload_n 3, 1) := by decide +kernel
theorem dX9_leaf_68 : decode cX9_leaf 68 = .ok (.getstatic 45, 3) := by decide +kernel
theorem dX9_leaf_71 : decode cX9_leaf 71 = .ok (.iload_n 1, 1) := by decide +kernel
theorem dX9_leaf_72 : decode cX9_leaf 72 = .ok (.iaload, 1) := by decide +kernel
theorem dX9_leaf_73 : decode cX9_leaf 73 = .ok (.iload_n 2, 1) := by decide +kernel
theorem dX9_leaf_74 : decode cX9_leaf 74 = .ok (.iadd, 1) := by decide +kernel
theorem dX9_leaf_75 : decode cX9_leaf 75 = .ok (.iastore, 1) := by decide +kernel
theorem dX9_leaf_76 : decode cX9_leaf 76 = .ok (.aload_n 0, 1) := by decide +kernel
theorem dX9_leaf_77 : decode cX9_leaf 77 = .ok (.getfield 28, 3) := by decide +kernel
theorem dX9_leaf_80 : decode cX9_leaf 80 = .ok (.iload_n 3, 1) := by decide +kernel
theorem dX9_leaf_81 : decode cX9_leaf 81 = .ok (.iload_n 1, 1) := by decide +kernel
theorem dX9_leaf_82 : decode cX9_leaf 82 = .ok (.iconst 1, 1) := by decide +kernel
theorem dX9_leaf_83 : decode cX9_leaf 83 = .ok (.if_icmp .ne 9, 3) := by decide +kernel
theorem dX9_leaf_86 : decode cX9_leaf 86 = .ok (.iload_n 2, 1) := by decide +kernel
theorem dX9_leaf_87 : decode cX9_leaf 87 = .ok (.iconst 1, 1) := by decide +kernel
theorem dX9_leaf_88 : decode cX9_leaf 88 = .ok (.iadd, 1) := by decide +kernel
theorem dX9_leaf_89 : decode cX9_leaf 89 = .ok (.goto 4, 3) := by decide +kernel
theorem dX9_leaf_92 : decode cX9_leaf 92 = .ok (.iconst 0, 1) := by decide +kernel
theorem dX9_leaf_93 : decode cX9_leaf 93 = .ok (.iastore, 1) := by decide +kernel
theorem dX9_leaf_94 : decode cX9_leaf 94 = .ok (.aload_n 0, 1) := by decide +kernel
theorem dX9_leaf_95 : decode cX9_leaf 95 = .ok (.getfield 31, 3) := by decide +kernel
theorem dX9_leaf_98 : decode cX9_leaf 98 = .ok (.iload_n 3, 1) := by decide +kernel
theorem dX9_leaf_99 : decode cX9_leaf 99 = .ok (.iload_n 1, 1) := by decide +kernel
theorem dX9_leaf_100 : decode cX9_leaf 100 = .ok (.iconst 4, 1) := by decide +kernel
theorem dX9_leaf_101 : decode cX9_leaf 101 = .ok (.if_icmp .ne 9, 3) := by decide +kernel
theorem dX9_leaf_110 : decode cX9_leaf 110 = .ok (.iconst 0, 1) := by decide +kernel
theorem dX9_leaf_111 : decode cX9_leaf 111 = .ok (.iastore, 1) := by decide +kernel
theorem dX9_leaf_112 : decode cX9_leaf 112 = .ok (.aload_n 0, 1) := by decide +kernel
theorem dX9_leaf_113 : decode cX9_leaf 113 = .ok (.getfield 34, 3) := by decide +kernel
theorem dX9_leaf_116 : decode cX9_leaf 116 = .ok (.iload_n 3, 1) := by decide +kernel
theorem dX9_leaf_117 : decode cX9_leaf 117 = .ok (.iconst 0, 1) := by decide +kernel
theorem dX9_leaf_118 : decode cX9_leaf 118 = .ok (.bastore, 1) := by decide +kernel
theorem dX9_leaf_119 : decode cX9_leaf 119 = .ok (.iload_n 3, 1) := by decide +kernel
theorem dX9_leaf_120 : decode cX9_leaf 120 = .ok (.ireturn, 1) := by decide +kernel
theorem dX10_init_0 : decode cX10_init 0 = .ok (.aload_n 0, 1) := by decide +kernel
theorem dX10_init_1 : decode cX10_init 1 = .ok (.invokespecial 3, 3) := by decide +kernel
theorem dX10_init_4 : decode cX10_init 4 = .ok (.aload_n 0, 1) := by decide +kernel
theorem dX10_init_5 : decode cX10_init 5 = .ok (.new 9, 3) := by decide +kernel
theorem dX10_init_8 : decode cX10_init 8 = .ok (.dup, 1) := by decide +kernel
theorem dX10_init_9 : decode cX10_init 9 = .ok (.iconst 0, 1) := by decide +kernel
theorem dX10_init_10 : decode cX10_init 10 = .ok (.invokespecial 11, 3) := by decide +kernel
theorem dX10_init_13 : decode cX10_init 13 = .ok (.putfield 14, 3) := by decide +kernel
theorem dX10_init_16 : decode cX10_init 16 = .ok (.aload_n 0, 1) := by decide +kernel
theorem dX10_init_17 : decode cX10_init 17 = .ok (.new 9, 3) := by decide +kernel
theorem dX10_init_20 : decode cX10_init 20 = .ok (.dup, 1) := by decide +kernel
theorem dX10_init_21 : decode cX10_init 21 = .ok (.bipush 42, 2) := by decide +kernel
theorem dX10_init_23 : decode cX10_init 23 = .ok (.invokespecial 11, 3) := by decide +kernel
theorem dX10_init_26 : decode cX10_init 26 = .ok (.putfield 20, 3) := by decide +kernel
theorem dX10_init_29 : decode cX10_init 29 = .ok (.aload_n 0, 1) := by decide +kernel
theorem dX10_init_30 : decode cX10_init 30 = .ok (.aload_n 1, 1) := by decide +kernel
theorem dX10_init_31 : decode cX10_init 31 = .ok (.putfield 23, 3) := by decide +kernel
theorem dX10_init_34 : decode cX10_init 34 = .ok (.aload_n 0, 1) := by decide +kernel
theorem dX10_init_35 : decode cX10_init 35 = .ok (.aload_n 2, 1) := by decide +kernel
theorem dX10_init_36 : decode cX10_init 36 = .ok (.putfield 27, 3) := by decide +kernel
theorem dX10_init_39 : decode cX10_init 39 = .ok (.aload_n 0, 1) := by decide +kernel
theorem dX10_init_40 : decode cX10_init 40 = .ok (.aload_n 3, 1) := by decide +kernel
theorem dX10_init_41 : decode cX10_init 41 = .ok (.putfield 31, 3) := by decide +kernel
theorem dX10_init_44 : decode cX10_init 44 = .ok (.aload_n 0, 1) := by decide +kernel
theorem dX10_init_45 : decode cX10_init 45 = .ok (.aload 4, 2) := by decide +kernel
theorem dX10_init_47 : decode cX10_init 47 = .ok (.putfield 35, 3) := by decide +kernel
theorem dX10_init_50 : decode cX10_init 50 = .ok (.return_, 1) := by decide +kernel
theorem dX11_init_0 : decode cX11_init 0 = .ok (.aload_n 0, 1) := by decide +kernel
theorem dX11_init_1 : decode cX11_init 1 = .ok (.invokespecial 1, 3) := by decide +kernel
theorem dX11_init_4 : decode cX11_init 4 = .ok (.aload_n 0, 1) := by decide +kernel
theorem dX11_init_5 : decode cX11_init 5 = .ok (.new 7, 3) := by decide +kernel
theorem dX11_init_8 : decode cX11_init 8 = .ok (.dup, 1) := by decide +kernel
theorem dX11_init_9 : decode cX11_init 9 = .ok (.invokespecial 9, 3) := by decide +kernel
theorem dX11_init_12 : decode cX11_init 12 = .ok (.putfield 10, 3) := by decide +kernel
theorem dX11_init_15 : decode cX11_init 15 = .ok (.aload_n 0, 1) := by decide +kernel
theorem dX11_init_16 : decode cX11_init 16 = .ok (.new 16, 3) := by decide +kernel
theorem dX11_init_19 : decode cX11_init 19 = .ok (.dup, 1) := by decide +kernel
theorem dX11_init_20 : decode cX11_init 20 = .ok (.aload_n 0, 1) := by decide +kernel
theorem dX11_init_21 : decode cX11_init 21 = .ok (.getfield 10, 3) := by decide +kernel
theorem dX11_init_24 : decode cX11_init 24 = .ok (.invokespecial 18, 3) := by decide +kernel
theorem dX11_init_27 : decode cX11_init 27 = .ok (.putfield 21, 3) := by decide +kernel
theorem dX11_init_30 : decode cX11_init 30 = .ok (.aload_n 0, 1) := by decide +kernel
theorem dX11_init_31 : decode cX11_init 31 = .ok (.new 25, 3) := by decide +kernel
theorem dX11_init_34 : decode cX11_init 34 = .ok (.dup, 1) := by decide +kernel
theorem dX11_init_35 : decode cX11_init 35 = .ok (.aload_n 0, 1) := by decide +kernel
theorem dX11_init_36 : decode cX11_init 36 = .ok (.getfield 10, 3) := by decide +kernel
theorem dX11_init_39 : decode cX11_init 39 = .ok (.invokespecial 27, 3) := by decide +kernel
theorem dX11_init_42 : decode cX11_init 42 = .ok (.putfield 28, 3) := by decide +kernel
theorem dX11_init_45 : decode cX11_init 45 = .ok (.aload_n 0, 1) := by decide +kernel
theorem dX11_init_46 : decode cX11_init 46 = .ok (.new 32, 3) := by decide +kernel
theorem dX11_init_49 : decode cX11_init 49 = .ok (.dup, 1) := by decide +kernel
theorem dX11_init_50 : decode cX11_init 50 = .ok (.aload_n 0, 1) := by decide +kernel
theorem dX11_init_51 : decode cX11_init 51 = .ok (.getfield 10, 3) := by decide +kernel
theorem dX11_init_54 : decode cX11_init 54 = .ok (.aload_n 0, 1) := by decide +kernel
theorem dX11_init_55 : decode cX11_init 55 = .ok (.getfield 21, 3) := by decide +kernel
theorem dX11_init_58 : decode cX11_init 58 = .ok (.aload_n 0, 1) := by decide +kernel
theorem dX11_init_59 : decode cX11_init 59 = .ok (.getfield 28, 3) := by decide +kernel
theorem dX11_init_62 : decode cX11_init 62 = .ok (.invokespecial 34, 3) := by decide +kernel
theorem dX11_init_65 : decode cX11_init 65 = .ok (.putfield 37, 3) := by decide +kernel
theorem dX11_init_68 : decode cX11_init 68 = .ok (.aload_n 0, 1) := by decide +kernel
theorem dX11_init_69 : decode cX11_init 69 = .ok (.new 41, 3) := by decide +kernel
theorem dX11_init_72 : decode cX11_init 72 = .ok (.dup, 1) := by decide +kernel
theorem dX11_init_73 : decode cX11_init 73 = .ok (.aload_n 0, 1) := by decide +kernel
theorem dX11_init_74 : decode cX11_init 74 = .ok (.getfield 10, 3) := by decide +kernel
theorem dX11_init_77 : decode cX11_init 77 = .ok (.aload_n 0, 1) := by decide +kernel
theorem dX11_init_78 : decode cX11_init 78 = .ok (.getfield 21, 3) := by decide +kernel
theorem dX11_init_81 : decode cX11_init 81 = .ok (.aload_n 0, 1) := by decide +kernel
theorem dX11_init_82 : decode cX11_init 82 = .ok (.getfield 28, 3) := by decide +kernel
theorem dX11_init_85 : decode cX11_init 85 = .ok (.aload_n 0, 1) := by decide +kernel
theorem dX11_init_86 : decode cX11_init 86 = .ok (.getfield 37, 3) := by decide +kernel
theorem dX11_init_89 : decode cX11_init 89 = .ok (.invokespecial 43, 3) := by decide +kernel
theorem dX11_init_92 : decode cX11_init 92 = .ok (.putfield 46, 3) := by decide +kernel
theorem dX11_init_95 : decode cX11_init 95 = .ok (.aload_n 0, 1) := by decide +kernel
theorem dX11_init_96 : decode cX11_init 96 = .ok (.new 50, 3) := by decide +kernel
theorem dX11_init_99 : decode cX11_init 99 = .ok (.dup, 1) := by decide +kernel
theorem dX11_init_100 : decode cX11_init 100 = .ok (.aload_n 0, 1) := by decide +kernel
theorem dX11_init_101 : decode cX11_init 101 = .ok (.getfield 10, 3) := by decide +kernel
theorem dX11_init_104 : decode cX11_init 104 = .ok (.invokespecial 52, 3) := by decide +kernel
theorem dX11_init_107 : decode cX11_init 107 = .ok (.putfield 53, 3) := by decide +kernel
theorem dX11_init_110 : decode cX11_init 110 = .ok (.aload_n 0, 1) := by decide +kernel
theorem dX11_init_111 : decode cX11_init 111 = .ok (.new 57, 3) := by decide +kernel
theorem dX11_init_114 : decode cX11_init 114 = .ok (.dup, 1) := by decide +kernel
theorem dX11_init_115 : decode cX11_init 115 = .ok (.aload_n 0, 1) := by decide +kernel
theorem dX11_init_116 : decode cX11_init 116 = .ok (.getfield 10, 3) := by decide +kernel
theorem dX11_init_119 : decode cX11_init 119 = .ok (.aload_n 0, 1) := by decide +kernel
theorem dX11_init_120 : decode cX11_init 120 = .ok (.getfield 28, 3) := by decide +kernel
theorem dX11_init_123 : decode cX11_init 123 = .ok (.aload_n 0, 1) := by decide +kernel
theorem dX11_init_124 : decode cX11_init 124 = .ok (.getfield 37, 3) := by decide +kernel
theorem dX11_init_127 : decode cX11_init 127 = .ok (.invokespecial 59, 3) := by decide +kernel
theorem dX11_init_130 : decode cX11_init 130 = .ok (.putfield 62, 3) := by decide +kernel
theorem dX11_init_133 : decode cX11_init 133 = .ok (.aload_n 0, 1) := by decide +kernel
theorem dX11_init_134 : decode cX11_init 134 = .ok (.sipush 250, 3) := by decide +kernel
theorem dX11_init_137 : decode cX11_init 137 = .ok (.newarray .int, 2) := by decide +kernel
theorem dX11_init_139 : decode cX11_init 139 = .ok (.putfield 66, 3) := by decide +kernel
theorem dX11_init_142 : decode cX11_init 142 = .ok (.return_, 1) := by decide +kernel
theorem dX11_universe_0 : decode cX11_universe 0 = .ok (.iload_n 1, 1) := by decide +kernel
theorem dX11_universe_1 : decode cX11_universe 1 = .ok (.ifCond .lt 8, 3) := by decide +kernel
theorem dX11_universe_4 : decode cX11_universe 4 = .ok (.iload_n 1, 1) := by decide +kernel
theorem dX11_universe_5 : decode cX11_universe 5 = .ok (.iconst 3, 1) := by decide +kernel
theorem dX11_universe_6 : decode cX11_universe 6 = .ok (.if_icmp .le 13, 3) := by decide +kernel
theorem dX11_universe_9 : decode cX11_universe 9 = .ok (.new 70, 3) := by decide +kernel
theorem dX11_universe_12 : decode cX11_universe 12 = .ok (.dup, 1) := by decide +kernel
theorem dX11_universe_13 : decode cX11_universe 13 = .ok (.ldc 72, 2) := by decide +kernel
theorem dX11_universe_15 : decode cX11_universe 15 = .ok (.invokespecial 74, 3) := by decide +kernel
theorem dX11_universe_18 : decode cX11_universe 18 = .ok (.athrow, 1) := by decide +kernel
theorem dX11_universe_19 : decode cX11_universe 19 = .ok (.aload_n 0, 1) := by decide +kernel
theorem dX11_universe_20 : decode cX11_universe 20 = .ok (.iconst 0, 1) := by decide +kernel
theorem dX11_universe_21 : decode cX11_universe 21 = .ok (.iload_n 1, 1) := by decide +kernel
theorem dX11_universe_22 : decode cX11_universe 22 = .ok (.invokevirtual 77, 3) := by decide +kernel
theorem dX11_universe_25 : decode cX11_universe 25 = .ok (.ireturn, 1) := by decide +kernel
theorem dX11_variable_0 : decode cX11_variable 0 = .ok (.iload_n 1, 1) := by decide +kernel
theorem dX11_variable_1 : decode cX11_variable 1 = .ok (.ifCond .lt 9, 3) := by decide +kernel
theorem dX11_variable_4 : decode cX11_variable 4 = .ok (.iload_n 1, 1) := by decide +kernel
theorem dX11_variable_5 : decode cX11_variable 5 = .ok (.bipush 15, 2) := by decide +kernel
theorem dX11_variable_7 : decode cX11_variable 7 = .ok (.if_icmp .le 13, 3) := by decide +kernel
theorem dX11_variable_10 : decode cX11_variable 10 = .ok (.new 70, 3) := by decide +kernel
theorem dX11_variable_13 : decode cX11_variable 13 = .ok (.dup, 1) := by decide +kernel
theorem dX11_variable_14 : decode cX11_variable 14 = .ok (.ldc 81, 2) := by decide +kernel
theorem dX11_variable_16 : decode cX11_variable 16 = .ok (.invokespecial 74, 3) := by decide +kernel
theorem dX11_variable_19 : decode cX11_variable 19 = .ok (.athrow, 1) := by decide +kernel
theorem dX11_variable_20 : decode cX11_variable 20 = .ok (.aload_n 0, 1) := by decide +kernel
theorem dX11_variable_21 : decode cX11_variable 21 = .ok (.iconst 1, 1) := by decide +kernel
theorem dX11_variable_22 : decode cX11_variable 22 = .ok (.iload_n 1, 1) := by decide +kernel
theorem dX11_variable_23 : decode cX11_variable 23 = .ok (.invokevirtual 77, 3) := by decide +kernel
theorem dX11_variable_26 : decode cX11_variable 26 = .ok (.ireturn, 1) := by decide +kernel
theorem dX11_functions_0 : decode cX11_functions 0 = .ok (.aload_n 0, 1) := by decide +kernel
theorem dX11_functions_1 : decode cX11_functions 1 = .ok (.iconst 5, 1) := by decide +kernel
theorem dX11_functions_2 : decode cX11_functions 2 = .ok (.iload_n 1, 1) := by decide +kernel
theorem dX11_functions_3 : decode cX11_functions 3 = .ok (.iload_n 2, 1) := by decide +kernel
theorem dX11_functions_4 : decode cX11_functions 4 = .ok (.invokevirtual 83, 3) := by decide +kernel
theorem dX11_lambda_0 : decode cX11_lambda 0 = .ok (.aload_n 0, 1) := by decide +kernel
theorem dX11_lambda_1 : decode cX11_lambda 1 = .ok (.bipush 6, 2) := by decide +kernel
theorem dX11_lambda_3 : decode cX11_lambda 3 = .ok (.iload_n 1, 1) := by decide +kernel
theorem dX11_lambda_4 : decode cX11_lambda 4 = .ok (.iload_n 2, 1) := by decide +kernel
theorem dX11_lambda_5 : decode cX11_lambda 5 = .ok (.invokevirtual 83, 3) := by decide +kernel
theorem dX11_apply_0 : decode cX11_apply 0 = .ok (.aload_n 0, 1) := by decide +kernel
theorem dX11_apply_1 : decode cX11_apply 1 = .ok (.bipush 7, 2) := by decide +kernel
theorem dX11_apply_3 : decode cX11_apply 3 = .ok (.iload_n 1, 1) := by decide +kernel
theorem dX11_apply_4 : decode cX11_apply 4 = .ok (.iload_n 2, 1) := by decide +kernel
theorem dX11_apply_5 : decode cX11_apply 5 = .ok (.invokevirtual 83, 3) := by decide +kernel
theorem dX11_dataNode_0 : decode cX11_dataNode 0 = .ok (.aload_n 0, 1) := by decide +kernel
theorem dX11_dataNode_1 : decode cX11_dataNode 1 = .ok (.getfield 28, 3) := by decide +kernel
theorem dX11_dataNode_4 : decode cX11_dataNode 4 = .ok (.iload_n 1, 1) := by decide +kernel
theorem dX11_dataNode_5 : decode cX11_dataNode 5 = .ok (.invokevirtual 87, 3) := by decide +kernel
theorem dX11_dataNode_8 : decode cX11_dataNode 8 = .ok (.ifCond .ne 13, 3) := by decide +kernel
theorem dX11_dataNode_11 : decode cX11_dataNode 11 = .ok (.new 91, 3) := by decide +kernel
theorem dX11_dataNode_14 : decode cX11_dataNode 14 = .ok (.dup, 1) := by decide +kernel
theorem dX11_dataNode_15 : decode cX11_dataNode 15 = .ok (.ldc 93, 2) := by decide +kernel
theorem dX11_dataNode_17 : decode cX11_dataNode 17 = .ok (.invokespecial 95, 3) := by decide +kernel
theorem dX11_dataNode_20 : decode cX11_dataNode 20 = .ok (.athrow, 1) := by decide +kernel
theorem dX11_constructorNode_0 : decode cX11_constructorNode 0 = .ok (.aload_n 0, 1) := by decide +kernel
theorem dX11_constructorNode_1 : decode cX11_constructorNode 1 = .ok (.getfield 28, 3) := by decide +kernel
theorem dX11_constructorNode_4 : decode cX11_constructorNode 4 = .ok (.iload_n 1, 1) := by decide +kernel
theorem dX11_constructorNode_5 : decode cX11_constructorNode 5 = .ok (.invokevirtual 96, 3) := by decide +kernel
theorem dX11_constructorNode_8 : decode cX11_constructorNode 8 = .ok (.ifCond .ne 13, 3) := by decide +kernel
theorem dX11_constructorNode_11 : decode cX11_constructorNode 11 = .ok (.new 91, 3) := by decide +kernel
theorem dX11_constructorNode_14 : decode cX11_constructorNode 14 = .ok (.dup, 1) := by decide +kernel
theorem dX11_constructorNode_15 : decode cX11_constructorNode 15 = .ok (.ldc 99, 2) := by decide +kernel
theorem dX11_constructorNode_17 : decode cX11_constructorNode 17 = .ok (.invokespecial 95, 3) := by decide +kernel
theorem dX11_constructorNode_20 : decode cX11_constructorNode 20 = .ok (.athrow, 1) := by decide +kernel
theorem dX11_functionNode_0 : decode cX11_functionNode 0 = .ok (.aload_n 0, 1) := by decide +kernel
theorem dX11_functionNode_1 : decode cX11_functionNode 1 = .ok (.iload_n 1, 1) := by decide +kernel
theorem dX11_functionNode_2 : decode cX11_functionNode 2 = .ok (.invokevirtual 101, 3) := by decide +kernel
theorem dX11_addData_0 : decode cX11_addData 0 = .ok (.aload_n 0, 1) := by decide +kernel
theorem dX11_addData_1 : decode cX11_addData 1 = .ok (.getfield 28, 3) := by decide +kernel
theorem dX11_addData_4 : decode cX11_addData 4 = .ok (.getfield 105, 3) := by decide +kernel
theorem dX11_addData_7 : decode cX11_addData 7 = .ok (.bipush 6, 2) := by decide +kernel
theorem dX11_addData_9 : decode cX11_addData 9 = .ok (.if_icmp .lt 13, 3) := by decide +kernel
theorem dX11_addData_22 : decode cX11_addData 22 = .ok (.aload_n 0, 1) := by decide +kernel
theorem dX11_addData_23 : decode cX11_addData 23 = .ok (.getfield 28, 3) := by decide +kernel
theorem dX11_addData_26 : decode cX11_addData 26 = .ok (.invokevirtual 114, 3) := by decide +kernel
theorem dX11_addData_29 : decode cX11_addData 29 = .ok (.ireturn, 1) := by decide +kernel
theorem dX11_addConstructor_0 : decode cX11_addConstructor 0 = .ok (.iload_n 2, 1) := by decide +kernel
theorem dX11_addConstructor_1 : decode cX11_addConstructor 1 = .ok (.ifCond .lt 8, 3) := by decide +kernel
theorem dX11_addConstructor_4 : decode cX11_addConstructor 4 = .ok (.iload_n 2, 1) := by decide +kernel
theorem dX11_addConstructor_5 : decode cX11_addConstructor 5 = .ok (.iconst 3, 1) := by decide +kernel
theorem dX11_addConstructor_6 : decode cX11_addConstructor 6 = .ok (.if_icmp .le 13, 3) := by decide +kernel
theorem dX11_addConstructor_9 : decode cX11_addConstructor 9 = .ok (.new 70, 3) := by decide +kernel
theorem dX11_addConstructor_12 : decode cX11_addConstructor 12 = .ok (.dup, 1) := by decide +kernel
theorem dX11_addConstructor_13 : decode cX11_addConstructor 13 = .ok (.ldc 118, 2) := by decide +kernel
theorem dX11_addConstructor_15 : decode cX11_addConstructor 15 = .ok (.invokespecial 74, 3) := by decide +kernel
theorem dX11_addConstructor_18 : decode cX11_addConstructor 18 = .ok (.athrow, 1) := by decide +kernel
theorem dX11_addConstructor_19 : decode cX11_addConstructor 19 = .ok (.aload_n 0, 1) := by decide +kernel
theorem dX11_addConstructor_20 : decode cX11_addConstructor 20 = .ok (.getfield 28, 3) := by decide +kernel
theorem dX11_addConstructor_23 : decode cX11_addConstructor 23 = .ok (.iload_n 1, 1) := by decide +kernel
theorem dX11_addConstructor_24 : decode cX11_addConstructor 24 = .ok (.invokevirtual 87, 3) := by decide +kernel
theorem dX11_addConstructor_27 : decode cX11_addConstructor 27 = .ok (.ifCond .eq 57, 3) := by decide +kernel
theorem dX11_addConstructor_84 : decode cX11_addConstructor 84 = .ok (.iconst 0, 1) := by decide +kernel
theorem dX11_addConstructor_85 : decode cX11_addConstructor 85 = .ok (.istore 6, 2) := by decide +kernel
theorem dX11_addConstructor_87 : decode cX11_addConstructor 87 = .ok (.iload 6, 2) := by decide +kernel
theorem dX11_addConstructor_89 : decode cX11_addConstructor 89 = .ok (.ifCond .ne 13, 3) := by decide +kernel
theorem dX11_addConstructor_92 : decode cX11_addConstructor 92 = .ok (.new 91, 3) := by decide +kernel
theorem dX11_addConstructor_95 : decode cX11_addConstructor 95 = .ok (.dup, 1) := by decide +kernel
theorem dX11_addConstructor_96 : decode cX11_addConstructor 96 = .ok (.ldc 93, 2) := by decide +kernel
theorem dX11_addConstructor_98 : decode cX11_addConstructor 98 = .ok (.invokespecial 95, 3) := by decide +kernel
theorem dX11_addConstructor_101 : decode cX11_addConstructor 101 = .ok (.athrow, 1) := by decide +kernel
theorem dX11_size_0 : decode cX11_size 0 = .ok (.aload_n 0, 1) := by decide +kernel
theorem dX11_size_1 : decode cX11_size 1 = .ok (.getfield 10, 3) := by decide +kernel
theorem dX11_size_4 : decode cX11_size 4 = .ok (.aload_n 0, 1) := by decide +kernel
theorem dX11_size_5 : decode cX11_size 5 = .ok (.iload_n 1, 1) := by decide +kernel
theorem dX11_size_6 : decode cX11_size 6 = .ok (.invokevirtual 135, 3) := by decide +kernel
theorem dX11_number_0 : decode cX11_number 0 = .ok (.aload_n 0, 1) := by decide +kernel
theorem dX11_number_1 : decode cX11_number 1 = .ok (.getfield 10, 3) := by decide +kernel
theorem dX11_number_4 : decode cX11_number 4 = .ok (.aload_n 0, 1) := by decide +kernel
theorem dX11_number_5 : decode cX11_number 5 = .ok (.iload_n 1, 1) := by decide +kernel
theorem dX11_number_6 : decode cX11_number 6 = .ok (.invokevirtual 135, 3) := by decide +kernel
theorem dX11_normal_0 : decode cX11_normal 0 = .ok (.aload_n 0, 1) := by decide +kernel
theorem dX11_normal_1 : decode cX11_normal 1 = .ok (.iload_n 1, 1) := by decide +kernel
theorem dX11_normal_2 : decode cX11_normal 2 = .ok (.invokevirtual 135, 3) := by decide +kernel
theorem dX11_typeOf_0 : decode cX11_typeOf 0 = .ok (.aload_n 0, 1) := by decide +kernel
theorem dX11_typeOf_1 : decode cX11_typeOf 1 = .ok (.iload_n 1, 1) := by decide +kernel
theorem dX11_typeOf_2 : decode cX11_typeOf 2 = .ok (.invokevirtual 135, 3) := by decide +kernel
theorem dX11_level_0 : decode cX11_level 0 = .ok (.aload_n 0, 1) := by decide +kernel
theorem dX11_level_1 : decode cX11_level 1 = .ok (.getfield 46, 3) := by decide +kernel
theorem dX11_level_4 : decode cX11_level 4 = .ok (.aload_n 0, 1) := by decide +kernel
theorem dX11_level_5 : decode cX11_level 5 = .ok (.iload_n 1, 1) := by decide +kernel
theorem dX11_level_6 : decode cX11_level 6 = .ok (.invokevirtual 135, 3) := by decide +kernel
theorem dX11_isOf_0 : decode cX11_isOf 0 = .ok (.aload_n 0, 1) := by decide +kernel
theorem dX11_isOf_1 : decode cX11_isOf 1 = .ok (.iload_n 1, 1) := by decide +kernel
theorem dX11_isOf_2 : decode cX11_isOf 2 = .ok (.invokevirtual 135, 3) := by decide +kernel
theorem dX11_declare_0 : decode cX11_declare 0 = .ok (.aload_n 0, 1) := by decide +kernel
theorem dX11_declare_1 : decode cX11_declare 1 = .ok (.iload_n 1, 1) := by decide +kernel
theorem dX11_declare_2 : decode cX11_declare 2 = .ok (.invokevirtual 135, 3) := by decide +kernel
theorem dX11_split_0 : decode cX11_split 0 = .ok (.aload_n 0, 1) := by decide +kernel
theorem dX11_split_1 : decode cX11_split 1 = .ok (.iload_n 1, 1) := by decide +kernel
theorem dX11_split_2 : decode cX11_split 2 = .ok (.invokevirtual 189, 3) := by decide +kernel
theorem dX11_fill_0 : decode cX11_fill 0 = .ok (.aload_n 0, 1) := by decide +kernel
theorem dX11_fill_1 : decode cX11_fill 1 = .ok (.iload_n 1, 1) := by decide +kernel
theorem dX11_fill_2 : decode cX11_fill 2 = .ok (.invokevirtual 189, 3) := by decide +kernel
theorem dX11_auto_0 : decode cX11_auto 0 = .ok (.aload_n 0, 1) := by decide +kernel
theorem dX11_auto_1 : decode cX11_auto 1 = .ok (.iload_n 1, 1) := by decide +kernel
theorem dX11_auto_2 : decode cX11_auto 2 = .ok (.invokevirtual 189, 3) := by decide +kernel
theorem dX11_reopen_0 : decode cX11_reopen 0 = .ok (.aload_n 0, 1) := by decide +kernel
theorem dX11_reopen_1 : decode cX11_reopen 1 = .ok (.iload_n 1, 1) := by decide +kernel
theorem dX11_reopen_2 : decode cX11_reopen 2 = .ok (.invokevirtual 189, 3) := by decide +kernel
theorem dX11_goalState_0 : decode cX11_goalState 0 = .ok (.aload_n 0, 1) := by decide +kernel
theorem dX11_goalState_1 : decode cX11_goalState 1 = .ok (.iload_n 1, 1) := by decide +kernel
theorem dX11_goalState_2 : decode cX11_goalState 2 = .ok (.invokevirtual 189, 3) := by decide +kernel
theorem dX11_contextSize_0 : decode cX11_contextSize 0 = .ok (.aload_n 0, 1) := by decide +kernel
theorem dX11_contextSize_1 : decode cX11_contextSize 1 = .ok (.iload_n 1, 1) := by decide +kernel
theorem dX11_contextSize_2 : decode cX11_contextSize 2 = .ok (.invokevirtual 189, 3) := by decide +kernel
theorem dX11_contextType_0 : decode cX11_contextType 0 = .ok (.aload_n 0, 1) := by decide +kernel
theorem dX11_contextType_1 : decode cX11_contextType 1 = .ok (.iload_n 1, 1) := by decide +kernel
theorem dX11_contextType_2 : decode cX11_contextType 2 = .ok (.invokevirtual 189, 3) := by decide +kernel
theorem dX11_goalType_0 : decode cX11_goalType 0 = .ok (.aload_n 0, 1) := by decide +kernel
theorem dX11_goalType_1 : decode cX11_goalType 1 = .ok (.getfield 10, 3) := by decide +kernel
theorem dX11_goalType_4 : decode cX11_goalType 4 = .ok (.aload_n 0, 1) := by decide +kernel
theorem dX11_goalType_5 : decode cX11_goalType 5 = .ok (.iload_n 1, 1) := by decide +kernel
theorem dX11_goalType_6 : decode cX11_goalType 6 = .ok (.invokevirtual 189, 3) := by decide +kernel
theorem dX11_openGoals_0 : decode cX11_openGoals 0 = .ok (.aload_n 0, 1) := by decide +kernel
theorem dX11_openGoals_1 : decode cX11_openGoals 1 = .ok (.iload_n 1, 1) := by decide +kernel
theorem dX11_openGoals_2 : decode cX11_openGoals 2 = .ok (.invokevirtual 101, 3) := by decide +kernel
theorem dX11_accept_0 : decode cX11_accept 0 = .ok (.aload_n 0, 1) := by decide +kernel
theorem dX11_accept_1 : decode cX11_accept 1 = .ok (.iload_n 1, 1) := by decide +kernel
theorem dX11_accept_2 : decode cX11_accept 2 = .ok (.invokevirtual 101, 3) := by decide +kernel
theorem dX11_isAccepted_0 : decode cX11_isAccepted 0 = .ok (.aload_n 0, 1) := by decide +kernel
theorem dX11_isAccepted_1 : decode cX11_isAccepted 1 = .ok (.iload_n 1, 1) := by decide +kernel
theorem dX11_isAccepted_2 : decode cX11_isAccepted 2 = .ok (.invokevirtual 101, 3) := by decide +kernel
theorem dX11_run_0 : decode cX11_run 0 = .ok (.aload_n 0, 1) := by decide +kernel
theorem dX11_run_1 : decode cX11_run 1 = .ok (.iload_n 1, 1) := by decide +kernel
theorem dX11_run_2 : decode cX11_run 2 = .ok (.invokevirtual 135, 3) := by decide +kernel
theorem dX11_runByClauses_0 : decode cX11_runByClauses 0 = .ok (.aload_n 0, 1) := by decide +kernel
theorem dX11_runByClauses_1 : decode cX11_runByClauses 1 = .ok (.iload_n 1, 1) := by decide +kernel
theorem dX11_runByClauses_2 : decode cX11_runByClauses 2 = .ok (.invokevirtual 135, 3) := by decide +kernel
theorem dX11_steps_0 : decode cX11_steps 0 = .ok (.aload_n 0, 1) := by decide +kernel
theorem dX11_steps_1 : decode cX11_steps 1 = .ok (.iload_n 1, 1) := by decide +kernel
theorem dX11_steps_2 : decode cX11_steps 2 = .ok (.invokevirtual 135, 3) := by decide +kernel
theorem dX11_valueSize_0 : decode cX11_valueSize 0 = .ok (.aload_n 0, 1) := by decide +kernel
theorem dX11_valueSize_1 : decode cX11_valueSize 1 = .ok (.iload_n 1, 1) := by decide +kernel
theorem dX11_valueSize_2 : decode cX11_valueSize 2 = .ok (.invokevirtual 135, 3) := by decide +kernel
theorem dX11_allSteps_0 : decode cX11_allSteps 0 = .ok (.aload_n 0, 1) := by decide +kernel
theorem dX11_allSteps_1 : decode cX11_allSteps 1 = .ok (.getfield 303, 3) := by decide +kernel
theorem dX11_allSteps_4 : decode cX11_allSteps 4 = .ok (.lreturn, 1) := by decide +kernel
theorem dX11_filledShare_0 : decode cX11_filledShare 0 = .ok (.aload_n 0, 1) := by decide +kernel
theorem dX11_filledShare_1 : decode cX11_filledShare 1 = .ok (.getfield 37, 3) := by decide +kernel
theorem dX11_filledShare_4 : decode cX11_filledShare 4 = .ok (.bipush 102, 2) := by decide +kernel
theorem dX11_filledShare_6 : decode cX11_filledShare 6 = .ok (.invokevirtual 310, 3) := by decide +kernel
theorem dX11_filledShare_9 : decode cX11_filledShare 9 = .ok (.istore_n 1, 1) := by decide +kernel
theorem dX11_filledShare_10 : decode cX11_filledShare 10 = .ok (.iload_n 1, 1) := by decide +kernel
theorem dX11_filledShare_11 : decode cX11_filledShare 11 = .ok (.aload_n 0, 1) := by decide +kernel
theorem dX11_filledShare_12 : decode cX11_filledShare 12 = .ok (.getfield 37, 3) := by decide +kernel
theorem dX11_filledShare_15 : decode cX11_filledShare 15 = .ok (.bipush 111, 2) := by decide +kernel
theorem dX11_filledShare_17 : decode cX11_filledShare 17 = .ok (.invokevirtual 310, 3) := by decide +kernel
theorem dX11_filledShare_20 : decode cX11_filledShare 20 = .ok (.iadd, 1) := by decide +kernel
theorem dX11_filledShare_21 : decode cX11_filledShare 21 = .ok (.istore_n 2, 1) := by decide +kernel
theorem dX11_filledShare_22 : decode cX11_filledShare 22 = .ok (.iload_n 2, 1) := by decide +kernel
theorem dX11_filledShare_23 : decode cX11_filledShare 23 = .ok (.ifCond .ne 14, 3) := by decide +kernel
theorem dX11_filledShare_26 : decode cX11_filledShare 26 = .ok (.new 314, 3) := by decide +kernel
theorem dX11_filledShare_29 : decode cX11_filledShare 29 = .ok (.dup, 1) := by decide +kernel
theorem dX11_filledShare_30 : decode cX11_filledShare 30 = .ok (.ldc_w 316, 3) := by decide +kernel
theorem dX11_filledShare_33 : decode cX11_filledShare 33 = .ok (.invokespecial 318, 3) := by decide +kernel
theorem dX11_filledShare_36 : decode cX11_filledShare 36 = .ok (.athrow, 1) := by decide +kernel
theorem dX11_meanSize_0 : decode cX11_meanSize 0 = .ok (.aload_n 0, 1) := by decide +kernel
theorem dX11_meanSize_1 : decode cX11_meanSize 1 = .ok (.getfield 37, 3) := by decide +kernel
theorem dX11_meanSize_4 : decode cX11_meanSize 4 = .ok (.bipush 102, 2) := by decide +kernel
theorem dX11_meanSize_6 : decode cX11_meanSize 6 = .ok (.invokevirtual 310, 3) := by decide +kernel
theorem dX11_meanSize_9 : decode cX11_meanSize 9 = .ok (.istore_n 1, 1) := by decide +kernel
theorem dX11_meanSize_10 : decode cX11_meanSize 10 = .ok (.iload_n 1, 1) := by decide +kernel
theorem dX11_meanSize_11 : decode cX11_meanSize 11 = .ok (.ifCond .ne 14, 3) := by decide +kernel
theorem dX11_meanSize_14 : decode cX11_meanSize 14 = .ok (.new 314, 3) := by decide +kernel
theorem dX11_meanSize_17 : decode cX11_meanSize 17 = .ok (.dup, 1) := by decide +kernel
theorem dX11_meanSize_18 : decode cX11_meanSize 18 = .ok (.ldc_w 319, 3) := by decide +kernel
theorem dX11_meanSize_21 : decode cX11_meanSize 21 = .ok (.invokespecial 318, 3) := by decide +kernel
theorem dX11_meanSize_24 : decode cX11_meanSize 24 = .ok (.athrow, 1) := by decide +kernel
theorem dX11_isSound_0 : decode cX11_isSound 0 = .ok (.iconst 0, 1) := by decide +kernel
theorem dX11_isSound_1 : decode cX11_isSound 1 = .ok (.istore_n 1, 1) := by decide +kernel
theorem dX11_isSound_2 : decode cX11_isSound 2 = .ok (.iload_n 1, 1) := by decide +kernel
theorem dX11_isSound_3 : decode cX11_isSound 3 = .ok (.aload_n 0, 1) := by decide +kernel
theorem dX11_isSound_4 : decode cX11_isSound 4 = .ok (.getfield 37, 3) := by decide +kernel
theorem dX11_isSound_7 : decode cX11_isSound 7 = .ok (.getfield 181, 3) := by decide +kernel
theorem dX11_isSound_10 : decode cX11_isSound 10 = .ok (.if_icmp .ge 55, 3) := by decide +kernel
theorem dX11_isSound_65 : decode cX11_isSound 65 = .ok (.aload_n 0, 1) := by decide +kernel
theorem dX11_isSound_66 : decode cX11_isSound 66 = .ok (.getfield 37, 3) := by decide +kernel
theorem dX11_isSound_69 : decode cX11_isSound 69 = .ok (.invokevirtual 324, 3) := by decide +kernel
theorem dX11_isSound_72 : decode cX11_isSound 72 = .ok (.ifCond .ne 17, 3) := by decide +kernel
theorem dX11_isSound_75 : decode cX11_isSound 75 = .ok (.aload_n 0, 1) := by decide +kernel
theorem dX11_isSound_76 : decode cX11_isSound 76 = .ok (.getfield 37, 3) := by decide +kernel
theorem dX11_isSound_79 : decode cX11_isSound 79 = .ok (.invokevirtual 327, 3) := by decide +kernel
theorem dX11_isSound_82 : decode cX11_isSound 82 = .ok (.ifCond .ne 7, 3) := by decide +kernel
theorem dX11_isSound_85 : decode cX11_isSound 85 = .ok (.iconst 1, 1) := by decide +kernel
theorem dX11_isSound_86 : decode cX11_isSound 86 = .ok (.goto 4, 3) := by decide +kernel
theorem dX11_isSound_90 : decode cX11_isSound 90 = .ok (.ireturn, 1) := by decide +kernel
theorem dX11_layLeaf_0 : decode cX11_layLeaf 0 = .ok (.aload_n 0, 1) := by decide +kernel
theorem dX11_layLeaf_1 : decode cX11_layLeaf 1 = .ok (.getfield 330, 3) := by decide +kernel
theorem dX11_layLeaf_4 : decode cX11_layLeaf 4 = .ok (.aload_n 0, 1) := by decide +kernel
theorem dX11_layLeaf_5 : decode cX11_layLeaf 5 = .ok (.getfield 66, 3) := by decide +kernel
theorem dX11_layLeaf_8 : decode cX11_layLeaf 8 = .ok (.arraylength, 1) := by decide +kernel
theorem dX11_layLeaf_9 : decode cX11_layLeaf 9 = .ok (.if_icmp .lt 14, 3) := by decide +kernel
theorem dX11_layLeaf_23 : decode cX11_layLeaf 23 = .ok (.aload_n 0, 1) := by decide +kernel
theorem dX11_layLeaf_24 : decode cX11_layLeaf 24 = .ok (.getfield 66, 3) := by decide +kernel
theorem dX11_layLeaf_27 : decode cX11_layLeaf 27 = .ok (.aload_n 0, 1) := by decide +kernel
theorem dX11_layLeaf_28 : decode cX11_layLeaf 28 = .ok (.getfield 330, 3) := by decide +kernel
theorem dX11_layLeaf_31 : decode cX11_layLeaf 31 = .ok (.aload_n 0, 1) := by decide +kernel
theorem dX11_layLeaf_32 : decode cX11_layLeaf 32 = .ok (.getfield 10, 3) := by decide +kernel
theorem dX11_layLeaf_35 : decode cX11_layLeaf 35 = .ok (.iload_n 1, 1) := by decide +kernel
theorem dX11_layLeaf_36 : decode cX11_layLeaf 36 = .ok (.iload_n 2, 1) := by decide +kernel
theorem dX11_layLeaf_37 : decode cX11_layLeaf 37 = .ok (.invokevirtual 255, 3) := by decide +kernel
theorem dX11_layLeaf_40 : decode cX11_layLeaf 40 = .ok (.iastore, 1) := by decide +kernel
theorem dX11_layLeaf_41 : decode cX11_layLeaf 41 = .ok (.aload_n 0, 1) := by decide +kernel
theorem dX11_layLeaf_42 : decode cX11_layLeaf 42 = .ok (.dup, 1) := by decide +kernel
theorem dX11_layLeaf_43 : decode cX11_layLeaf 43 = .ok (.getfield 330, 3) := by decide +kernel
theorem dX11_layLeaf_46 : decode cX11_layLeaf 46 = .ok (.iconst 1, 1) := by decide +kernel
theorem dX11_layLeaf_47 : decode cX11_layLeaf 47 = .ok (.iadd, 1) := by decide +kernel
theorem dX11_layLeaf_48 : decode cX11_layLeaf 48 = .ok (.putfield 330, 3) := by decide +kernel
theorem dX11_layLeaf_51 : decode cX11_layLeaf 51 = .ok (.aload_n 0, 1) := by decide +kernel
theorem dX11_layLeaf_52 : decode cX11_layLeaf 52 = .ok (.getfield 330, 3) := by decide +kernel
theorem dX11_layLeaf_55 : decode cX11_layLeaf 55 = .ok (.iconst 1, 1) := by decide +kernel
theorem dX11_layLeaf_56 : decode cX11_layLeaf 56 = .ok (.isub, 1) := by decide +kernel
theorem dX11_layLeaf_57 : decode cX11_layLeaf 57 = .ok (.ireturn, 1) := by decide +kernel
theorem dX11_layPair_0 : decode cX11_layPair 0 = .ok (.aload_n 0, 1) := by decide +kernel
theorem dX11_layPair_1 : decode cX11_layPair 1 = .ok (.iload_n 2, 1) := by decide +kernel
theorem dX11_layPair_2 : decode cX11_layPair 2 = .ok (.invokevirtual 135, 3) := by decide +kernel
theorem dX11_termAt_0 : decode cX11_termAt 0 = .ok (.iload_n 1, 1) := by decide +kernel
theorem dX11_termAt_1 : decode cX11_termAt 1 = .ok (.ifCond .lt 11, 3) := by decide +kernel
theorem dX11_termAt_4 : decode cX11_termAt 4 = .ok (.iload_n 1, 1) := by decide +kernel
theorem dX11_termAt_5 : decode cX11_termAt 5 = .ok (.aload_n 0, 1) := by decide +kernel
theorem dX11_termAt_6 : decode cX11_termAt 6 = .ok (.getfield 330, 3) := by decide +kernel
theorem dX11_termAt_9 : decode cX11_termAt 9 = .ok (.if_icmp .lt 14, 3) := by decide +kernel
theorem dX11_termAt_12 : decode cX11_termAt 12 = .ok (.new 340, 3) := by decide +kernel
theorem dX11_termAt_15 : decode cX11_termAt 15 = .ok (.dup, 1) := by decide +kernel
theorem dX11_termAt_16 : decode cX11_termAt 16 = .ok (.ldc_w 342, 3) := by decide +kernel
theorem dX11_termAt_19 : decode cX11_termAt 19 = .ok (.invokespecial 344, 3) := by decide +kernel
theorem dX11_termAt_22 : decode cX11_termAt 22 = .ok (.athrow, 1) := by decide +kernel
theorem dX11_functionAt_0 : decode cX11_functionAt 0 = .ok (.aload_n 0, 1) := by decide +kernel
theorem dX11_functionAt_1 : decode cX11_functionAt 1 = .ok (.getfield 37, 3) := by decide +kernel
theorem dX11_functionAt_4 : decode cX11_functionAt 4 = .ok (.iload_n 1, 1) := by decide +kernel
theorem dX11_functionAt_5 : decode cX11_functionAt 5 = .ok (.invokevirtual 345, 3) := by decide +kernel
theorem dX11_functionAt_8 : decode cX11_functionAt 8 = .ok (.astore_n 2, 1) := by decide +kernel
theorem dX11_functionAt_9 : decode cX11_functionAt 9 = .ok (.aload_n 2, 1) := by decide +kernel
theorem dX11_functionAt_10 : decode cX11_functionAt 10 = .ok (.ifnonnull 14, 3) := by decide +kernel
theorem dX11_functionAt_13 : decode cX11_functionAt 13 = .ok (.new 91, 3) := by decide +kernel
theorem dX11_functionAt_16 : decode cX11_functionAt 16 = .ok (.dup, 1) := by decide +kernel
theorem dX11_functionAt_17 : decode cX11_functionAt 17 = .ok (.ldc_w 347, 3) := by decide +kernel
theorem dX11_functionAt_20 : decode cX11_functionAt 20 = .ok (.invokespecial 95, 3) := by decide +kernel
theorem dX11_functionAt_23 : decode cX11_functionAt 23 = .ok (.athrow, 1) := by decide +kernel
theorem dX11_goalAt_0 : decode cX11_goalAt 0 = .ok (.aload_n 0, 1) := by decide +kernel
theorem dX11_goalAt_1 : decode cX11_goalAt 1 = .ok (.getfield 37, 3) := by decide +kernel
theorem dX11_goalAt_4 : decode cX11_goalAt 4 = .ok (.iload_n 1, 1) := by decide +kernel
theorem dX11_goalAt_5 : decode cX11_goalAt 5 = .ok (.invokevirtual 283, 3) := by decide +kernel
theorem dX11_goalAt_8 : decode cX11_goalAt 8 = .ok (.astore_n 2, 1) := by decide +kernel
theorem dX11_goalAt_9 : decode cX11_goalAt 9 = .ok (.aload_n 2, 1) := by decide +kernel
theorem dX11_goalAt_10 : decode cX11_goalAt 10 = .ok (.ifnonnull 14, 3) := by decide +kernel
theorem dX11_goalAt_13 : decode cX11_goalAt 13 = .ok (.new 91, 3) := by decide +kernel
theorem dX11_goalAt_16 : decode cX11_goalAt 16 = .ok (.dup, 1) := by decide +kernel
theorem dX11_goalAt_17 : decode cX11_goalAt 17 = .ok (.ldc_w 349, 3) := by decide +kernel
theorem dX11_goalAt_20 : decode cX11_goalAt 20 = .ok (.invokespecial 95, 3) := by decide +kernel
theorem dX11_goalAt_23 : decode cX11_goalAt 23 = .ok (.athrow, 1) := by decide +kernel
theorem dX16_init_0 : decode cX16_init 0 = .ok (.aload_n 0, 1) := by decide +kernel
theorem dX16_init_1 : decode cX16_init 1 = .ok (.invokespecial 3, 3) := by decide +kernel
theorem dX16_init_4 : decode cX16_init 4 = .ok (.aload_n 0, 1) := by decide +kernel
theorem dX16_init_5 : decode cX16_init 5 = .ok (.iload_n 1, 1) := by decide +kernel
theorem dX16_init_6 : decode cX16_init 6 = .ok (.putfield 9, 3) := by decide +kernel
theorem dX16_init_9 : decode cX16_init 9 = .ok (.aload_n 0, 1) := by decide +kernel
theorem dX16_init_10 : decode cX16_init 10 = .ok (.iload_n 2, 1) := by decide +kernel
theorem dX16_init_11 : decode cX16_init 11 = .ok (.putfield 15, 3) := by decide +kernel
theorem dX16_init_14 : decode cX16_init 14 = .ok (.aload_n 0, 1) := by decide +kernel
theorem dX16_init_15 : decode cX16_init 15 = .ok (.aload_n 3, 1) := by decide +kernel
theorem dX16_init_16 : decode cX16_init 16 = .ok (.putfield 19, 3) := by decide +kernel
theorem dX16_init_19 : decode cX16_init 19 = .ok (.aload_n 0, 1) := by decide +kernel
theorem dX16_init_20 : decode cX16_init 20 = .ok (.aload 4, 2) := by decide +kernel
theorem dX16_init_22 : decode cX16_init 22 = .ok (.putfield 23, 3) := by decide +kernel
theorem dX16_init_25 : decode cX16_init 25 = .ok (.aload_n 0, 1) := by decide +kernel
theorem dX16_init_26 : decode cX16_init 26 = .ok (.aload_n 3, 1) := by decide +kernel
theorem dX16_init_27 : decode cX16_init 27 = .ok (.ifnonnull 7, 3) := by decide +kernel
theorem dX16_init_30 : decode cX16_init 30 = .ok (.iconst 1, 1) := by decide +kernel
theorem dX16_init_31 : decode cX16_init 31 = .ok (.goto 15, 3) := by decide +kernel
theorem dX16_init_46 : decode cX16_init 46 = .ok (.putfield 26, 3) := by decide +kernel
theorem dX16_init_49 : decode cX16_init 49 = .ok (.aload_n 0, 1) := by decide +kernel
theorem dX16_init_50 : decode cX16_init 50 = .ok (.aload_n 3, 1) := by decide +kernel
theorem dX16_init_51 : decode cX16_init 51 = .ok (.ifnonnull 19, 3) := by decide +kernel
theorem dX16_init_54 : decode cX16_init 54 = .ok (.iload_n 1, 1) := by decide +kernel
theorem dX16_init_55 : decode cX16_init 55 = .ok (.bipush 118, 2) := by decide +kernel
theorem dX16_init_57 : decode cX16_init 57 = .ok (.if_icmp .ne 9, 3) := by decide +kernel
theorem dX16_init_60 : decode cX16_init 60 = .ok (.iload_n 2, 1) := by decide +kernel
theorem dX16_init_61 : decode cX16_init 61 = .ok (.iconst 1, 1) := by decide +kernel
theorem dX16_init_62 : decode cX16_init 62 = .ok (.iadd, 1) := by decide +kernel
theorem dX16_init_63 : decode cX16_init 63 = .ok (.goto 35, 3) := by decide +kernel
theorem dX16_init_66 : decode cX16_init 66 = .ok (.iconst 0, 1) := by decide +kernel
theorem dX16_init_67 : decode cX16_init 67 = .ok (.goto 31, 3) := by decide +kernel
theorem dX16_init_98 : decode cX16_init 98 = .ok (.putfield 29, 3) := by decide +kernel
theorem dX16_init_101 : decode cX16_init 101 = .ok (.return_, 1) := by decide +kernel
theorem dX17_leaf_0 : decode cX17_leaf 0 = .ok (.new 1, 3) := by decide +kernel
theorem dX17_leaf_3 : decode cX17_leaf 3 = .ok (.dup, 1) := by decide +kernel
theorem dX17_leaf_4 : decode cX17_leaf 4 = .ok (.iload_n 0, 1) := by decide +kernel
theorem dX17_leaf_5 : decode cX17_leaf 5 = .ok (.iload_n 1, 1) := by decide +kernel
theorem dX17_leaf_6 : decode cX17_leaf 6 = .ok (.aconst_null, 1) := by decide +kernel
theorem dX17_leaf_7 : decode cX17_leaf 7 = .ok (.aconst_null, 1) := by decide +kernel
theorem dX17_leaf_8 : decode cX17_leaf 8 = .ok (.invokespecial 3, 3) := by decide +kernel
theorem dX17_leaf_11 : decode cX17_leaf 11 = .ok (.areturn, 1) := by decide +kernel
theorem dX17_init_0 : decode cX17_init 0 = .ok (.aload_n 0, 1) := by decide +kernel
theorem dX17_init_1 : decode cX17_init 1 = .ok (.invokespecial 54, 3) := by decide +kernel
theorem dX17_init_4 : decode cX17_init 4 = .ok (.aload_n 0, 1) := by decide +kernel
theorem dX17_init_5 : decode cX17_init 5 = .ok (.new 59, 3) := by decide +kernel
theorem dX17_init_8 : decode cX17_init 8 = .ok (.dup, 1) := by decide +kernel
theorem dX17_init_9 : decode cX17_init 9 = .ok (.invokespecial 61, 3) := by decide +kernel
theorem dX17_init_12 : decode cX17_init 12 = .ok (.putfield 62, 3) := by decide +kernel
theorem dX17_init_15 : decode cX17_init 15 = .ok (.aload_n 0, 1) := by decide +kernel
theorem dX17_init_16 : decode cX17_init 16 = .ok (.bipush 6, 2) := by decide +kernel
theorem dX17_init_18 : decode cX17_init 18 = .ok (.newarray .boolean, 2) := by decide +kernel
theorem dX17_init_20 : decode cX17_init 20 = .ok (.putfield 66, 3) := by decide +kernel
theorem dX17_init_23 : decode cX17_init 23 = .ok (.aload_n 0, 1) := by decide +kernel
theorem dX17_init_24 : decode cX17_init 24 = .ok (.new 59, 3) := by decide +kernel
theorem dX17_init_27 : decode cX17_init 27 = .ok (.dup, 1) := by decide +kernel
theorem dX17_init_28 : decode cX17_init 28 = .ok (.invokespecial 61, 3) := by decide +kernel
theorem dX17_init_31 : decode cX17_init 31 = .ok (.putfield 70, 3) := by decide +kernel
theorem dX17_init_34 : decode cX17_init 34 = .ok (.aload_n 0, 1) := by decide +kernel
theorem dX17_init_35 : decode cX17_init 35 = .ok (.new 59, 3) := by decide +kernel
theorem dX17_init_38 : decode cX17_init 38 = .ok (.dup, 1) := by decide +kernel
theorem dX17_init_39 : decode cX17_init 39 = .ok (.invokespecial 61, 3) := by decide +kernel
theorem dX17_init_42 : decode cX17_init 42 = .ok (.putfield 73, 3) := by decide +kernel
theorem dX17_init_45 : decode cX17_init 45 = .ok (.aload_n 0, 1) := by decide +kernel
theorem dX17_init_46 : decode cX17_init 46 = .ok (.new 59, 3) := by decide +kernel
theorem dX17_init_49 : decode cX17_init 49 = .ok (.dup, 1) := by decide +kernel
theorem dX17_init_50 : decode cX17_init 50 = .ok (.invokespecial 61, 3) := by decide +kernel
theorem dX17_init_53 : decode cX17_init 53 = .ok (.putfield 76, 3) := by decide +kernel
theorem dX17_init_56 : decode cX17_init 56 = .ok (.return_, 1) := by decide +kernel
theorem dX17_thrown_0 : decode cX17_thrown 0 = .ok (.aload_n 0, 1) := by decide +kernel
theorem dX17_thrown_1 : decode cX17_thrown 1 = .ok (.getfield 79, 3) := by decide +kernel
theorem dX17_thrown_4 : decode cX17_thrown 4 = .ok (.ireturn, 1) := by decide +kernel
theorem dX17_fails_0 : decode cX17_fails 0 = .ok (.aload_n 0, 1) := by decide +kernel
theorem dX17_fails_1 : decode cX17_fails 1 = .ok (.iload_n 1, 1) := by decide +kernel
theorem dX17_fails_2 : decode cX17_fails 2 = .ok (.putfield 79, 3) := by decide +kernel
theorem dX17_fails_5 : decode cX17_fails 5 = .ok (.iload_n 1, 1) := by decide +kernel
theorem dX17_fails_6 : decode cX17_fails 6 = .ok (.ifCond .le 7, 3) := by decide +kernel
theorem dX17_fails_9 : decode cX17_fails 9 = .ok (.iconst 1, 1) := by decide +kernel
theorem dX17_fails_10 : decode cX17_fails 10 = .ok (.goto 4, 3) := by decide +kernel
theorem dX17_fails_13 : decode cX17_fails 13 = .ok (.iconst 0, 1) := by decide +kernel
theorem dX17_fails_14 : decode cX17_fails 14 = .ok (.ireturn, 1) := by decide +kernel
theorem dX17_in_0 : decode cX17_in 0 = .ok (.iload_n 0, 1) := by decide +kernel
theorem dX17_in_1 : decode cX17_in 1 = .ok (.iload_n 1, 1) := by decide +kernel
theorem dX17_in_2 : decode cX17_in 2 = .ok (.if_icmp .lt 12, 3) := by decide +kernel
theorem dX17_in_5 : decode cX17_in 5 = .ok (.iload_n 0, 1) := by decide +kernel
theorem dX17_in_6 : decode cX17_in 6 = .ok (.iload_n 2, 1) := by decide +kernel
theorem dX17_in_7 : decode cX17_in 7 = .ok (.if_icmp .gt 7, 3) := by decide +kernel
theorem dX17_in_10 : decode cX17_in 10 = .ok (.iconst 1, 1) := by decide +kernel
theorem dX17_in_11 : decode cX17_in 11 = .ok (.goto 4, 3) := by decide +kernel
theorem dX17_in_14 : decode cX17_in 14 = .ok (.iconst 0, 1) := by decide +kernel
theorem dX17_in_15 : decode cX17_in 15 = .ok (.ireturn, 1) := by decide +kernel
theorem dX17_isNode_0 : decode cX17_isNode 0 = .ok (.iload_n 1, 1) := by decide +kernel
theorem dX17_isNode_1 : decode cX17_isNode 1 = .ok (.iconst 0, 1) := by decide +kernel
theorem dX17_isNode_2 : decode cX17_isNode 2 = .ok (.aload_n 0, 1) := by decide +kernel
theorem dX17_isNode_3 : decode cX17_isNode 3 = .ok (.getfield 62, 3) := by decide +kernel
theorem dX17_isNode_6 : decode cX17_isNode 6 = .ok (.invokevirtual 82, 3) := by decide +kernel
theorem dX17_isNode_9 : decode cX17_isNode 9 = .ok (.iconst 1, 1) := by decide +kernel
theorem dX17_isNode_10 : decode cX17_isNode 10 = .ok (.isub, 1) := by decide +kernel
theorem dX17_isNode_11 : decode cX17_isNode 11 = .ok (.invokestatic 85, 3) := by decide +kernel
theorem dX17_isNode_14 : decode cX17_isNode 14 = .ok (.ireturn, 1) := by decide +kernel
theorem dX17_lays_0 : decode cX17_lays 0 = .ok (.aload_n 0, 1) := by decide +kernel
theorem dX17_lays_1 : decode cX17_lays 1 = .ok (.getfield 62, 3) := by decide +kernel
theorem dX17_lays_4 : decode cX17_lays 4 = .ok (.aload_n 1, 1) := by decide +kernel
theorem dX17_lays_5 : decode cX17_lays 5 = .ok (.invokevirtual 89, 3) := by decide +kernel
theorem dX17_lays_8 : decode cX17_lays 8 = .ok (.istore_n 2, 1) := by decide +kernel
theorem dX17_lays_9 : decode cX17_lays 9 = .ok (.aload_n 0, 1) := by decide +kernel
theorem dX17_lays_10 : decode cX17_lays 10 = .ok (.getfield 62, 3) := by decide +kernel
theorem dX17_lays_13 : decode cX17_lays 13 = .ok (.invokevirtual 82, 3) := by decide +kernel
theorem dX17_lays_16 : decode cX17_lays 16 = .ok (.iconst 1, 1) := by decide +kernel
theorem dX17_lays_17 : decode cX17_lays 17 = .ok (.isub, 1) := by decide +kernel
theorem dX17_lays_18 : decode cX17_lays 18 = .ok (.ireturn, 1) := by decide +kernel
theorem dX17_isFull_0 : decode cX17_isFull 0 = .ok (.aload_n 0, 1) := by decide +kernel
theorem dX17_isFull_1 : decode cX17_isFull 1 = .ok (.getfield 62, 3) := by decide +kernel
theorem dX17_isFull_4 : decode cX17_isFull 4 = .ok (.invokevirtual 82, 3) := by decide +kernel
theorem dX17_isFull_7 : decode cX17_isFull 7 = .ok (.sipush 250, 3) := by decide +kernel
theorem dX17_isFull_10 : decode cX17_isFull 10 = .ok (.if_icmp .ne 7, 3) := by decide +kernel
theorem dX17_isFull_17 : decode cX17_isFull 17 = .ok (.iconst 0, 1) := by decide +kernel
theorem dX17_isFull_18 : decode cX17_isFull 18 = .ok (.ireturn, 1) := by decide +kernel
theorem dX17_universe_0 : decode cX17_universe 0 = .ok (.aload_n 0, 1) := by decide +kernel
theorem dX17_universe_1 : decode cX17_universe 1 = .ok (.iload_n 1, 1) := by decide +kernel
theorem dX17_universe_2 : decode cX17_universe 2 = .ok (.iconst 0, 1) := by decide +kernel
theorem dX17_universe_3 : decode cX17_universe 3 = .ok (.iconst 3, 1) := by decide +kernel
theorem dX17_universe_4 : decode cX17_universe 4 = .ok (.invokestatic 85, 3) := by decide +kernel
theorem dX17_universe_7 : decode cX17_universe 7 = .ok (.ifCond .ne 7, 3) := by decide +kernel
theorem dX17_universe_10 : decode cX17_universe 10 = .ok (.iconst 1, 1) := by decide +kernel
theorem dX17_universe_11 : decode cX17_universe 11 = .ok (.goto 15, 3) := by decide +kernel
theorem dX17_universe_14 : decode cX17_universe 14 = .ok (.aload_n 0, 1) := by decide +kernel
theorem dX17_universe_15 : decode cX17_universe 15 = .ok (.invokevirtual 93, 3) := by decide +kernel
theorem dX17_universe_18 : decode cX17_universe 18 = .ok (.ifCond .eq 7, 3) := by decide +kernel
theorem dX17_universe_25 : decode cX17_universe 25 = .ok (.iconst 0, 1) := by decide +kernel
theorem dX17_universe_26 : decode cX17_universe 26 = .ok (.invokevirtual 96, 3) := by decide +kernel
theorem dX17_universe_29 : decode cX17_universe 29 = .ok (.ifCond .eq 7, 3) := by decide +kernel
theorem dX17_universe_32 : decode cX17_universe 32 = .ok (.iconst 0, 1) := by decide +kernel
theorem dX17_universe_33 : decode cX17_universe 33 = .ok (.goto 13, 3) := by decide +kernel
theorem dX17_universe_36 : decode cX17_universe 36 = .ok (.aload_n 0, 1) := by decide +kernel
theorem dX17_universe_37 : decode cX17_universe 37 = .ok (.bipush 117, 2) := by decide +kernel
theorem dX17_universe_39 : decode cX17_universe 39 = .ok (.iload_n 1, 1) := by decide +kernel
theorem dX17_universe_40 : decode cX17_universe 40 = .ok (.invokestatic 25, 3) := by decide +kernel
theorem dX17_universe_43 : decode cX17_universe 43 = .ok (.invokevirtual 100, 3) := by decide +kernel
theorem dX17_universe_46 : decode cX17_universe 46 = .ok (.ireturn, 1) := by decide +kernel
theorem dX17_variable_0 : decode cX17_variable 0 = .ok (.aload_n 0, 1) := by decide +kernel
theorem dX17_variable_1 : decode cX17_variable 1 = .ok (.iload_n 1, 1) := by decide +kernel
theorem dX17_variable_2 : decode cX17_variable 2 = .ok (.iconst 0, 1) := by decide +kernel
theorem dX17_variable_3 : decode cX17_variable 3 = .ok (.bipush 15, 2) := by decide +kernel
theorem dX17_variable_5 : decode cX17_variable 5 = .ok (.invokestatic 85, 3) := by decide +kernel
theorem dX17_variable_8 : decode cX17_variable 8 = .ok (.ifCond .ne 7, 3) := by decide +kernel
theorem dX17_variable_11 : decode cX17_variable 11 = .ok (.iconst 1, 1) := by decide +kernel
theorem dX17_variable_12 : decode cX17_variable 12 = .ok (.goto 15, 3) := by decide +kernel
theorem dX17_variable_15 : decode cX17_variable 15 = .ok (.aload_n 0, 1) := by decide +kernel
theorem dX17_variable_16 : decode cX17_variable 16 = .ok (.invokevirtual 93, 3) := by decide +kernel
theorem dX17_variable_19 : decode cX17_variable 19 = .ok (.ifCond .eq 7, 3) := by decide +kernel
theorem dX17_variable_26 : decode cX17_variable 26 = .ok (.iconst 0, 1) := by decide +kernel
theorem dX17_variable_27 : decode cX17_variable 27 = .ok (.invokevirtual 96, 3) := by decide +kernel
theorem dX17_variable_30 : decode cX17_variable 30 = .ok (.ifCond .eq 7, 3) := by decide +kernel
theorem dX17_variable_33 : decode cX17_variable 33 = .ok (.iconst 0, 1) := by decide +kernel
theorem dX17_variable_34 : decode cX17_variable 34 = .ok (.goto 13, 3) := by decide +kernel
theorem dX17_variable_37 : decode cX17_variable 37 = .ok (.aload_n 0, 1) := by decide +kernel
theorem dX17_variable_38 : decode cX17_variable 38 = .ok (.bipush 118, 2) := by decide +kernel
theorem dX17_variable_40 : decode cX17_variable 40 = .ok (.iload_n 1, 1) := by decide +kernel
theorem dX17_variable_41 : decode cX17_variable 41 = .ok (.invokestatic 25, 3) := by decide +kernel
theorem dX17_variable_44 : decode cX17_variable 44 = .ok (.invokevirtual 100, 3) := by decide +kernel
theorem dX17_variable_47 : decode cX17_variable 47 = .ok (.ireturn, 1) := by decide +kernel
theorem dX17_laysTwo_0 : decode cX17_laysTwo 0 = .ok (.aload_n 0, 1) := by decide +kernel
theorem dX17_laysTwo_1 : decode cX17_laysTwo 1 = .ok (.aload_n 0, 1) := by decide +kernel
theorem dX17_laysTwo_2 : decode cX17_laysTwo 2 = .ok (.iload_n 2, 1) := by decide +kernel
theorem dX17_laysTwo_3 : decode cX17_laysTwo 3 = .ok (.invokevirtual 104, 3) := by decide +kernel
theorem dX17_laysTwo_6 : decode cX17_laysTwo 6 = .ok (.ifCond .eq 15, 3) := by decide +kernel
theorem dX17_laysTwo_21 : decode cX17_laysTwo 21 = .ok (.iconst 1, 1) := by decide +kernel
theorem dX17_laysTwo_22 : decode cX17_laysTwo 22 = .ok (.invokevirtual 96, 3) := by decide +kernel
theorem dX17_laysTwo_25 : decode cX17_laysTwo 25 = .ok (.ifCond .eq 5, 3) := by decide +kernel
theorem dX17_laysTwo_28 : decode cX17_laysTwo 28 = .ok (.iconst 0, 1) := by decide +kernel
theorem dX17_laysTwo_29 : decode cX17_laysTwo 29 = .ok (.ireturn, 1) := by decide +kernel
theorem dX17_functions_0 : decode cX17_functions 0 = .ok (.aload_n 0, 1) := by decide +kernel
theorem dX17_functions_1 : decode cX17_functions 1 = .ok (.bipush 112, 2) := by decide +kernel
theorem dX17_functions_3 : decode cX17_functions 3 = .ok (.iload_n 1, 1) := by decide +kernel
theorem dX17_functions_4 : decode cX17_functions 4 = .ok (.iload_n 2, 1) := by decide +kernel
theorem dX17_functions_5 : decode cX17_functions 5 = .ok (.invokevirtual 111, 3) := by decide +kernel
theorem dX17_functions_8 : decode cX17_functions 8 = .ok (.ireturn, 1) := by decide +kernel
theorem dX17_lambda_0 : decode cX17_lambda 0 = .ok (.aload_n 0, 1) := by decide +kernel
theorem dX17_lambda_1 : decode cX17_lambda 1 = .ok (.bipush 108, 2) := by decide +kernel
theorem dX17_lambda_3 : decode cX17_lambda 3 = .ok (.iload_n 1, 1) := by decide +kernel
theorem dX17_lambda_4 : decode cX17_lambda 4 = .ok (.iload_n 2, 1) := by decide +kernel
theorem dX17_lambda_5 : decode cX17_lambda 5 = .ok (.invokevirtual 111, 3) := by decide +kernel
theorem dX17_lambda_8 : decode cX17_lambda 8 = .ok (.ireturn, 1) := by decide +kernel
theorem dX17_apply_0 : decode cX17_apply 0 = .ok (.aload_n 0, 1) := by decide +kernel
theorem dX17_apply_1 : decode cX17_apply 1 = .ok (.bipush 97, 2) := by decide +kernel
theorem dX17_apply_3 : decode cX17_apply 3 = .ok (.iload_n 1, 1) := by decide +kernel
theorem dX17_apply_4 : decode cX17_apply 4 = .ok (.iload_n 2, 1) := by decide +kernel
theorem dX17_apply_5 : decode cX17_apply 5 = .ok (.invokevirtual 111, 3) := by decide +kernel
theorem dX17_apply_8 : decode cX17_apply 8 = .ok (.ireturn, 1) := by decide +kernel
theorem dX17_laysOf_0 : decode cX17_laysOf 0 = .ok (.aload_n 0, 1) := by decide +kernel
theorem dX17_laysOf_1 : decode cX17_laysOf 1 = .ok (.iload_n 2, 1) := by decide +kernel
theorem dX17_laysOf_2 : decode cX17_laysOf 2 = .ok (.iconst 0, 1) := by decide +kernel
theorem dX17_laysOf_3 : decode cX17_laysOf 3 = .ok (.iload_n 3, 1) := by decide +kernel
theorem dX17_laysOf_4 : decode cX17_laysOf 4 = .ok (.iconst 1, 1) := by decide +kernel
theorem dX17_laysOf_5 : decode cX17_laysOf 5 = .ok (.isub, 1) := by decide +kernel
theorem dX17_laysOf_6 : decode cX17_laysOf 6 = .ok (.invokestatic 85, 3) := by decide +kernel
theorem dX17_laysOf_9 : decode cX17_laysOf 9 = .ok (.ifCond .ne 7, 3) := by decide +kernel
theorem dX17_laysOf_12 : decode cX17_laysOf 12 = .ok (.iconst 1, 1) := by decide +kernel
theorem dX17_laysOf_13 : decode cX17_laysOf 13 = .ok (.goto 15, 3) := by decide +kernel
theorem dX17_laysOf_28 : decode cX17_laysOf 28 = .ok (.invokevirtual 96, 3) := by decide +kernel
theorem dX17_laysOf_31 : decode cX17_laysOf 31 = .ok (.ifCond .eq 7, 3) := by decide +kernel
theorem dX17_laysOf_34 : decode cX17_laysOf 34 = .ok (.iconst 0, 1) := by decide +kernel
theorem dX17_laysOf_35 : decode cX17_laysOf 35 = .ok (.goto 12, 3) := by decide +kernel
theorem dX17_laysOf_47 : decode cX17_laysOf 47 = .ok (.ireturn, 1) := by decide +kernel
theorem dX17_dataNode_0 : decode cX17_dataNode 0 = .ok (.aload_n 0, 1) := by decide +kernel
theorem dX17_dataNode_1 : decode cX17_dataNode 1 = .ok (.bipush 100, 2) := by decide +kernel
theorem dX17_dataNode_3 : decode cX17_dataNode 3 = .ok (.iload_n 1, 1) := by decide +kernel
theorem dX17_dataNode_4 : decode cX17_dataNode 4 = .ok (.aload_n 0, 1) := by decide +kernel
theorem dX17_dataNode_5 : decode cX17_dataNode 5 = .ok (.getfield 115, 3) := by decide +kernel
theorem dX17_dataNode_8 : decode cX17_dataNode 8 = .ok (.invokevirtual 118, 3) := by decide +kernel
theorem dX17_dataNode_11 : decode cX17_dataNode 11 = .ok (.ireturn, 1) := by decide +kernel
theorem dX17_constructorNode_0 : decode cX17_constructorNode 0 = .ok (.aload_n 0, 1) := by decide +kernel
theorem dX17_constructorNode_1 : decode cX17_constructorNode 1 = .ok (.bipush 99, 2) := by decide +kernel
theorem dX17_constructorNode_3 : decode cX17_constructorNode 3 = .ok (.iload_n 1, 1) := by decide +kernel
theorem dX17_constructorNode_4 : decode cX17_constructorNode 4 = .ok (.aload_n 0, 1) := by decide +kernel
theorem dX17_constructorNode_5 : decode cX17_constructorNode 5 = .ok (.getfield 70, 3) := by decide +kernel
theorem dX17_constructorNode_8 : decode cX17_constructorNode 8 = .ok (.invokevirtual 82, 3) := by decide +kernel
theorem dX17_constructorNode_11 : decode cX17_constructorNode 11 = .ok (.invokevirtual 118, 3) := by decide +kernel
theorem dX17_constructorNode_14 : decode cX17_constructorNode 14 = .ok (.ireturn, 1) := by decide +kernel
theorem dX17_functionNode_0 : decode cX17_functionNode 0 = .ok (.aload_n 0, 1) := by decide +kernel
theorem dX17_functionNode_1 : decode cX17_functionNode 1 = .ok (.bipush 102, 2) := by decide +kernel
theorem dX17_functionNode_3 : decode cX17_functionNode 3 = .ok (.iload_n 1, 1) := by decide +kernel
theorem dX17_functionNode_4 : decode cX17_functionNode 4 = .ok (.aload_n 0, 1) := by decide +kernel
theorem dX17_functionNode_5 : decode cX17_functionNode 5 = .ok (.getfield 73, 3) := by decide +kernel
theorem dX17_functionNode_8 : decode cX17_functionNode 8 = .ok (.invokevirtual 82, 3) := by decide +kernel
theorem dX17_functionNode_11 : decode cX17_functionNode 11 = .ok (.invokevirtual 118, 3) := by decide +kernel
theorem dX17_functionNode_14 : decode cX17_functionNode 14 = .ok (.ireturn, 1) := by decide +kernel
theorem dX17_addData_0 : decode cX17_addData 0 = .ok (.aload_n 0, 1) := by decide +kernel
theorem dX17_addData_1 : decode cX17_addData 1 = .ok (.aload_n 0, 1) := by decide +kernel
theorem dX17_addData_2 : decode cX17_addData 2 = .ok (.getfield 115, 3) := by decide +kernel
theorem dX17_addData_5 : decode cX17_addData 5 = .ok (.bipush 6, 2) := by decide +kernel
theorem dX17_addData_7 : decode cX17_addData 7 = .ok (.if_icmp .ne 7, 3) := by decide +kernel
theorem dX17_addData_14 : decode cX17_addData 14 = .ok (.iconst 0, 1) := by decide +kernel
theorem dX17_addData_15 : decode cX17_addData 15 = .ok (.invokevirtual 96, 3) := by decide +kernel
theorem dX17_addData_18 : decode cX17_addData 18 = .ok (.ifCond .eq 5, 3) := by decide +kernel
theorem dX17_addData_23 : decode cX17_addData 23 = .ok (.aload_n 0, 1) := by decide +kernel
theorem dX17_addData_24 : decode cX17_addData 24 = .ok (.dup, 1) := by decide +kernel
theorem dX17_addData_25 : decode cX17_addData 25 = .ok (.getfield 115, 3) := by decide +kernel
theorem dX17_addData_28 : decode cX17_addData 28 = .ok (.iconst 1, 1) := by decide +kernel
theorem dX17_addData_29 : decode cX17_addData 29 = .ok (.iadd, 1) := by decide +kernel
theorem dX17_addData_30 : decode cX17_addData 30 = .ok (.putfield 115, 3) := by decide +kernel
theorem dX17_addData_33 : decode cX17_addData 33 = .ok (.aload_n 0, 1) := by decide +kernel
theorem dX17_addData_34 : decode cX17_addData 34 = .ok (.getfield 115, 3) := by decide +kernel
theorem dX17_addData_37 : decode cX17_addData 37 = .ok (.iconst 1, 1) := by decide +kernel
theorem dX17_addData_38 : decode cX17_addData 38 = .ok (.isub, 1) := by decide +kernel
theorem dX17_addData_39 : decode cX17_addData 39 = .ok (.ireturn, 1) := by decide +kernel
theorem dX17_isData_0 : decode cX17_isData 0 = .ok (.iload_n 1, 1) := by decide +kernel
theorem dX17_isData_1 : decode cX17_isData 1 = .ok (.iconst 0, 1) := by decide +kernel
theorem dX17_isData_2 : decode cX17_isData 2 = .ok (.aload_n 0, 1) := by decide +kernel
theorem dX17_isData_3 : decode cX17_isData 3 = .ok (.getfield 115, 3) := by decide +kernel
theorem dX17_isData_6 : decode cX17_isData 6 = .ok (.iconst 1, 1) := by decide +kernel
theorem dX17_isData_7 : decode cX17_isData 7 = .ok (.isub, 1) := by decide +kernel
theorem dX17_isData_8 : decode cX17_isData 8 = .ok (.invokestatic 85, 3) := by decide +kernel
theorem dX17_isData_11 : decode cX17_isData 11 = .ok (.ireturn, 1) := by decide +kernel
theorem dX17_addConstructor_0 : decode cX17_addConstructor 0 = .ok (.aload_n 0, 1) := by decide +kernel
theorem dX17_addConstructor_1 : decode cX17_addConstructor 1 = .ok (.iload_n 1, 1) := by decide +kernel
theorem dX17_addConstructor_2 : decode cX17_addConstructor 2 = .ok (.invokevirtual 140, 3) := by decide +kernel
theorem dX17_addConstructor_5 : decode cX17_addConstructor 5 = .ok (.ifCond .eq 48, 3) := by decide +kernel
theorem dX17_addConstructor_53 : decode cX17_addConstructor 53 = .ok (.iconst 0, 1) := by decide +kernel
theorem dX17_addConstructor_54 : decode cX17_addConstructor 54 = .ok (.istore 6, 2) := by decide +kernel
theorem dX17_addConstructor_56 : decode cX17_addConstructor 56 = .ok (.aload_n 0, 1) := by decide +kernel
theorem dX17_addConstructor_57 : decode cX17_addConstructor 57 = .ok (.iload_n 2, 1) := by decide +kernel
theorem dX17_addConstructor_58 : decode cX17_addConstructor 58 = .ok (.iconst 0, 1) := by decide +kernel
theorem dX17_addConstructor_59 : decode cX17_addConstructor 59 = .ok (.iconst 3, 1) := by decide +kernel
theorem dX17_addConstructor_60 : decode cX17_addConstructor 60 = .ok (.invokestatic 85, 3) := by decide +kernel
theorem dX17_addConstructor_63 : decode cX17_addConstructor 63 = .ok (.ifCond .ne 7, 3) := by decide +kernel
theorem dX17_addConstructor_66 : decode cX17_addConstructor 66 = .ok (.iconst 1, 1) := by decide +kernel
theorem dX17_addConstructor_67 : decode cX17_addConstructor 67 = .ok (.goto 45, 3) := by decide +kernel
theorem dX17_addConstructor_70 : decode cX17_addConstructor 70 = .ok (.iload 6, 2) := by decide +kernel
theorem dX17_addConstructor_72 : decode cX17_addConstructor 72 = .ok (.ifCond .ne 7, 3) := by decide +kernel
theorem dX17_addConstructor_75 : decode cX17_addConstructor 75 = .ok (.iconst 2, 1) := by decide +kernel
theorem dX17_addConstructor_76 : decode cX17_addConstructor 76 = .ok (.goto 36, 3) := by decide +kernel
theorem dX17_addConstructor_112 : decode cX17_addConstructor 112 = .ok (.invokevirtual 96, 3) := by decide +kernel
theorem dX17_addConstructor_115 : decode cX17_addConstructor 115 = .ok (.ifCond .eq 5, 3) := by decide +kernel
theorem dX17_addConstructor_118 : decode cX17_addConstructor 118 = .ok (.iconst 0, 1) := by decide +kernel
theorem dX17_addConstructor_119 : decode cX17_addConstructor 119 = .ok (.ireturn, 1) := by decide +kernel
theorem dX17_failsNode_0 : decode cX17_failsNode 0 = .ok (.aload_n 0, 1) := by decide +kernel
theorem dX17_failsNode_1 : decode cX17_failsNode 1 = .ok (.aload_n 0, 1) := by decide +kernel
theorem dX17_failsNode_2 : decode cX17_failsNode 2 = .ok (.iload_n 1, 1) := by decide +kernel
theorem dX17_failsNode_3 : decode cX17_failsNode 3 = .ok (.invokevirtual 104, 3) := by decide +kernel
theorem dX17_failsNode_6 : decode cX17_failsNode 6 = .ok (.ifCond .eq 7, 3) := by decide +kernel
theorem dX17_failsNode_13 : decode cX17_failsNode 13 = .ok (.iconst 1, 1) := by decide +kernel
theorem dX17_failsNode_14 : decode cX17_failsNode 14 = .ok (.invokevirtual 96, 3) := by decide +kernel
theorem dX17_failsNode_17 : decode cX17_failsNode 17 = .ok (.ireturn, 1) := by decide +kernel
theorem dX17_size_0 : decode cX17_size 0 = .ok (.aload_n 0, 1) := by decide +kernel
theorem dX17_size_1 : decode cX17_size 1 = .ok (.iload_n 1, 1) := by decide +kernel
theorem dX17_size_2 : decode cX17_size 2 = .ok (.invokevirtual 191, 3) := by decide +kernel
theorem dX17_size_5 : decode cX17_size 5 = .ok (.ifCond .eq 7, 3) := by decide +kernel
theorem dX17_size_8 : decode cX17_size 8 = .ok (.iconst 0, 1) := by decide +kernel
theorem dX17_size_9 : decode cX17_size 9 = .ok (.goto 17, 3) := by decide +kernel
theorem dX17_size_26 : decode cX17_size 26 = .ok (.ireturn, 1) := by decide +kernel
theorem dX17_number_0 : decode cX17_number 0 = .ok (.aload_n 0, 1) := by decide +kernel
theorem dX17_number_1 : decode cX17_number 1 = .ok (.iload_n 1, 1) := by decide +kernel
theorem dX17_number_2 : decode cX17_number 2 = .ok (.invokevirtual 191, 3) := by decide +kernel
theorem dX17_number_5 : decode cX17_number 5 = .ok (.ifCond .eq 7, 3) := by decide +kernel
theorem dX17_number_8 : decode cX17_number 8 = .ok (.iconst 0, 1) := by decide +kernel
theorem dX17_number_9 : decode cX17_number 9 = .ok (.goto 17, 3) := by decide +kernel
theorem dX17_number_26 : decode cX17_number 26 = .ok (.ireturn, 1) := by decide +kernel
theorem dX17_normal_0 : decode cX17_normal 0 = .ok (.aload_n 0, 1) := by decide +kernel
theorem dX17_normal_1 : decode cX17_normal 1 = .ok (.iload_n 1, 1) := by decide +kernel
theorem dX17_normal_2 : decode cX17_normal 2 = .ok (.invokevirtual 191, 3) := by decide +kernel
theorem dX17_normal_5 : decode cX17_normal 5 = .ok (.ifCond .eq 5, 3) := by decide +kernel
theorem dX17_normal_8 : decode cX17_normal 8 = .ok (.iconst 0, 1) := by decide +kernel
theorem dX17_normal_9 : decode cX17_normal 9 = .ok (.ireturn, 1) := by decide +kernel
theorem dX17_typeOf_0 : decode cX17_typeOf 0 = .ok (.aload_n 0, 1) := by decide +kernel
theorem dX17_typeOf_1 : decode cX17_typeOf 1 = .ok (.iload_n 1, 1) := by decide +kernel
theorem dX17_typeOf_2 : decode cX17_typeOf 2 = .ok (.invokevirtual 191, 3) := by decide +kernel
theorem dX17_typeOf_5 : decode cX17_typeOf 5 = .ok (.ifCond .eq 5, 3) := by decide +kernel
theorem dX17_typeOf_8 : decode cX17_typeOf 8 = .ok (.iconst 0, 1) := by decide +kernel
theorem dX17_typeOf_9 : decode cX17_typeOf 9 = .ok (.ireturn, 1) := by decide +kernel
theorem dX17_level_0 : decode cX17_level 0 = .ok (.aload_n 0, 1) := by decide +kernel
theorem dX17_level_1 : decode cX17_level 1 = .ok (.iload_n 1, 1) := by decide +kernel
theorem dX17_level_2 : decode cX17_level 2 = .ok (.invokevirtual 191, 3) := by decide +kernel
theorem dX17_level_5 : decode cX17_level 5 = .ok (.ifCond .eq 5, 3) := by decide +kernel
theorem dX17_level_8 : decode cX17_level 8 = .ok (.iconst 0, 1) := by decide +kernel
theorem dX17_level_9 : decode cX17_level 9 = .ok (.ireturn, 1) := by decide +kernel
theorem dX17_isOf_0 : decode cX17_isOf 0 = .ok (.aload_n 0, 1) := by decide +kernel
theorem dX17_isOf_1 : decode cX17_isOf 1 = .ok (.aload_n 0, 1) := by decide +kernel
theorem dX17_isOf_2 : decode cX17_isOf 2 = .ok (.iload_n 1, 1) := by decide +kernel
theorem dX17_isOf_3 : decode cX17_isOf 3 = .ok (.invokevirtual 104, 3) := by decide +kernel
theorem dX17_isOf_6 : decode cX17_isOf 6 = .ok (.ifCond .eq 15, 3) := by decide +kernel
theorem dX17_isOf_21 : decode cX17_isOf 21 = .ok (.iconst 1, 1) := by decide +kernel
theorem dX17_isOf_22 : decode cX17_isOf 22 = .ok (.invokevirtual 96, 3) := by decide +kernel
theorem dX17_isOf_25 : decode cX17_isOf 25 = .ok (.ifCond .eq 5, 3) := by decide +kernel
theorem dX17_isOf_28 : decode cX17_isOf 28 = .ok (.iconst 0, 1) := by decide +kernel
theorem dX17_isOf_29 : decode cX17_isOf 29 = .ok (.ireturn, 1) := by decide +kernel
theorem dX17_declare_0 : decode cX17_declare 0 = .ok (.aload_n 0, 1) := by decide +kernel
theorem dX17_declare_1 : decode cX17_declare 1 = .ok (.iload_n 1, 1) := by decide +kernel
theorem dX17_declare_2 : decode cX17_declare 2 = .ok (.invokevirtual 191, 3) := by decide +kernel
theorem dX17_declare_5 : decode cX17_declare 5 = .ok (.ifCond .eq 5, 3) := by decide +kernel
theorem dX17_declare_8 : decode cX17_declare 8 = .ok (.iconst 0, 1) := by decide +kernel
theorem dX17_declare_9 : decode cX17_declare 9 = .ok (.ireturn, 1) := by decide +kernel
theorem dX17_isGoal_0 : decode cX17_isGoal 0 = .ok (.iload_n 1, 1) := by decide +kernel
theorem dX17_isGoal_1 : decode cX17_isGoal 1 = .ok (.iconst 0, 1) := by decide +kernel
theorem dX17_isGoal_2 : decode cX17_isGoal 2 = .ok (.aload_n 0, 1) := by decide +kernel
theorem dX17_isGoal_3 : decode cX17_isGoal 3 = .ok (.getfield 76, 3) := by decide +kernel
theorem dX17_isGoal_6 : decode cX17_isGoal 6 = .ok (.invokevirtual 82, 3) := by decide +kernel
theorem dX17_isGoal_9 : decode cX17_isGoal 9 = .ok (.iconst 1, 1) := by decide +kernel
theorem dX17_isGoal_10 : decode cX17_isGoal 10 = .ok (.isub, 1) := by decide +kernel
theorem dX17_isGoal_11 : decode cX17_isGoal 11 = .ok (.invokestatic 85, 3) := by decide +kernel
theorem dX17_isGoal_14 : decode cX17_isGoal 14 = .ok (.ireturn, 1) := by decide +kernel
theorem dX17_split_0 : decode cX17_split 0 = .ok (.aload_n 0, 1) := by decide +kernel
theorem dX17_split_1 : decode cX17_split 1 = .ok (.aload_n 0, 1) := by decide +kernel
theorem dX17_split_2 : decode cX17_split 2 = .ok (.iload_n 1, 1) := by decide +kernel
theorem dX17_split_3 : decode cX17_split 3 = .ok (.invokevirtual 230, 3) := by decide +kernel
theorem dX17_split_6 : decode cX17_split 6 = .ok (.ifCond .ne 7, 3) := by decide +kernel
theorem dX17_split_9 : decode cX17_split 9 = .ok (.iconst 1, 1) := by decide +kernel
theorem dX17_split_10 : decode cX17_split 10 = .ok (.goto 33, 3) := by decide +kernel
theorem dX17_split_43 : decode cX17_split 43 = .ok (.invokevirtual 96, 3) := by decide +kernel
theorem dX17_split_46 : decode cX17_split 46 = .ok (.ifCond .eq 5, 3) := by decide +kernel
theorem dX17_split_49 : decode cX17_split 49 = .ok (.iconst 0, 1) := by decide +kernel
theorem dX17_split_50 : decode cX17_split 50 = .ok (.ireturn, 1) := by decide +kernel
theorem dX17_fill_0 : decode cX17_fill 0 = .ok (.aload_n 0, 1) := by decide +kernel
theorem dX17_fill_1 : decode cX17_fill 1 = .ok (.aload_n 0, 1) := by decide +kernel
theorem dX17_fill_2 : decode cX17_fill 2 = .ok (.iload_n 1, 1) := by decide +kernel
theorem dX17_fill_3 : decode cX17_fill 3 = .ok (.invokevirtual 230, 3) := by decide +kernel
theorem dX17_fill_6 : decode cX17_fill 6 = .ok (.ifCond .ne 7, 3) := by decide +kernel
theorem dX17_fill_9 : decode cX17_fill 9 = .ok (.iconst 1, 1) := by decide +kernel
theorem dX17_fill_10 : decode cX17_fill 10 = .ok (.goto 39, 3) := by decide +kernel
theorem dX17_fill_49 : decode cX17_fill 49 = .ok (.invokevirtual 96, 3) := by decide +kernel
theorem dX17_fill_52 : decode cX17_fill 52 = .ok (.ifCond .eq 5, 3) := by decide +kernel
theorem dX17_fill_55 : decode cX17_fill 55 = .ok (.iconst 0, 1) := by decide +kernel
theorem dX17_fill_56 : decode cX17_fill 56 = .ok (.ireturn, 1) := by decide +kernel
theorem dX17_auto_0 : decode cX17_auto 0 = .ok (.aload_n 0, 1) := by decide +kernel
theorem dX17_auto_1 : decode cX17_auto 1 = .ok (.aload_n 0, 1) := by decide +kernel
theorem dX17_auto_2 : decode cX17_auto 2 = .ok (.iload_n 1, 1) := by decide +kernel
theorem dX17_auto_3 : decode cX17_auto 3 = .ok (.invokevirtual 230, 3) := by decide +kernel
theorem dX17_auto_6 : decode cX17_auto 6 = .ok (.ifCond .ne 7, 3) := by decide +kernel
theorem dX17_auto_9 : decode cX17_auto 9 = .ok (.iconst 1, 1) := by decide +kernel
theorem dX17_auto_10 : decode cX17_auto 10 = .ok (.goto 27, 3) := by decide +kernel
theorem dX17_auto_37 : decode cX17_auto 37 = .ok (.invokevirtual 96, 3) := by decide +kernel
theorem dX17_auto_40 : decode cX17_auto 40 = .ok (.ifCond .eq 5, 3) := by decide +kernel
theorem dX17_auto_43 : decode cX17_auto 43 = .ok (.iconst 0, 1) := by decide +kernel
theorem dX17_auto_44 : decode cX17_auto 44 = .ok (.ireturn, 1) := by decide +kernel
theorem dX17_reopen_0 : decode cX17_reopen 0 = .ok (.aload_n 0, 1) := by decide +kernel
theorem dX17_reopen_1 : decode cX17_reopen 1 = .ok (.aload_n 0, 1) := by decide +kernel
theorem dX17_reopen_2 : decode cX17_reopen 2 = .ok (.iload_n 1, 1) := by decide +kernel
theorem dX17_reopen_3 : decode cX17_reopen 3 = .ok (.invokevirtual 230, 3) := by decide +kernel
theorem dX17_reopen_6 : decode cX17_reopen 6 = .ok (.ifCond .ne 7, 3) := by decide +kernel
theorem dX17_reopen_9 : decode cX17_reopen 9 = .ok (.iconst 1, 1) := by decide +kernel
theorem dX17_reopen_10 : decode cX17_reopen 10 = .ok (.goto 57, 3) := by decide +kernel
theorem dX17_reopen_67 : decode cX17_reopen 67 = .ok (.invokevirtual 96, 3) := by decide +kernel
theorem dX17_reopen_70 : decode cX17_reopen 70 = .ok (.ifCond .eq 5, 3) := by decide +kernel
theorem dX17_reopen_73 : decode cX17_reopen 73 = .ok (.iconst 0, 1) := by decide +kernel
theorem dX17_reopen_74 : decode cX17_reopen 74 = .ok (.ireturn, 1) := by decide +kernel
theorem dX17_failsGoal_0 : decode cX17_failsGoal 0 = .ok (.aload_n 0, 1) := by decide +kernel
theorem dX17_failsGoal_1 : decode cX17_failsGoal 1 = .ok (.aload_n 0, 1) := by decide +kernel
theorem dX17_failsGoal_2 : decode cX17_failsGoal 2 = .ok (.iload_n 1, 1) := by decide +kernel
theorem dX17_failsGoal_3 : decode cX17_failsGoal 3 = .ok (.invokevirtual 230, 3) := by decide +kernel
theorem dX17_failsGoal_6 : decode cX17_failsGoal 6 = .ok (.ifCond .eq 7, 3) := by decide +kernel
theorem dX17_failsGoal_13 : decode cX17_failsGoal 13 = .ok (.iconst 1, 1) := by decide +kernel
theorem dX17_failsGoal_14 : decode cX17_failsGoal 14 = .ok (.invokevirtual 96, 3) := by decide +kernel
theorem dX17_failsGoal_17 : decode cX17_failsGoal 17 = .ok (.ireturn, 1) := by decide +kernel
theorem dX17_goalState_0 : decode cX17_goalState 0 = .ok (.aload_n 0, 1) := by decide +kernel
theorem dX17_goalState_1 : decode cX17_goalState 1 = .ok (.iload_n 1, 1) := by decide +kernel
theorem dX17_goalState_2 : decode cX17_goalState 2 = .ok (.invokevirtual 266, 3) := by decide +kernel
theorem dX17_goalState_5 : decode cX17_goalState 5 = .ok (.ifCond .eq 7, 3) := by decide +kernel
theorem dX17_goalState_8 : decode cX17_goalState 8 = .ok (.iconst 0, 1) := by decide +kernel
theorem dX17_goalState_9 : decode cX17_goalState 9 = .ok (.goto 17, 3) := by decide +kernel
theorem dX17_goalState_26 : decode cX17_goalState 26 = .ok (.ireturn, 1) := by decide +kernel
theorem dX17_contextSize_0 : decode cX17_contextSize 0 = .ok (.aload_n 0, 1) := by decide +kernel
theorem dX17_contextSize_1 : decode cX17_contextSize 1 = .ok (.iload_n 1, 1) := by decide +kernel
theorem dX17_contextSize_2 : decode cX17_contextSize 2 = .ok (.invokevirtual 266, 3) := by decide +kernel
theorem dX17_contextSize_5 : decode cX17_contextSize 5 = .ok (.ifCond .eq 7, 3) := by decide +kernel
theorem dX17_contextSize_8 : decode cX17_contextSize 8 = .ok (.iconst 0, 1) := by decide +kernel
theorem dX17_contextSize_9 : decode cX17_contextSize 9 = .ok (.goto 18, 3) := by decide +kernel
theorem dX17_contextSize_27 : decode cX17_contextSize 27 = .ok (.ireturn, 1) := by decide +kernel
theorem dX17_contextType_0 : decode cX17_contextType 0 = .ok (.aload_n 0, 1) := by decide +kernel
theorem dX17_contextType_1 : decode cX17_contextType 1 = .ok (.iload_n 1, 1) := by decide +kernel
theorem dX17_contextType_2 : decode cX17_contextType 2 = .ok (.invokevirtual 266, 3) := by decide +kernel
theorem dX17_contextType_5 : decode cX17_contextType 5 = .ok (.ifCond .eq 5, 3) := by decide +kernel
theorem dX17_contextType_8 : decode cX17_contextType 8 = .ok (.iconst 0, 1) := by decide +kernel
theorem dX17_contextType_9 : decode cX17_contextType 9 = .ok (.ireturn, 1) := by decide +kernel
theorem dX17_goalType_0 : decode cX17_goalType 0 = .ok (.aload_n 0, 1) := by decide +kernel
theorem dX17_goalType_1 : decode cX17_goalType 1 = .ok (.iload_n 1, 1) := by decide +kernel
theorem dX17_goalType_2 : decode cX17_goalType 2 = .ok (.invokevirtual 266, 3) := by decide +kernel
theorem dX17_goalType_5 : decode cX17_goalType 5 = .ok (.ifCond .eq 7, 3) := by decide +kernel
theorem dX17_goalType_8 : decode cX17_goalType 8 = .ok (.iconst 0, 1) := by decide +kernel
theorem dX17_goalType_9 : decode cX17_goalType 9 = .ok (.goto 20, 3) := by decide +kernel
theorem dX17_goalType_29 : decode cX17_goalType 29 = .ok (.ireturn, 1) := by decide +kernel
theorem dX17_failsFunction_0 : decode cX17_failsFunction 0 = .ok (.aload_n 0, 1) := by decide +kernel
theorem dX17_failsFunction_1 : decode cX17_failsFunction 1 = .ok (.iload_n 1, 1) := by decide +kernel
theorem dX17_failsFunction_2 : decode cX17_failsFunction 2 = .ok (.iconst 0, 1) := by decide +kernel
theorem dX17_failsFunction_3 : decode cX17_failsFunction 3 = .ok (.aload_n 0, 1) := by decide +kernel
theorem dX17_failsFunction_4 : decode cX17_failsFunction 4 = .ok (.getfield 73, 3) := by decide +kernel
theorem dX17_failsFunction_7 : decode cX17_failsFunction 7 = .ok (.invokevirtual 82, 3) := by decide +kernel
theorem dX17_failsFunction_10 : decode cX17_failsFunction 10 = .ok (.iconst 1, 1) := by decide +kernel
theorem dX17_failsFunction_11 : decode cX17_failsFunction 11 = .ok (.isub, 1) := by decide +kernel
theorem dX17_failsFunction_12 : decode cX17_failsFunction 12 = .ok (.invokestatic 85, 3) := by decide +kernel
theorem dX17_failsFunction_15 : decode cX17_failsFunction 15 = .ok (.ifCond .eq 7, 3) := by decide +kernel
theorem dX17_failsFunction_22 : decode cX17_failsFunction 22 = .ok (.iconst 1, 1) := by decide +kernel
theorem dX17_failsFunction_23 : decode cX17_failsFunction 23 = .ok (.invokevirtual 96, 3) := by decide +kernel
theorem dX17_failsFunction_26 : decode cX17_failsFunction 26 = .ok (.ireturn, 1) := by decide +kernel
theorem dX17_openGoals_0 : decode cX17_openGoals 0 = .ok (.aload_n 0, 1) := by decide +kernel
theorem dX17_openGoals_1 : decode cX17_openGoals 1 = .ok (.iload_n 1, 1) := by decide +kernel
theorem dX17_openGoals_2 : decode cX17_openGoals 2 = .ok (.invokevirtual 269, 3) := by decide +kernel
theorem dX17_openGoals_5 : decode cX17_openGoals 5 = .ok (.ifCond .eq 7, 3) := by decide +kernel
theorem dX17_openGoals_8 : decode cX17_openGoals 8 = .ok (.iconst 0, 1) := by decide +kernel
theorem dX17_openGoals_9 : decode cX17_openGoals 9 = .ok (.goto 8, 3) := by decide +kernel
theorem dX17_openGoals_17 : decode cX17_openGoals 17 = .ok (.ireturn, 1) := by decide +kernel
theorem dX17_accept_0 : decode cX17_accept 0 = .ok (.aload_n 0, 1) := by decide +kernel
theorem dX17_accept_1 : decode cX17_accept 1 = .ok (.iload_n 1, 1) := by decide +kernel
theorem dX17_accept_2 : decode cX17_accept 2 = .ok (.invokevirtual 269, 3) := by decide +kernel
theorem dX17_accept_5 : decode cX17_accept 5 = .ok (.ifCond .eq 5, 3) := by decide +kernel
theorem dX17_accept_8 : decode cX17_accept 8 = .ok (.iconst 0, 1) := by decide +kernel
theorem dX17_accept_9 : decode cX17_accept 9 = .ok (.ireturn, 1) := by decide +kernel
theorem dX17_isAccepted_0 : decode cX17_isAccepted 0 = .ok (.aload_n 0, 1) := by decide +kernel
theorem dX17_isAccepted_1 : decode cX17_isAccepted 1 = .ok (.iload_n 1, 1) := by decide +kernel
theorem dX17_isAccepted_2 : decode cX17_isAccepted 2 = .ok (.invokevirtual 269, 3) := by decide +kernel
theorem dX17_isAccepted_5 : decode cX17_isAccepted 5 = .ok (.ifCond .ne 24, 3) := by decide +kernel
theorem dX17_isAccepted_29 : decode cX17_isAccepted 29 = .ok (.iconst 0, 1) := by decide +kernel
theorem dX17_isAccepted_30 : decode cX17_isAccepted 30 = .ok (.ireturn, 1) := by decide +kernel
theorem dX17_runs_0 : decode cX17_runs 0 = .ok (.aload_n 0, 1) := by decide +kernel
theorem dX17_runs_1 : decode cX17_runs 1 = .ok (.iload_n 1, 1) := by decide +kernel
theorem dX17_runs_2 : decode cX17_runs 2 = .ok (.invokevirtual 191, 3) := by decide +kernel
theorem dX17_runs_5 : decode cX17_runs 5 = .ok (.ifCond .eq 5, 3) := by decide +kernel
theorem dX17_runs_8 : decode cX17_runs 8 = .ok (.aconst_null, 1) := by decide +kernel
theorem dX17_runs_9 : decode cX17_runs 9 = .ok (.areturn, 1) := by decide +kernel
theorem dX17_run_0 : decode cX17_run 0 = .ok (.aload_n 0, 1) := by decide +kernel
theorem dX17_run_1 : decode cX17_run 1 = .ok (.iload_n 1, 1) := by decide +kernel
theorem dX17_run_2 : decode cX17_run 2 = .ok (.invokevirtual 325, 3) := by decide +kernel
theorem dX17_run_5 : decode cX17_run 5 = .ok (.astore_n 2, 1) := by decide +kernel
theorem dX17_run_6 : decode cX17_run 6 = .ok (.aload_n 0, 1) := by decide +kernel
theorem dX17_run_7 : decode cX17_run 7 = .ok (.dup, 1) := by decide +kernel
theorem dX17_run_8 : decode cX17_run 8 = .ok (.getfield 329, 3) := by decide +kernel
theorem dX17_run_11 : decode cX17_run 11 = .ok (.aload_n 2, 1) := by decide +kernel
theorem dX17_run_12 : decode cX17_run 12 = .ok (.ifnonnull 7, 3) := by decide +kernel
theorem dX17_run_15 : decode cX17_run 15 = .ok (.lconst 0, 1) := by decide +kernel
theorem dX17_run_16 : decode cX17_run 16 = .ok (.goto 8, 3) := by decide +kernel
theorem dX17_run_24 : decode cX17_run 24 = .ok (.ladd, 1) := by decide +kernel
theorem dX17_run_25 : decode cX17_run 25 = .ok (.putfield 329, 3) := by decide +kernel
theorem dX17_run_28 : decode cX17_run 28 = .ok (.aload_n 2, 1) := by decide +kernel
theorem dX17_run_29 : decode cX17_run 29 = .ok (.ifnonnull 7, 3) := by decide +kernel
theorem dX17_run_32 : decode cX17_run 32 = .ok (.iconst 0, 1) := by decide +kernel
theorem dX17_run_33 : decode cX17_run 33 = .ok (.goto 7, 3) := by decide +kernel
theorem dX17_run_40 : decode cX17_run 40 = .ok (.ireturn, 1) := by decide +kernel
theorem dX17_runByClauses_0 : decode cX17_runByClauses 0 = .ok (.aload_n 0, 1) := by decide +kernel
theorem dX17_runByClauses_1 : decode cX17_runByClauses 1 = .ok (.iload_n 1, 1) := by decide +kernel
theorem dX17_runByClauses_2 : decode cX17_runByClauses 2 = .ok (.invokevirtual 325, 3) := by decide +kernel
theorem dX17_runByClauses_5 : decode cX17_runByClauses 5 = .ok (.astore_n 2, 1) := by decide +kernel
theorem dX17_runByClauses_6 : decode cX17_runByClauses 6 = .ok (.aload_n 2, 1) := by decide +kernel
theorem dX17_runByClauses_7 : decode cX17_runByClauses 7 = .ok (.ifnonnull 7, 3) := by decide +kernel
theorem dX17_runByClauses_10 : decode cX17_runByClauses 10 = .ok (.iconst 0, 1) := by decide +kernel
theorem dX17_runByClauses_11 : decode cX17_runByClauses 11 = .ok (.goto 7, 3) := by decide +kernel
theorem dX17_runByClauses_18 : decode cX17_runByClauses 18 = .ok (.ireturn, 1) := by decide +kernel
theorem dX17_steps_0 : decode cX17_steps 0 = .ok (.aload_n 0, 1) := by decide +kernel
theorem dX17_steps_1 : decode cX17_steps 1 = .ok (.iload_n 1, 1) := by decide +kernel
theorem dX17_steps_2 : decode cX17_steps 2 = .ok (.invokevirtual 325, 3) := by decide +kernel
theorem dX17_steps_5 : decode cX17_steps 5 = .ok (.ifnonnull 7, 3) := by decide +kernel
theorem dX17_steps_8 : decode cX17_steps 8 = .ok (.iconst 0, 1) := by decide +kernel
theorem dX17_steps_9 : decode cX17_steps 9 = .ok (.goto 7, 3) := by decide +kernel
theorem dX17_steps_16 : decode cX17_steps 16 = .ok (.ireturn, 1) := by decide +kernel
theorem dX17_valueSize_0 : decode cX17_valueSize 0 = .ok (.aload_n 0, 1) := by decide +kernel
theorem dX17_valueSize_1 : decode cX17_valueSize 1 = .ok (.iload_n 1, 1) := by decide +kernel
theorem dX17_valueSize_2 : decode cX17_valueSize 2 = .ok (.invokevirtual 325, 3) := by decide +kernel
theorem dX17_valueSize_5 : decode cX17_valueSize 5 = .ok (.astore_n 2, 1) := by decide +kernel
theorem dX17_valueSize_6 : decode cX17_valueSize 6 = .ok (.aload_n 2, 1) := by decide +kernel
theorem dX17_valueSize_7 : decode cX17_valueSize 7 = .ok (.ifnonnull 7, 3) := by decide +kernel
theorem dX17_valueSize_10 : decode cX17_valueSize 10 = .ok (.iconst 0, 1) := by decide +kernel
theorem dX17_valueSize_11 : decode cX17_valueSize 11 = .ok (.goto 9, 3) := by decide +kernel
theorem dX17_valueSize_20 : decode cX17_valueSize 20 = .ok (.ireturn, 1) := by decide +kernel
theorem dX17_allSteps_0 : decode cX17_allSteps 0 = .ok (.aload_n 0, 1) := by decide +kernel
theorem dX17_allSteps_1 : decode cX17_allSteps 1 = .ok (.iconst 0, 1) := by decide +kernel
theorem dX17_allSteps_2 : decode cX17_allSteps 2 = .ok (.putfield 79, 3) := by decide +kernel
theorem dX17_allSteps_5 : decode cX17_allSteps 5 = .ok (.aload_n 0, 1) := by decide +kernel
theorem dX17_allSteps_6 : decode cX17_allSteps 6 = .ok (.getfield 329, 3) := by decide +kernel
theorem dX17_allSteps_9 : decode cX17_allSteps 9 = .ok (.lreturn, 1) := by decide +kernel
theorem dX17_filledShare_0 : decode cX17_filledShare 0 = .ok (.iconst 0, 1) := by decide +kernel
theorem dX17_filledShare_1 : decode cX17_filledShare 1 = .ok (.istore_n 1, 1) := by decide +kernel
theorem dX17_filledShare_2 : decode cX17_filledShare 2 = .ok (.iconst 0, 1) := by decide +kernel
theorem dX17_filledShare_3 : decode cX17_filledShare 3 = .ok (.istore_n 2, 1) := by decide +kernel
theorem dX17_filledShare_4 : decode cX17_filledShare 4 = .ok (.aload_n 0, 1) := by decide +kernel
theorem dX17_filledShare_5 : decode cX17_filledShare 5 = .ok (.getfield 76, 3) := by decide +kernel
theorem dX17_filledShare_8 : decode cX17_filledShare 8 = .ok (.invokevirtual 121, 3) := by decide +kernel
theorem dX17_filledShare_11 : decode cX17_filledShare 11 = .ok (.astore_n 3, 1) := by decide +kernel
theorem dX17_filledShare_12 : decode cX17_filledShare 12 = .ok (.aload_n 3, 1) := by decide +kernel
theorem dX17_filledShare_13 : decode cX17_filledShare 13 = .ok (.invokeinterface 125 1, 5) := by decide +kernel
theorem dX17_filledShare_18 : decode cX17_filledShare 18 = .ok (.ifCond .eq 53, 3) := by decide +kernel
theorem dX17_filledShare_71 : decode cX17_filledShare 71 = .ok (.aload_n 0, 1) := by decide +kernel
theorem dX17_filledShare_72 : decode cX17_filledShare 72 = .ok (.iload_n 2, 1) := by decide +kernel
theorem dX17_filledShare_73 : decode cX17_filledShare 73 = .ok (.ifCond .ne 7, 3) := by decide +kernel
theorem dX17_filledShare_76 : decode cX17_filledShare 76 = .ok (.iconst 1, 1) := by decide +kernel
theorem dX17_filledShare_77 : decode cX17_filledShare 77 = .ok (.goto 4, 3) := by decide +kernel
theorem dX17_filledShare_81 : decode cX17_filledShare 81 = .ok (.invokevirtual 96, 3) := by decide +kernel
theorem dX17_filledShare_84 : decode cX17_filledShare 84 = .ok (.ifCond .eq 7, 3) := by decide +kernel
theorem dX17_filledShare_87 : decode cX17_filledShare 87 = .ok (.fconst 0, 1) := by decide +kernel
theorem dX17_filledShare_88 : decode cX17_filledShare 88 = .ok (.goto 8, 3) := by decide +kernel
theorem dX17_filledShare_96 : decode cX17_filledShare 96 = .ok (.freturn, 1) := by decide +kernel
theorem dX17_meanSize_0 : decode cX17_meanSize 0 = .ok (.iconst 0, 1) := by decide +kernel
theorem dX17_meanSize_1 : decode cX17_meanSize 1 = .ok (.istore_n 1, 1) := by decide +kernel
theorem dX17_meanSize_2 : decode cX17_meanSize 2 = .ok (.iconst 0, 1) := by decide +kernel
theorem dX17_meanSize_3 : decode cX17_meanSize 3 = .ok (.istore_n 2, 1) := by decide +kernel
theorem dX17_meanSize_4 : decode cX17_meanSize 4 = .ok (.aload_n 0, 1) := by decide +kernel
theorem dX17_meanSize_5 : decode cX17_meanSize 5 = .ok (.getfield 76, 3) := by decide +kernel
theorem dX17_meanSize_8 : decode cX17_meanSize 8 = .ok (.invokevirtual 121, 3) := by decide +kernel
theorem dX17_meanSize_11 : decode cX17_meanSize 11 = .ok (.astore_n 3, 1) := by decide +kernel
theorem dX17_meanSize_12 : decode cX17_meanSize 12 = .ok (.aload_n 3, 1) := by decide +kernel
theorem dX17_meanSize_13 : decode cX17_meanSize 13 = .ok (.invokeinterface 125 1, 5) := by decide +kernel
theorem dX17_meanSize_18 : decode cX17_meanSize 18 = .ok (.ifCond .eq 60, 3) := by decide +kernel
theorem dX17_meanSize_78 : decode cX17_meanSize 78 = .ok (.aload_n 0, 1) := by decide +kernel
theorem dX17_meanSize_79 : decode cX17_meanSize 79 = .ok (.iload_n 2, 1) := by decide +kernel
theorem dX17_meanSize_80 : decode cX17_meanSize 80 = .ok (.ifCond .ne 7, 3) := by decide +kernel
theorem dX17_meanSize_83 : decode cX17_meanSize 83 = .ok (.iconst 1, 1) := by decide +kernel
theorem dX17_meanSize_84 : decode cX17_meanSize 84 = .ok (.goto 4, 3) := by decide +kernel
theorem dX17_meanSize_88 : decode cX17_meanSize 88 = .ok (.invokevirtual 96, 3) := by decide +kernel
theorem dX17_meanSize_91 : decode cX17_meanSize 91 = .ok (.ifCond .eq 7, 3) := by decide +kernel
theorem dX17_meanSize_94 : decode cX17_meanSize 94 = .ok (.dconst 0, 1) := by decide +kernel
theorem dX17_meanSize_95 : decode cX17_meanSize 95 = .ok (.goto 8, 3) := by decide +kernel
theorem dX17_meanSize_103 : decode cX17_meanSize 103 = .ok (.dreturn, 1) := by decide +kernel
theorem dX17_isSound_0 : decode cX17_isSound 0 = .ok (.aload_n 0, 1) := by decide +kernel
theorem dX17_isSound_1 : decode cX17_isSound 1 = .ok (.iconst 0, 1) := by decide +kernel
theorem dX17_isSound_2 : decode cX17_isSound 2 = .ok (.putfield 79, 3) := by decide +kernel
theorem dX17_isSound_5 : decode cX17_isSound 5 = .ok (.iconst 1, 1) := by decide +kernel
theorem dX17_isSound_6 : decode cX17_isSound 6 = .ok (.ireturn, 1) := by decide +kernel
theorem dJxa1e45_init_da8c8_0 : decode cJxa1e45_init_da8c8 0 = .ok (.aload_n 0, 1) := by decide +kernel
theorem dJxa1e45_init_da8c8_1 : decode cJxa1e45_init_da8c8 1 = .ok (.invokespecial 1, 3) := by decide +kernel
theorem dJxa1e45_init_da8c8_4 : decode cJxa1e45_init_da8c8 4 = .ok (.return_, 1) := by decide +kernel
theorem dJxc12de_init_da8c8_0 : decode cJxc12de_init_da8c8 0 = .ok (.aload_n 0, 1) := by decide +kernel
theorem dJxc12de_init_da8c8_1 : decode cJxc12de_init_da8c8 1 = .ok (.invokespecial 1, 3) := by decide +kernel
theorem dJxc12de_init_da8c8_4 : decode cJxc12de_init_da8c8 4 = .ok (.aload_n 0, 1) := by decide +kernel
theorem dJxc12de_init_da8c8_5 : decode cJxc12de_init_da8c8 5 = .ok (.iconst 0, 1) := by decide +kernel
theorem dJxc12de_init_da8c8_6 : decode cJxc12de_init_da8c8 6 = .ok (.putfield 7, 3) := by decide +kernel
theorem dJxc12de_init_da8c8_9 : decode cJxc12de_init_da8c8 9 = .ok (.return_, 1) := by decide +kernel
theorem dJx35411_init_45d68_0 : decode cJx35411_init_45d68 0 = .ok (.aload_n 0, 1) := by decide +kernel
theorem dJx35411_init_45d68_1 : decode cJx35411_init_45d68 1 = .ok (.aload_n 1, 1) := by decide +kernel
theorem dJx35411_init_45d68_2 : decode cJx35411_init_45d68 2 = .ok (.putfield 1, 3) := by decide +kernel
theorem dJx35411_init_45d68_5 : decode cJx35411_init_45d68 5 = .ok (.aload_n 0, 1) := by decide +kernel
theorem dJx35411_init_45d68_6 : decode cJx35411_init_45d68 6 = .ok (.invokespecial 7, 3) := by decide +kernel
theorem dJx35411_init_45d68_9 : decode cJx35411_init_45d68 9 = .ok (.aload_n 0, 1) := by decide +kernel
theorem dJx35411_init_45d68_10 : decode cJx35411_init_45d68 10 = .ok (.iconst (-1), 1) := by decide +kernel
theorem dJx35411_init_45d68_11 : decode cJx35411_init_45d68 11 = .ok (.putfield 13, 3) := by decide +kernel
theorem dJx35411_init_45d68_14 : decode cJx35411_init_45d68 14 = .ok (.aload_n 0, 1) := by decide +kernel
theorem dJx35411_init_45d68_15 : decode cJx35411_init_45d68 15 = .ok (.aload_n 0, 1) := by decide +kernel
theorem dJx35411_init_45d68_16 : decode cJx35411_init_45d68 16 = .ok (.getfield 1, 3) := by decide +kernel
theorem dJx35411_init_45d68_19 : decode cJx35411_init_45d68 19 = .ok (.getfield 17, 3) := by decide +kernel
theorem dJx35411_init_45d68_22 : decode cJx35411_init_45d68 22 = .ok (.putfield 22, 3) := by decide +kernel
theorem dJx35411_init_45d68_25 : decode cJx35411_init_45d68 25 = .ok (.return_, 1) := by decide +kernel
theorem dJx35411_hasNext_aae02_0 : decode cJx35411_hasNext_aae02 0 = .ok (.aload_n 0, 1) := by decide +kernel
theorem dJx35411_hasNext_aae02_1 : decode cJx35411_hasNext_aae02 1 = .ok (.getfield 25, 3) := by decide +kernel
theorem dJx35411_hasNext_aae02_4 : decode cJx35411_hasNext_aae02 4 = .ok (.aload_n 0, 1) := by decide +kernel
theorem dJx35411_hasNext_aae02_5 : decode cJx35411_hasNext_aae02 5 = .ok (.getfield 1, 3) := by decide +kernel
theorem dJx35411_hasNext_aae02_8 : decode cJx35411_hasNext_aae02 8 = .ok (.getfield 28, 3) := by decide +kernel
theorem dJx35411_hasNext_aae02_11 : decode cJx35411_hasNext_aae02 11 = .ok (.if_icmp .eq 7, 3) := by decide +kernel
theorem dJx35411_hasNext_aae02_18 : decode cJx35411_hasNext_aae02 18 = .ok (.iconst 0, 1) := by decide +kernel
theorem dJx35411_hasNext_aae02_19 : decode cJx35411_hasNext_aae02 19 = .ok (.ireturn, 1) := by decide +kernel
theorem dJx4a65c_init_da8c8_0 : decode cJx4a65c_init_da8c8 0 = .ok (.aload_n 0, 1) := by decide +kernel
theorem dJx4a65c_init_da8c8_1 : decode cJx4a65c_init_da8c8 1 = .ok (.invokespecial 1, 3) := by decide +kernel
theorem dJx4a65c_init_da8c8_4 : decode cJx4a65c_init_da8c8 4 = .ok (.aload_n 0, 1) := by decide +kernel
theorem dJx4a65c_init_da8c8_5 : decode cJx4a65c_init_da8c8 5 = .ok (.getstatic 39, 3) := by decide +kernel
theorem dJx4a65c_init_da8c8_8 : decode cJx4a65c_init_da8c8 8 = .ok (.putfield 9, 3) := by decide +kernel
theorem dJx4a65c_init_da8c8_11 : decode cJx4a65c_init_da8c8 11 = .ok (.return_, 1) := by decide +kernel
theorem dJx4a65c_grow_92f84_0 : decode cJx4a65c_grow_92f84 0 = .ok (.aload_n 0, 1) := by decide +kernel
theorem dJx4a65c_grow_92f84_1 : decode cJx4a65c_grow_92f84 1 = .ok (.getfield 9, 3) := by decide +kernel
theorem dJx4a65c_grow_92f84_4 : decode cJx4a65c_grow_92f84 4 = .ok (.arraylength, 1) := by decide +kernel
theorem dJx4a65c_grow_92f84_5 : decode cJx4a65c_grow_92f84 5 = .ok (.istore_n 2, 1) := by decide +kernel
theorem dJx4a65c_grow_92f84_6 : decode cJx4a65c_grow_92f84 6 = .ok (.iload_n 2, 1) := by decide +kernel
theorem dJx4a65c_grow_92f84_7 : decode cJx4a65c_grow_92f84 7 = .ok (.ifCond .gt 13, 3) := by decide +kernel
theorem dJx4a65c_grow_92f84_10 : decode cJx4a65c_grow_92f84 10 = .ok (.aload_n 0, 1) := by decide +kernel
theorem dJx4a65c_grow_92f84_11 : decode cJx4a65c_grow_92f84 11 = .ok (.getfield 9, 3) := by decide +kernel
theorem dJx4a65c_grow_92f84_14 : decode cJx4a65c_grow_92f84 14 = .ok (.getstatic 39, 3) := by decide +kernel
theorem dJx4a65c_grow_92f84_17 : decode cJx4a65c_grow_92f84 17 = .ok (.if_acmp .eq 28, 3) := by decide +kernel
theorem dJx4a65c_grow_92f84_45 : decode cJx4a65c_grow_92f84 45 = .ok (.aload_n 0, 1) := by decide +kernel
theorem dJx4a65c_grow_92f84_46 : decode cJx4a65c_grow_92f84 46 = .ok (.bipush 10, 2) := by decide +kernel
theorem dJx4a65c_grow_92f84_48 : decode cJx4a65c_grow_92f84 48 = .ok (.iload_n 1, 1) := by decide +kernel
theorem dJx4a65c_grow_92f84_49 : decode cJx4a65c_grow_92f84 49 = .ok (.invokestatic 79, 3) := by decide +kernel
theorem dJx4a65c_grow_92f84_52 : decode cJx4a65c_grow_92f84 52 = .ok (.anewarray 7, 3) := by decide +kernel
theorem dJx4a65c_grow_92f84_55 : decode cJx4a65c_grow_92f84 55 = .ok (.dup_x1, 1) := by decide +kernel
theorem dJx4a65c_grow_92f84_56 : decode cJx4a65c_grow_92f84 56 = .ok (.putfield 9, 3) := by decide +kernel
theorem dJx4a65c_grow_92f84_59 : decode cJx4a65c_grow_92f84 59 = .ok (.areturn, 1) := by decide +kernel
theorem dJx4a65c_grow_d5877_0 : decode cJx4a65c_grow_d5877 0 = .ok (.aload_n 0, 1) := by decide +kernel
theorem dJx4a65c_grow_d5877_1 : decode cJx4a65c_grow_d5877 1 = .ok (.aload_n 0, 1) := by decide +kernel
theorem dJx4a65c_grow_d5877_2 : decode cJx4a65c_grow_d5877 2 = .ok (.getfield 48, 3) := by decide +kernel
theorem dJx4a65c_grow_d5877_5 : decode cJx4a65c_grow_d5877 5 = .ok (.iconst 1, 1) := by decide +kernel
theorem dJx4a65c_grow_d5877_6 : decode cJx4a65c_grow_d5877 6 = .ok (.iadd, 1) := by decide +kernel
theorem dJx4a65c_grow_d5877_7 : decode cJx4a65c_grow_d5877 7 = .ok (.invokevirtual 69, 3) := by decide +kernel
theorem dJx4a65c_grow_d5877_10 : decode cJx4a65c_grow_d5877 10 = .ok (.areturn, 1) := by decide +kernel
theorem dJx4a65c_size_8abf5_0 : decode cJx4a65c_size_8abf5 0 = .ok (.aload_n 0, 1) := by decide +kernel
theorem dJx4a65c_size_8abf5_1 : decode cJx4a65c_size_8abf5 1 = .ok (.getfield 48, 3) := by decide +kernel
theorem dJx4a65c_size_8abf5_4 : decode cJx4a65c_size_8abf5 4 = .ok (.ireturn, 1) := by decide +kernel
theorem dJx4a65c_add_72be8_0 : decode cJx4a65c_add_72be8 0 = .ok (.iload_n 3, 1) := by decide +kernel
theorem dJx4a65c_add_72be8_1 : decode cJx4a65c_add_72be8 1 = .ok (.aload_n 2, 1) := by decide +kernel
theorem dJx4a65c_add_72be8_2 : decode cJx4a65c_add_72be8 2 = .ok (.arraylength, 1) := by decide +kernel
theorem dJx4a65c_add_72be8_3 : decode cJx4a65c_add_72be8 3 = .ok (.if_icmp .ne 8, 3) := by decide +kernel
theorem dJx4a65c_add_72be8_6 : decode cJx4a65c_add_72be8 6 = .ok (.aload_n 0, 1) := by decide +kernel
theorem dJx4a65c_add_72be8_7 : decode cJx4a65c_add_72be8 7 = .ok (.invokevirtual 129, 3) := by decide +kernel
theorem dJx4a65c_add_72be8_10 : decode cJx4a65c_add_72be8 10 = .ok (.astore_n 2, 1) := by decide +kernel
theorem dJx4a65c_add_72be8_11 : decode cJx4a65c_add_72be8 11 = .ok (.aload_n 2, 1) := by decide +kernel
theorem dJx4a65c_add_72be8_12 : decode cJx4a65c_add_72be8 12 = .ok (.iload_n 3, 1) := by decide +kernel
theorem dJx4a65c_add_72be8_13 : decode cJx4a65c_add_72be8 13 = .ok (.aload_n 1, 1) := by decide +kernel
theorem dJx4a65c_add_72be8_14 : decode cJx4a65c_add_72be8 14 = .ok (.aastore, 1) := by decide +kernel
theorem dJx4a65c_add_72be8_15 : decode cJx4a65c_add_72be8 15 = .ok (.aload_n 0, 1) := by decide +kernel
theorem dJx4a65c_add_72be8_16 : decode cJx4a65c_add_72be8 16 = .ok (.iload_n 3, 1) := by decide +kernel
theorem dJx4a65c_add_72be8_17 : decode cJx4a65c_add_72be8 17 = .ok (.iconst 1, 1) := by decide +kernel
theorem dJx4a65c_add_72be8_18 : decode cJx4a65c_add_72be8 18 = .ok (.iadd, 1) := by decide +kernel
theorem dJx4a65c_add_72be8_19 : decode cJx4a65c_add_72be8 19 = .ok (.putfield 48, 3) := by decide +kernel
theorem dJx4a65c_add_72be8_22 : decode cJx4a65c_add_72be8 22 = .ok (.return_, 1) := by decide +kernel
theorem dJx4a65c_add_9ea2d_0 : decode cJx4a65c_add_9ea2d 0 = .ok (.aload_n 0, 1) := by decide +kernel
theorem dJx4a65c_add_9ea2d_1 : decode cJx4a65c_add_9ea2d 1 = .ok (.dup, 1) := by decide +kernel
theorem dJx4a65c_add_9ea2d_2 : decode cJx4a65c_add_9ea2d 2 = .ok (.getfield 63, 3) := by decide +kernel
theorem dJx4a65c_add_9ea2d_5 : decode cJx4a65c_add_9ea2d 5 = .ok (.iconst 1, 1) := by decide +kernel
theorem dJx4a65c_add_9ea2d_6 : decode cJx4a65c_add_9ea2d 6 = .ok (.iadd, 1) := by decide +kernel
theorem dJx4a65c_add_9ea2d_7 : decode cJx4a65c_add_9ea2d 7 = .ok (.putfield 63, 3) := by decide +kernel
theorem dJx4a65c_add_9ea2d_10 : decode cJx4a65c_add_9ea2d 10 = .ok (.aload_n 0, 1) := by decide +kernel
theorem dJx4a65c_add_9ea2d_11 : decode cJx4a65c_add_9ea2d 11 = .ok (.aload_n 1, 1) := by decide +kernel
theorem dJx4a65c_add_9ea2d_12 : decode cJx4a65c_add_9ea2d 12 = .ok (.aload_n 0, 1) := by decide +kernel
theorem dJx4a65c_add_9ea2d_13 : decode cJx4a65c_add_9ea2d 13 = .ok (.getfield 9, 3) := by decide +kernel
theorem dJx4a65c_add_9ea2d_16 : decode cJx4a65c_add_9ea2d 16 = .ok (.aload_n 0, 1) := by decide +kernel
theorem dJx4a65c_add_9ea2d_17 : decode cJx4a65c_add_9ea2d 17 = .ok (.getfield 48, 3) := by decide +kernel
theorem dJx4a65c_add_9ea2d_20 : decode cJx4a65c_add_9ea2d 20 = .ok (.invokevirtual 131, 3) := by decide +kernel
theorem dJx4a65c_add_9ea2d_23 : decode cJx4a65c_add_9ea2d 23 = .ok (.iconst 1, 1) := by decide +kernel
theorem dJx4a65c_add_9ea2d_24 : decode cJx4a65c_add_9ea2d 24 = .ok (.ireturn, 1) := by decide +kernel
theorem dJx4a65c_iterator_32c93_0 : decode cJx4a65c_iterator_32c93 0 = .ok (.new 267, 3) := by decide +kernel
theorem dJx4a65c_iterator_32c93_3 : decode cJx4a65c_iterator_32c93 3 = .ok (.dup, 1) := by decide +kernel
theorem dJx4a65c_iterator_32c93_4 : decode cJx4a65c_iterator_32c93 4 = .ok (.aload_n 0, 1) := by decide +kernel
theorem dJx4a65c_iterator_32c93_5 : decode cJx4a65c_iterator_32c93 5 = .ok (.invokespecial 269, 3) := by decide +kernel
theorem dJx4a65c_iterator_32c93_8 : decode cJx4a65c_iterator_32c93 8 = .ok (.areturn, 1) := by decide +kernel
theorem dL_universe_0 : decode cL_universe 0 = .ok (.aload_n 2, 1) := by decide +kernel
theorem dL_universe_1 : decode cL_universe 1 = .ok (.iconst 0, 1) := by decide +kernel
theorem dL_universe_2 : decode cL_universe 2 = .ok (.aload_n 0, 1) := by decide +kernel
theorem dL_universe_3 : decode cL_universe 3 = .ok (.iload_n 1, 1) := by decide +kernel
theorem dL_universe_4 : decode cL_universe 4 = .ok (.invokevirtual 7, 3) := by decide +kernel
theorem dL_universe_7 : decode cL_universe 7 = .ok (.i2l, 1) := by decide +kernel
theorem dL_universe_8 : decode cL_universe 8 = .ok (.lastore, 1) := by decide +kernel
theorem dL_universe_9 : decode cL_universe 9 = .ok (.goto 9, 3) := by decide +kernel
theorem dL_universe_12 : decode cL_universe 12 = .ok (.astore_n 3, 1) := by decide +kernel
theorem dL_universe_13 : decode cL_universe 13 = .ok (.iconst 1, 1) := by decide +kernel
theorem dL_universe_14 : decode cL_universe 14 = .ok (.ireturn, 1) := by decide +kernel
theorem dL_universe_18 : decode cL_universe 18 = .ok (.iconst 0, 1) := by decide +kernel
theorem dL_universe_19 : decode cL_universe 19 = .ok (.ireturn, 1) := by decide +kernel
theorem dL_variable_0 : decode cL_variable 0 = .ok (.aload_n 2, 1) := by decide +kernel
theorem dL_variable_1 : decode cL_variable 1 = .ok (.iconst 0, 1) := by decide +kernel
theorem dL_variable_2 : decode cL_variable 2 = .ok (.aload_n 0, 1) := by decide +kernel
theorem dL_variable_3 : decode cL_variable 3 = .ok (.iload_n 1, 1) := by decide +kernel
theorem dL_variable_4 : decode cL_variable 4 = .ok (.invokevirtual 17, 3) := by decide +kernel
theorem dL_variable_7 : decode cL_variable 7 = .ok (.i2l, 1) := by decide +kernel
theorem dL_variable_8 : decode cL_variable 8 = .ok (.lastore, 1) := by decide +kernel
theorem dL_variable_9 : decode cL_variable 9 = .ok (.goto 9, 3) := by decide +kernel
theorem dL_variable_12 : decode cL_variable 12 = .ok (.astore_n 3, 1) := by decide +kernel
theorem dL_variable_13 : decode cL_variable 13 = .ok (.iconst 1, 1) := by decide +kernel
theorem dL_variable_14 : decode cL_variable 14 = .ok (.ireturn, 1) := by decide +kernel
theorem dL_variable_18 : decode cL_variable 18 = .ok (.iconst 0, 1) := by decide +kernel
theorem dL_variable_19 : decode cL_variable 19 = .ok (.ireturn, 1) := by decide +kernel
theorem dL_functions_0 : decode cL_functions 0 = .ok (.aload_n 3, 1) := by decide +kernel
theorem dL_functions_1 : decode cL_functions 1 = .ok (.iconst 0, 1) := by decide +kernel
theorem dL_functions_2 : decode cL_functions 2 = .ok (.aload_n 0, 1) := by decide +kernel
theorem dL_functions_3 : decode cL_functions 3 = .ok (.iload_n 1, 1) := by decide +kernel
theorem dL_functions_4 : decode cL_functions 4 = .ok (.iload_n 2, 1) := by decide +kernel
theorem dL_functions_5 : decode cL_functions 5 = .ok (.invokevirtual 20, 3) := by decide +kernel
theorem dL_functions_13 : decode cL_functions 13 = .ok (.astore 4, 2) := by decide +kernel
theorem dL_functions_15 : decode cL_functions 15 = .ok (.iconst 1, 1) := by decide +kernel
theorem dL_functions_16 : decode cL_functions 16 = .ok (.ireturn, 1) := by decide +kernel
theorem dL_lambda_0 : decode cL_lambda 0 = .ok (.aload_n 3, 1) := by decide +kernel
theorem dL_lambda_1 : decode cL_lambda 1 = .ok (.iconst 0, 1) := by decide +kernel
theorem dL_lambda_2 : decode cL_lambda 2 = .ok (.aload_n 0, 1) := by decide +kernel
theorem dL_lambda_3 : decode cL_lambda 3 = .ok (.iload_n 1, 1) := by decide +kernel
theorem dL_lambda_4 : decode cL_lambda 4 = .ok (.iload_n 2, 1) := by decide +kernel
theorem dL_lambda_5 : decode cL_lambda 5 = .ok (.invokevirtual 26, 3) := by decide +kernel
theorem dL_lambda_13 : decode cL_lambda 13 = .ok (.astore 4, 2) := by decide +kernel
theorem dL_lambda_15 : decode cL_lambda 15 = .ok (.iconst 1, 1) := by decide +kernel
theorem dL_lambda_16 : decode cL_lambda 16 = .ok (.ireturn, 1) := by decide +kernel
theorem dL_apply_0 : decode cL_apply 0 = .ok (.aload_n 3, 1) := by decide +kernel
theorem dL_apply_1 : decode cL_apply 1 = .ok (.iconst 0, 1) := by decide +kernel
theorem dL_apply_2 : decode cL_apply 2 = .ok (.aload_n 0, 1) := by decide +kernel
theorem dL_apply_3 : decode cL_apply 3 = .ok (.iload_n 1, 1) := by decide +kernel
theorem dL_apply_4 : decode cL_apply 4 = .ok (.iload_n 2, 1) := by decide +kernel
theorem dL_apply_5 : decode cL_apply 5 = .ok (.invokevirtual 29, 3) := by decide +kernel
theorem dL_apply_13 : decode cL_apply 13 = .ok (.astore 4, 2) := by decide +kernel
theorem dL_apply_15 : decode cL_apply 15 = .ok (.iconst 1, 1) := by decide +kernel
theorem dL_apply_16 : decode cL_apply 16 = .ok (.ireturn, 1) := by decide +kernel
theorem dL_dataNode_0 : decode cL_dataNode 0 = .ok (.aload_n 2, 1) := by decide +kernel
theorem dL_dataNode_1 : decode cL_dataNode 1 = .ok (.iconst 0, 1) := by decide +kernel
theorem dL_dataNode_2 : decode cL_dataNode 2 = .ok (.aload_n 0, 1) := by decide +kernel
theorem dL_dataNode_3 : decode cL_dataNode 3 = .ok (.iload_n 1, 1) := by decide +kernel
theorem dL_dataNode_4 : decode cL_dataNode 4 = .ok (.invokevirtual 32, 3) := by decide +kernel
theorem dL_dataNode_12 : decode cL_dataNode 12 = .ok (.astore_n 3, 1) := by decide +kernel
theorem dL_dataNode_13 : decode cL_dataNode 13 = .ok (.iconst 1, 1) := by decide +kernel
theorem dL_dataNode_14 : decode cL_dataNode 14 = .ok (.ireturn, 1) := by decide +kernel
theorem dL_constructorNode_0 : decode cL_constructorNode 0 = .ok (.aload_n 2, 1) := by decide +kernel
theorem dL_constructorNode_1 : decode cL_constructorNode 1 = .ok (.iconst 0, 1) := by decide +kernel
theorem dL_constructorNode_2 : decode cL_constructorNode 2 = .ok (.aload_n 0, 1) := by decide +kernel
theorem dL_constructorNode_3 : decode cL_constructorNode 3 = .ok (.iload_n 1, 1) := by decide +kernel
theorem dL_constructorNode_4 : decode cL_constructorNode 4 = .ok (.invokevirtual 37, 3) := by decide +kernel
theorem dL_constructorNode_12 : decode cL_constructorNode 12 = .ok (.astore_n 3, 1) := by decide +kernel
theorem dL_constructorNode_13 : decode cL_constructorNode 13 = .ok (.iconst 1, 1) := by decide +kernel
theorem dL_constructorNode_14 : decode cL_constructorNode 14 = .ok (.ireturn, 1) := by decide +kernel
theorem dL_functionNode_0 : decode cL_functionNode 0 = .ok (.aload_n 2, 1) := by decide +kernel
theorem dL_functionNode_1 : decode cL_functionNode 1 = .ok (.iconst 0, 1) := by decide +kernel
theorem dL_functionNode_2 : decode cL_functionNode 2 = .ok (.aload_n 0, 1) := by decide +kernel
theorem dL_functionNode_3 : decode cL_functionNode 3 = .ok (.iload_n 1, 1) := by decide +kernel
theorem dL_functionNode_4 : decode cL_functionNode 4 = .ok (.invokevirtual 40, 3) := by decide +kernel
theorem dL_functionNode_12 : decode cL_functionNode 12 = .ok (.astore_n 3, 1) := by decide +kernel
theorem dL_functionNode_13 : decode cL_functionNode 13 = .ok (.iconst 1, 1) := by decide +kernel
theorem dL_functionNode_14 : decode cL_functionNode 14 = .ok (.ireturn, 1) := by decide +kernel
theorem dL_addData_0 : decode cL_addData 0 = .ok (.aload_n 1, 1) := by decide +kernel
theorem dL_addData_1 : decode cL_addData 1 = .ok (.iconst 0, 1) := by decide +kernel
theorem dL_addData_2 : decode cL_addData 2 = .ok (.aload_n 0, 1) := by decide +kernel
theorem dL_addData_3 : decode cL_addData 3 = .ok (.invokevirtual 43, 3) := by decide +kernel
theorem dL_addData_6 : decode cL_addData 6 = .ok (.i2l, 1) := by decide +kernel
theorem dL_addData_7 : decode cL_addData 7 = .ok (.lastore, 1) := by decide +kernel
theorem dL_addData_8 : decode cL_addData 8 = .ok (.goto 6, 3) := by decide +kernel
theorem dL_addData_14 : decode cL_addData 14 = .ok (.iconst 0, 1) := by decide +kernel
theorem dL_addData_15 : decode cL_addData 15 = .ok (.ireturn, 1) := by decide +kernel
theorem dL_addConstructor_0 : decode cL_addConstructor 0 = .ok (.aload 6, 2) := by decide +kernel
theorem dL_addConstructor_2 : decode cL_addConstructor 2 = .ok (.iconst 0, 1) := by decide +kernel
theorem dL_addConstructor_3 : decode cL_addConstructor 3 = .ok (.aload_n 0, 1) := by decide +kernel
theorem dL_addConstructor_4 : decode cL_addConstructor 4 = .ok (.iload_n 1, 1) := by decide +kernel
theorem dL_addConstructor_5 : decode cL_addConstructor 5 = .ok (.iload_n 2, 1) := by decide +kernel
theorem dL_addConstructor_6 : decode cL_addConstructor 6 = .ok (.iload_n 3, 1) := by decide +kernel
theorem dL_addConstructor_7 : decode cL_addConstructor 7 = .ok (.iload 4, 2) := by decide +kernel
theorem dL_addConstructor_9 : decode cL_addConstructor 9 = .ok (.iload 5, 2) := by decide +kernel
theorem dL_addConstructor_11 : decode cL_addConstructor 11 = .ok (.invokevirtual 47, 3) := by decide +kernel
theorem dL_addConstructor_19 : decode cL_addConstructor 19 = .ok (.astore 7, 2) := by decide +kernel
theorem dL_addConstructor_21 : decode cL_addConstructor 21 = .ok (.iconst 1, 1) := by decide +kernel
theorem dL_addConstructor_22 : decode cL_addConstructor 22 = .ok (.ireturn, 1) := by decide +kernel
theorem dL_addConstructor_23 : decode cL_addConstructor 23 = .ok (.astore 7, 2) := by decide +kernel
theorem dL_addConstructor_25 : decode cL_addConstructor 25 = .ok (.iconst 2, 1) := by decide +kernel
theorem dL_addConstructor_26 : decode cL_addConstructor 26 = .ok (.ireturn, 1) := by decide +kernel
theorem dL_size_0 : decode cL_size 0 = .ok (.aload_n 2, 1) := by decide +kernel
theorem dL_size_1 : decode cL_size 1 = .ok (.iconst 0, 1) := by decide +kernel
theorem dL_size_2 : decode cL_size 2 = .ok (.aload_n 0, 1) := by decide +kernel
theorem dL_size_3 : decode cL_size 3 = .ok (.iload_n 1, 1) := by decide +kernel
theorem dL_size_4 : decode cL_size 4 = .ok (.invokevirtual 51, 3) := by decide +kernel
theorem dL_size_12 : decode cL_size 12 = .ok (.astore_n 3, 1) := by decide +kernel
theorem dL_size_13 : decode cL_size 13 = .ok (.iconst 1, 1) := by decide +kernel
theorem dL_size_14 : decode cL_size 14 = .ok (.ireturn, 1) := by decide +kernel
theorem dL_number_0 : decode cL_number 0 = .ok (.aload_n 2, 1) := by decide +kernel
theorem dL_number_1 : decode cL_number 1 = .ok (.iconst 0, 1) := by decide +kernel
theorem dL_number_2 : decode cL_number 2 = .ok (.aload_n 0, 1) := by decide +kernel
theorem dL_number_3 : decode cL_number 3 = .ok (.iload_n 1, 1) := by decide +kernel
theorem dL_number_4 : decode cL_number 4 = .ok (.invokevirtual 54, 3) := by decide +kernel
theorem dL_number_12 : decode cL_number 12 = .ok (.astore_n 3, 1) := by decide +kernel
theorem dL_number_13 : decode cL_number 13 = .ok (.iconst 1, 1) := by decide +kernel
theorem dL_number_14 : decode cL_number 14 = .ok (.ireturn, 1) := by decide +kernel
theorem dL_normal_0 : decode cL_normal 0 = .ok (.aload_n 2, 1) := by decide +kernel
theorem dL_normal_1 : decode cL_normal 1 = .ok (.iconst 0, 1) := by decide +kernel
theorem dL_normal_2 : decode cL_normal 2 = .ok (.aload_n 0, 1) := by decide +kernel
theorem dL_normal_3 : decode cL_normal 3 = .ok (.iload_n 1, 1) := by decide +kernel
theorem dL_normal_4 : decode cL_normal 4 = .ok (.invokevirtual 57, 3) := by decide +kernel
theorem dL_normal_12 : decode cL_normal 12 = .ok (.astore_n 3, 1) := by decide +kernel
theorem dL_normal_13 : decode cL_normal 13 = .ok (.iconst 1, 1) := by decide +kernel
theorem dL_normal_14 : decode cL_normal 14 = .ok (.ireturn, 1) := by decide +kernel
theorem dL_typeOf_0 : decode cL_typeOf 0 = .ok (.aload_n 2, 1) := by decide +kernel
theorem dL_typeOf_1 : decode cL_typeOf 1 = .ok (.iconst 0, 1) := by decide +kernel
theorem dL_typeOf_2 : decode cL_typeOf 2 = .ok (.aload_n 0, 1) := by decide +kernel
theorem dL_typeOf_3 : decode cL_typeOf 3 = .ok (.iload_n 1, 1) := by decide +kernel
theorem dL_typeOf_4 : decode cL_typeOf 4 = .ok (.invokevirtual 62, 3) := by decide +kernel
theorem dL_typeOf_12 : decode cL_typeOf 12 = .ok (.astore_n 3, 1) := by decide +kernel
theorem dL_typeOf_13 : decode cL_typeOf 13 = .ok (.iconst 1, 1) := by decide +kernel
theorem dL_typeOf_14 : decode cL_typeOf 14 = .ok (.ireturn, 1) := by decide +kernel
theorem dL_level_0 : decode cL_level 0 = .ok (.aload_n 2, 1) := by decide +kernel
theorem dL_level_1 : decode cL_level 1 = .ok (.iconst 0, 1) := by decide +kernel
theorem dL_level_2 : decode cL_level 2 = .ok (.aload_n 0, 1) := by decide +kernel
theorem dL_level_3 : decode cL_level 3 = .ok (.iload_n 1, 1) := by decide +kernel
theorem dL_level_4 : decode cL_level 4 = .ok (.invokevirtual 65, 3) := by decide +kernel
theorem dL_level_12 : decode cL_level 12 = .ok (.astore_n 3, 1) := by decide +kernel
theorem dL_level_13 : decode cL_level 13 = .ok (.iconst 1, 1) := by decide +kernel
theorem dL_level_14 : decode cL_level 14 = .ok (.ireturn, 1) := by decide +kernel
theorem dL_isOf_0 : decode cL_isOf 0 = .ok (.aload_n 3, 1) := by decide +kernel
theorem dL_isOf_1 : decode cL_isOf 1 = .ok (.iconst 0, 1) := by decide +kernel
theorem dL_isOf_2 : decode cL_isOf 2 = .ok (.aload_n 0, 1) := by decide +kernel
theorem dL_isOf_3 : decode cL_isOf 3 = .ok (.iload_n 1, 1) := by decide +kernel
theorem dL_isOf_4 : decode cL_isOf 4 = .ok (.iload_n 2, 1) := by decide +kernel
theorem dL_isOf_5 : decode cL_isOf 5 = .ok (.invokevirtual 68, 3) := by decide +kernel
theorem dL_isOf_20 : decode cL_isOf 20 = .ok (.astore 4, 2) := by decide +kernel
theorem dL_isOf_22 : decode cL_isOf 22 = .ok (.iconst 1, 1) := by decide +kernel
theorem dL_isOf_23 : decode cL_isOf 23 = .ok (.ireturn, 1) := by decide +kernel
theorem dL_declare_0 : decode cL_declare 0 = .ok (.aload_n 2, 1) := by decide +kernel
theorem dL_declare_1 : decode cL_declare 1 = .ok (.iconst 0, 1) := by decide +kernel
theorem dL_declare_2 : decode cL_declare 2 = .ok (.aload_n 0, 1) := by decide +kernel
theorem dL_declare_3 : decode cL_declare 3 = .ok (.iload_n 1, 1) := by decide +kernel
theorem dL_declare_4 : decode cL_declare 4 = .ok (.invokevirtual 72, 3) := by decide +kernel
theorem dL_declare_12 : decode cL_declare 12 = .ok (.astore_n 3, 1) := by decide +kernel
theorem dL_declare_13 : decode cL_declare 13 = .ok (.iconst 1, 1) := by decide +kernel
theorem dL_declare_14 : decode cL_declare 14 = .ok (.ireturn, 1) := by decide +kernel
theorem dL_split_0 : decode cL_split 0 = .ok (.aload_n 3, 1) := by decide +kernel
theorem dL_split_1 : decode cL_split 1 = .ok (.iconst 0, 1) := by decide +kernel
theorem dL_split_2 : decode cL_split 2 = .ok (.aload_n 0, 1) := by decide +kernel
theorem dL_split_3 : decode cL_split 3 = .ok (.iload_n 1, 1) := by decide +kernel
theorem dL_split_4 : decode cL_split 4 = .ok (.iload_n 2, 1) := by decide +kernel
theorem dL_split_5 : decode cL_split 5 = .ok (.invokevirtual 75, 3) := by decide +kernel
theorem dL_split_13 : decode cL_split 13 = .ok (.astore 4, 2) := by decide +kernel
theorem dL_split_15 : decode cL_split 15 = .ok (.iconst 1, 1) := by decide +kernel
theorem dL_split_16 : decode cL_split 16 = .ok (.ireturn, 1) := by decide +kernel
theorem dL_fill_0 : decode cL_fill 0 = .ok (.aload_n 3, 1) := by decide +kernel
theorem dL_fill_1 : decode cL_fill 1 = .ok (.iconst 0, 1) := by decide +kernel
theorem dL_fill_2 : decode cL_fill 2 = .ok (.aload_n 0, 1) := by decide +kernel
theorem dL_fill_3 : decode cL_fill 3 = .ok (.iload_n 1, 1) := by decide +kernel
theorem dL_fill_4 : decode cL_fill 4 = .ok (.iload_n 2, 1) := by decide +kernel
theorem dL_fill_5 : decode cL_fill 5 = .ok (.invokevirtual 78, 3) := by decide +kernel
theorem dL_fill_13 : decode cL_fill 13 = .ok (.astore 4, 2) := by decide +kernel
theorem dL_fill_15 : decode cL_fill 15 = .ok (.iconst 1, 1) := by decide +kernel
theorem dL_fill_16 : decode cL_fill 16 = .ok (.ireturn, 1) := by decide +kernel
theorem dL_auto_0 : decode cL_auto 0 = .ok (.aload_n 2, 1) := by decide +kernel
theorem dL_auto_1 : decode cL_auto 1 = .ok (.iconst 0, 1) := by decide +kernel
theorem dL_auto_2 : decode cL_auto 2 = .ok (.aload_n 0, 1) := by decide +kernel
theorem dL_auto_3 : decode cL_auto 3 = .ok (.iload_n 1, 1) := by decide +kernel
theorem dL_auto_4 : decode cL_auto 4 = .ok (.invokevirtual 81, 3) := by decide +kernel
theorem dL_auto_12 : decode cL_auto 12 = .ok (.astore_n 3, 1) := by decide +kernel
theorem dL_auto_13 : decode cL_auto 13 = .ok (.iconst 1, 1) := by decide +kernel
theorem dL_auto_14 : decode cL_auto 14 = .ok (.ireturn, 1) := by decide +kernel
theorem dL_reopen_0 : decode cL_reopen 0 = .ok (.aload_n 2, 1) := by decide +kernel
theorem dL_reopen_1 : decode cL_reopen 1 = .ok (.iconst 0, 1) := by decide +kernel
theorem dL_reopen_2 : decode cL_reopen 2 = .ok (.aload_n 0, 1) := by decide +kernel
theorem dL_reopen_3 : decode cL_reopen 3 = .ok (.iload_n 1, 1) := by decide +kernel
theorem dL_reopen_4 : decode cL_reopen 4 = .ok (.invokevirtual 84, 3) := by decide +kernel
theorem dL_reopen_12 : decode cL_reopen 12 = .ok (.astore_n 3, 1) := by decide +kernel
theorem dL_reopen_13 : decode cL_reopen 13 = .ok (.iconst 1, 1) := by decide +kernel
theorem dL_reopen_14 : decode cL_reopen 14 = .ok (.ireturn, 1) := by decide +kernel
theorem dL_goalState_0 : decode cL_goalState 0 = .ok (.aload_n 2, 1) := by decide +kernel
theorem dL_goalState_1 : decode cL_goalState 1 = .ok (.iconst 0, 1) := by decide +kernel
theorem dL_goalState_2 : decode cL_goalState 2 = .ok (.aload_n 0, 1) := by decide +kernel
theorem dL_goalState_3 : decode cL_goalState 3 = .ok (.iload_n 1, 1) := by decide +kernel
theorem dL_goalState_4 : decode cL_goalState 4 = .ok (.invokevirtual 87, 3) := by decide +kernel
theorem dL_goalState_12 : decode cL_goalState 12 = .ok (.astore_n 3, 1) := by decide +kernel
theorem dL_goalState_13 : decode cL_goalState 13 = .ok (.iconst 1, 1) := by decide +kernel
theorem dL_goalState_14 : decode cL_goalState 14 = .ok (.ireturn, 1) := by decide +kernel
theorem dL_contextSize_0 : decode cL_contextSize 0 = .ok (.aload_n 2, 1) := by decide +kernel
theorem dL_contextSize_1 : decode cL_contextSize 1 = .ok (.iconst 0, 1) := by decide +kernel
theorem dL_contextSize_2 : decode cL_contextSize 2 = .ok (.aload_n 0, 1) := by decide +kernel
theorem dL_contextSize_3 : decode cL_contextSize 3 = .ok (.iload_n 1, 1) := by decide +kernel
theorem dL_contextSize_4 : decode cL_contextSize 4 = .ok (.invokevirtual 91, 3) := by decide +kernel
theorem dL_contextSize_12 : decode cL_contextSize 12 = .ok (.astore_n 3, 1) := by decide +kernel
theorem dL_contextSize_13 : decode cL_contextSize 13 = .ok (.iconst 1, 1) := by decide +kernel
theorem dL_contextSize_14 : decode cL_contextSize 14 = .ok (.ireturn, 1) := by decide +kernel
theorem dL_contextType_0 : decode cL_contextType 0 = .ok (.aload_n 3, 1) := by decide +kernel
theorem dL_contextType_1 : decode cL_contextType 1 = .ok (.iconst 0, 1) := by decide +kernel
theorem dL_contextType_2 : decode cL_contextType 2 = .ok (.aload_n 0, 1) := by decide +kernel
theorem dL_contextType_3 : decode cL_contextType 3 = .ok (.iload_n 1, 1) := by decide +kernel
theorem dL_contextType_4 : decode cL_contextType 4 = .ok (.iload_n 2, 1) := by decide +kernel
theorem dL_contextType_5 : decode cL_contextType 5 = .ok (.invokevirtual 94, 3) := by decide +kernel
theorem dL_contextType_13 : decode cL_contextType 13 = .ok (.astore 4, 2) := by decide +kernel
theorem dL_contextType_15 : decode cL_contextType 15 = .ok (.iconst 1, 1) := by decide +kernel
theorem dL_contextType_16 : decode cL_contextType 16 = .ok (.ireturn, 1) := by decide +kernel
theorem dL_goalType_0 : decode cL_goalType 0 = .ok (.aload_n 2, 1) := by decide +kernel
theorem dL_goalType_1 : decode cL_goalType 1 = .ok (.iconst 0, 1) := by decide +kernel
theorem dL_goalType_2 : decode cL_goalType 2 = .ok (.aload_n 0, 1) := by decide +kernel
theorem dL_goalType_3 : decode cL_goalType 3 = .ok (.iload_n 1, 1) := by decide +kernel
theorem dL_goalType_4 : decode cL_goalType 4 = .ok (.invokevirtual 97, 3) := by decide +kernel
theorem dL_goalType_12 : decode cL_goalType 12 = .ok (.astore_n 3, 1) := by decide +kernel
theorem dL_goalType_13 : decode cL_goalType 13 = .ok (.iconst 1, 1) := by decide +kernel
theorem dL_goalType_14 : decode cL_goalType 14 = .ok (.ireturn, 1) := by decide +kernel
theorem dL_openGoals_0 : decode cL_openGoals 0 = .ok (.aload_n 2, 1) := by decide +kernel
theorem dL_openGoals_1 : decode cL_openGoals 1 = .ok (.iconst 0, 1) := by decide +kernel
theorem dL_openGoals_2 : decode cL_openGoals 2 = .ok (.aload_n 0, 1) := by decide +kernel
theorem dL_openGoals_3 : decode cL_openGoals 3 = .ok (.iload_n 1, 1) := by decide +kernel
theorem dL_openGoals_4 : decode cL_openGoals 4 = .ok (.invokevirtual 100, 3) := by decide +kernel
theorem dL_openGoals_12 : decode cL_openGoals 12 = .ok (.astore_n 3, 1) := by decide +kernel
theorem dL_openGoals_13 : decode cL_openGoals 13 = .ok (.iconst 1, 1) := by decide +kernel
theorem dL_openGoals_14 : decode cL_openGoals 14 = .ok (.ireturn, 1) := by decide +kernel
theorem dL_accept_0 : decode cL_accept 0 = .ok (.aload_n 2, 1) := by decide +kernel
theorem dL_accept_1 : decode cL_accept 1 = .ok (.iconst 0, 1) := by decide +kernel
theorem dL_accept_2 : decode cL_accept 2 = .ok (.aload_n 0, 1) := by decide +kernel
theorem dL_accept_3 : decode cL_accept 3 = .ok (.iload_n 1, 1) := by decide +kernel
theorem dL_accept_4 : decode cL_accept 4 = .ok (.invokevirtual 103, 3) := by decide +kernel
theorem dL_accept_12 : decode cL_accept 12 = .ok (.astore_n 3, 1) := by decide +kernel
theorem dL_accept_13 : decode cL_accept 13 = .ok (.iconst 1, 1) := by decide +kernel
theorem dL_accept_14 : decode cL_accept 14 = .ok (.ireturn, 1) := by decide +kernel
theorem dL_isAccepted_0 : decode cL_isAccepted 0 = .ok (.aload_n 2, 1) := by decide +kernel
theorem dL_isAccepted_1 : decode cL_isAccepted 1 = .ok (.iconst 0, 1) := by decide +kernel
theorem dL_isAccepted_2 : decode cL_isAccepted 2 = .ok (.aload_n 0, 1) := by decide +kernel
theorem dL_isAccepted_3 : decode cL_isAccepted 3 = .ok (.iload_n 1, 1) := by decide +kernel
theorem dL_isAccepted_4 : decode cL_isAccepted 4 = .ok (.invokevirtual 106, 3) := by decide +kernel
theorem dL_isAccepted_19 : decode cL_isAccepted 19 = .ok (.astore_n 3, 1) := by decide +kernel
theorem dL_isAccepted_20 : decode cL_isAccepted 20 = .ok (.iconst 1, 1) := by decide +kernel
theorem dL_isAccepted_21 : decode cL_isAccepted 21 = .ok (.ireturn, 1) := by decide +kernel
theorem dL_run_0 : decode cL_run 0 = .ok (.aload_n 2, 1) := by decide +kernel
theorem dL_run_1 : decode cL_run 1 = .ok (.iconst 0, 1) := by decide +kernel
theorem dL_run_2 : decode cL_run 2 = .ok (.aload_n 0, 1) := by decide +kernel
theorem dL_run_3 : decode cL_run 3 = .ok (.iload_n 1, 1) := by decide +kernel
theorem dL_run_4 : decode cL_run 4 = .ok (.invokevirtual 110, 3) := by decide +kernel
theorem dL_run_12 : decode cL_run 12 = .ok (.astore_n 3, 1) := by decide +kernel
theorem dL_run_13 : decode cL_run 13 = .ok (.iconst 1, 1) := by decide +kernel
theorem dL_run_14 : decode cL_run 14 = .ok (.ireturn, 1) := by decide +kernel
theorem dL_runByClauses_0 : decode cL_runByClauses 0 = .ok (.aload_n 2, 1) := by decide +kernel
theorem dL_runByClauses_1 : decode cL_runByClauses 1 = .ok (.iconst 0, 1) := by decide +kernel
theorem dL_runByClauses_2 : decode cL_runByClauses 2 = .ok (.aload_n 0, 1) := by decide +kernel
theorem dL_runByClauses_3 : decode cL_runByClauses 3 = .ok (.iload_n 1, 1) := by decide +kernel
theorem dL_runByClauses_4 : decode cL_runByClauses 4 = .ok (.invokevirtual 113, 3) := by decide +kernel
theorem dL_runByClauses_12 : decode cL_runByClauses 12 = .ok (.astore_n 3, 1) := by decide +kernel
theorem dL_runByClauses_13 : decode cL_runByClauses 13 = .ok (.iconst 1, 1) := by decide +kernel
theorem dL_runByClauses_14 : decode cL_runByClauses 14 = .ok (.ireturn, 1) := by decide +kernel
theorem dL_steps_0 : decode cL_steps 0 = .ok (.aload_n 2, 1) := by decide +kernel
theorem dL_steps_1 : decode cL_steps 1 = .ok (.iconst 0, 1) := by decide +kernel
theorem dL_steps_2 : decode cL_steps 2 = .ok (.aload_n 0, 1) := by decide +kernel
theorem dL_steps_3 : decode cL_steps 3 = .ok (.iload_n 1, 1) := by decide +kernel
theorem dL_steps_4 : decode cL_steps 4 = .ok (.invokevirtual 116, 3) := by decide +kernel
theorem dL_steps_12 : decode cL_steps 12 = .ok (.astore_n 3, 1) := by decide +kernel
theorem dL_steps_13 : decode cL_steps 13 = .ok (.iconst 1, 1) := by decide +kernel
theorem dL_steps_14 : decode cL_steps 14 = .ok (.ireturn, 1) := by decide +kernel
theorem dL_valueSize_0 : decode cL_valueSize 0 = .ok (.aload_n 2, 1) := by decide +kernel
theorem dL_valueSize_1 : decode cL_valueSize 1 = .ok (.iconst 0, 1) := by decide +kernel
theorem dL_valueSize_2 : decode cL_valueSize 2 = .ok (.aload_n 0, 1) := by decide +kernel
theorem dL_valueSize_3 : decode cL_valueSize 3 = .ok (.iload_n 1, 1) := by decide +kernel
theorem dL_valueSize_4 : decode cL_valueSize 4 = .ok (.invokevirtual 119, 3) := by decide +kernel
theorem dL_valueSize_12 : decode cL_valueSize 12 = .ok (.astore_n 3, 1) := by decide +kernel
theorem dL_valueSize_13 : decode cL_valueSize 13 = .ok (.iconst 1, 1) := by decide +kernel
theorem dL_valueSize_14 : decode cL_valueSize 14 = .ok (.ireturn, 1) := by decide +kernel
theorem dL_filledShare_0 : decode cL_filledShare 0 = .ok (.aload_n 1, 1) := by decide +kernel
theorem dL_filledShare_1 : decode cL_filledShare 1 = .ok (.iconst 0, 1) := by decide +kernel
theorem dL_filledShare_2 : decode cL_filledShare 2 = .ok (.aload_n 0, 1) := by decide +kernel
theorem dL_filledShare_3 : decode cL_filledShare 3 = .ok (.invokevirtual 122, 3) := by decide +kernel
theorem dL_filledShare_11 : decode cL_filledShare 11 = .ok (.astore_n 2, 1) := by decide +kernel
theorem dL_filledShare_12 : decode cL_filledShare 12 = .ok (.iconst 1, 1) := by decide +kernel
theorem dL_filledShare_13 : decode cL_filledShare 13 = .ok (.ireturn, 1) := by decide +kernel
theorem dL_meanSize_0 : decode cL_meanSize 0 = .ok (.aload_n 1, 1) := by decide +kernel
theorem dL_meanSize_1 : decode cL_meanSize 1 = .ok (.iconst 0, 1) := by decide +kernel
theorem dL_meanSize_2 : decode cL_meanSize 2 = .ok (.aload_n 0, 1) := by decide +kernel
theorem dL_meanSize_3 : decode cL_meanSize 3 = .ok (.invokevirtual 128, 3) := by decide +kernel
theorem dL_meanSize_10 : decode cL_meanSize 10 = .ok (.astore_n 2, 1) := by decide +kernel
theorem dL_meanSize_11 : decode cL_meanSize 11 = .ok (.iconst 1, 1) := by decide +kernel
theorem dL_meanSize_12 : decode cL_meanSize 12 = .ok (.ireturn, 1) := by decide +kernel
theorem dL_law_0 : decode cL_law 0 = .ok (.new 8, 3) := by decide +kernel
theorem dL_law_3 : decode cL_law 3 = .ok (.dup, 1) := by decide +kernel
theorem dL_law_4 : decode cL_law 4 = .ok (.invokespecial 132, 3) := by decide +kernel
theorem dL_law_7 : decode cL_law 7 = .ok (.astore_n 1, 1) := by decide +kernel
theorem dL_law_8 : decode cL_law 8 = .ok (.new 133, 3) := by decide +kernel
theorem dL_law_11 : decode cL_law 11 = .ok (.dup, 1) := by decide +kernel
theorem dL_law_12 : decode cL_law 12 = .ok (.invokespecial 135, 3) := by decide +kernel
theorem dL_law_15 : decode cL_law 15 = .ok (.astore_n 2, 1) := by decide +kernel
theorem dL_law_16 : decode cL_law 16 = .ok (.iconst 1, 1) := by decide +kernel
theorem dL_law_17 : decode cL_law 17 = .ok (.newarray .long, 2) := by decide +kernel
theorem dL_law_19 : decode cL_law 19 = .ok (.astore_n 3, 1) := by decide +kernel
theorem dL_law_20 : decode cL_law 20 = .ok (.iconst 1, 1) := by decide +kernel
theorem dL_law_21 : decode cL_law 21 = .ok (.newarray .double, 2) := by decide +kernel
theorem dL_law_23 : decode cL_law 23 = .ok (.astore 4, 2) := by decide +kernel
theorem dL_law_25 : decode cL_law 25 = .ok (.iconst 0, 1) := by decide +kernel
theorem dL_law_26 : decode cL_law 26 = .ok (.istore 5, 2) := by decide +kernel
theorem dL_law_28 : decode cL_law 28 = .ok (.iload 5, 2) := by decide +kernel
theorem dL_law_30 : decode cL_law 30 = .ok (.aload_n 0, 1) := by decide +kernel
theorem dL_law_31 : decode cL_law 31 = .ok (.arraylength, 1) := by decide +kernel
theorem dL_law_32 : decode cL_law 32 = .ok (.bipush 6, 2) := by decide +kernel
theorem dL_law_34 : decode cL_law 34 = .ok (.isub, 1) := by decide +kernel
theorem dL_law_35 : decode cL_law 35 = .ok (.if_icmp .gt 2259, 3) := by decide +kernel
theorem dL_law_38 : decode cL_law 38 = .ok (.aload_n 0, 1) := by decide +kernel
theorem dL_law_39 : decode cL_law 39 = .ok (.iload 5, 2) := by decide +kernel
theorem dL_law_41 : decode cL_law 41 = .ok (.iaload, 1) := by decide +kernel
theorem dL_law_42 : decode cL_law 42 = .ok (.bipush 63, 2) := by decide +kernel
theorem dL_law_44 : decode cL_law 44 = .ok (.iand, 1) := by decide +kernel
theorem dL_law_45 : decode cL_law 45 = .ok (.tableswitch 2243 0 35 #[159, 215, 271, 339, 407, 475, 531, 587, 643, 687, 791, 847, 903, 959, 1015, 1071, 1146, 1202, 1270, 1338, 1394, 1450, 1506, 1562, 1630, 1686, 1742, 1798, 1861, 1917, 1973, 2029, 2085, 2099, 2165, 2230], 159) := by decide +kernel
theorem dL_law_204 : decode cL_law 204 = .ok (.aload_n 1, 1) := by decide +kernel
theorem dL_law_205 : decode cL_law 205 = .ok (.aload_n 0, 1) := by decide +kernel
theorem dL_law_206 : decode cL_law 206 = .ok (.iload 5, 2) := by decide +kernel
theorem dL_law_208 : decode cL_law 208 = .ok (.iconst 1, 1) := by decide +kernel
theorem dL_law_209 : decode cL_law 209 = .ok (.iadd, 1) := by decide +kernel
theorem dL_law_210 : decode cL_law 210 = .ok (.iaload, 1) := by decide +kernel
theorem dL_law_211 : decode cL_law 211 = .ok (.aload_n 3, 1) := by decide +kernel
theorem dL_law_212 : decode cL_law 212 = .ok (.invokestatic 136, 3) := by decide +kernel
theorem dL_law_215 : decode cL_law 215 = .ok (.istore 6, 2) := by decide +kernel
theorem dL_law_217 : decode cL_law 217 = .ok (.aload_n 2, 1) := by decide +kernel
theorem dL_law_218 : decode cL_law 218 = .ok (.aload_n 0, 1) := by decide +kernel
theorem dL_law_219 : decode cL_law 219 = .ok (.iload 5, 2) := by decide +kernel
theorem dL_law_221 : decode cL_law 221 = .ok (.iconst 1, 1) := by decide +kernel
theorem dL_law_222 : decode cL_law 222 = .ok (.iadd, 1) := by decide +kernel
theorem dL_law_223 : decode cL_law 223 = .ok (.iaload, 1) := by decide +kernel
theorem dL_law_224 : decode cL_law 224 = .ok (.invokevirtual 141, 3) := by decide +kernel
theorem dL_law_227 : decode cL_law 227 = .ok (.istore 7, 2) := by decide +kernel
theorem dL_law_229 : decode cL_law 229 = .ok (.aload_n 2, 1) := by decide +kernel
theorem dL_law_230 : decode cL_law 230 = .ok (.invokevirtual 142, 3) := by decide +kernel
theorem dL_law_233 : decode cL_law 233 = .ok (.iload 6, 2) := by decide +kernel
theorem dL_law_235 : decode cL_law 235 = .ok (.if_icmp .eq 5, 3) := by decide +kernel
theorem dL_law_240 : decode cL_law 240 = .ok (.iload 6, 2) := by decide +kernel
theorem dL_law_242 : decode cL_law 242 = .ok (.ifCond .ne 15, 3) := by decide +kernel
theorem dL_law_245 : decode cL_law 245 = .ok (.aload_n 3, 1) := by decide +kernel
theorem dL_law_246 : decode cL_law 246 = .ok (.iconst 0, 1) := by decide +kernel
theorem dL_law_247 : decode cL_law 247 = .ok (.laload, 1) := by decide +kernel
theorem dL_law_248 : decode cL_law 248 = .ok (.iload 7, 2) := by decide +kernel
theorem dL_law_250 : decode cL_law 250 = .ok (.i2l, 1) := by decide +kernel
theorem dL_law_251 : decode cL_law 251 = .ok (.lcmp, 1) := by decide +kernel
theorem dL_law_252 : decode cL_law 252 = .ok (.ifCond .eq 5, 3) := by decide +kernel
theorem dL_law_257 : decode cL_law 257 = .ok (.goto 2031, 3) := by decide +kernel
theorem dL_law_260 : decode cL_law 260 = .ok (.aload_n 1, 1) := by decide +kernel
theorem dL_law_261 : decode cL_law 261 = .ok (.aload_n 0, 1) := by decide +kernel
theorem dL_law_262 : decode cL_law 262 = .ok (.iload 5, 2) := by decide +kernel
theorem dL_law_264 : decode cL_law 264 = .ok (.iconst 1, 1) := by decide +kernel
theorem dL_law_265 : decode cL_law 265 = .ok (.iadd, 1) := by decide +kernel
theorem dL_law_266 : decode cL_law 266 = .ok (.iaload, 1) := by decide +kernel
theorem dL_law_267 : decode cL_law 267 = .ok (.aload_n 3, 1) := by decide +kernel
theorem dL_law_268 : decode cL_law 268 = .ok (.invokestatic 145, 3) := by decide +kernel
theorem dL_law_271 : decode cL_law 271 = .ok (.istore 6, 2) := by decide +kernel
theorem dL_law_273 : decode cL_law 273 = .ok (.aload_n 2, 1) := by decide +kernel
theorem dL_law_274 : decode cL_law 274 = .ok (.aload_n 0, 1) := by decide +kernel
theorem dL_law_275 : decode cL_law 275 = .ok (.iload 5, 2) := by decide +kernel
theorem dL_law_277 : decode cL_law 277 = .ok (.iconst 1, 1) := by decide +kernel
theorem dL_law_278 : decode cL_law 278 = .ok (.iadd, 1) := by decide +kernel
theorem dL_law_279 : decode cL_law 279 = .ok (.iaload, 1) := by decide +kernel
theorem dL_law_280 : decode cL_law 280 = .ok (.invokevirtual 147, 3) := by decide +kernel
theorem dL_law_283 : decode cL_law 283 = .ok (.istore 7, 2) := by decide +kernel
theorem dL_law_285 : decode cL_law 285 = .ok (.aload_n 2, 1) := by decide +kernel
theorem dL_law_286 : decode cL_law 286 = .ok (.invokevirtual 142, 3) := by decide +kernel
theorem dL_law_289 : decode cL_law 289 = .ok (.iload 6, 2) := by decide +kernel
theorem dL_law_291 : decode cL_law 291 = .ok (.if_icmp .eq 5, 3) := by decide +kernel
theorem dL_law_296 : decode cL_law 296 = .ok (.iload 6, 2) := by decide +kernel
theorem dL_law_298 : decode cL_law 298 = .ok (.ifCond .ne 15, 3) := by decide +kernel
theorem dL_law_301 : decode cL_law 301 = .ok (.aload_n 3, 1) := by decide +kernel
theorem dL_law_302 : decode cL_law 302 = .ok (.iconst 0, 1) := by decide +kernel
theorem dL_law_303 : decode cL_law 303 = .ok (.laload, 1) := by decide +kernel
theorem dL_law_304 : decode cL_law 304 = .ok (.iload 7, 2) := by decide +kernel
theorem dL_law_306 : decode cL_law 306 = .ok (.i2l, 1) := by decide +kernel
theorem dL_law_307 : decode cL_law 307 = .ok (.lcmp, 1) := by decide +kernel
theorem dL_law_308 : decode cL_law 308 = .ok (.ifCond .eq 5, 3) := by decide +kernel
theorem dL_law_313 : decode cL_law 313 = .ok (.goto 1975, 3) := by decide +kernel
theorem dL_law_316 : decode cL_law 316 = .ok (.aload_n 1, 1) := by decide +kernel
theorem dL_law_317 : decode cL_law 317 = .ok (.aload_n 0, 1) := by decide +kernel
theorem dL_law_318 : decode cL_law 318 = .ok (.iload 5, 2) := by decide +kernel
theorem dL_law_320 : decode cL_law 320 = .ok (.iconst 1, 1) := by decide +kernel
theorem dL_law_321 : decode cL_law 321 = .ok (.iadd, 1) := by decide +kernel
theorem dL_law_322 : decode cL_law 322 = .ok (.iaload, 1) := by decide +kernel
theorem dL_law_323 : decode cL_law 323 = .ok (.aload_n 0, 1) := by decide +kernel
theorem dL_law_324 : decode cL_law 324 = .ok (.iload 5, 2) := by decide +kernel
theorem dL_law_326 : decode cL_law 326 = .ok (.iconst 2, 1) := by decide +kernel
theorem dL_law_327 : decode cL_law 327 = .ok (.iadd, 1) := by decide +kernel
theorem dL_law_328 : decode cL_law 328 = .ok (.iaload, 1) := by decide +kernel
theorem dL_law_329 : decode cL_law 329 = .ok (.aload_n 3, 1) := by decide +kernel
theorem dL_law_330 : decode cL_law 330 = .ok (.invokestatic 148, 3) := by decide +kernel
theorem dL_law_333 : decode cL_law 333 = .ok (.istore 6, 2) := by decide +kernel
theorem dL_law_335 : decode cL_law 335 = .ok (.aload_n 2, 1) := by decide +kernel
theorem dL_law_336 : decode cL_law 336 = .ok (.aload_n 0, 1) := by decide +kernel
theorem dL_law_337 : decode cL_law 337 = .ok (.iload 5, 2) := by decide +kernel
theorem dL_law_339 : decode cL_law 339 = .ok (.iconst 1, 1) := by decide +kernel
theorem dL_law_340 : decode cL_law 340 = .ok (.iadd, 1) := by decide +kernel
theorem dL_law_341 : decode cL_law 341 = .ok (.iaload, 1) := by decide +kernel
theorem dL_law_342 : decode cL_law 342 = .ok (.aload_n 0, 1) := by decide +kernel
theorem dL_law_343 : decode cL_law 343 = .ok (.iload 5, 2) := by decide +kernel
theorem dL_law_345 : decode cL_law 345 = .ok (.iconst 2, 1) := by decide +kernel
theorem dL_law_346 : decode cL_law 346 = .ok (.iadd, 1) := by decide +kernel
theorem dL_law_347 : decode cL_law 347 = .ok (.iaload, 1) := by decide +kernel
theorem dL_law_348 : decode cL_law 348 = .ok (.invokevirtual 151, 3) := by decide +kernel
theorem dL_law_351 : decode cL_law 351 = .ok (.istore 7, 2) := by decide +kernel
theorem dL_law_353 : decode cL_law 353 = .ok (.aload_n 2, 1) := by decide +kernel
theorem dL_law_354 : decode cL_law 354 = .ok (.invokevirtual 142, 3) := by decide +kernel
theorem dL_law_357 : decode cL_law 357 = .ok (.iload 6, 2) := by decide +kernel
theorem dL_law_359 : decode cL_law 359 = .ok (.if_icmp .eq 5, 3) := by decide +kernel
theorem dL_law_364 : decode cL_law 364 = .ok (.iload 6, 2) := by decide +kernel
theorem dL_law_366 : decode cL_law 366 = .ok (.ifCond .ne 15, 3) := by decide +kernel
theorem dL_law_381 : decode cL_law 381 = .ok (.goto 1907, 3) := by decide +kernel
theorem dL_law_384 : decode cL_law 384 = .ok (.aload_n 1, 1) := by decide +kernel
theorem dL_law_385 : decode cL_law 385 = .ok (.aload_n 0, 1) := by decide +kernel
theorem dL_law_386 : decode cL_law 386 = .ok (.iload 5, 2) := by decide +kernel
theorem dL_law_388 : decode cL_law 388 = .ok (.iconst 1, 1) := by decide +kernel
theorem dL_law_389 : decode cL_law 389 = .ok (.iadd, 1) := by decide +kernel
theorem dL_law_390 : decode cL_law 390 = .ok (.iaload, 1) := by decide +kernel
theorem dL_law_391 : decode cL_law 391 = .ok (.aload_n 0, 1) := by decide +kernel
theorem dL_law_392 : decode cL_law 392 = .ok (.iload 5, 2) := by decide +kernel
theorem dL_law_394 : decode cL_law 394 = .ok (.iconst 2, 1) := by decide +kernel
theorem dL_law_395 : decode cL_law 395 = .ok (.iadd, 1) := by decide +kernel
theorem dL_law_396 : decode cL_law 396 = .ok (.iaload, 1) := by decide +kernel
theorem dL_law_397 : decode cL_law 397 = .ok (.aload_n 3, 1) := by decide +kernel
theorem dL_law_398 : decode cL_law 398 = .ok (.invokestatic 152, 3) := by decide +kernel
theorem dL_law_401 : decode cL_law 401 = .ok (.istore 6, 2) := by decide +kernel
theorem dL_law_403 : decode cL_law 403 = .ok (.aload_n 2, 1) := by decide +kernel
theorem dL_law_404 : decode cL_law 404 = .ok (.aload_n 0, 1) := by decide +kernel
theorem dL_law_405 : decode cL_law 405 = .ok (.iload 5, 2) := by decide +kernel
theorem dL_law_407 : decode cL_law 407 = .ok (.iconst 1, 1) := by decide +kernel
theorem dL_law_408 : decode cL_law 408 = .ok (.iadd, 1) := by decide +kernel
theorem dL_law_409 : decode cL_law 409 = .ok (.iaload, 1) := by decide +kernel
theorem dL_law_410 : decode cL_law 410 = .ok (.aload_n 0, 1) := by decide +kernel
theorem dL_law_411 : decode cL_law 411 = .ok (.iload 5, 2) := by decide +kernel
theorem dL_law_413 : decode cL_law 413 = .ok (.iconst 2, 1) := by decide +kernel
theorem dL_law_414 : decode cL_law 414 = .ok (.iadd, 1) := by decide +kernel
theorem dL_law_415 : decode cL_law 415 = .ok (.iaload, 1) := by decide +kernel
theorem dL_law_416 : decode cL_law 416 = .ok (.invokevirtual 154, 3) := by decide +kernel
theorem dL_law_419 : decode cL_law 419 = .ok (.istore 7, 2) := by decide +kernel
theorem dL_law_421 : decode cL_law 421 = .ok (.aload_n 2, 1) := by decide +kernel
theorem dL_law_422 : decode cL_law 422 = .ok (.invokevirtual 142, 3) := by decide +kernel
theorem dL_law_425 : decode cL_law 425 = .ok (.iload 6, 2) := by decide +kernel
theorem dL_law_427 : decode cL_law 427 = .ok (.if_icmp .eq 5, 3) := by decide +kernel
theorem dL_law_432 : decode cL_law 432 = .ok (.iload 6, 2) := by decide +kernel
theorem dL_law_434 : decode cL_law 434 = .ok (.ifCond .ne 15, 3) := by decide +kernel
theorem dL_law_449 : decode cL_law 449 = .ok (.goto 1839, 3) := by decide +kernel
theorem dL_law_452 : decode cL_law 452 = .ok (.aload_n 1, 1) := by decide +kernel
theorem dL_law_453 : decode cL_law 453 = .ok (.aload_n 0, 1) := by decide +kernel
theorem dL_law_454 : decode cL_law 454 = .ok (.iload 5, 2) := by decide +kernel
theorem dL_law_456 : decode cL_law 456 = .ok (.iconst 1, 1) := by decide +kernel
theorem dL_law_457 : decode cL_law 457 = .ok (.iadd, 1) := by decide +kernel
theorem dL_law_458 : decode cL_law 458 = .ok (.iaload, 1) := by decide +kernel
theorem dL_law_459 : decode cL_law 459 = .ok (.aload_n 0, 1) := by decide +kernel
theorem dL_law_460 : decode cL_law 460 = .ok (.iload 5, 2) := by decide +kernel
theorem dL_law_462 : decode cL_law 462 = .ok (.iconst 2, 1) := by decide +kernel
theorem dL_law_463 : decode cL_law 463 = .ok (.iadd, 1) := by decide +kernel
theorem dL_law_464 : decode cL_law 464 = .ok (.iaload, 1) := by decide +kernel
theorem dL_law_465 : decode cL_law 465 = .ok (.aload_n 3, 1) := by decide +kernel
theorem dL_law_466 : decode cL_law 466 = .ok (.invokestatic 155, 3) := by decide +kernel
theorem dL_law_469 : decode cL_law 469 = .ok (.istore 6, 2) := by decide +kernel
theorem dL_law_471 : decode cL_law 471 = .ok (.aload_n 2, 1) := by decide +kernel
theorem dL_law_472 : decode cL_law 472 = .ok (.aload_n 0, 1) := by decide +kernel
theorem dL_law_473 : decode cL_law 473 = .ok (.iload 5, 2) := by decide +kernel
theorem dL_law_475 : decode cL_law 475 = .ok (.iconst 1, 1) := by decide +kernel
theorem dL_law_476 : decode cL_law 476 = .ok (.iadd, 1) := by decide +kernel
theorem dL_law_477 : decode cL_law 477 = .ok (.iaload, 1) := by decide +kernel
theorem dL_law_478 : decode cL_law 478 = .ok (.aload_n 0, 1) := by decide +kernel
theorem dL_law_479 : decode cL_law 479 = .ok (.iload 5, 2) := by decide +kernel
theorem dL_law_481 : decode cL_law 481 = .ok (.iconst 2, 1) := by decide +kernel
theorem dL_law_482 : decode cL_law 482 = .ok (.iadd, 1) := by decide +kernel
theorem dL_law_483 : decode cL_law 483 = .ok (.iaload, 1) := by decide +kernel
theorem dL_law_484 : decode cL_law 484 = .ok (.invokevirtual 157, 3) := by decide +kernel
theorem dL_law_487 : decode cL_law 487 = .ok (.istore 7, 2) := by decide +kernel
theorem dL_law_489 : decode cL_law 489 = .ok (.aload_n 2, 1) := by decide +kernel
theorem dL_law_490 : decode cL_law 490 = .ok (.invokevirtual 142, 3) := by decide +kernel
theorem dL_law_493 : decode cL_law 493 = .ok (.iload 6, 2) := by decide +kernel
theorem dL_law_495 : decode cL_law 495 = .ok (.if_icmp .eq 5, 3) := by decide +kernel
theorem dL_law_500 : decode cL_law 500 = .ok (.iload 6, 2) := by decide +kernel
theorem dL_law_502 : decode cL_law 502 = .ok (.ifCond .ne 15, 3) := by decide +kernel
theorem dL_law_517 : decode cL_law 517 = .ok (.goto 1771, 3) := by decide +kernel
theorem dL_law_520 : decode cL_law 520 = .ok (.aload_n 1, 1) := by decide +kernel
theorem dL_law_521 : decode cL_law 521 = .ok (.aload_n 0, 1) := by decide +kernel
theorem dL_law_522 : decode cL_law 522 = .ok (.iload 5, 2) := by decide +kernel
theorem dL_law_524 : decode cL_law 524 = .ok (.iconst 1, 1) := by decide +kernel
theorem dL_law_525 : decode cL_law 525 = .ok (.iadd, 1) := by decide +kernel
theorem dL_law_526 : decode cL_law 526 = .ok (.iaload, 1) := by decide +kernel
theorem dL_law_527 : decode cL_law 527 = .ok (.aload_n 3, 1) := by decide +kernel
theorem dL_law_528 : decode cL_law 528 = .ok (.invokestatic 158, 3) := by decide +kernel
theorem dL_law_531 : decode cL_law 531 = .ok (.istore 6, 2) := by decide +kernel
theorem dL_law_533 : decode cL_law 533 = .ok (.aload_n 2, 1) := by decide +kernel
theorem dL_law_534 : decode cL_law 534 = .ok (.aload_n 0, 1) := by decide +kernel
theorem dL_law_535 : decode cL_law 535 = .ok (.iload 5, 2) := by decide +kernel
theorem dL_law_537 : decode cL_law 537 = .ok (.iconst 1, 1) := by decide +kernel
theorem dL_law_538 : decode cL_law 538 = .ok (.iadd, 1) := by decide +kernel
theorem dL_law_539 : decode cL_law 539 = .ok (.iaload, 1) := by decide +kernel
theorem dL_law_540 : decode cL_law 540 = .ok (.invokevirtual 160, 3) := by decide +kernel
theorem dL_law_543 : decode cL_law 543 = .ok (.istore 7, 2) := by decide +kernel
theorem dL_law_545 : decode cL_law 545 = .ok (.aload_n 2, 1) := by decide +kernel
theorem dL_law_546 : decode cL_law 546 = .ok (.invokevirtual 142, 3) := by decide +kernel
theorem dL_law_549 : decode cL_law 549 = .ok (.iload 6, 2) := by decide +kernel
theorem dL_law_551 : decode cL_law 551 = .ok (.if_icmp .eq 5, 3) := by decide +kernel
theorem dL_law_556 : decode cL_law 556 = .ok (.iload 6, 2) := by decide +kernel
theorem dL_law_558 : decode cL_law 558 = .ok (.ifCond .ne 15, 3) := by decide +kernel
theorem dL_law_573 : decode cL_law 573 = .ok (.goto 1715, 3) := by decide +kernel
theorem dL_law_576 : decode cL_law 576 = .ok (.aload_n 1, 1) := by decide +kernel
theorem dL_law_577 : decode cL_law 577 = .ok (.aload_n 0, 1) := by decide +kernel
theorem dL_law_578 : decode cL_law 578 = .ok (.iload 5, 2) := by decide +kernel
theorem dL_law_580 : decode cL_law 580 = .ok (.iconst 1, 1) := by decide +kernel
theorem dL_law_581 : decode cL_law 581 = .ok (.iadd, 1) := by decide +kernel
theorem dL_law_582 : decode cL_law 582 = .ok (.iaload, 1) := by decide +kernel
theorem dL_law_583 : decode cL_law 583 = .ok (.aload_n 3, 1) := by decide +kernel
theorem dL_law_584 : decode cL_law 584 = .ok (.invokestatic 161, 3) := by decide +kernel
theorem dL_law_587 : decode cL_law 587 = .ok (.istore 6, 2) := by decide +kernel
theorem dL_law_589 : decode cL_law 589 = .ok (.aload_n 2, 1) := by decide +kernel
theorem dL_law_590 : decode cL_law 590 = .ok (.aload_n 0, 1) := by decide +kernel
theorem dL_law_591 : decode cL_law 591 = .ok (.iload 5, 2) := by decide +kernel
theorem dL_law_593 : decode cL_law 593 = .ok (.iconst 1, 1) := by decide +kernel
theorem dL_law_594 : decode cL_law 594 = .ok (.iadd, 1) := by decide +kernel
theorem dL_law_595 : decode cL_law 595 = .ok (.iaload, 1) := by decide +kernel
theorem dL_law_596 : decode cL_law 596 = .ok (.invokevirtual 163, 3) := by decide +kernel
theorem dL_law_599 : decode cL_law 599 = .ok (.istore 7, 2) := by decide +kernel
theorem dL_law_601 : decode cL_law 601 = .ok (.aload_n 2, 1) := by decide +kernel
theorem dL_law_602 : decode cL_law 602 = .ok (.invokevirtual 142, 3) := by decide +kernel
theorem dL_law_605 : decode cL_law 605 = .ok (.iload 6, 2) := by decide +kernel
theorem dL_law_607 : decode cL_law 607 = .ok (.if_icmp .eq 5, 3) := by decide +kernel
theorem dL_law_612 : decode cL_law 612 = .ok (.iload 6, 2) := by decide +kernel
theorem dL_law_614 : decode cL_law 614 = .ok (.ifCond .ne 15, 3) := by decide +kernel
theorem dL_law_629 : decode cL_law 629 = .ok (.goto 1659, 3) := by decide +kernel
theorem dL_law_632 : decode cL_law 632 = .ok (.aload_n 1, 1) := by decide +kernel
theorem dL_law_633 : decode cL_law 633 = .ok (.aload_n 0, 1) := by decide +kernel
theorem dL_law_634 : decode cL_law 634 = .ok (.iload 5, 2) := by decide +kernel
theorem dL_law_636 : decode cL_law 636 = .ok (.iconst 1, 1) := by decide +kernel
theorem dL_law_637 : decode cL_law 637 = .ok (.iadd, 1) := by decide +kernel
theorem dL_law_638 : decode cL_law 638 = .ok (.iaload, 1) := by decide +kernel
theorem dL_law_639 : decode cL_law 639 = .ok (.aload_n 3, 1) := by decide +kernel
theorem dL_law_640 : decode cL_law 640 = .ok (.invokestatic 164, 3) := by decide +kernel
theorem dL_law_643 : decode cL_law 643 = .ok (.istore 6, 2) := by decide +kernel
theorem dL_law_645 : decode cL_law 645 = .ok (.aload_n 2, 1) := by decide +kernel
theorem dL_law_646 : decode cL_law 646 = .ok (.aload_n 0, 1) := by decide +kernel
theorem dL_law_647 : decode cL_law 647 = .ok (.iload 5, 2) := by decide +kernel
theorem dL_law_649 : decode cL_law 649 = .ok (.iconst 1, 1) := by decide +kernel
theorem dL_law_650 : decode cL_law 650 = .ok (.iadd, 1) := by decide +kernel
theorem dL_law_651 : decode cL_law 651 = .ok (.iaload, 1) := by decide +kernel
theorem dL_law_652 : decode cL_law 652 = .ok (.invokevirtual 166, 3) := by decide +kernel
theorem dL_law_655 : decode cL_law 655 = .ok (.istore 7, 2) := by decide +kernel
theorem dL_law_657 : decode cL_law 657 = .ok (.aload_n 2, 1) := by decide +kernel
theorem dL_law_658 : decode cL_law 658 = .ok (.invokevirtual 142, 3) := by decide +kernel
theorem dL_law_661 : decode cL_law 661 = .ok (.iload 6, 2) := by decide +kernel
theorem dL_law_663 : decode cL_law 663 = .ok (.if_icmp .eq 5, 3) := by decide +kernel
theorem dL_law_668 : decode cL_law 668 = .ok (.iload 6, 2) := by decide +kernel
theorem dL_law_670 : decode cL_law 670 = .ok (.ifCond .ne 15, 3) := by decide +kernel
theorem dL_law_685 : decode cL_law 685 = .ok (.goto 1603, 3) := by decide +kernel
theorem dL_law_688 : decode cL_law 688 = .ok (.aload_n 1, 1) := by decide +kernel
theorem dL_law_689 : decode cL_law 689 = .ok (.aload_n 3, 1) := by decide +kernel
theorem dL_law_690 : decode cL_law 690 = .ok (.invokestatic 167, 3) := by decide +kernel
theorem dL_law_693 : decode cL_law 693 = .ok (.istore 6, 2) := by decide +kernel
theorem dL_law_695 : decode cL_law 695 = .ok (.aload_n 2, 1) := by decide +kernel
theorem dL_law_696 : decode cL_law 696 = .ok (.invokevirtual 170, 3) := by decide +kernel
theorem dL_law_699 : decode cL_law 699 = .ok (.istore 7, 2) := by decide +kernel
theorem dL_law_701 : decode cL_law 701 = .ok (.aload_n 2, 1) := by decide +kernel
theorem dL_law_702 : decode cL_law 702 = .ok (.invokevirtual 142, 3) := by decide +kernel
theorem dL_law_705 : decode cL_law 705 = .ok (.iload 6, 2) := by decide +kernel
theorem dL_law_707 : decode cL_law 707 = .ok (.if_icmp .eq 5, 3) := by decide +kernel
theorem dL_law_712 : decode cL_law 712 = .ok (.iload 6, 2) := by decide +kernel
theorem dL_law_714 : decode cL_law 714 = .ok (.ifCond .ne 15, 3) := by decide +kernel
theorem dL_law_717 : decode cL_law 717 = .ok (.aload_n 3, 1) := by decide +kernel
theorem dL_law_718 : decode cL_law 718 = .ok (.iconst 0, 1) := by decide +kernel
theorem dL_law_719 : decode cL_law 719 = .ok (.laload, 1) := by decide +kernel
theorem dL_law_720 : decode cL_law 720 = .ok (.iload 7, 2) := by decide +kernel
theorem dL_law_722 : decode cL_law 722 = .ok (.i2l, 1) := by decide +kernel
theorem dL_law_723 : decode cL_law 723 = .ok (.lcmp, 1) := by decide +kernel
theorem dL_law_724 : decode cL_law 724 = .ok (.ifCond .eq 5, 3) := by decide +kernel
theorem dL_law_729 : decode cL_law 729 = .ok (.goto 1559, 3) := by decide +kernel
theorem dL_law_732 : decode cL_law 732 = .ok (.aload_n 1, 1) := by decide +kernel
theorem dL_law_733 : decode cL_law 733 = .ok (.aload_n 0, 1) := by decide +kernel
theorem dL_law_734 : decode cL_law 734 = .ok (.iload 5, 2) := by decide +kernel
theorem dL_law_736 : decode cL_law 736 = .ok (.iconst 1, 1) := by decide +kernel
theorem dL_law_737 : decode cL_law 737 = .ok (.iadd, 1) := by decide +kernel
theorem dL_law_738 : decode cL_law 738 = .ok (.iaload, 1) := by decide +kernel
theorem dL_law_739 : decode cL_law 739 = .ok (.aload_n 0, 1) := by decide +kernel
theorem dL_law_740 : decode cL_law 740 = .ok (.iload 5, 2) := by decide +kernel
theorem dL_law_742 : decode cL_law 742 = .ok (.iconst 2, 1) := by decide +kernel
theorem dL_law_743 : decode cL_law 743 = .ok (.iadd, 1) := by decide +kernel
theorem dL_law_744 : decode cL_law 744 = .ok (.iaload, 1) := by decide +kernel
theorem dL_law_745 : decode cL_law 745 = .ok (.aload_n 0, 1) := by decide +kernel
theorem dL_law_746 : decode cL_law 746 = .ok (.iload 5, 2) := by decide +kernel
theorem dL_law_748 : decode cL_law 748 = .ok (.iconst 3, 1) := by decide +kernel
theorem dL_law_749 : decode cL_law 749 = .ok (.iadd, 1) := by decide +kernel
theorem dL_law_750 : decode cL_law 750 = .ok (.iaload, 1) := by decide +kernel
theorem dL_law_751 : decode cL_law 751 = .ok (.aload_n 0, 1) := by decide +kernel
theorem dL_law_752 : decode cL_law 752 = .ok (.iload 5, 2) := by decide +kernel
theorem dL_law_754 : decode cL_law 754 = .ok (.iconst 4, 1) := by decide +kernel
theorem dL_law_755 : decode cL_law 755 = .ok (.iadd, 1) := by decide +kernel
theorem dL_law_756 : decode cL_law 756 = .ok (.iaload, 1) := by decide +kernel
theorem dL_law_757 : decode cL_law 757 = .ok (.aload_n 0, 1) := by decide +kernel
theorem dL_law_758 : decode cL_law 758 = .ok (.iload 5, 2) := by decide +kernel
theorem dL_law_760 : decode cL_law 760 = .ok (.iconst 5, 1) := by decide +kernel
theorem dL_law_761 : decode cL_law 761 = .ok (.iadd, 1) := by decide +kernel
theorem dL_law_762 : decode cL_law 762 = .ok (.iaload, 1) := by decide +kernel
theorem dL_law_763 : decode cL_law 763 = .ok (.aload_n 3, 1) := by decide +kernel
theorem dL_law_764 : decode cL_law 764 = .ok (.invokestatic 171, 3) := by decide +kernel
theorem dL_law_767 : decode cL_law 767 = .ok (.istore 6, 2) := by decide +kernel
theorem dL_law_769 : decode cL_law 769 = .ok (.aload_n 2, 1) := by decide +kernel
theorem dL_law_770 : decode cL_law 770 = .ok (.aload_n 0, 1) := by decide +kernel
theorem dL_law_771 : decode cL_law 771 = .ok (.iload 5, 2) := by decide +kernel
theorem dL_law_773 : decode cL_law 773 = .ok (.iconst 1, 1) := by decide +kernel
theorem dL_law_774 : decode cL_law 774 = .ok (.iadd, 1) := by decide +kernel
theorem dL_law_775 : decode cL_law 775 = .ok (.iaload, 1) := by decide +kernel
theorem dL_law_776 : decode cL_law 776 = .ok (.aload_n 0, 1) := by decide +kernel
theorem dL_law_777 : decode cL_law 777 = .ok (.iload 5, 2) := by decide +kernel
theorem dL_law_779 : decode cL_law 779 = .ok (.iconst 2, 1) := by decide +kernel
theorem dL_law_780 : decode cL_law 780 = .ok (.iadd, 1) := by decide +kernel
theorem dL_law_781 : decode cL_law 781 = .ok (.iaload, 1) := by decide +kernel
theorem dL_law_782 : decode cL_law 782 = .ok (.aload_n 0, 1) := by decide +kernel
theorem dL_law_783 : decode cL_law 783 = .ok (.iload 5, 2) := by decide +kernel
theorem dL_law_785 : decode cL_law 785 = .ok (.iconst 3, 1) := by decide +kernel
theorem dL_law_786 : decode cL_law 786 = .ok (.iadd, 1) := by decide +kernel
theorem dL_law_787 : decode cL_law 787 = .ok (.iaload, 1) := by decide +kernel
theorem dL_law_788 : decode cL_law 788 = .ok (.aload_n 0, 1) := by decide +kernel
theorem dL_law_789 : decode cL_law 789 = .ok (.iload 5, 2) := by decide +kernel
theorem dL_law_791 : decode cL_law 791 = .ok (.iconst 4, 1) := by decide +kernel
theorem dL_law_792 : decode cL_law 792 = .ok (.iadd, 1) := by decide +kernel
theorem dL_law_793 : decode cL_law 793 = .ok (.iaload, 1) := by decide +kernel
theorem dL_law_794 : decode cL_law 794 = .ok (.aload_n 0, 1) := by decide +kernel
theorem dL_law_795 : decode cL_law 795 = .ok (.iload 5, 2) := by decide +kernel
theorem dL_law_797 : decode cL_law 797 = .ok (.iconst 5, 1) := by decide +kernel
theorem dL_law_798 : decode cL_law 798 = .ok (.iadd, 1) := by decide +kernel
theorem dL_law_799 : decode cL_law 799 = .ok (.iaload, 1) := by decide +kernel
theorem dL_law_800 : decode cL_law 800 = .ok (.invokevirtual 174, 3) := by decide +kernel
theorem dL_law_803 : decode cL_law 803 = .ok (.istore 7, 2) := by decide +kernel
theorem dL_law_805 : decode cL_law 805 = .ok (.aload_n 2, 1) := by decide +kernel
theorem dL_law_806 : decode cL_law 806 = .ok (.invokevirtual 142, 3) := by decide +kernel
theorem dL_law_809 : decode cL_law 809 = .ok (.iload 6, 2) := by decide +kernel
theorem dL_law_811 : decode cL_law 811 = .ok (.if_icmp .eq 5, 3) := by decide +kernel
theorem dL_law_816 : decode cL_law 816 = .ok (.iload 6, 2) := by decide +kernel
theorem dL_law_818 : decode cL_law 818 = .ok (.ifCond .ne 15, 3) := by decide +kernel
theorem dL_law_833 : decode cL_law 833 = .ok (.goto 1455, 3) := by decide +kernel
theorem dL_law_836 : decode cL_law 836 = .ok (.aload_n 1, 1) := by decide +kernel
theorem dL_law_837 : decode cL_law 837 = .ok (.aload_n 0, 1) := by decide +kernel
theorem dL_law_838 : decode cL_law 838 = .ok (.iload 5, 2) := by decide +kernel
theorem dL_law_840 : decode cL_law 840 = .ok (.iconst 1, 1) := by decide +kernel
theorem dL_law_841 : decode cL_law 841 = .ok (.iadd, 1) := by decide +kernel
theorem dL_law_842 : decode cL_law 842 = .ok (.iaload, 1) := by decide +kernel
theorem dL_law_843 : decode cL_law 843 = .ok (.aload_n 3, 1) := by decide +kernel
theorem dL_law_844 : decode cL_law 844 = .ok (.invokestatic 175, 3) := by decide +kernel
theorem dL_law_847 : decode cL_law 847 = .ok (.istore 6, 2) := by decide +kernel
theorem dL_law_849 : decode cL_law 849 = .ok (.aload_n 2, 1) := by decide +kernel
theorem dL_law_850 : decode cL_law 850 = .ok (.aload_n 0, 1) := by decide +kernel
theorem dL_law_851 : decode cL_law 851 = .ok (.iload 5, 2) := by decide +kernel
theorem dL_law_853 : decode cL_law 853 = .ok (.iconst 1, 1) := by decide +kernel
theorem dL_law_854 : decode cL_law 854 = .ok (.iadd, 1) := by decide +kernel
theorem dL_law_855 : decode cL_law 855 = .ok (.iaload, 1) := by decide +kernel
theorem dL_law_856 : decode cL_law 856 = .ok (.invokevirtual 177, 3) := by decide +kernel
theorem dL_law_859 : decode cL_law 859 = .ok (.istore 7, 2) := by decide +kernel
theorem dL_law_861 : decode cL_law 861 = .ok (.aload_n 2, 1) := by decide +kernel
theorem dL_law_862 : decode cL_law 862 = .ok (.invokevirtual 142, 3) := by decide +kernel
theorem dL_law_865 : decode cL_law 865 = .ok (.iload 6, 2) := by decide +kernel
theorem dL_law_867 : decode cL_law 867 = .ok (.if_icmp .eq 5, 3) := by decide +kernel
theorem dL_law_872 : decode cL_law 872 = .ok (.iload 6, 2) := by decide +kernel
theorem dL_law_874 : decode cL_law 874 = .ok (.ifCond .ne 15, 3) := by decide +kernel
theorem dL_law_889 : decode cL_law 889 = .ok (.goto 1399, 3) := by decide +kernel
theorem dL_law_892 : decode cL_law 892 = .ok (.aload_n 1, 1) := by decide +kernel
theorem dL_law_893 : decode cL_law 893 = .ok (.aload_n 0, 1) := by decide +kernel
theorem dL_law_894 : decode cL_law 894 = .ok (.iload 5, 2) := by decide +kernel
theorem dL_law_896 : decode cL_law 896 = .ok (.iconst 1, 1) := by decide +kernel
theorem dL_law_897 : decode cL_law 897 = .ok (.iadd, 1) := by decide +kernel
theorem dL_law_898 : decode cL_law 898 = .ok (.iaload, 1) := by decide +kernel
theorem dL_law_899 : decode cL_law 899 = .ok (.aload_n 3, 1) := by decide +kernel
theorem dL_law_900 : decode cL_law 900 = .ok (.invokestatic 178, 3) := by decide +kernel
theorem dL_law_903 : decode cL_law 903 = .ok (.istore 6, 2) := by decide +kernel
theorem dL_law_905 : decode cL_law 905 = .ok (.aload_n 2, 1) := by decide +kernel
theorem dL_law_906 : decode cL_law 906 = .ok (.aload_n 0, 1) := by decide +kernel
theorem dL_law_907 : decode cL_law 907 = .ok (.iload 5, 2) := by decide +kernel
theorem dL_law_909 : decode cL_law 909 = .ok (.iconst 1, 1) := by decide +kernel
theorem dL_law_910 : decode cL_law 910 = .ok (.iadd, 1) := by decide +kernel
theorem dL_law_911 : decode cL_law 911 = .ok (.iaload, 1) := by decide +kernel
theorem dL_law_912 : decode cL_law 912 = .ok (.invokevirtual 180, 3) := by decide +kernel
theorem dL_law_915 : decode cL_law 915 = .ok (.istore 7, 2) := by decide +kernel
theorem dL_law_917 : decode cL_law 917 = .ok (.aload_n 2, 1) := by decide +kernel
theorem dL_law_918 : decode cL_law 918 = .ok (.invokevirtual 142, 3) := by decide +kernel
theorem dL_law_921 : decode cL_law 921 = .ok (.iload 6, 2) := by decide +kernel
theorem dL_law_923 : decode cL_law 923 = .ok (.if_icmp .eq 5, 3) := by decide +kernel
theorem dL_law_928 : decode cL_law 928 = .ok (.iload 6, 2) := by decide +kernel
theorem dL_law_930 : decode cL_law 930 = .ok (.ifCond .ne 15, 3) := by decide +kernel
theorem dL_law_945 : decode cL_law 945 = .ok (.goto 1343, 3) := by decide +kernel
theorem dL_law_948 : decode cL_law 948 = .ok (.aload_n 1, 1) := by decide +kernel
theorem dL_law_949 : decode cL_law 949 = .ok (.aload_n 0, 1) := by decide +kernel
theorem dL_law_950 : decode cL_law 950 = .ok (.iload 5, 2) := by decide +kernel
theorem dL_law_952 : decode cL_law 952 = .ok (.iconst 1, 1) := by decide +kernel
theorem dL_law_953 : decode cL_law 953 = .ok (.iadd, 1) := by decide +kernel
theorem dL_law_954 : decode cL_law 954 = .ok (.iaload, 1) := by decide +kernel
theorem dL_law_955 : decode cL_law 955 = .ok (.aload_n 3, 1) := by decide +kernel
theorem dL_law_956 : decode cL_law 956 = .ok (.invokestatic 181, 3) := by decide +kernel
theorem dL_law_959 : decode cL_law 959 = .ok (.istore 6, 2) := by decide +kernel
theorem dL_law_961 : decode cL_law 961 = .ok (.aload_n 2, 1) := by decide +kernel
theorem dL_law_962 : decode cL_law 962 = .ok (.aload_n 0, 1) := by decide +kernel
theorem dL_law_963 : decode cL_law 963 = .ok (.iload 5, 2) := by decide +kernel
theorem dL_law_965 : decode cL_law 965 = .ok (.iconst 1, 1) := by decide +kernel
theorem dL_law_966 : decode cL_law 966 = .ok (.iadd, 1) := by decide +kernel
theorem dL_law_967 : decode cL_law 967 = .ok (.iaload, 1) := by decide +kernel
theorem dL_law_968 : decode cL_law 968 = .ok (.invokevirtual 183, 3) := by decide +kernel
theorem dL_law_971 : decode cL_law 971 = .ok (.istore 7, 2) := by decide +kernel
theorem dL_law_973 : decode cL_law 973 = .ok (.aload_n 2, 1) := by decide +kernel
theorem dL_law_974 : decode cL_law 974 = .ok (.invokevirtual 142, 3) := by decide +kernel
theorem dL_law_977 : decode cL_law 977 = .ok (.iload 6, 2) := by decide +kernel
theorem dL_law_979 : decode cL_law 979 = .ok (.if_icmp .eq 5, 3) := by decide +kernel
theorem dL_law_984 : decode cL_law 984 = .ok (.iload 6, 2) := by decide +kernel
theorem dL_law_986 : decode cL_law 986 = .ok (.ifCond .ne 15, 3) := by decide +kernel
theorem dL_law_1001 : decode cL_law 1001 = .ok (.goto 1287, 3) := by decide +kernel
theorem dL_law_1004 : decode cL_law 1004 = .ok (.aload_n 1, 1) := by decide +kernel
theorem dL_law_1005 : decode cL_law 1005 = .ok (.aload_n 0, 1) := by decide +kernel
theorem dL_law_1006 : decode cL_law 1006 = .ok (.iload 5, 2) := by decide +kernel
theorem dL_law_1008 : decode cL_law 1008 = .ok (.iconst 1, 1) := by decide +kernel
theorem dL_law_1009 : decode cL_law 1009 = .ok (.iadd, 1) := by decide +kernel
theorem dL_law_1010 : decode cL_law 1010 = .ok (.iaload, 1) := by decide +kernel
theorem dL_law_1011 : decode cL_law 1011 = .ok (.aload_n 3, 1) := by decide +kernel
theorem dL_law_1012 : decode cL_law 1012 = .ok (.invokestatic 184, 3) := by decide +kernel
theorem dL_law_1015 : decode cL_law 1015 = .ok (.istore 6, 2) := by decide +kernel
theorem dL_law_1017 : decode cL_law 1017 = .ok (.aload_n 2, 1) := by decide +kernel
theorem dL_law_1018 : decode cL_law 1018 = .ok (.aload_n 0, 1) := by decide +kernel
theorem dL_law_1019 : decode cL_law 1019 = .ok (.iload 5, 2) := by decide +kernel
theorem dL_law_1021 : decode cL_law 1021 = .ok (.iconst 1, 1) := by decide +kernel
theorem dL_law_1022 : decode cL_law 1022 = .ok (.iadd, 1) := by decide +kernel
theorem dL_law_1023 : decode cL_law 1023 = .ok (.iaload, 1) := by decide +kernel
theorem dL_law_1024 : decode cL_law 1024 = .ok (.invokevirtual 186, 3) := by decide +kernel
theorem dL_law_1027 : decode cL_law 1027 = .ok (.istore 7, 2) := by decide +kernel
theorem dL_law_1029 : decode cL_law 1029 = .ok (.aload_n 2, 1) := by decide +kernel
theorem dL_law_1030 : decode cL_law 1030 = .ok (.invokevirtual 142, 3) := by decide +kernel
theorem dL_law_1033 : decode cL_law 1033 = .ok (.iload 6, 2) := by decide +kernel
theorem dL_law_1035 : decode cL_law 1035 = .ok (.if_icmp .eq 5, 3) := by decide +kernel
theorem dL_law_1040 : decode cL_law 1040 = .ok (.iload 6, 2) := by decide +kernel
theorem dL_law_1042 : decode cL_law 1042 = .ok (.ifCond .ne 15, 3) := by decide +kernel
theorem dL_law_1057 : decode cL_law 1057 = .ok (.goto 1231, 3) := by decide +kernel
theorem dL_law_1060 : decode cL_law 1060 = .ok (.aload_n 1, 1) := by decide +kernel
theorem dL_law_1061 : decode cL_law 1061 = .ok (.aload_n 0, 1) := by decide +kernel
theorem dL_law_1062 : decode cL_law 1062 = .ok (.iload 5, 2) := by decide +kernel
theorem dL_law_1064 : decode cL_law 1064 = .ok (.iconst 1, 1) := by decide +kernel
theorem dL_law_1065 : decode cL_law 1065 = .ok (.iadd, 1) := by decide +kernel
theorem dL_law_1066 : decode cL_law 1066 = .ok (.iaload, 1) := by decide +kernel
theorem dL_law_1067 : decode cL_law 1067 = .ok (.aload_n 3, 1) := by decide +kernel
theorem dL_law_1068 : decode cL_law 1068 = .ok (.invokestatic 187, 3) := by decide +kernel
theorem dL_law_1071 : decode cL_law 1071 = .ok (.istore 6, 2) := by decide +kernel
theorem dL_law_1073 : decode cL_law 1073 = .ok (.aload_n 2, 1) := by decide +kernel
theorem dL_law_1074 : decode cL_law 1074 = .ok (.aload_n 0, 1) := by decide +kernel
theorem dL_law_1075 : decode cL_law 1075 = .ok (.iload 5, 2) := by decide +kernel
theorem dL_law_1077 : decode cL_law 1077 = .ok (.iconst 1, 1) := by decide +kernel
theorem dL_law_1078 : decode cL_law 1078 = .ok (.iadd, 1) := by decide +kernel
theorem dL_law_1079 : decode cL_law 1079 = .ok (.iaload, 1) := by decide +kernel
theorem dL_law_1080 : decode cL_law 1080 = .ok (.invokevirtual 189, 3) := by decide +kernel
theorem dL_law_1083 : decode cL_law 1083 = .ok (.istore 7, 2) := by decide +kernel
theorem dL_law_1085 : decode cL_law 1085 = .ok (.aload_n 2, 1) := by decide +kernel
theorem dL_law_1086 : decode cL_law 1086 = .ok (.invokevirtual 142, 3) := by decide +kernel
theorem dL_law_1089 : decode cL_law 1089 = .ok (.iload 6, 2) := by decide +kernel
theorem dL_law_1091 : decode cL_law 1091 = .ok (.if_icmp .eq 5, 3) := by decide +kernel
theorem dL_law_1096 : decode cL_law 1096 = .ok (.iload 6, 2) := by decide +kernel
theorem dL_law_1098 : decode cL_law 1098 = .ok (.ifCond .ne 15, 3) := by decide +kernel
theorem dL_law_1113 : decode cL_law 1113 = .ok (.goto 1175, 3) := by decide +kernel
theorem dL_law_1116 : decode cL_law 1116 = .ok (.aload_n 1, 1) := by decide +kernel
theorem dL_law_1117 : decode cL_law 1117 = .ok (.aload_n 0, 1) := by decide +kernel
theorem dL_law_1118 : decode cL_law 1118 = .ok (.iload 5, 2) := by decide +kernel
theorem dL_law_1120 : decode cL_law 1120 = .ok (.iconst 1, 1) := by decide +kernel
theorem dL_law_1121 : decode cL_law 1121 = .ok (.iadd, 1) := by decide +kernel
theorem dL_law_1122 : decode cL_law 1122 = .ok (.iaload, 1) := by decide +kernel
theorem dL_law_1123 : decode cL_law 1123 = .ok (.aload_n 0, 1) := by decide +kernel
theorem dL_law_1124 : decode cL_law 1124 = .ok (.iload 5, 2) := by decide +kernel
theorem dL_law_1126 : decode cL_law 1126 = .ok (.iconst 2, 1) := by decide +kernel
theorem dL_law_1127 : decode cL_law 1127 = .ok (.iadd, 1) := by decide +kernel
theorem dL_law_1128 : decode cL_law 1128 = .ok (.iaload, 1) := by decide +kernel
theorem dL_law_1129 : decode cL_law 1129 = .ok (.aload_n 3, 1) := by decide +kernel
theorem dL_law_1130 : decode cL_law 1130 = .ok (.invokestatic 190, 3) := by decide +kernel
theorem dL_law_1133 : decode cL_law 1133 = .ok (.istore 6, 2) := by decide +kernel
theorem dL_law_1135 : decode cL_law 1135 = .ok (.aload_n 2, 1) := by decide +kernel
theorem dL_law_1136 : decode cL_law 1136 = .ok (.aload_n 0, 1) := by decide +kernel
theorem dL_law_1137 : decode cL_law 1137 = .ok (.iload 5, 2) := by decide +kernel
theorem dL_law_1139 : decode cL_law 1139 = .ok (.iconst 1, 1) := by decide +kernel
theorem dL_law_1140 : decode cL_law 1140 = .ok (.iadd, 1) := by decide +kernel
theorem dL_law_1141 : decode cL_law 1141 = .ok (.iaload, 1) := by decide +kernel
theorem dL_law_1142 : decode cL_law 1142 = .ok (.aload_n 0, 1) := by decide +kernel
theorem dL_law_1143 : decode cL_law 1143 = .ok (.iload 5, 2) := by decide +kernel
theorem dL_law_1145 : decode cL_law 1145 = .ok (.iconst 2, 1) := by decide +kernel
theorem dL_law_1146 : decode cL_law 1146 = .ok (.iadd, 1) := by decide +kernel
theorem dL_law_1147 : decode cL_law 1147 = .ok (.iaload, 1) := by decide +kernel
theorem dL_law_1148 : decode cL_law 1148 = .ok (.invokevirtual 192, 3) := by decide +kernel
theorem dL_law_1151 : decode cL_law 1151 = .ok (.istore 7, 2) := by decide +kernel
theorem dL_law_1153 : decode cL_law 1153 = .ok (.aload_n 2, 1) := by decide +kernel
theorem dL_law_1154 : decode cL_law 1154 = .ok (.invokevirtual 142, 3) := by decide +kernel
theorem dL_law_1157 : decode cL_law 1157 = .ok (.iload 6, 2) := by decide +kernel
theorem dL_law_1159 : decode cL_law 1159 = .ok (.if_icmp .eq 5, 3) := by decide +kernel
theorem dL_law_1164 : decode cL_law 1164 = .ok (.iload 6, 2) := by decide +kernel
theorem dL_law_1166 : decode cL_law 1166 = .ok (.ifCond .ne 22, 3) := by decide +kernel
theorem dL_law_1188 : decode cL_law 1188 = .ok (.goto 1100, 3) := by decide +kernel
theorem dL_law_1191 : decode cL_law 1191 = .ok (.aload_n 1, 1) := by decide +kernel
theorem dL_law_1192 : decode cL_law 1192 = .ok (.aload_n 0, 1) := by decide +kernel
theorem dL_law_1193 : decode cL_law 1193 = .ok (.iload 5, 2) := by decide +kernel
theorem dL_law_1195 : decode cL_law 1195 = .ok (.iconst 1, 1) := by decide +kernel
theorem dL_law_1196 : decode cL_law 1196 = .ok (.iadd, 1) := by decide +kernel
theorem dL_law_1197 : decode cL_law 1197 = .ok (.iaload, 1) := by decide +kernel
theorem dL_law_1198 : decode cL_law 1198 = .ok (.aload_n 3, 1) := by decide +kernel
theorem dL_law_1199 : decode cL_law 1199 = .ok (.invokestatic 193, 3) := by decide +kernel
theorem dL_law_1202 : decode cL_law 1202 = .ok (.istore 6, 2) := by decide +kernel
theorem dL_law_1204 : decode cL_law 1204 = .ok (.aload_n 2, 1) := by decide +kernel
theorem dL_law_1205 : decode cL_law 1205 = .ok (.aload_n 0, 1) := by decide +kernel
theorem dL_law_1206 : decode cL_law 1206 = .ok (.iload 5, 2) := by decide +kernel
theorem dL_law_1208 : decode cL_law 1208 = .ok (.iconst 1, 1) := by decide +kernel
theorem dL_law_1209 : decode cL_law 1209 = .ok (.iadd, 1) := by decide +kernel
theorem dL_law_1210 : decode cL_law 1210 = .ok (.iaload, 1) := by decide +kernel
theorem dL_law_1211 : decode cL_law 1211 = .ok (.invokevirtual 195, 3) := by decide +kernel
theorem dL_law_1214 : decode cL_law 1214 = .ok (.istore 7, 2) := by decide +kernel
theorem dL_law_1216 : decode cL_law 1216 = .ok (.aload_n 2, 1) := by decide +kernel
theorem dL_law_1217 : decode cL_law 1217 = .ok (.invokevirtual 142, 3) := by decide +kernel
theorem dL_law_1220 : decode cL_law 1220 = .ok (.iload 6, 2) := by decide +kernel
theorem dL_law_1222 : decode cL_law 1222 = .ok (.if_icmp .eq 5, 3) := by decide +kernel
theorem dL_law_1227 : decode cL_law 1227 = .ok (.iload 6, 2) := by decide +kernel
theorem dL_law_1229 : decode cL_law 1229 = .ok (.ifCond .ne 15, 3) := by decide +kernel
theorem dL_law_1244 : decode cL_law 1244 = .ok (.goto 1044, 3) := by decide +kernel
theorem dL_law_1247 : decode cL_law 1247 = .ok (.aload_n 1, 1) := by decide +kernel
theorem dL_law_1248 : decode cL_law 1248 = .ok (.aload_n 0, 1) := by decide +kernel
theorem dL_law_1249 : decode cL_law 1249 = .ok (.iload 5, 2) := by decide +kernel
theorem dL_law_1251 : decode cL_law 1251 = .ok (.iconst 1, 1) := by decide +kernel
theorem dL_law_1252 : decode cL_law 1252 = .ok (.iadd, 1) := by decide +kernel
theorem dL_law_1253 : decode cL_law 1253 = .ok (.iaload, 1) := by decide +kernel
theorem dL_law_1254 : decode cL_law 1254 = .ok (.aload_n 0, 1) := by decide +kernel
theorem dL_law_1255 : decode cL_law 1255 = .ok (.iload 5, 2) := by decide +kernel
theorem dL_law_1257 : decode cL_law 1257 = .ok (.iconst 2, 1) := by decide +kernel
theorem dL_law_1258 : decode cL_law 1258 = .ok (.iadd, 1) := by decide +kernel
theorem dL_law_1259 : decode cL_law 1259 = .ok (.iaload, 1) := by decide +kernel
theorem dL_law_1260 : decode cL_law 1260 = .ok (.aload_n 3, 1) := by decide +kernel
theorem dL_law_1261 : decode cL_law 1261 = .ok (.invokestatic 196, 3) := by decide +kernel
theorem dL_law_1264 : decode cL_law 1264 = .ok (.istore 6, 2) := by decide +kernel
theorem dL_law_1266 : decode cL_law 1266 = .ok (.aload_n 2, 1) := by decide +kernel
theorem dL_law_1267 : decode cL_law 1267 = .ok (.aload_n 0, 1) := by decide +kernel
theorem dL_law_1268 : decode cL_law 1268 = .ok (.iload 5, 2) := by decide +kernel
theorem dL_law_1270 : decode cL_law 1270 = .ok (.iconst 1, 1) := by decide +kernel
theorem dL_law_1271 : decode cL_law 1271 = .ok (.iadd, 1) := by decide +kernel
theorem dL_law_1272 : decode cL_law 1272 = .ok (.iaload, 1) := by decide +kernel
theorem dL_law_1273 : decode cL_law 1273 = .ok (.aload_n 0, 1) := by decide +kernel
theorem dL_law_1274 : decode cL_law 1274 = .ok (.iload 5, 2) := by decide +kernel
theorem dL_law_1276 : decode cL_law 1276 = .ok (.iconst 2, 1) := by decide +kernel
theorem dL_law_1277 : decode cL_law 1277 = .ok (.iadd, 1) := by decide +kernel
theorem dL_law_1278 : decode cL_law 1278 = .ok (.iaload, 1) := by decide +kernel
theorem dL_law_1279 : decode cL_law 1279 = .ok (.invokevirtual 198, 3) := by decide +kernel
theorem dL_law_1282 : decode cL_law 1282 = .ok (.istore 7, 2) := by decide +kernel
theorem dL_law_1284 : decode cL_law 1284 = .ok (.aload_n 2, 1) := by decide +kernel
theorem dL_law_1285 : decode cL_law 1285 = .ok (.invokevirtual 142, 3) := by decide +kernel
theorem dL_law_1288 : decode cL_law 1288 = .ok (.iload 6, 2) := by decide +kernel
theorem dL_law_1290 : decode cL_law 1290 = .ok (.if_icmp .eq 5, 3) := by decide +kernel
theorem dL_law_1295 : decode cL_law 1295 = .ok (.iload 6, 2) := by decide +kernel
theorem dL_law_1297 : decode cL_law 1297 = .ok (.ifCond .ne 15, 3) := by decide +kernel
theorem dL_law_1312 : decode cL_law 1312 = .ok (.goto 976, 3) := by decide +kernel
theorem dL_law_1315 : decode cL_law 1315 = .ok (.aload_n 1, 1) := by decide +kernel
theorem dL_law_1316 : decode cL_law 1316 = .ok (.aload_n 0, 1) := by decide +kernel
theorem dL_law_1317 : decode cL_law 1317 = .ok (.iload 5, 2) := by decide +kernel
theorem dL_law_1319 : decode cL_law 1319 = .ok (.iconst 1, 1) := by decide +kernel
theorem dL_law_1320 : decode cL_law 1320 = .ok (.iadd, 1) := by decide +kernel
theorem dL_law_1321 : decode cL_law 1321 = .ok (.iaload, 1) := by decide +kernel
theorem dL_law_1322 : decode cL_law 1322 = .ok (.aload_n 0, 1) := by decide +kernel
theorem dL_law_1323 : decode cL_law 1323 = .ok (.iload 5, 2) := by decide +kernel
theorem dL_law_1325 : decode cL_law 1325 = .ok (.iconst 2, 1) := by decide +kernel
theorem dL_law_1326 : decode cL_law 1326 = .ok (.iadd, 1) := by decide +kernel
theorem dL_law_1327 : decode cL_law 1327 = .ok (.iaload, 1) := by decide +kernel
theorem dL_law_1328 : decode cL_law 1328 = .ok (.aload_n 3, 1) := by decide +kernel
theorem dL_law_1329 : decode cL_law 1329 = .ok (.invokestatic 199, 3) := by decide +kernel
theorem dL_law_1332 : decode cL_law 1332 = .ok (.istore 6, 2) := by decide +kernel
theorem dL_law_1334 : decode cL_law 1334 = .ok (.aload_n 2, 1) := by decide +kernel
theorem dL_law_1335 : decode cL_law 1335 = .ok (.aload_n 0, 1) := by decide +kernel
theorem dL_law_1336 : decode cL_law 1336 = .ok (.iload 5, 2) := by decide +kernel
theorem dL_law_1338 : decode cL_law 1338 = .ok (.iconst 1, 1) := by decide +kernel
theorem dL_law_1339 : decode cL_law 1339 = .ok (.iadd, 1) := by decide +kernel
theorem dL_law_1340 : decode cL_law 1340 = .ok (.iaload, 1) := by decide +kernel
theorem dL_law_1341 : decode cL_law 1341 = .ok (.aload_n 0, 1) := by decide +kernel
theorem dL_law_1342 : decode cL_law 1342 = .ok (.iload 5, 2) := by decide +kernel
theorem dL_law_1344 : decode cL_law 1344 = .ok (.iconst 2, 1) := by decide +kernel
theorem dL_law_1345 : decode cL_law 1345 = .ok (.iadd, 1) := by decide +kernel
theorem dL_law_1346 : decode cL_law 1346 = .ok (.iaload, 1) := by decide +kernel
theorem dL_law_1347 : decode cL_law 1347 = .ok (.invokevirtual 201, 3) := by decide +kernel
theorem dL_law_1350 : decode cL_law 1350 = .ok (.istore 7, 2) := by decide +kernel
theorem dL_law_1352 : decode cL_law 1352 = .ok (.aload_n 2, 1) := by decide +kernel
theorem dL_law_1353 : decode cL_law 1353 = .ok (.invokevirtual 142, 3) := by decide +kernel
theorem dL_law_1356 : decode cL_law 1356 = .ok (.iload 6, 2) := by decide +kernel
theorem dL_law_1358 : decode cL_law 1358 = .ok (.if_icmp .eq 5, 3) := by decide +kernel
theorem dL_law_1363 : decode cL_law 1363 = .ok (.iload 6, 2) := by decide +kernel
theorem dL_law_1365 : decode cL_law 1365 = .ok (.ifCond .ne 15, 3) := by decide +kernel
theorem dL_law_1380 : decode cL_law 1380 = .ok (.goto 908, 3) := by decide +kernel
theorem dL_law_1383 : decode cL_law 1383 = .ok (.aload_n 1, 1) := by decide +kernel
theorem dL_law_1384 : decode cL_law 1384 = .ok (.aload_n 0, 1) := by decide +kernel
theorem dL_law_1385 : decode cL_law 1385 = .ok (.iload 5, 2) := by decide +kernel
theorem dL_law_1387 : decode cL_law 1387 = .ok (.iconst 1, 1) := by decide +kernel
theorem dL_law_1388 : decode cL_law 1388 = .ok (.iadd, 1) := by decide +kernel
theorem dL_law_1389 : decode cL_law 1389 = .ok (.iaload, 1) := by decide +kernel
theorem dL_law_1390 : decode cL_law 1390 = .ok (.aload_n 3, 1) := by decide +kernel
theorem dL_law_1391 : decode cL_law 1391 = .ok (.invokestatic 202, 3) := by decide +kernel
theorem dL_law_1394 : decode cL_law 1394 = .ok (.istore 6, 2) := by decide +kernel
theorem dL_law_1396 : decode cL_law 1396 = .ok (.aload_n 2, 1) := by decide +kernel
theorem dL_law_1397 : decode cL_law 1397 = .ok (.aload_n 0, 1) := by decide +kernel
theorem dL_law_1398 : decode cL_law 1398 = .ok (.iload 5, 2) := by decide +kernel
theorem dL_law_1400 : decode cL_law 1400 = .ok (.iconst 1, 1) := by decide +kernel
theorem dL_law_1401 : decode cL_law 1401 = .ok (.iadd, 1) := by decide +kernel
theorem dL_law_1402 : decode cL_law 1402 = .ok (.iaload, 1) := by decide +kernel
theorem dL_law_1403 : decode cL_law 1403 = .ok (.invokevirtual 204, 3) := by decide +kernel
theorem dL_law_1406 : decode cL_law 1406 = .ok (.istore 7, 2) := by decide +kernel
theorem dL_law_1408 : decode cL_law 1408 = .ok (.aload_n 2, 1) := by decide +kernel
theorem dL_law_1409 : decode cL_law 1409 = .ok (.invokevirtual 142, 3) := by decide +kernel
theorem dL_law_1412 : decode cL_law 1412 = .ok (.iload 6, 2) := by decide +kernel
theorem dL_law_1414 : decode cL_law 1414 = .ok (.if_icmp .eq 5, 3) := by decide +kernel
theorem dL_law_1419 : decode cL_law 1419 = .ok (.iload 6, 2) := by decide +kernel
theorem dL_law_1421 : decode cL_law 1421 = .ok (.ifCond .ne 15, 3) := by decide +kernel
theorem dL_law_1436 : decode cL_law 1436 = .ok (.goto 852, 3) := by decide +kernel
theorem dL_law_1439 : decode cL_law 1439 = .ok (.aload_n 1, 1) := by decide +kernel
theorem dL_law_1440 : decode cL_law 1440 = .ok (.aload_n 0, 1) := by decide +kernel
theorem dL_law_1441 : decode cL_law 1441 = .ok (.iload 5, 2) := by decide +kernel
theorem dL_law_1443 : decode cL_law 1443 = .ok (.iconst 1, 1) := by decide +kernel
theorem dL_law_1444 : decode cL_law 1444 = .ok (.iadd, 1) := by decide +kernel
theorem dL_law_1445 : decode cL_law 1445 = .ok (.iaload, 1) := by decide +kernel
theorem dL_law_1446 : decode cL_law 1446 = .ok (.aload_n 3, 1) := by decide +kernel
theorem dL_law_1447 : decode cL_law 1447 = .ok (.invokestatic 205, 3) := by decide +kernel
theorem dL_law_1450 : decode cL_law 1450 = .ok (.istore 6, 2) := by decide +kernel
theorem dL_law_1452 : decode cL_law 1452 = .ok (.aload_n 2, 1) := by decide +kernel
theorem dL_law_1453 : decode cL_law 1453 = .ok (.aload_n 0, 1) := by decide +kernel
theorem dL_law_1454 : decode cL_law 1454 = .ok (.iload 5, 2) := by decide +kernel
theorem dL_law_1456 : decode cL_law 1456 = .ok (.iconst 1, 1) := by decide +kernel
theorem dL_law_1457 : decode cL_law 1457 = .ok (.iadd, 1) := by decide +kernel
theorem dL_law_1458 : decode cL_law 1458 = .ok (.iaload, 1) := by decide +kernel
theorem dL_law_1459 : decode cL_law 1459 = .ok (.invokevirtual 207, 3) := by decide +kernel
theorem dL_law_1462 : decode cL_law 1462 = .ok (.istore 7, 2) := by decide +kernel
theorem dL_law_1464 : decode cL_law 1464 = .ok (.aload_n 2, 1) := by decide +kernel
theorem dL_law_1465 : decode cL_law 1465 = .ok (.invokevirtual 142, 3) := by decide +kernel
theorem dL_law_1468 : decode cL_law 1468 = .ok (.iload 6, 2) := by decide +kernel
theorem dL_law_1470 : decode cL_law 1470 = .ok (.if_icmp .eq 5, 3) := by decide +kernel
theorem dL_law_1475 : decode cL_law 1475 = .ok (.iload 6, 2) := by decide +kernel
theorem dL_law_1477 : decode cL_law 1477 = .ok (.ifCond .ne 15, 3) := by decide +kernel
theorem dL_law_1492 : decode cL_law 1492 = .ok (.goto 796, 3) := by decide +kernel
theorem dL_law_1495 : decode cL_law 1495 = .ok (.aload_n 1, 1) := by decide +kernel
theorem dL_law_1496 : decode cL_law 1496 = .ok (.aload_n 0, 1) := by decide +kernel
theorem dL_law_1497 : decode cL_law 1497 = .ok (.iload 5, 2) := by decide +kernel
theorem dL_law_1499 : decode cL_law 1499 = .ok (.iconst 1, 1) := by decide +kernel
theorem dL_law_1500 : decode cL_law 1500 = .ok (.iadd, 1) := by decide +kernel
theorem dL_law_1501 : decode cL_law 1501 = .ok (.iaload, 1) := by decide +kernel
theorem dL_law_1502 : decode cL_law 1502 = .ok (.aload_n 3, 1) := by decide +kernel
theorem dL_law_1503 : decode cL_law 1503 = .ok (.invokestatic 208, 3) := by decide +kernel
theorem dL_law_1506 : decode cL_law 1506 = .ok (.istore 6, 2) := by decide +kernel
theorem dL_law_1508 : decode cL_law 1508 = .ok (.aload_n 2, 1) := by decide +kernel
theorem dL_law_1509 : decode cL_law 1509 = .ok (.aload_n 0, 1) := by decide +kernel
theorem dL_law_1510 : decode cL_law 1510 = .ok (.iload 5, 2) := by decide +kernel
theorem dL_law_1512 : decode cL_law 1512 = .ok (.iconst 1, 1) := by decide +kernel
theorem dL_law_1513 : decode cL_law 1513 = .ok (.iadd, 1) := by decide +kernel
theorem dL_law_1514 : decode cL_law 1514 = .ok (.iaload, 1) := by decide +kernel
theorem dL_law_1515 : decode cL_law 1515 = .ok (.invokevirtual 210, 3) := by decide +kernel
theorem dL_law_1518 : decode cL_law 1518 = .ok (.istore 7, 2) := by decide +kernel
theorem dL_law_1520 : decode cL_law 1520 = .ok (.aload_n 2, 1) := by decide +kernel
theorem dL_law_1521 : decode cL_law 1521 = .ok (.invokevirtual 142, 3) := by decide +kernel
theorem dL_law_1524 : decode cL_law 1524 = .ok (.iload 6, 2) := by decide +kernel
theorem dL_law_1526 : decode cL_law 1526 = .ok (.if_icmp .eq 5, 3) := by decide +kernel
theorem dL_law_1531 : decode cL_law 1531 = .ok (.iload 6, 2) := by decide +kernel
theorem dL_law_1533 : decode cL_law 1533 = .ok (.ifCond .ne 15, 3) := by decide +kernel
theorem dL_law_1548 : decode cL_law 1548 = .ok (.goto 740, 3) := by decide +kernel
theorem dL_law_1551 : decode cL_law 1551 = .ok (.aload_n 1, 1) := by decide +kernel
theorem dL_law_1552 : decode cL_law 1552 = .ok (.aload_n 0, 1) := by decide +kernel
theorem dL_law_1553 : decode cL_law 1553 = .ok (.iload 5, 2) := by decide +kernel
theorem dL_law_1555 : decode cL_law 1555 = .ok (.iconst 1, 1) := by decide +kernel
theorem dL_law_1556 : decode cL_law 1556 = .ok (.iadd, 1) := by decide +kernel
theorem dL_law_1557 : decode cL_law 1557 = .ok (.iaload, 1) := by decide +kernel
theorem dL_law_1558 : decode cL_law 1558 = .ok (.aload_n 3, 1) := by decide +kernel
theorem dL_law_1559 : decode cL_law 1559 = .ok (.invokestatic 211, 3) := by decide +kernel
theorem dL_law_1562 : decode cL_law 1562 = .ok (.istore 6, 2) := by decide +kernel
theorem dL_law_1564 : decode cL_law 1564 = .ok (.aload_n 2, 1) := by decide +kernel
theorem dL_law_1565 : decode cL_law 1565 = .ok (.aload_n 0, 1) := by decide +kernel
theorem dL_law_1566 : decode cL_law 1566 = .ok (.iload 5, 2) := by decide +kernel
theorem dL_law_1568 : decode cL_law 1568 = .ok (.iconst 1, 1) := by decide +kernel
theorem dL_law_1569 : decode cL_law 1569 = .ok (.iadd, 1) := by decide +kernel
theorem dL_law_1570 : decode cL_law 1570 = .ok (.iaload, 1) := by decide +kernel
theorem dL_law_1571 : decode cL_law 1571 = .ok (.invokevirtual 213, 3) := by decide +kernel
theorem dL_law_1574 : decode cL_law 1574 = .ok (.istore 7, 2) := by decide +kernel
theorem dL_law_1576 : decode cL_law 1576 = .ok (.aload_n 2, 1) := by decide +kernel
theorem dL_law_1577 : decode cL_law 1577 = .ok (.invokevirtual 142, 3) := by decide +kernel
theorem dL_law_1580 : decode cL_law 1580 = .ok (.iload 6, 2) := by decide +kernel
theorem dL_law_1582 : decode cL_law 1582 = .ok (.if_icmp .eq 5, 3) := by decide +kernel
theorem dL_law_1587 : decode cL_law 1587 = .ok (.iload 6, 2) := by decide +kernel
theorem dL_law_1589 : decode cL_law 1589 = .ok (.ifCond .ne 15, 3) := by decide +kernel
theorem dL_law_1604 : decode cL_law 1604 = .ok (.goto 684, 3) := by decide +kernel
theorem dL_law_1607 : decode cL_law 1607 = .ok (.aload_n 1, 1) := by decide +kernel
theorem dL_law_1608 : decode cL_law 1608 = .ok (.aload_n 0, 1) := by decide +kernel
theorem dL_law_1609 : decode cL_law 1609 = .ok (.iload 5, 2) := by decide +kernel
theorem dL_law_1611 : decode cL_law 1611 = .ok (.iconst 1, 1) := by decide +kernel
theorem dL_law_1612 : decode cL_law 1612 = .ok (.iadd, 1) := by decide +kernel
theorem dL_law_1613 : decode cL_law 1613 = .ok (.iaload, 1) := by decide +kernel
theorem dL_law_1614 : decode cL_law 1614 = .ok (.aload_n 0, 1) := by decide +kernel
theorem dL_law_1615 : decode cL_law 1615 = .ok (.iload 5, 2) := by decide +kernel
theorem dL_law_1617 : decode cL_law 1617 = .ok (.iconst 2, 1) := by decide +kernel
theorem dL_law_1618 : decode cL_law 1618 = .ok (.iadd, 1) := by decide +kernel
theorem dL_law_1619 : decode cL_law 1619 = .ok (.iaload, 1) := by decide +kernel
theorem dL_law_1620 : decode cL_law 1620 = .ok (.aload_n 3, 1) := by decide +kernel
theorem dL_law_1621 : decode cL_law 1621 = .ok (.invokestatic 214, 3) := by decide +kernel
theorem dL_law_1624 : decode cL_law 1624 = .ok (.istore 6, 2) := by decide +kernel
theorem dL_law_1626 : decode cL_law 1626 = .ok (.aload_n 2, 1) := by decide +kernel
theorem dL_law_1627 : decode cL_law 1627 = .ok (.aload_n 0, 1) := by decide +kernel
theorem dL_law_1628 : decode cL_law 1628 = .ok (.iload 5, 2) := by decide +kernel
theorem dL_law_1630 : decode cL_law 1630 = .ok (.iconst 1, 1) := by decide +kernel
theorem dL_law_1631 : decode cL_law 1631 = .ok (.iadd, 1) := by decide +kernel
theorem dL_law_1632 : decode cL_law 1632 = .ok (.iaload, 1) := by decide +kernel
theorem dL_law_1633 : decode cL_law 1633 = .ok (.aload_n 0, 1) := by decide +kernel
theorem dL_law_1634 : decode cL_law 1634 = .ok (.iload 5, 2) := by decide +kernel
theorem dL_law_1636 : decode cL_law 1636 = .ok (.iconst 2, 1) := by decide +kernel
theorem dL_law_1637 : decode cL_law 1637 = .ok (.iadd, 1) := by decide +kernel
theorem dL_law_1638 : decode cL_law 1638 = .ok (.iaload, 1) := by decide +kernel
theorem dL_law_1639 : decode cL_law 1639 = .ok (.invokevirtual 216, 3) := by decide +kernel
theorem dL_law_1642 : decode cL_law 1642 = .ok (.istore 7, 2) := by decide +kernel
theorem dL_law_1644 : decode cL_law 1644 = .ok (.aload_n 2, 1) := by decide +kernel
theorem dL_law_1645 : decode cL_law 1645 = .ok (.invokevirtual 142, 3) := by decide +kernel
theorem dL_law_1648 : decode cL_law 1648 = .ok (.iload 6, 2) := by decide +kernel
theorem dL_law_1650 : decode cL_law 1650 = .ok (.if_icmp .eq 5, 3) := by decide +kernel
theorem dL_law_1655 : decode cL_law 1655 = .ok (.iload 6, 2) := by decide +kernel
theorem dL_law_1657 : decode cL_law 1657 = .ok (.ifCond .ne 15, 3) := by decide +kernel
theorem dL_law_1672 : decode cL_law 1672 = .ok (.goto 616, 3) := by decide +kernel
theorem dL_law_1675 : decode cL_law 1675 = .ok (.aload_n 1, 1) := by decide +kernel
theorem dL_law_1676 : decode cL_law 1676 = .ok (.aload_n 0, 1) := by decide +kernel
theorem dL_law_1677 : decode cL_law 1677 = .ok (.iload 5, 2) := by decide +kernel
theorem dL_law_1679 : decode cL_law 1679 = .ok (.iconst 1, 1) := by decide +kernel
theorem dL_law_1680 : decode cL_law 1680 = .ok (.iadd, 1) := by decide +kernel
theorem dL_law_1681 : decode cL_law 1681 = .ok (.iaload, 1) := by decide +kernel
theorem dL_law_1682 : decode cL_law 1682 = .ok (.aload_n 3, 1) := by decide +kernel
theorem dL_law_1683 : decode cL_law 1683 = .ok (.invokestatic 217, 3) := by decide +kernel
theorem dL_law_1686 : decode cL_law 1686 = .ok (.istore 6, 2) := by decide +kernel
theorem dL_law_1688 : decode cL_law 1688 = .ok (.aload_n 2, 1) := by decide +kernel
theorem dL_law_1689 : decode cL_law 1689 = .ok (.aload_n 0, 1) := by decide +kernel
theorem dL_law_1690 : decode cL_law 1690 = .ok (.iload 5, 2) := by decide +kernel
theorem dL_law_1692 : decode cL_law 1692 = .ok (.iconst 1, 1) := by decide +kernel
theorem dL_law_1693 : decode cL_law 1693 = .ok (.iadd, 1) := by decide +kernel
theorem dL_law_1694 : decode cL_law 1694 = .ok (.iaload, 1) := by decide +kernel
theorem dL_law_1695 : decode cL_law 1695 = .ok (.invokevirtual 219, 3) := by decide +kernel
theorem dL_law_1698 : decode cL_law 1698 = .ok (.istore 7, 2) := by decide +kernel
theorem dL_law_1700 : decode cL_law 1700 = .ok (.aload_n 2, 1) := by decide +kernel
theorem dL_law_1701 : decode cL_law 1701 = .ok (.invokevirtual 142, 3) := by decide +kernel
theorem dL_law_1704 : decode cL_law 1704 = .ok (.iload 6, 2) := by decide +kernel
theorem dL_law_1706 : decode cL_law 1706 = .ok (.if_icmp .eq 5, 3) := by decide +kernel
theorem dL_law_1711 : decode cL_law 1711 = .ok (.iload 6, 2) := by decide +kernel
theorem dL_law_1713 : decode cL_law 1713 = .ok (.ifCond .ne 15, 3) := by decide +kernel
theorem dL_law_1728 : decode cL_law 1728 = .ok (.goto 560, 3) := by decide +kernel
theorem dL_law_1731 : decode cL_law 1731 = .ok (.aload_n 1, 1) := by decide +kernel
theorem dL_law_1732 : decode cL_law 1732 = .ok (.aload_n 0, 1) := by decide +kernel
theorem dL_law_1733 : decode cL_law 1733 = .ok (.iload 5, 2) := by decide +kernel
theorem dL_law_1735 : decode cL_law 1735 = .ok (.iconst 1, 1) := by decide +kernel
theorem dL_law_1736 : decode cL_law 1736 = .ok (.iadd, 1) := by decide +kernel
theorem dL_law_1737 : decode cL_law 1737 = .ok (.iaload, 1) := by decide +kernel
theorem dL_law_1738 : decode cL_law 1738 = .ok (.aload_n 3, 1) := by decide +kernel
theorem dL_law_1739 : decode cL_law 1739 = .ok (.invokestatic 220, 3) := by decide +kernel
theorem dL_law_1742 : decode cL_law 1742 = .ok (.istore 6, 2) := by decide +kernel
theorem dL_law_1744 : decode cL_law 1744 = .ok (.aload_n 2, 1) := by decide +kernel
theorem dL_law_1745 : decode cL_law 1745 = .ok (.aload_n 0, 1) := by decide +kernel
theorem dL_law_1746 : decode cL_law 1746 = .ok (.iload 5, 2) := by decide +kernel
theorem dL_law_1748 : decode cL_law 1748 = .ok (.iconst 1, 1) := by decide +kernel
theorem dL_law_1749 : decode cL_law 1749 = .ok (.iadd, 1) := by decide +kernel
theorem dL_law_1750 : decode cL_law 1750 = .ok (.iaload, 1) := by decide +kernel
theorem dL_law_1751 : decode cL_law 1751 = .ok (.invokevirtual 222, 3) := by decide +kernel
theorem dL_law_1754 : decode cL_law 1754 = .ok (.istore 7, 2) := by decide +kernel
theorem dL_law_1756 : decode cL_law 1756 = .ok (.aload_n 2, 1) := by decide +kernel
theorem dL_law_1757 : decode cL_law 1757 = .ok (.invokevirtual 142, 3) := by decide +kernel
theorem dL_law_1760 : decode cL_law 1760 = .ok (.iload 6, 2) := by decide +kernel
theorem dL_law_1762 : decode cL_law 1762 = .ok (.if_icmp .eq 5, 3) := by decide +kernel
theorem dL_law_1767 : decode cL_law 1767 = .ok (.iload 6, 2) := by decide +kernel
theorem dL_law_1769 : decode cL_law 1769 = .ok (.ifCond .ne 15, 3) := by decide +kernel
theorem dL_law_1784 : decode cL_law 1784 = .ok (.goto 504, 3) := by decide +kernel
theorem dL_law_1787 : decode cL_law 1787 = .ok (.aload_n 1, 1) := by decide +kernel
theorem dL_law_1788 : decode cL_law 1788 = .ok (.aload_n 0, 1) := by decide +kernel
theorem dL_law_1789 : decode cL_law 1789 = .ok (.iload 5, 2) := by decide +kernel
theorem dL_law_1791 : decode cL_law 1791 = .ok (.iconst 1, 1) := by decide +kernel
theorem dL_law_1792 : decode cL_law 1792 = .ok (.iadd, 1) := by decide +kernel
theorem dL_law_1793 : decode cL_law 1793 = .ok (.iaload, 1) := by decide +kernel
theorem dL_law_1794 : decode cL_law 1794 = .ok (.aload_n 3, 1) := by decide +kernel
theorem dL_law_1795 : decode cL_law 1795 = .ok (.invokestatic 223, 3) := by decide +kernel
theorem dL_law_1798 : decode cL_law 1798 = .ok (.istore 6, 2) := by decide +kernel
theorem dL_law_1800 : decode cL_law 1800 = .ok (.aload_n 2, 1) := by decide +kernel
theorem dL_law_1801 : decode cL_law 1801 = .ok (.aload_n 0, 1) := by decide +kernel
theorem dL_law_1802 : decode cL_law 1802 = .ok (.iload 5, 2) := by decide +kernel
theorem dL_law_1804 : decode cL_law 1804 = .ok (.iconst 1, 1) := by decide +kernel
theorem dL_law_1805 : decode cL_law 1805 = .ok (.iadd, 1) := by decide +kernel
theorem dL_law_1806 : decode cL_law 1806 = .ok (.iaload, 1) := by decide +kernel
theorem dL_law_1807 : decode cL_law 1807 = .ok (.invokevirtual 225, 3) := by decide +kernel
theorem dL_law_1810 : decode cL_law 1810 = .ok (.istore 7, 2) := by decide +kernel
theorem dL_law_1812 : decode cL_law 1812 = .ok (.aload_n 2, 1) := by decide +kernel
theorem dL_law_1813 : decode cL_law 1813 = .ok (.invokevirtual 142, 3) := by decide +kernel
theorem dL_law_1816 : decode cL_law 1816 = .ok (.iload 6, 2) := by decide +kernel
theorem dL_law_1818 : decode cL_law 1818 = .ok (.if_icmp .eq 5, 3) := by decide +kernel
theorem dL_law_1823 : decode cL_law 1823 = .ok (.iload 6, 2) := by decide +kernel
theorem dL_law_1825 : decode cL_law 1825 = .ok (.ifCond .ne 15, 3) := by decide +kernel
theorem dL_law_1840 : decode cL_law 1840 = .ok (.goto 448, 3) := by decide +kernel
theorem dL_law_1843 : decode cL_law 1843 = .ok (.aload_n 1, 1) := by decide +kernel
theorem dL_law_1844 : decode cL_law 1844 = .ok (.aload_n 0, 1) := by decide +kernel
theorem dL_law_1845 : decode cL_law 1845 = .ok (.iload 5, 2) := by decide +kernel
theorem dL_law_1847 : decode cL_law 1847 = .ok (.iconst 1, 1) := by decide +kernel
theorem dL_law_1848 : decode cL_law 1848 = .ok (.iadd, 1) := by decide +kernel
theorem dL_law_1849 : decode cL_law 1849 = .ok (.iaload, 1) := by decide +kernel
theorem dL_law_1850 : decode cL_law 1850 = .ok (.aload_n 3, 1) := by decide +kernel
theorem dL_law_1851 : decode cL_law 1851 = .ok (.invokestatic 226, 3) := by decide +kernel
theorem dL_law_1854 : decode cL_law 1854 = .ok (.istore 6, 2) := by decide +kernel
theorem dL_law_1856 : decode cL_law 1856 = .ok (.aload_n 2, 1) := by decide +kernel
theorem dL_law_1857 : decode cL_law 1857 = .ok (.aload_n 0, 1) := by decide +kernel
theorem dL_law_1858 : decode cL_law 1858 = .ok (.iload 5, 2) := by decide +kernel
theorem dL_law_1860 : decode cL_law 1860 = .ok (.iconst 1, 1) := by decide +kernel
theorem dL_law_1861 : decode cL_law 1861 = .ok (.iadd, 1) := by decide +kernel
theorem dL_law_1862 : decode cL_law 1862 = .ok (.iaload, 1) := by decide +kernel
theorem dL_law_1863 : decode cL_law 1863 = .ok (.invokevirtual 228, 3) := by decide +kernel
theorem dL_law_1866 : decode cL_law 1866 = .ok (.istore 7, 2) := by decide +kernel
theorem dL_law_1868 : decode cL_law 1868 = .ok (.aload_n 2, 1) := by decide +kernel
theorem dL_law_1869 : decode cL_law 1869 = .ok (.invokevirtual 142, 3) := by decide +kernel
theorem dL_law_1872 : decode cL_law 1872 = .ok (.iload 6, 2) := by decide +kernel
theorem dL_law_1874 : decode cL_law 1874 = .ok (.if_icmp .eq 5, 3) := by decide +kernel
theorem dL_law_1879 : decode cL_law 1879 = .ok (.iload 6, 2) := by decide +kernel
theorem dL_law_1881 : decode cL_law 1881 = .ok (.ifCond .ne 22, 3) := by decide +kernel
theorem dL_law_1903 : decode cL_law 1903 = .ok (.goto 385, 3) := by decide +kernel
theorem dL_law_1906 : decode cL_law 1906 = .ok (.aload_n 1, 1) := by decide +kernel
theorem dL_law_1907 : decode cL_law 1907 = .ok (.aload_n 0, 1) := by decide +kernel
theorem dL_law_1908 : decode cL_law 1908 = .ok (.iload 5, 2) := by decide +kernel
theorem dL_law_1910 : decode cL_law 1910 = .ok (.iconst 1, 1) := by decide +kernel
theorem dL_law_1911 : decode cL_law 1911 = .ok (.iadd, 1) := by decide +kernel
theorem dL_law_1912 : decode cL_law 1912 = .ok (.iaload, 1) := by decide +kernel
theorem dL_law_1913 : decode cL_law 1913 = .ok (.aload_n 3, 1) := by decide +kernel
theorem dL_law_1914 : decode cL_law 1914 = .ok (.invokestatic 229, 3) := by decide +kernel
theorem dL_law_1917 : decode cL_law 1917 = .ok (.istore 6, 2) := by decide +kernel
theorem dL_law_1919 : decode cL_law 1919 = .ok (.aload_n 2, 1) := by decide +kernel
theorem dL_law_1920 : decode cL_law 1920 = .ok (.aload_n 0, 1) := by decide +kernel
theorem dL_law_1921 : decode cL_law 1921 = .ok (.iload 5, 2) := by decide +kernel
theorem dL_law_1923 : decode cL_law 1923 = .ok (.iconst 1, 1) := by decide +kernel
theorem dL_law_1924 : decode cL_law 1924 = .ok (.iadd, 1) := by decide +kernel
theorem dL_law_1925 : decode cL_law 1925 = .ok (.iaload, 1) := by decide +kernel
theorem dL_law_1926 : decode cL_law 1926 = .ok (.invokevirtual 231, 3) := by decide +kernel
theorem dL_law_1929 : decode cL_law 1929 = .ok (.istore 7, 2) := by decide +kernel
theorem dL_law_1931 : decode cL_law 1931 = .ok (.aload_n 2, 1) := by decide +kernel
theorem dL_law_1932 : decode cL_law 1932 = .ok (.invokevirtual 142, 3) := by decide +kernel
theorem dL_law_1935 : decode cL_law 1935 = .ok (.iload 6, 2) := by decide +kernel
theorem dL_law_1937 : decode cL_law 1937 = .ok (.if_icmp .eq 5, 3) := by decide +kernel
theorem dL_law_1942 : decode cL_law 1942 = .ok (.iload 6, 2) := by decide +kernel
theorem dL_law_1944 : decode cL_law 1944 = .ok (.ifCond .ne 15, 3) := by decide +kernel
theorem dL_law_1959 : decode cL_law 1959 = .ok (.goto 329, 3) := by decide +kernel
theorem dL_law_1962 : decode cL_law 1962 = .ok (.aload_n 1, 1) := by decide +kernel
theorem dL_law_1963 : decode cL_law 1963 = .ok (.aload_n 0, 1) := by decide +kernel
theorem dL_law_1964 : decode cL_law 1964 = .ok (.iload 5, 2) := by decide +kernel
theorem dL_law_1966 : decode cL_law 1966 = .ok (.iconst 1, 1) := by decide +kernel
theorem dL_law_1967 : decode cL_law 1967 = .ok (.iadd, 1) := by decide +kernel
theorem dL_law_1968 : decode cL_law 1968 = .ok (.iaload, 1) := by decide +kernel
theorem dL_law_1969 : decode cL_law 1969 = .ok (.aload_n 3, 1) := by decide +kernel
theorem dL_law_1970 : decode cL_law 1970 = .ok (.invokestatic 232, 3) := by decide +kernel
theorem dL_law_1973 : decode cL_law 1973 = .ok (.istore 6, 2) := by decide +kernel
theorem dL_law_1975 : decode cL_law 1975 = .ok (.aload_n 2, 1) := by decide +kernel
theorem dL_law_1976 : decode cL_law 1976 = .ok (.aload_n 0, 1) := by decide +kernel
theorem dL_law_1977 : decode cL_law 1977 = .ok (.iload 5, 2) := by decide +kernel
theorem dL_law_1979 : decode cL_law 1979 = .ok (.iconst 1, 1) := by decide +kernel
theorem dL_law_1980 : decode cL_law 1980 = .ok (.iadd, 1) := by decide +kernel
theorem dL_law_1981 : decode cL_law 1981 = .ok (.iaload, 1) := by decide +kernel
theorem dL_law_1982 : decode cL_law 1982 = .ok (.invokevirtual 234, 3) := by decide +kernel
theorem dL_law_1985 : decode cL_law 1985 = .ok (.istore 7, 2) := by decide +kernel
theorem dL_law_1987 : decode cL_law 1987 = .ok (.aload_n 2, 1) := by decide +kernel
theorem dL_law_1988 : decode cL_law 1988 = .ok (.invokevirtual 142, 3) := by decide +kernel
theorem dL_law_1991 : decode cL_law 1991 = .ok (.iload 6, 2) := by decide +kernel
theorem dL_law_1993 : decode cL_law 1993 = .ok (.if_icmp .eq 5, 3) := by decide +kernel
theorem dL_law_1998 : decode cL_law 1998 = .ok (.iload 6, 2) := by decide +kernel
theorem dL_law_2000 : decode cL_law 2000 = .ok (.ifCond .ne 15, 3) := by decide +kernel
theorem dL_law_2015 : decode cL_law 2015 = .ok (.goto 273, 3) := by decide +kernel
theorem dL_law_2018 : decode cL_law 2018 = .ok (.aload_n 1, 1) := by decide +kernel
theorem dL_law_2019 : decode cL_law 2019 = .ok (.aload_n 0, 1) := by decide +kernel
theorem dL_law_2020 : decode cL_law 2020 = .ok (.iload 5, 2) := by decide +kernel
theorem dL_law_2022 : decode cL_law 2022 = .ok (.iconst 1, 1) := by decide +kernel
theorem dL_law_2023 : decode cL_law 2023 = .ok (.iadd, 1) := by decide +kernel
theorem dL_law_2024 : decode cL_law 2024 = .ok (.iaload, 1) := by decide +kernel
theorem dL_law_2025 : decode cL_law 2025 = .ok (.aload_n 3, 1) := by decide +kernel
theorem dL_law_2026 : decode cL_law 2026 = .ok (.invokestatic 235, 3) := by decide +kernel
theorem dL_law_2029 : decode cL_law 2029 = .ok (.istore 6, 2) := by decide +kernel
theorem dL_law_2031 : decode cL_law 2031 = .ok (.aload_n 2, 1) := by decide +kernel
theorem dL_law_2032 : decode cL_law 2032 = .ok (.aload_n 0, 1) := by decide +kernel
theorem dL_law_2033 : decode cL_law 2033 = .ok (.iload 5, 2) := by decide +kernel
theorem dL_law_2035 : decode cL_law 2035 = .ok (.iconst 1, 1) := by decide +kernel
theorem dL_law_2036 : decode cL_law 2036 = .ok (.iadd, 1) := by decide +kernel
theorem dL_law_2037 : decode cL_law 2037 = .ok (.iaload, 1) := by decide +kernel
theorem dL_law_2038 : decode cL_law 2038 = .ok (.invokevirtual 237, 3) := by decide +kernel
theorem dL_law_2041 : decode cL_law 2041 = .ok (.istore 7, 2) := by decide +kernel
theorem dL_law_2043 : decode cL_law 2043 = .ok (.aload_n 2, 1) := by decide +kernel
theorem dL_law_2044 : decode cL_law 2044 = .ok (.invokevirtual 142, 3) := by decide +kernel
theorem dL_law_2047 : decode cL_law 2047 = .ok (.iload 6, 2) := by decide +kernel
theorem dL_law_2049 : decode cL_law 2049 = .ok (.if_icmp .eq 5, 3) := by decide +kernel
theorem dL_law_2054 : decode cL_law 2054 = .ok (.iload 6, 2) := by decide +kernel
theorem dL_law_2056 : decode cL_law 2056 = .ok (.ifCond .ne 15, 3) := by decide +kernel
theorem dL_law_2071 : decode cL_law 2071 = .ok (.goto 217, 3) := by decide +kernel
theorem dL_law_2074 : decode cL_law 2074 = .ok (.aload_n 1, 1) := by decide +kernel
theorem dL_law_2075 : decode cL_law 2075 = .ok (.aload_n 0, 1) := by decide +kernel
theorem dL_law_2076 : decode cL_law 2076 = .ok (.iload 5, 2) := by decide +kernel
theorem dL_law_2078 : decode cL_law 2078 = .ok (.iconst 1, 1) := by decide +kernel
theorem dL_law_2079 : decode cL_law 2079 = .ok (.iadd, 1) := by decide +kernel
theorem dL_law_2080 : decode cL_law 2080 = .ok (.iaload, 1) := by decide +kernel
theorem dL_law_2081 : decode cL_law 2081 = .ok (.aload_n 3, 1) := by decide +kernel
theorem dL_law_2082 : decode cL_law 2082 = .ok (.invokestatic 238, 3) := by decide +kernel
theorem dL_law_2085 : decode cL_law 2085 = .ok (.istore 6, 2) := by decide +kernel
theorem dL_law_2087 : decode cL_law 2087 = .ok (.aload_n 2, 1) := by decide +kernel
theorem dL_law_2088 : decode cL_law 2088 = .ok (.aload_n 0, 1) := by decide +kernel
theorem dL_law_2089 : decode cL_law 2089 = .ok (.iload 5, 2) := by decide +kernel
theorem dL_law_2091 : decode cL_law 2091 = .ok (.iconst 1, 1) := by decide +kernel
theorem dL_law_2092 : decode cL_law 2092 = .ok (.iadd, 1) := by decide +kernel
theorem dL_law_2093 : decode cL_law 2093 = .ok (.iaload, 1) := by decide +kernel
theorem dL_law_2094 : decode cL_law 2094 = .ok (.invokevirtual 240, 3) := by decide +kernel
theorem dL_law_2097 : decode cL_law 2097 = .ok (.istore 7, 2) := by decide +kernel
theorem dL_law_2099 : decode cL_law 2099 = .ok (.aload_n 2, 1) := by decide +kernel
theorem dL_law_2100 : decode cL_law 2100 = .ok (.invokevirtual 142, 3) := by decide +kernel
theorem dL_law_2103 : decode cL_law 2103 = .ok (.iload 6, 2) := by decide +kernel
theorem dL_law_2105 : decode cL_law 2105 = .ok (.if_icmp .eq 5, 3) := by decide +kernel
theorem dL_law_2110 : decode cL_law 2110 = .ok (.iload 6, 2) := by decide +kernel
theorem dL_law_2112 : decode cL_law 2112 = .ok (.ifCond .ne 15, 3) := by decide +kernel
theorem dL_law_2127 : decode cL_law 2127 = .ok (.goto 161, 3) := by decide +kernel
theorem dL_law_2130 : decode cL_law 2130 = .ok (.aload_n 1, 1) := by decide +kernel
theorem dL_law_2131 : decode cL_law 2131 = .ok (.invokevirtual 241, 3) := by decide +kernel
theorem dL_law_2134 : decode cL_law 2134 = .ok (.aload_n 2, 1) := by decide +kernel
theorem dL_law_2135 : decode cL_law 2135 = .ok (.invokevirtual 245, 3) := by decide +kernel
theorem dL_law_2138 : decode cL_law 2138 = .ok (.lcmp, 1) := by decide +kernel
theorem dL_law_2139 : decode cL_law 2139 = .ok (.ifCond .eq 149, 3) := by decide +kernel
theorem dL_law_2144 : decode cL_law 2144 = .ok (.aload_n 1, 1) := by decide +kernel
theorem dL_law_2145 : decode cL_law 2145 = .ok (.aload 4, 2) := by decide +kernel
theorem dL_law_2147 : decode cL_law 2147 = .ok (.invokestatic 246, 3) := by decide +kernel
theorem dL_law_2150 : decode cL_law 2150 = .ok (.istore 6, 2) := by decide +kernel
theorem dL_law_2152 : decode cL_law 2152 = .ok (.aload_n 2, 1) := by decide +kernel
theorem dL_law_2153 : decode cL_law 2153 = .ok (.invokevirtual 249, 3) := by decide +kernel
theorem dL_law_2156 : decode cL_law 2156 = .ok (.fstore 7, 2) := by decide +kernel
theorem dL_law_2158 : decode cL_law 2158 = .ok (.aload_n 2, 1) := by decide +kernel
theorem dL_law_2159 : decode cL_law 2159 = .ok (.invokevirtual 142, 3) := by decide +kernel
theorem dL_law_2162 : decode cL_law 2162 = .ok (.iload 6, 2) := by decide +kernel
theorem dL_law_2164 : decode cL_law 2164 = .ok (.if_icmp .eq 5, 3) := by decide +kernel
theorem dL_law_2169 : decode cL_law 2169 = .ok (.iload 6, 2) := by decide +kernel
theorem dL_law_2171 : decode cL_law 2171 = .ok (.ifCond .ne 36, 3) := by decide +kernel
theorem dL_law_2207 : decode cL_law 2207 = .ok (.goto 81, 3) := by decide +kernel
theorem dL_law_2210 : decode cL_law 2210 = .ok (.aload_n 1, 1) := by decide +kernel
theorem dL_law_2211 : decode cL_law 2211 = .ok (.aload 4, 2) := by decide +kernel
theorem dL_law_2213 : decode cL_law 2213 = .ok (.invokestatic 250, 3) := by decide +kernel
theorem dL_law_2216 : decode cL_law 2216 = .ok (.istore 6, 2) := by decide +kernel
theorem dL_law_2218 : decode cL_law 2218 = .ok (.aload_n 2, 1) := by decide +kernel
theorem dL_law_2219 : decode cL_law 2219 = .ok (.invokevirtual 252, 3) := by decide +kernel
theorem dL_law_2222 : decode cL_law 2222 = .ok (.dstore 7, 2) := by decide +kernel
theorem dL_law_2224 : decode cL_law 2224 = .ok (.aload_n 2, 1) := by decide +kernel
theorem dL_law_2225 : decode cL_law 2225 = .ok (.invokevirtual 142, 3) := by decide +kernel
theorem dL_law_2228 : decode cL_law 2228 = .ok (.iload 6, 2) := by decide +kernel
theorem dL_law_2230 : decode cL_law 2230 = .ok (.if_icmp .eq 5, 3) := by decide +kernel
theorem dL_law_2235 : decode cL_law 2235 = .ok (.iload 6, 2) := by decide +kernel
theorem dL_law_2237 : decode cL_law 2237 = .ok (.ifCond .ne 35, 3) := by decide +kernel
theorem dL_law_2272 : decode cL_law 2272 = .ok (.goto 16, 3) := by decide +kernel
theorem dL_law_2275 : decode cL_law 2275 = .ok (.aload_n 1, 1) := by decide +kernel
theorem dL_law_2276 : decode cL_law 2276 = .ok (.invokevirtual 253, 3) := by decide +kernel
theorem dL_law_2279 : decode cL_law 2279 = .ok (.aload_n 2, 1) := by decide +kernel
theorem dL_law_2280 : decode cL_law 2280 = .ok (.invokevirtual 257, 3) := by decide +kernel
theorem dL_law_2283 : decode cL_law 2283 = .ok (.if_icmp .eq 5, 3) := by decide +kernel
theorem dL_law_2288 : decode cL_law 2288 = .ok (.iinc 5 6, 3) := by decide +kernel
theorem dL_law_2291 : decode cL_law 2291 = .ok (.goto (-2263), 3) := by decide +kernel
theorem dL_law_2294 : decode cL_law 2294 = .ok (.iconst 1, 1) := by decide +kernel
theorem dL_law_2295 : decode cL_law 2295 = .ok (.ireturn, 1) := by decide +kernel
abbrev clP1 : List vw_C := [(RJx35411, TJx35411, 4), (RJx4a65c, TJx4a65c, 3), (RX0, TX0, 8), (RX1, TX1, 3), (RX4, TX4, 6), (RX5, TX5, 12), (RX7, TX7, 10), (RX8, TX8, 2), (RX9, TX9, 10), (RX10, TX10, 6), (RX11, TX11, 10), (RX16, TX16, 6), (RX17, TX17, 9)]
