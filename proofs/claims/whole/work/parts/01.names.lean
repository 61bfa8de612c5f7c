/-! tables, names: by program out of the claim -/
/-- a private method of a class that the tables say can be made, by its rows of tables_1 -/
def lw_okq (q : MethodName × Nat) : Prop := (q.1.cls ≠ "java/lang/invoke/MethodHandle" ∧ q.1.cls ≠ "java/lang/invoke/VarHandle") ∧ Cond.instantiable q.1.cls q.2 ∈ tables_1 ∧ Cond.privateMethod q.1 ∈ tables_1 ∧ Cond.instanceMethod q.1 ∈ tables_1
theorem lw_p0 : lw_okq (⟨"TollsForLate$Town", "aheadOf", "(I)LTollsForLate$Moment;"⟩, 18) := ⟨⟨by decide +kernel, by decide +kernel⟩, List.mem_of_getElem? (i := 30) (by decide +kernel), List.mem_of_getElem? (i := 457) (by decide +kernel), List.mem_of_getElem? (i := 458) (by decide +kernel)⟩
theorem lw_p1 : lw_okq (⟨"TollsForLate$Tokens", "cutOne", "(LTollsForLate$Tape;I)I"⟩, 4) := ⟨⟨by decide +kernel, by decide +kernel⟩, List.mem_of_getElem? (i := 242) (by decide +kernel), List.mem_of_getElem? (i := 497) (by decide +kernel), List.mem_of_getElem? (i := 498) (by decide +kernel)⟩
theorem lw_p2 : lw_okq (⟨"TollsForLate$Tokens", "add", "(III)V"⟩, 4) := ⟨⟨by decide +kernel, by decide +kernel⟩, List.mem_of_getElem? (i := 242) (by decide +kernel), List.mem_of_getElem? (i := 556) (by decide +kernel), List.mem_of_getElem? (i := 557) (by decide +kernel)⟩
theorem lw_p3 : lw_okq (⟨"TollsForLate$Reader", "next", "()V"⟩, 8) := ⟨⟨by decide +kernel, by decide +kernel⟩, List.mem_of_getElem? (i := 236) (by decide +kernel), List.mem_of_getElem? (i := 627) (by decide +kernel), List.mem_of_getElem? (i := 628) (by decide +kernel)⟩
theorem lw_p4 : lw_okq (⟨"TollsForLate$Reader", "clause", "(LTollsForLate$Text;)Z"⟩, 8) := ⟨⟨by decide +kernel, by decide +kernel⟩, List.mem_of_getElem? (i := 236) (by decide +kernel), List.mem_of_getElem? (i := 632) (by decide +kernel), List.mem_of_getElem? (i := 633) (by decide +kernel)⟩
theorem lw_p5 : lw_okq (⟨"TollsForLate$Reader", "refuse", "(I)Z"⟩, 8) := ⟨⟨by decide +kernel, by decide +kernel⟩, List.mem_of_getElem? (i := 236) (by decide +kernel), List.mem_of_getElem? (i := 636) (by decide +kernel), List.mem_of_getElem? (i := 637) (by decide +kernel)⟩
theorem lw_p6 : lw_okq (⟨"TollsForLate$Reader", "sum", "(I)Z"⟩, 8) := ⟨⟨by decide +kernel, by decide +kernel⟩, List.mem_of_getElem? (i := 236) (by decide +kernel), List.mem_of_getElem? (i := 652) (by decide +kernel), List.mem_of_getElem? (i := 653) (by decide +kernel)⟩
theorem lw_p7 : lw_okq (⟨"TollsForLate$Reader", "product", "(I)Z"⟩, 8) := ⟨⟨by decide +kernel, by decide +kernel⟩, List.mem_of_getElem? (i := 236) (by decide +kernel), List.mem_of_getElem? (i := 656) (by decide +kernel), List.mem_of_getElem? (i := 657) (by decide +kernel)⟩
theorem lw_p8 : lw_okq (⟨"TollsForLate$Reader", "one", "(I)Z"⟩, 8) := ⟨⟨by decide +kernel, by decide +kernel⟩, List.mem_of_getElem? (i := 236) (by decide +kernel), List.mem_of_getElem? (i := 660) (by decide +kernel), List.mem_of_getElem? (i := 661) (by decide +kernel)⟩
theorem lw_p9 : lw_okq (⟨"TollsForLate$Reader", "opens", "(I)Z"⟩, 8) := ⟨⟨by decide +kernel, by decide +kernel⟩, List.mem_of_getElem? (i := 236) (by decide +kernel), List.mem_of_getElem? (i := 668) (by decide +kernel), List.mem_of_getElem? (i := 669) (by decide +kernel)⟩
theorem lw_p10 : lw_okq (⟨"TollsForLate$Reader", "accept", "(I)Z"⟩, 8) := ⟨⟨by decide +kernel, by decide +kernel⟩, List.mem_of_getElem? (i := 236) (by decide +kernel), List.mem_of_getElem? (i := 672) (by decide +kernel), List.mem_of_getElem? (i := 673) (by decide +kernel)⟩
theorem lw_p11 : lw_okq (⟨"TollsForLate$Reader", "put", "(I)Z"⟩, 8) := ⟨⟨by decide +kernel, by decide +kernel⟩, List.mem_of_getElem? (i := 236) (by decide +kernel), List.mem_of_getElem? (i := 676) (by decide +kernel), List.mem_of_getElem? (i := 677) (by decide +kernel)⟩
theorem lw_p12 : lw_okq (⟨"TollsForLate$Reader", "choice", "(I)Z"⟩, 8) := ⟨⟨by decide +kernel, by decide +kernel⟩, List.mem_of_getElem? (i := 236) (by decide +kernel), List.mem_of_getElem? (i := 680) (by decide +kernel), List.mem_of_getElem? (i := 681) (by decide +kernel)⟩
theorem lw_p13 : lw_okq (⟨"TollsForLate$Reader", "either", "(I)Z"⟩, 8) := ⟨⟨by decide +kernel, by decide +kernel⟩, List.mem_of_getElem? (i := 236) (by decide +kernel), List.mem_of_getElem? (i := 684) (by decide +kernel), List.mem_of_getElem? (i := 685) (by decide +kernel)⟩
theorem lw_p14 : lw_okq (⟨"TollsForLate$Reader", "both", "(I)Z"⟩, 8) := ⟨⟨by decide +kernel, by decide +kernel⟩, List.mem_of_getElem? (i := 236) (by decide +kernel), List.mem_of_getElem? (i := 688) (by decide +kernel), List.mem_of_getElem? (i := 689) (by decide +kernel)⟩
theorem lw_p15 : lw_okq (⟨"TollsForLate$Reader", "ask", "(I)Z"⟩, 8) := ⟨⟨by decide +kernel, by decide +kernel⟩, List.mem_of_getElem? (i := 236) (by decide +kernel), List.mem_of_getElem? (i := 692) (by decide +kernel), List.mem_of_getElem? (i := 693) (by decide +kernel)⟩
def lw_privs_1 : List (MethodName × Nat) := [(⟨"TollsForLate$Town", "aheadOf", "(I)LTollsForLate$Moment;"⟩, 18), (⟨"TollsForLate$Tokens", "cutOne", "(LTollsForLate$Tape;I)I"⟩, 4), (⟨"TollsForLate$Tokens", "add", "(III)V"⟩, 4), (⟨"TollsForLate$Reader", "next", "()V"⟩, 8), (⟨"TollsForLate$Reader", "clause", "(LTollsForLate$Text;)Z"⟩, 8), (⟨"TollsForLate$Reader", "refuse", "(I)Z"⟩, 8), (⟨"TollsForLate$Reader", "sum", "(I)Z"⟩, 8), (⟨"TollsForLate$Reader", "product", "(I)Z"⟩, 8), (⟨"TollsForLate$Reader", "one", "(I)Z"⟩, 8), (⟨"TollsForLate$Reader", "opens", "(I)Z"⟩, 8), (⟨"TollsForLate$Reader", "accept", "(I)Z"⟩, 8), (⟨"TollsForLate$Reader", "put", "(I)Z"⟩, 8), (⟨"TollsForLate$Reader", "choice", "(I)Z"⟩, 8), (⟨"TollsForLate$Reader", "either", "(I)Z"⟩, 8), (⟨"TollsForLate$Reader", "both", "(I)Z"⟩, 8), (⟨"TollsForLate$Reader", "ask", "(I)Z"⟩, 8)]
theorem lw_r1 : ∀ q ∈ lw_privs_1, lw_okq q := List.forall_mem_cons.mpr ⟨lw_p0, List.forall_mem_cons.mpr ⟨lw_p1, List.forall_mem_cons.mpr ⟨lw_p2, List.forall_mem_cons.mpr ⟨lw_p3, List.forall_mem_cons.mpr ⟨lw_p4, List.forall_mem_cons.mpr ⟨lw_p5, List.forall_mem_cons.mpr ⟨lw_p6, List.forall_mem_cons.mpr ⟨lw_p7, List.forall_mem_cons.mpr ⟨lw_p8, List.forall_mem_cons.mpr ⟨lw_p9, List.forall_mem_cons.mpr ⟨lw_p10, List.forall_mem_cons.mpr ⟨lw_p11, List.forall_mem_cons.mpr ⟨lw_p12, List.forall_mem_cons.mpr ⟨lw_p13, List.forall_mem_cons.mpr ⟨lw_p14, List.forall_mem_cons.mpr ⟨lw_p15, fun _ h => absurd h List.not_mem_nil⟩⟩⟩⟩⟩⟩⟩⟩⟩⟩⟩⟩⟩⟩⟩⟩
theorem lw_p16 : lw_okq (⟨"TollsForLate$Reader", "name", "()Z"⟩, 8) := ⟨⟨by decide +kernel, by decide +kernel⟩, List.mem_of_getElem? (i := 236) (by decide +kernel), List.mem_of_getElem? (i := 700) (by decide +kernel), List.mem_of_getElem? (i := 701) (by decide +kernel)⟩
theorem lw_p17 : lw_okq (⟨"TollsForLate$Reader", "plain", "(I)Z"⟩, 8) := ⟨⟨by decide +kernel, by decide +kernel⟩, List.mem_of_getElem? (i := 236) (by decide +kernel), List.mem_of_getElem? (i := 707) (by decide +kernel), List.mem_of_getElem? (i := 708) (by decide +kernel)⟩
theorem lw_p18 : lw_okq (⟨"TollsForLate$Reader", "told", "(III)Z"⟩, 8) := ⟨⟨by decide +kernel, by decide +kernel⟩, List.mem_of_getElem? (i := 236) (by decide +kernel), List.mem_of_getElem? (i := 711) (by decide +kernel), List.mem_of_getElem? (i := 712) (by decide +kernel)⟩
theorem lw_p19 : lw_okq (⟨"TollsForLate$Deeds", "passOne", "(LTollsForLate$Moment;)I"⟩, 3) := ⟨⟨by decide +kernel, by decide +kernel⟩, List.mem_of_getElem? (i := 339) (by decide +kernel), List.mem_of_getElem? (i := 796) (by decide +kernel), List.mem_of_getElem? (i := 797) (by decide +kernel)⟩
theorem lw_p20 : lw_okq (⟨"TollsForLate$Morning", "worked", "(LTollsForLate$Text;II)I"⟩, 12) := ⟨⟨by decide +kernel, by decide +kernel⟩, List.mem_of_getElem? (i := 293) (by decide +kernel), List.mem_of_getElem? (i := 830) (by decide +kernel), List.mem_of_getElem? (i := 831) (by decide +kernel)⟩
theorem lw_p21 : lw_okq (⟨"TollsForLate$Morning", "named", "(I)I"⟩, 12) := ⟨⟨by decide +kernel, by decide +kernel⟩, List.mem_of_getElem? (i := 293) (by decide +kernel), List.mem_of_getElem? (i := 835) (by decide +kernel), List.mem_of_getElem? (i := 836) (by decide +kernel)⟩
theorem lw_p22 : lw_okq (⟨"TollsForLate$Morning", "turned", "(II)I"⟩, 12) := ⟨⟨by decide +kernel, by decide +kernel⟩, List.mem_of_getElem? (i := 293) (by decide +kernel), List.mem_of_getElem? (i := 840) (by decide +kernel), List.mem_of_getElem? (i := 841) (by decide +kernel)⟩
theorem lw_p23 : lw_okq (⟨"TollsForLate$Moment", "write", "(I)V"⟩, 9) := ⟨⟨by decide +kernel, by decide +kernel⟩, List.mem_of_getElem? (i := 36) (by decide +kernel), List.mem_of_getElem? (i := 867) (by decide +kernel), List.mem_of_getElem? (i := 868) (by decide +kernel)⟩
theorem lw_p24 : lw_okq (⟨"TollsForLate$Deeds", "drawOne", "(LTollsForLate$Moment;I)V"⟩, 3) := ⟨⟨by decide +kernel, by decide +kernel⟩, List.mem_of_getElem? (i := 339) (by decide +kernel), List.mem_of_getElem? (i := 900) (by decide +kernel), List.mem_of_getElem? (i := 901) (by decide +kernel)⟩
theorem lw_p25 : lw_okq (⟨"TollsForLate", "runningNow", "()I"⟩, 12) := ⟨⟨by decide +kernel, by decide +kernel⟩, List.mem_of_getElem? (i := 22) (by decide +kernel), List.mem_of_getElem? (i := 917) (by decide +kernel), List.mem_of_getElem? (i := 918) (by decide +kernel)⟩
theorem lw_p26 : lw_okq (⟨"TollsForLate", "takesNow", "(I)I"⟩, 12) := ⟨⟨by decide +kernel, by decide +kernel⟩, List.mem_of_getElem? (i := 22) (by decide +kernel), List.mem_of_getElem? (i := 927) (by decide +kernel), List.mem_of_getElem? (i := 928) (by decide +kernel)⟩
theorem lw_p27 : lw_okq (⟨"TollsForLate$Leads", "walkFrom", "(I)I"⟩, 6) := ⟨⟨by decide +kernel, by decide +kernel⟩, List.mem_of_getElem? (i := 357) (by decide +kernel), List.mem_of_getElem? (i := 1010) (by decide +kernel), List.mem_of_getElem? (i := 1011) (by decide +kernel)⟩
theorem lw_p28 : lw_okq (⟨"TollsForLate$Leads", "clearMarks", "()V"⟩, 6) := ⟨⟨by decide +kernel, by decide +kernel⟩, List.mem_of_getElem? (i := 357) (by decide +kernel), List.mem_of_getElem? (i := 1014) (by decide +kernel), List.mem_of_getElem? (i := 1015) (by decide +kernel)⟩
theorem lw_p29 : lw_okq (⟨"TollsForLate", "isSettledByEachWeather", "(I)Z"⟩, 12) := ⟨⟨by decide +kernel, by decide +kernel⟩, List.mem_of_getElem? (i := 22) (by decide +kernel), List.mem_of_getElem? (i := 1080) (by decide +kernel), List.mem_of_getElem? (i := 1081) (by decide +kernel)⟩
theorem lw_p30 : lw_okq (⟨"TollsForLate", "wouldBeInTimeWalking", "(II)Z"⟩, 12) := ⟨⟨by decide +kernel, by decide +kernel⟩, List.mem_of_getElem? (i := 22) (by decide +kernel), List.mem_of_getElem? (i := 1111) (by decide +kernel), List.mem_of_getElem? (i := 1112) (by decide +kernel)⟩
theorem lw_p31 : lw_okq (⟨"TollsForLate$Beliefs", "fitsHeard", "(I)Z"⟩, 6) := ⟨⟨by decide +kernel, by decide +kernel⟩, List.mem_of_getElem? (i := 382) (by decide +kernel), List.mem_of_getElem? (i := 1149) (by decide +kernel), List.mem_of_getElem? (i := 1150) (by decide +kernel)⟩
def lw_privs_2 : List (MethodName × Nat) := [(⟨"TollsForLate$Reader", "name", "()Z"⟩, 8), (⟨"TollsForLate$Reader", "plain", "(I)Z"⟩, 8), (⟨"TollsForLate$Reader", "told", "(III)Z"⟩, 8), (⟨"TollsForLate$Deeds", "passOne", "(LTollsForLate$Moment;)I"⟩, 3), (⟨"TollsForLate$Morning", "worked", "(LTollsForLate$Text;II)I"⟩, 12), (⟨"TollsForLate$Morning", "named", "(I)I"⟩, 12), (⟨"TollsForLate$Morning", "turned", "(II)I"⟩, 12), (⟨"TollsForLate$Moment", "write", "(I)V"⟩, 9), (⟨"TollsForLate$Deeds", "drawOne", "(LTollsForLate$Moment;I)V"⟩, 3), (⟨"TollsForLate", "runningNow", "()I"⟩, 12), (⟨"TollsForLate", "takesNow", "(I)I"⟩, 12), (⟨"TollsForLate$Leads", "walkFrom", "(I)I"⟩, 6), (⟨"TollsForLate$Leads", "clearMarks", "()V"⟩, 6), (⟨"TollsForLate", "isSettledByEachWeather", "(I)Z"⟩, 12), (⟨"TollsForLate", "wouldBeInTimeWalking", "(II)Z"⟩, 12), (⟨"TollsForLate$Beliefs", "fitsHeard", "(I)Z"⟩, 6)]
theorem lw_r2 : ∀ q ∈ lw_privs_2, lw_okq q := List.forall_mem_cons.mpr ⟨lw_p16, List.forall_mem_cons.mpr ⟨lw_p17, List.forall_mem_cons.mpr ⟨lw_p18, List.forall_mem_cons.mpr ⟨lw_p19, List.forall_mem_cons.mpr ⟨lw_p20, List.forall_mem_cons.mpr ⟨lw_p21, List.forall_mem_cons.mpr ⟨lw_p22, List.forall_mem_cons.mpr ⟨lw_p23, List.forall_mem_cons.mpr ⟨lw_p24, List.forall_mem_cons.mpr ⟨lw_p25, List.forall_mem_cons.mpr ⟨lw_p26, List.forall_mem_cons.mpr ⟨lw_p27, List.forall_mem_cons.mpr ⟨lw_p28, List.forall_mem_cons.mpr ⟨lw_p29, List.forall_mem_cons.mpr ⟨lw_p30, List.forall_mem_cons.mpr ⟨lw_p31, fun _ h => absurd h List.not_mem_nil⟩⟩⟩⟩⟩⟩⟩⟩⟩⟩⟩⟩⟩⟩⟩⟩
theorem lw_p32 : lw_okq (⟨"TollsForLate$Beliefs", "fewestFor", "(I)I"⟩, 6) := ⟨⟨by decide +kernel, by decide +kernel⟩, List.mem_of_getElem? (i := 382) (by decide +kernel), List.mem_of_getElem? (i := 1182) (by decide +kernel), List.mem_of_getElem? (i := 1183) (by decide +kernel)⟩
theorem lw_p33 : lw_okq (⟨"TollsForLate$Beliefs", "afterAsking", "(II)I"⟩, 6) := ⟨⟨by decide +kernel, by decide +kernel⟩, List.mem_of_getElem? (i := 382) (by decide +kernel), List.mem_of_getElem? (i := 1186) (by decide +kernel), List.mem_of_getElem? (i := 1187) (by decide +kernel)⟩
theorem lw_p34 : lw_okq (⟨"TollsForLate", "nobodyIsLateWith", "(I)Z"⟩, 12) := ⟨⟨by decide +kernel, by decide +kernel⟩, List.mem_of_getElem? (i := 22) (by decide +kernel), List.mem_of_getElem? (i := 1204) (by decide +kernel), List.mem_of_getElem? (i := 1205) (by decide +kernel)⟩
theorem lw_p35 : lw_okq (⟨"TollsForLate", "allSaidIsSoBy", "(I)Z"⟩, 12) := ⟨⟨by decide +kernel, by decide +kernel⟩, List.mem_of_getElem? (i := 22) (by decide +kernel), List.mem_of_getElem? (i := 1229) (by decide +kernel), List.mem_of_getElem? (i := 1230) (by decide +kernel)⟩
theorem lw_p36 : lw_okq (⟨"TollsForLateModel", "put", "(III)V"⟩, 31) := ⟨⟨by decide +kernel, by decide +kernel⟩, List.mem_of_getElem? (i := 1266) (by decide +kernel), List.mem_of_getElem? (i := 1377) (by decide +kernel), List.mem_of_getElem? (i := 1378) (by decide +kernel)⟩
theorem lw_p37 : lw_okq (⟨"TollsForLateModel", "begin", "(I)V"⟩, 31) := ⟨⟨by decide +kernel, by decide +kernel⟩, List.mem_of_getElem? (i := 1266) (by decide +kernel), List.mem_of_getElem? (i := 1381) (by decide +kernel), List.mem_of_getElem? (i := 1382) (by decide +kernel)⟩
theorem lw_p38 : lw_okq (⟨"TollsForLateModel", "get", "(II)I"⟩, 31) := ⟨⟨by decide +kernel, by decide +kernel⟩, List.mem_of_getElem? (i := 1266) (by decide +kernel), List.mem_of_getElem? (i := 1385) (by decide +kernel), List.mem_of_getElem? (i := 1386) (by decide +kernel)⟩
theorem lw_p39 : lw_okq (⟨"TollsForLateModel", "four", "(I)V"⟩, 31) := ⟨⟨by decide +kernel, by decide +kernel⟩, List.mem_of_getElem? (i := 1266) (by decide +kernel), List.mem_of_getElem? (i := 1397) (by decide +kernel), List.mem_of_getElem? (i := 1398) (by decide +kernel)⟩
theorem lw_p40 : lw_okq (⟨"TollsForLateModel", "readText", "()I"⟩, 31) := ⟨⟨by decide +kernel, by decide +kernel⟩, List.mem_of_getElem? (i := 1266) (by decide +kernel), List.mem_of_getElem? (i := 1409) (by decide +kernel), List.mem_of_getElem? (i := 1410) (by decide +kernel)⟩
theorem lw_p41 : lw_okq (⟨"TollsForLateModel", "nextToken", "()V"⟩, 31) := ⟨⟨by decide +kernel, by decide +kernel⟩, List.mem_of_getElem? (i := 1266) (by decide +kernel), List.mem_of_getElem? (i := 1413) (by decide +kernel), List.mem_of_getElem? (i := 1414) (by decide +kernel)⟩
theorem lw_p42 : lw_okq (⟨"TollsForLateModel", "byteAt", "(I)I"⟩, 31) := ⟨⟨by decide +kernel, by decide +kernel⟩, List.mem_of_getElem? (i := 1266) (by decide +kernel), List.mem_of_getElem? (i := 1417) (by decide +kernel), List.mem_of_getElem? (i := 1418) (by decide +kernel)⟩
theorem lw_p43 : lw_okq (⟨"TollsForLateModel", "clause", "()I"⟩, 31) := ⟨⟨by decide +kernel, by decide +kernel⟩, List.mem_of_getElem? (i := 1266) (by decide +kernel), List.mem_of_getElem? (i := 1432) (by decide +kernel), List.mem_of_getElem? (i := 1433) (by decide +kernel)⟩
theorem lw_p44 : lw_okq (⟨"TollsForLateModel", "sortOf", "()I"⟩, 31) := ⟨⟨by decide +kernel, by decide +kernel⟩, List.mem_of_getElem? (i := 1266) (by decide +kernel), List.mem_of_getElem? (i := 1436) (by decide +kernel), List.mem_of_getElem? (i := 1437) (by decide +kernel)⟩
theorem lw_p45 : lw_okq (⟨"TollsForLateModel", "isWord", "(J)Z"⟩, 31) := ⟨⟨by decide +kernel, by decide +kernel⟩, List.mem_of_getElem? (i := 1266) (by decide +kernel), List.mem_of_getElem? (i := 1449) (by decide +kernel), List.mem_of_getElem? (i := 1450) (by decide +kernel)⟩
theorem lw_p46 : lw_okq (⟨"TollsForLateModel", "body", "(II)I"⟩, 31) := ⟨⟨by decide +kernel, by decide +kernel⟩, List.mem_of_getElem? (i := 1266) (by decide +kernel), List.mem_of_getElem? (i := 1462) (by decide +kernel), List.mem_of_getElem? (i := 1463) (by decide +kernel)⟩
theorem lw_p47 : lw_okq (⟨"TollsForLateModel", "personClause", "(I)I"⟩, 31) := ⟨⟨by decide +kernel, by decide +kernel⟩, List.mem_of_getElem? (i := 1266) (by decide +kernel), List.mem_of_getElem? (i := 1466) (by decide +kernel), List.mem_of_getElem? (i := 1467) (by decide +kernel)⟩
def lw_privs_3 : List (MethodName × Nat) := [(⟨"TollsForLate$Beliefs", "fewestFor", "(I)I"⟩, 6), (⟨"TollsForLate$Beliefs", "afterAsking", "(II)I"⟩, 6), (⟨"TollsForLate", "nobodyIsLateWith", "(I)Z"⟩, 12), (⟨"TollsForLate", "allSaidIsSoBy", "(I)Z"⟩, 12), (⟨"TollsForLateModel", "put", "(III)V"⟩, 31), (⟨"TollsForLateModel", "begin", "(I)V"⟩, 31), (⟨"TollsForLateModel", "get", "(II)I"⟩, 31), (⟨"TollsForLateModel", "four", "(I)V"⟩, 31), (⟨"TollsForLateModel", "readText", "()I"⟩, 31), (⟨"TollsForLateModel", "nextToken", "()V"⟩, 31), (⟨"TollsForLateModel", "byteAt", "(I)I"⟩, 31), (⟨"TollsForLateModel", "clause", "()I"⟩, 31), (⟨"TollsForLateModel", "sortOf", "()I"⟩, 31), (⟨"TollsForLateModel", "isWord", "(J)Z"⟩, 31), (⟨"TollsForLateModel", "body", "(II)I"⟩, 31), (⟨"TollsForLateModel", "personClause", "(I)I"⟩, 31)]
theorem lw_r3 : ∀ q ∈ lw_privs_3, lw_okq q := List.forall_mem_cons.mpr ⟨lw_p32, List.forall_mem_cons.mpr ⟨lw_p33, List.forall_mem_cons.mpr ⟨lw_p34, List.forall_mem_cons.mpr ⟨lw_p35, List.forall_mem_cons.mpr ⟨lw_p36, List.forall_mem_cons.mpr ⟨lw_p37, List.forall_mem_cons.mpr ⟨lw_p38, List.forall_mem_cons.mpr ⟨lw_p39, List.forall_mem_cons.mpr ⟨lw_p40, List.forall_mem_cons.mpr ⟨lw_p41, List.forall_mem_cons.mpr ⟨lw_p42, List.forall_mem_cons.mpr ⟨lw_p43, List.forall_mem_cons.mpr ⟨lw_p44, List.forall_mem_cons.mpr ⟨lw_p45, List.forall_mem_cons.mpr ⟨lw_p46, List.forall_mem_cons.mpr ⟨lw_p47, fun _ h => absurd h List.not_mem_nil⟩⟩⟩⟩⟩⟩⟩⟩⟩⟩⟩⟩⟩⟩⟩⟩
theorem lw_p48 : lw_okq (⟨"TollsForLateModel", "figure", "(III)I"⟩, 31) := ⟨⟨by decide +kernel, by decide +kernel⟩, List.mem_of_getElem? (i := 1266) (by decide +kernel), List.mem_of_getElem? (i := 1470) (by decide +kernel), List.mem_of_getElem? (i := 1471) (by decide +kernel)⟩
theorem lw_p49 : lw_okq (⟨"TollsForLateModel", "worded", "(JIII)I"⟩, 31) := ⟨⟨by decide +kernel, by decide +kernel⟩, List.mem_of_getElem? (i := 1266) (by decide +kernel), List.mem_of_getElem? (i := 1474) (by decide +kernel), List.mem_of_getElem? (i := 1475) (by decide +kernel)⟩
theorem lw_p50 : lw_okq (⟨"TollsForLateModel", "dueClause", "(I)I"⟩, 31) := ⟨⟨by decide +kernel, by decide +kernel⟩, List.mem_of_getElem? (i := 1266) (by decide +kernel), List.mem_of_getElem? (i := 1478) (by decide +kernel), List.mem_of_getElem? (i := 1479) (by decide +kernel)⟩
theorem lw_p51 : lw_okq (⟨"TollsForLateModel", "lawClause", "(I)I"⟩, 31) := ⟨⟨by decide +kernel, by decide +kernel⟩, List.mem_of_getElem? (i := 1266) (by decide +kernel), List.mem_of_getElem? (i := 1482) (by decide +kernel), List.mem_of_getElem? (i := 1483) (by decide +kernel)⟩
theorem lw_p52 : lw_okq (⟨"TollsForLateModel", "summed", "()I"⟩, 31) := ⟨⟨by decide +kernel, by decide +kernel⟩, List.mem_of_getElem? (i := 1266) (by decide +kernel), List.mem_of_getElem? (i := 1486) (by decide +kernel), List.mem_of_getElem? (i := 1487) (by decide +kernel)⟩
theorem lw_p53 : lw_okq (⟨"TollsForLateModel", "behindOne", "()Z"⟩, 31) := ⟨⟨by decide +kernel, by decide +kernel⟩, List.mem_of_getElem? (i := 1266) (by decide +kernel), List.mem_of_getElem? (i := 1490) (by decide +kernel), List.mem_of_getElem? (i := 1491) (by decide +kernel)⟩
theorem lw_p54 : lw_okq (⟨"TollsForLateModel", "betweenOf", "()I"⟩, 31) := ⟨⟨by decide +kernel, by decide +kernel⟩, List.mem_of_getElem? (i := 1266) (by decide +kernel), List.mem_of_getElem? (i := 1494) (by decide +kernel), List.mem_of_getElem? (i := 1495) (by decide +kernel)⟩
theorem lw_p55 : lw_okq (⟨"TollsForLateModel", "openNow", "()I"⟩, 31) := ⟨⟨by decide +kernel, by decide +kernel⟩, List.mem_of_getElem? (i := 1266) (by decide +kernel), List.mem_of_getElem? (i := 1498) (by decide +kernel), List.mem_of_getElem? (i := 1499) (by decide +kernel)⟩
theorem lw_p56 : lw_okq (⟨"TollsForLateModel", "openAt", "()I"⟩, 31) := ⟨⟨by decide +kernel, by decide +kernel⟩, List.mem_of_getElem? (i := 1266) (by decide +kernel), List.mem_of_getElem? (i := 1502) (by decide +kernel), List.mem_of_getElem? (i := 1503) (by decide +kernel)⟩
theorem lw_p57 : lw_okq (⟨"TollsForLateModel", "isCompared", "()Z"⟩, 31) := ⟨⟨by decide +kernel, by decide +kernel⟩, List.mem_of_getElem? (i := 1266) (by decide +kernel), List.mem_of_getElem? (i := 1506) (by decide +kernel), List.mem_of_getElem? (i := 1507) (by decide +kernel)⟩
theorem lw_p58 : lw_okq (⟨"TollsForLateModel", "compareOf", "()I"⟩, 31) := ⟨⟨by decide +kernel, by decide +kernel⟩, List.mem_of_getElem? (i := 1266) (by decide +kernel), List.mem_of_getElem? (i := 1513) (by decide +kernel), List.mem_of_getElem? (i := 1514) (by decide +kernel)⟩
theorem lw_p59 : lw_okq (⟨"TollsForLateModel", "settle", "(I)V"⟩, 31) := ⟨⟨by decide +kernel, by decide +kernel⟩, List.mem_of_getElem? (i := 1266) (by decide +kernel), List.mem_of_getElem? (i := 1517) (by decide +kernel), List.mem_of_getElem? (i := 1518) (by decide +kernel)⟩
theorem lw_p60 : lw_okq (⟨"TollsForLateModel", "emit", "(II)V"⟩, 31) := ⟨⟨by decide +kernel, by decide +kernel⟩, List.mem_of_getElem? (i := 1266) (by decide +kernel), List.mem_of_getElem? (i := 1521) (by decide +kernel), List.mem_of_getElem? (i := 1522) (by decide +kernel)⟩
theorem lw_p61 : lw_okq (⟨"TollsForLateModel", "partOf", "(I)I"⟩, 31) := ⟨⟨by decide +kernel, by decide +kernel⟩, List.mem_of_getElem? (i := 1266) (by decide +kernel), List.mem_of_getElem? (i := 1525) (by decide +kernel), List.mem_of_getElem? (i := 1526) (by decide +kernel)⟩
theorem lw_p62 : lw_okq (⟨"TollsForLateModel", "beginOne", "()I"⟩, 31) := ⟨⟨by decide +kernel, by decide +kernel⟩, List.mem_of_getElem? (i := 1266) (by decide +kernel), List.mem_of_getElem? (i := 1529) (by decide +kernel), List.mem_of_getElem? (i := 1530) (by decide +kernel)⟩
theorem lw_p63 : lw_okq (⟨"TollsForLateModel", "nameOf", "()I"⟩, 31) := ⟨⟨by decide +kernel, by decide +kernel⟩, List.mem_of_getElem? (i := 1266) (by decide +kernel), List.mem_of_getElem? (i := 1533) (by decide +kernel), List.mem_of_getElem? (i := 1534) (by decide +kernel)⟩
def lw_privs_4 : List (MethodName × Nat) := [(⟨"TollsForLateModel", "figure", "(III)I"⟩, 31), (⟨"TollsForLateModel", "worded", "(JIII)I"⟩, 31), (⟨"TollsForLateModel", "dueClause", "(I)I"⟩, 31), (⟨"TollsForLateModel", "lawClause", "(I)I"⟩, 31), (⟨"TollsForLateModel", "summed", "()I"⟩, 31), (⟨"TollsForLateModel", "behindOne", "()Z"⟩, 31), (⟨"TollsForLateModel", "betweenOf", "()I"⟩, 31), (⟨"TollsForLateModel", "openNow", "()I"⟩, 31), (⟨"TollsForLateModel", "openAt", "()I"⟩, 31), (⟨"TollsForLateModel", "isCompared", "()Z"⟩, 31), (⟨"TollsForLateModel", "compareOf", "()I"⟩, 31), (⟨"TollsForLateModel", "settle", "(I)V"⟩, 31), (⟨"TollsForLateModel", "emit", "(II)V"⟩, 31), (⟨"TollsForLateModel", "partOf", "(I)I"⟩, 31), (⟨"TollsForLateModel", "beginOne", "()I"⟩, 31), (⟨"TollsForLateModel", "nameOf", "()I"⟩, 31)]
theorem lw_r4 : ∀ q ∈ lw_privs_4, lw_okq q := List.forall_mem_cons.mpr ⟨lw_p48, List.forall_mem_cons.mpr ⟨lw_p49, List.forall_mem_cons.mpr ⟨lw_p50, List.forall_mem_cons.mpr ⟨lw_p51, List.forall_mem_cons.mpr ⟨lw_p52, List.forall_mem_cons.mpr ⟨lw_p53, List.forall_mem_cons.mpr ⟨lw_p54, List.forall_mem_cons.mpr ⟨lw_p55, List.forall_mem_cons.mpr ⟨lw_p56, List.forall_mem_cons.mpr ⟨lw_p57, List.forall_mem_cons.mpr ⟨lw_p58, List.forall_mem_cons.mpr ⟨lw_p59, List.forall_mem_cons.mpr ⟨lw_p60, List.forall_mem_cons.mpr ⟨lw_p61, List.forall_mem_cons.mpr ⟨lw_p62, List.forall_mem_cons.mpr ⟨lw_p63, fun _ h => absurd h List.not_mem_nil⟩⟩⟩⟩⟩⟩⟩⟩⟩⟩⟩⟩⟩⟩⟩⟩
theorem lw_p64 : lw_okq (⟨"TollsForLateModel", "isWeather", "()Z"⟩, 31) := ⟨⟨by decide +kernel, by decide +kernel⟩, List.mem_of_getElem? (i := 1266) (by decide +kernel), List.mem_of_getElem? (i := 1537) (by decide +kernel), List.mem_of_getElem? (i := 1538) (by decide +kernel)⟩
theorem lw_p65 : lw_okq (⟨"TollsForLateModel", "isOf", "(I)Z"⟩, 31) := ⟨⟨by decide +kernel, by decide +kernel⟩, List.mem_of_getElem? (i := 1266) (by decide +kernel), List.mem_of_getElem? (i := 1541) (by decide +kernel), List.mem_of_getElem? (i := 1542) (by decide +kernel)⟩
theorem lw_p66 : lw_okq (⟨"TollsForLateModel", "opened", "(I)I"⟩, 31) := ⟨⟨by decide +kernel, by decide +kernel⟩, List.mem_of_getElem? (i := 1266) (by decide +kernel), List.mem_of_getElem? (i := 1545) (by decide +kernel), List.mem_of_getElem? (i := 1546) (by decide +kernel)⟩
theorem lw_p67 : lw_okq (⟨"TollsForLateModel", "isAskAhead", "()Z"⟩, 31) := ⟨⟨by decide +kernel, by decide +kernel⟩, List.mem_of_getElem? (i := 1266) (by decide +kernel), List.mem_of_getElem? (i := 1549) (by decide +kernel), List.mem_of_getElem? (i := 1550) (by decide +kernel)⟩
theorem lw_p68 : lw_okq (⟨"TollsForLateModel", "areRings", "(I)Z"⟩, 31) := ⟨⟨by decide +kernel, by decide +kernel⟩, List.mem_of_getElem? (i := 1266) (by decide +kernel), List.mem_of_getElem? (i := 1569) (by decide +kernel), List.mem_of_getElem? (i := 1570) (by decide +kernel)⟩
theorem lw_p69 : lw_okq (⟨"TollsForLateModel", "all", "()I"⟩, 31) := ⟨⟨by decide +kernel, by decide +kernel⟩, List.mem_of_getElem? (i := 1266) (by decide +kernel), List.mem_of_getElem? (i := 1573) (by decide +kernel), List.mem_of_getElem? (i := 1574) (by decide +kernel)⟩
theorem lw_p70 : lw_okq (⟨"TollsForLateModel", "keep", "()V"⟩, 31) := ⟨⟨by decide +kernel, by decide +kernel⟩, List.mem_of_getElem? (i := 1266) (by decide +kernel), List.mem_of_getElem? (i := 1577) (by decide +kernel), List.mem_of_getElem? (i := 1578) (by decide +kernel)⟩
theorem lw_p71 : lw_okq (⟨"TollsForLateModel", "isPerson", "(I)Z"⟩, 31) := ⟨⟨by decide +kernel, by decide +kernel⟩, List.mem_of_getElem? (i := 1266) (by decide +kernel), List.mem_of_getElem? (i := 1585) (by decide +kernel), List.mem_of_getElem? (i := 1586) (by decide +kernel)⟩
theorem lw_p72 : lw_okq (⟨"TollsForLateModel", "isLain", "(II)Z"⟩, 31) := ⟨⟨by decide +kernel, by decide +kernel⟩, List.mem_of_getElem? (i := 1266) (by decide +kernel), List.mem_of_getElem? (i := 1593) (by decide +kernel), List.mem_of_getElem? (i := 1594) (by decide +kernel)⟩
theorem lw_p73 : lw_okq (⟨"TollsForLateModel", "arePassed", "(I)Z"⟩, 31) := ⟨⟨by decide +kernel, by decide +kernel⟩, List.mem_of_getElem? (i := 1266) (by decide +kernel), List.mem_of_getElem? (i := 1605) (by decide +kernel), List.mem_of_getElem? (i := 1606) (by decide +kernel)⟩
theorem lw_p74 : lw_okq (⟨"TollsForLateModel", "pass", "()V"⟩, 31) := ⟨⟨by decide +kernel, by decide +kernel⟩, List.mem_of_getElem? (i := 1266) (by decide +kernel), List.mem_of_getElem? (i := 1609) (by decide +kernel), List.mem_of_getElem? (i := 1610) (by decide +kernel)⟩
theorem lw_p75 : lw_okq (⟨"TollsForLateModel", "anew", "()V"⟩, 31) := ⟨⟨by decide +kernel, by decide +kernel⟩, List.mem_of_getElem? (i := 1266) (by decide +kernel), List.mem_of_getElem? (i := 1613) (by decide +kernel), List.mem_of_getElem? (i := 1614) (by decide +kernel)⟩
theorem lw_p76 : lw_okq (⟨"TollsForLateModel", "lateBy", "(I)I"⟩, 31) := ⟨⟨by decide +kernel, by decide +kernel⟩, List.mem_of_getElem? (i := 1266) (by decide +kernel), List.mem_of_getElem? (i := 1620) (by decide +kernel), List.mem_of_getElem? (i := 1621) (by decide +kernel)⟩
theorem lw_p77 : lw_okq (⟨"TollsForLateModel", "runnersBy", "(II)I"⟩, 31) := ⟨⟨by decide +kernel, by decide +kernel⟩, List.mem_of_getElem? (i := 1266) (by decide +kernel), List.mem_of_getElem? (i := 1624) (by decide +kernel), List.mem_of_getElem? (i := 1625) (by decide +kernel)⟩
theorem lw_p78 : lw_okq (⟨"TollsForLateModel", "isUp", "(I)Z"⟩, 31) := ⟨⟨by decide +kernel, by decide +kernel⟩, List.mem_of_getElem? (i := 1266) (by decide +kernel), List.mem_of_getElem? (i := 1628) (by decide +kernel), List.mem_of_getElem? (i := 1629) (by decide +kernel)⟩
theorem lw_p79 : lw_okq (⟨"TollsForLateModel", "name", "(II)V"⟩, 31) := ⟨⟨by decide +kernel, by decide +kernel⟩, List.mem_of_getElem? (i := 1266) (by decide +kernel), List.mem_of_getElem? (i := 1632) (by decide +kernel), List.mem_of_getElem? (i := 1633) (by decide +kernel)⟩
def lw_privs_5 : List (MethodName × Nat) := [(⟨"TollsForLateModel", "isWeather", "()Z"⟩, 31), (⟨"TollsForLateModel", "isOf", "(I)Z"⟩, 31), (⟨"TollsForLateModel", "opened", "(I)I"⟩, 31), (⟨"TollsForLateModel", "isAskAhead", "()Z"⟩, 31), (⟨"TollsForLateModel", "areRings", "(I)Z"⟩, 31), (⟨"TollsForLateModel", "all", "()I"⟩, 31), (⟨"TollsForLateModel", "keep", "()V"⟩, 31), (⟨"TollsForLateModel", "isPerson", "(I)Z"⟩, 31), (⟨"TollsForLateModel", "isLain", "(II)Z"⟩, 31), (⟨"TollsForLateModel", "arePassed", "(I)Z"⟩, 31), (⟨"TollsForLateModel", "pass", "()V"⟩, 31), (⟨"TollsForLateModel", "anew", "()V"⟩, 31), (⟨"TollsForLateModel", "lateBy", "(I)I"⟩, 31), (⟨"TollsForLateModel", "runnersBy", "(II)I"⟩, 31), (⟨"TollsForLateModel", "isUp", "(I)Z"⟩, 31), (⟨"TollsForLateModel", "name", "(II)V"⟩, 31)]
theorem lw_r5 : ∀ q ∈ lw_privs_5, lw_okq q := List.forall_mem_cons.mpr ⟨lw_p64, List.forall_mem_cons.mpr ⟨lw_p65, List.forall_mem_cons.mpr ⟨lw_p66, List.forall_mem_cons.mpr ⟨lw_p67, List.forall_mem_cons.mpr ⟨lw_p68, List.forall_mem_cons.mpr ⟨lw_p69, List.forall_mem_cons.mpr ⟨lw_p70, List.forall_mem_cons.mpr ⟨lw_p71, List.forall_mem_cons.mpr ⟨lw_p72, List.forall_mem_cons.mpr ⟨lw_p73, List.forall_mem_cons.mpr ⟨lw_p74, List.forall_mem_cons.mpr ⟨lw_p75, List.forall_mem_cons.mpr ⟨lw_p76, List.forall_mem_cons.mpr ⟨lw_p77, List.forall_mem_cons.mpr ⟨lw_p78, List.forall_mem_cons.mpr ⟨lw_p79, fun _ h => absurd h List.not_mem_nil⟩⟩⟩⟩⟩⟩⟩⟩⟩⟩⟩⟩⟩⟩⟩⟩
theorem lw_p80 : lw_okq (⟨"TollsForLateModel", "says", "(IIII)I"⟩, 31) := ⟨⟨by decide +kernel, by decide +kernel⟩, List.mem_of_getElem? (i := 1266) (by decide +kernel), List.mem_of_getElem? (i := 1639) (by decide +kernel), List.mem_of_getElem? (i := 1640) (by decide +kernel)⟩
theorem lw_p81 : lw_okq (⟨"TollsForLateModel", "summedUp", "(II)J"⟩, 31) := ⟨⟨by decide +kernel, by decide +kernel⟩, List.mem_of_getElem? (i := 1266) (by decide +kernel), List.mem_of_getElem? (i := 1643) (by decide +kernel), List.mem_of_getElem? (i := 1644) (by decide +kernel)⟩
theorem lw_p82 : lw_okq (⟨"TollsForLateModel", "ringsFor", "(J)J"⟩, 31) := ⟨⟨by decide +kernel, by decide +kernel⟩, List.mem_of_getElem? (i := 1266) (by decide +kernel), List.mem_of_getElem? (i := 1647) (by decide +kernel), List.mem_of_getElem? (i := 1648) (by decide +kernel)⟩
theorem lw_p83 : lw_okq (⟨"TollsForLateModel", "takesOf", "(IIII)I"⟩, 31) := ⟨⟨by decide +kernel, by decide +kernel⟩, List.mem_of_getElem? (i := 1266) (by decide +kernel), List.mem_of_getElem? (i := 1668) (by decide +kernel), List.mem_of_getElem? (i := 1669) (by decide +kernel)⟩
theorem lw_p84 : lw_okq (⟨"TollsForLateModel", "write", "(I)V"⟩, 31) := ⟨⟨by decide +kernel, by decide +kernel⟩, List.mem_of_getElem? (i := 1266) (by decide +kernel), List.mem_of_getElem? (i := 1672) (by decide +kernel), List.mem_of_getElem? (i := 1673) (by decide +kernel)⟩
theorem lw_p85 : lw_okq (⟨"TollsForLateModel", "isPlayed", "(I)Z"⟩, 31) := ⟨⟨by decide +kernel, by decide +kernel⟩, List.mem_of_getElem? (i := 1266) (by decide +kernel), List.mem_of_getElem? (i := 1680) (by decide +kernel), List.mem_of_getElem? (i := 1681) (by decide +kernel)⟩
theorem lw_p86 : lw_okq (⟨"TollsForLateModel", "happens", "(I)V"⟩, 31) := ⟨⟨by decide +kernel, by decide +kernel⟩, List.mem_of_getElem? (i := 1266) (by decide +kernel), List.mem_of_getElem? (i := 1693) (by decide +kernel), List.mem_of_getElem? (i := 1694) (by decide +kernel)⟩
theorem lw_p87 : lw_okq (⟨"TollsForLateModel", "runningNow", "()I"⟩, 31) := ⟨⟨by decide +kernel, by decide +kernel⟩, List.mem_of_getElem? (i := 1266) (by decide +kernel), List.mem_of_getElem? (i := 1701) (by decide +kernel), List.mem_of_getElem? (i := 1702) (by decide +kernel)⟩
theorem lw_p88 : lw_okq (⟨"TollsForLateModel", "takesNow", "(II)I"⟩, 31) := ⟨⟨by decide +kernel, by decide +kernel⟩, List.mem_of_getElem? (i := 1266) (by decide +kernel), List.mem_of_getElem? (i := 1705) (by decide +kernel), List.mem_of_getElem? (i := 1706) (by decide +kernel)⟩
theorem lw_p89 : lw_okq (⟨"TollsForLateModel", "layLeads", "()V"⟩, 31) := ⟨⟨by decide +kernel, by decide +kernel⟩, List.mem_of_getElem? (i := 1266) (by decide +kernel), List.mem_of_getElem? (i := 1750) (by decide +kernel), List.mem_of_getElem? (i := 1751) (by decide +kernel)⟩
theorem lw_p90 : lw_okq (⟨"TollsForLateModel", "goneFrom", "(II)I"⟩, 31) := ⟨⟨by decide +kernel, by decide +kernel⟩, List.mem_of_getElem? (i := 1266) (by decide +kernel), List.mem_of_getElem? (i := 1762) (by decide +kernel), List.mem_of_getElem? (i := 1763) (by decide +kernel)⟩
theorem lw_p91 : lw_okq (⟨"TollsForLateModel", "isRound", "(I)Z"⟩, 31) := ⟨⟨by decide +kernel, by decide +kernel⟩, List.mem_of_getElem? (i := 1266) (by decide +kernel), List.mem_of_getElem? (i := 1766) (by decide +kernel), List.mem_of_getElem? (i := 1767) (by decide +kernel)⟩
theorem lw_p92 : lw_okq (⟨"TollsForLateModel", "timesTo", "(II)I"⟩, 31) := ⟨⟨by decide +kernel, by decide +kernel⟩, List.mem_of_getElem? (i := 1266) (by decide +kernel), List.mem_of_getElem? (i := 1782) (by decide +kernel), List.mem_of_getElem? (i := 1783) (by decide +kernel)⟩
theorem lw_p93 : lw_okq (⟨"TollsForLateModel", "isNeedless", "(I)Z"⟩, 31) := ⟨⟨by decide +kernel, by decide +kernel⟩, List.mem_of_getElem? (i := 1266) (by decide +kernel), List.mem_of_getElem? (i := 1826) (by decide +kernel), List.mem_of_getElem? (i := 1827) (by decide +kernel)⟩
theorem lw_p94 : lw_okq (⟨"TollsForLateModel", "layDays", "()I"⟩, 31) := ⟨⟨by decide +kernel, by decide +kernel⟩, List.mem_of_getElem? (i := 1266) (by decide +kernel), List.mem_of_getElem? (i := 1849) (by decide +kernel), List.mem_of_getElem? (i := 1850) (by decide +kernel)⟩
theorem lw_p95 : lw_okq (⟨"TollsForLateModel", "asksBy", "(III)I"⟩, 31) := ⟨⟨by decide +kernel, by decide +kernel⟩, List.mem_of_getElem? (i := 1266) (by decide +kernel), List.mem_of_getElem? (i := 1865) (by decide +kernel), List.mem_of_getElem? (i := 1866) (by decide +kernel)⟩
def lw_privs_6 : List (MethodName × Nat) := [(⟨"TollsForLateModel", "says", "(IIII)I"⟩, 31), (⟨"TollsForLateModel", "summedUp", "(II)J"⟩, 31), (⟨"TollsForLateModel", "ringsFor", "(J)J"⟩, 31), (⟨"TollsForLateModel", "takesOf", "(IIII)I"⟩, 31), (⟨"TollsForLateModel", "write", "(I)V"⟩, 31), (⟨"TollsForLateModel", "isPlayed", "(I)Z"⟩, 31), (⟨"TollsForLateModel", "happens", "(I)V"⟩, 31), (⟨"TollsForLateModel", "runningNow", "()I"⟩, 31), (⟨"TollsForLateModel", "takesNow", "(II)I"⟩, 31), (⟨"TollsForLateModel", "layLeads", "()V"⟩, 31), (⟨"TollsForLateModel", "goneFrom", "(II)I"⟩, 31), (⟨"TollsForLateModel", "isRound", "(I)Z"⟩, 31), (⟨"TollsForLateModel", "timesTo", "(II)I"⟩, 31), (⟨"TollsForLateModel", "isNeedless", "(I)Z"⟩, 31), (⟨"TollsForLateModel", "layDays", "()I"⟩, 31), (⟨"TollsForLateModel", "asksBy", "(III)I"⟩, 31)]
theorem lw_r6 : ∀ q ∈ lw_privs_6, lw_okq q := List.forall_mem_cons.mpr ⟨lw_p80, List.forall_mem_cons.mpr ⟨lw_p81, List.forall_mem_cons.mpr ⟨lw_p82, List.forall_mem_cons.mpr ⟨lw_p83, List.forall_mem_cons.mpr ⟨lw_p84, List.forall_mem_cons.mpr ⟨lw_p85, List.forall_mem_cons.mpr ⟨lw_p86, List.forall_mem_cons.mpr ⟨lw_p87, List.forall_mem_cons.mpr ⟨lw_p88, List.forall_mem_cons.mpr ⟨lw_p89, List.forall_mem_cons.mpr ⟨lw_p90, List.forall_mem_cons.mpr ⟨lw_p91, List.forall_mem_cons.mpr ⟨lw_p92, List.forall_mem_cons.mpr ⟨lw_p93, List.forall_mem_cons.mpr ⟨lw_p94, List.forall_mem_cons.mpr ⟨lw_p95, fun _ h => absurd h List.not_mem_nil⟩⟩⟩⟩⟩⟩⟩⟩⟩⟩⟩⟩⟩⟩⟩⟩
theorem lw_p96 : lw_okq (⟨"TollsForLateModel", "leastAsleep", "()I"⟩, 31) := ⟨⟨by decide +kernel, by decide +kernel⟩, List.mem_of_getElem? (i := 1266) (by decide +kernel), List.mem_of_getElem? (i := 1873) (by decide +kernel), List.mem_of_getElem? (i := 1874) (by decide +kernel)⟩
theorem lw_p97 : lw_okq (⟨"TollsForLateModel", "inBed", "()I"⟩, 31) := ⟨⟨by decide +kernel, by decide +kernel⟩, List.mem_of_getElem? (i := 1266) (by decide +kernel), List.mem_of_getElem? (i := 1877) (by decide +kernel), List.mem_of_getElem? (i := 1878) (by decide +kernel)⟩
theorem lw_p98 : lw_okq (⟨"TollsForLateModel", "layBeds", "(I)V"⟩, 31) := ⟨⟨by decide +kernel, by decide +kernel⟩, List.mem_of_getElem? (i := 1266) (by decide +kernel), List.mem_of_getElem? (i := 1881) (by decide +kernel), List.mem_of_getElem? (i := 1882) (by decide +kernel)⟩
def lw_privs_7 : List (MethodName × Nat) := [(⟨"TollsForLateModel", "leastAsleep", "()I"⟩, 31), (⟨"TollsForLateModel", "inBed", "()I"⟩, 31), (⟨"TollsForLateModel", "layBeds", "(I)V"⟩, 31)]
theorem lw_r7 : ∀ q ∈ lw_privs_7, lw_okq q := List.forall_mem_cons.mpr ⟨lw_p96, List.forall_mem_cons.mpr ⟨lw_p97, List.forall_mem_cons.mpr ⟨lw_p98, fun _ h => absurd h List.not_mem_nil⟩⟩⟩
def lw_privs : List (MethodName × Nat) := lw_privs_1 ++ (lw_privs_2 ++ (lw_privs_3 ++ (lw_privs_4 ++ (lw_privs_5 ++ (lw_privs_6 ++ (lw_privs_7))))))
def lw_tbl : List Cond := k2_sels lw_privs ++ tables_1
theorem lw_privs_ok : ∀ q ∈ lw_privs, lw_okq q := by
  show ∀ q ∈ lw_privs_1 ++ (lw_privs_2 ++ (lw_privs_3 ++ (lw_privs_4 ++ (lw_privs_5 ++ (lw_privs_6 ++ (lw_privs_7)))))), lw_okq q
  exact List.forall_mem_append.mpr ⟨lw_r1, List.forall_mem_append.mpr ⟨lw_r2, List.forall_mem_append.mpr ⟨lw_r3, List.forall_mem_append.mpr ⟨lw_r4, List.forall_mem_append.mpr ⟨lw_r5, List.forall_mem_append.mpr ⟨lw_r6, lw_r7⟩⟩⟩⟩⟩⟩
def RX0 : String := "TollsForLate$Beliefs"
def TX0 : u_T := fun k => match k with
  | 0 => ("TollsForLate$Beliefs", "town", "LTollsForLate$Town;", true)
  | 1 => ("TollsForLate$Beliefs", "leads", "LTollsForLate$Leads;", true)
  | 2 => ("TollsForLate$Beliefs", "days", "[I", true)
  | 3 => ("TollsForLate$Beliefs", "lateOn", "[I", true)
  | 4 => ("TollsForLate$Beliefs", "asked", "[I", false)
  | _ => ("TollsForLate$Beliefs", "count", "I", false)
def tyX0 : Nat → FieldType := fun k => match k with
  | 0 => .object "TollsForLate$Town"
  | 1 => .object "TollsForLate$Leads"
  | 2 => .array .int
  | 3 => .array .int
  | 4 => .array .int
  | _ => .int
theorem nmX0 : ∀ a, a < 6 → ∀ b, b < 6 → a ≠ b → (TX0 a).2.1 ≠ (TX0 b).2.1 := by decide +kernel
theorem tyX0_ok : ∀ k, k < 6 → parseFieldDescriptor (TX0 k).2.2.1 = some (tyX0 k) := by decide +kernel
abbrev cX0_init : ByteArray := prog_2_method_1_code
def yX0_init : MethodName := ⟨RX0, "<init>", "(LTollsForLate$Town;LTollsForLate$Leads;)V"⟩
abbrev cX0_gather : ByteArray := prog_2_method_2_code
def yX0_gather : MethodName := ⟨RX0, "gather", "()V"⟩
abbrev cX0_fitsHeard : ByteArray := prog_2_method_3_code
def yX0_fitsHeard : MethodName := ⟨RX0, "fitsHeard", "(I)Z"⟩
abbrev cX0_likely : ByteArray := prog_2_method_4_code
def yX0_likely : MethodName := ⟨RX0, "likely", "(IZ)I"⟩
abbrev cX0_commonOf : ByteArray := prog_2_method_5_code
def yX0_commonOf : MethodName := ⟨RX0, "commonOf", "(II)I"⟩
abbrev cX0_lateInAll : ByteArray := prog_2_method_6_code
def yX0_lateInAll : MethodName := ⟨RX0, "lateInAll", "()I"⟩
abbrev cX0_lateInNone : ByteArray := prog_2_method_7_code
def yX0_lateInNone : MethodName := ⟨RX0, "lateInNone", "()I"⟩
abbrev cX0_weigh : ByteArray := prog_2_method_8_code
def yX0_weigh : MethodName := ⟨RX0, "weigh", "()V"⟩
abbrev cX0_fewestFor : ByteArray := prog_2_method_9_code
def yX0_fewestFor : MethodName := ⟨RX0, "fewestFor", "(I)I"⟩
abbrev cX0_afterAsking : ByteArray := prog_2_method_10_code
def yX0_afterAsking : MethodName := ⟨RX0, "afterAsking", "(II)I"⟩
abbrev cX0_mostAsked : ByteArray := prog_2_method_11_code
def yX0_mostAsked : MethodName := ⟨RX0, "mostAsked", "()I"⟩
abbrev cX0_firstToAsk : ByteArray := prog_2_method_12_code
def yX0_firstToAsk : MethodName := ⟨RX0, "firstToAsk", "()I"⟩
def RX1 : String := "TollsForLate$Deeds"
def TX1 : u_T := fun k => match k with
  | 0 => ("TollsForLate$Deeds", "town", "LTollsForLate$Town;", true)
  | 1 => ("TollsForLate$Deeds", "morning", "LTollsForLate$Morning;", true)
  | _ => ("TollsForLate$Deeds", "ahead", "LTollsForLate$Moment;", true)
def tyX1 : Nat → FieldType := fun k => match k with
  | 0 => .object "TollsForLate$Town"
  | 1 => .object "TollsForLate$Morning"
  | _ => .object "TollsForLate$Moment"
theorem nmX1 : ∀ a, a < 3 → ∀ b, b < 3 → a ≠ b → (TX1 a).2.1 ≠ (TX1 b).2.1 := by decide +kernel
theorem tyX1_ok : ∀ k, k < 3 → parseFieldDescriptor (TX1 k).2.2.1 = some (tyX1 k) := by decide +kernel
abbrev cX1_init : ByteArray := prog_3_method_1_code
def yX1_init : MethodName := ⟨RX1, "<init>", "(LTollsForLate$Town;LTollsForLate$Morning;)V"⟩
abbrev cX1_ringFor : ByteArray := prog_3_method_2_code
def yX1_ringFor : MethodName := ⟨RX1, "ringFor", "(I)Z"⟩
abbrev cX1_putOff : ByteArray := prog_3_method_3_code
def yX1_putOff : MethodName := ⟨RX1, "putOff", "(II)Z"⟩
abbrev cX1_goToBed : ByteArray := prog_3_method_4_code
def yX1_goToBed : MethodName := ⟨RX1, "goToBed", "(I)Z"⟩
abbrev cX1_getUp : ByteArray := prog_3_method_5_code
def yX1_getUp : MethodName := ⟨RX1, "getUp", "(I)Z"⟩
abbrev cX1_daysThatCanPass : ByteArray := prog_3_method_6_code
def yX1_daysThatCanPass : MethodName := ⟨RX1, "daysThatCanPass", "()I"⟩
abbrev cX1_passDays : ByteArray := prog_3_method_7_code
def yX1_passDays : MethodName := ⟨RX1, "passDays", "(I)I"⟩
abbrev cX1_passOne : ByteArray := prog_3_method_8_code
def yX1_passOne : MethodName := ⟨RX1, "passOne", "(LTollsForLate$Moment;)I"⟩
abbrev cX1_foretell : ByteArray := prog_3_method_9_code
def yX1_foretell : MethodName := ⟨RX1, "foretell", "(II)I"⟩
abbrev cX1_playClause : ByteArray := prog_3_method_10_code
def yX1_playClause : MethodName := ⟨RX1, "playClause", "(LTollsForLate$Text;I)Z"⟩
abbrev cX1_draw : ByteArray := prog_3_method_11_code
def yX1_draw : MethodName := ⟨RX1, "draw", "(II)V"⟩
abbrev cX1_drawOne : ByteArray := prog_3_method_12_code
def yX1_drawOne : MethodName := ⟨RX1, "drawOne", "(LTollsForLate$Moment;I)V"⟩
def RX2 : String := "TollsForLate$Leads"
def TX2 : u_T := fun k => match k with
  | 0 => ("TollsForLate$Leads", "town", "LTollsForLate$Town;", true)
  | 1 => ("TollsForLate$Leads", "morning", "LTollsForLate$Morning;", true)
  | 2 => ("TollsForLate$Leads", "to", "[I", true)
  | 3 => ("TollsForLate$Leads", "known", "[I", true)
  | 4 => ("TollsForLate$Leads", "marks", "[I", true)
  | _ => ("TollsForLate$Leads", "turn", "I", false)
def tyX2 : Nat → FieldType := fun k => match k with
  | 0 => .object "TollsForLate$Town"
  | 1 => .object "TollsForLate$Morning"
  | 2 => .array .int
  | 3 => .array .int
  | 4 => .array .int
  | _ => .int
theorem nmX2 : ∀ a, a < 6 → ∀ b, b < 6 → a ≠ b → (TX2 a).2.1 ≠ (TX2 b).2.1 := by decide +kernel
theorem tyX2_ok : ∀ k, k < 6 → parseFieldDescriptor (TX2 k).2.2.1 = some (tyX2 k) := by decide +kernel
abbrev cX2_init : ByteArray := prog_4_method_1_code
def yX2_init : MethodName := ⟨RX2, "<init>", "(LTollsForLate$Town;LTollsForLate$Morning;)V"⟩
abbrev cX2_forget : ByteArray := prog_4_method_2_code
def yX2_forget : MethodName := ⟨RX2, "forget", "()V"⟩
abbrev cX2_next : ByteArray := prog_4_method_3_code
def yX2_next : MethodName := ⟨RX2, "next", "(I)I"⟩
abbrev cX2_isSettled : ByteArray := prog_4_method_4_code
def yX2_isSettled : MethodName := ⟨RX2, "isSettled", "(I)Z"⟩
abbrev cX2_settledCount : ByteArray := prog_4_method_5_code
def yX2_settledCount : MethodName := ⟨RX2, "settledCount", "()I"⟩
abbrev cX2_settledAt : ByteArray := prog_4_method_6_code
def yX2_settledAt : MethodName := ⟨RX2, "settledAt", "(I)I"⟩
abbrev cX2_settledForFewest : ByteArray := prog_4_method_7_code
def yX2_settledForFewest : MethodName := ⟨RX2, "settledForFewest", "(Z)I"⟩
abbrev cX2_calmest : ByteArray := prog_4_method_8_code
def yX2_calmest : MethodName := ⟨RX2, "calmest", "(Z)I"⟩
abbrev cX2_isBetter : ByteArray := prog_4_method_9_code
def yX2_isBetter : MethodName := ⟨RX2, "isBetter", "(IIZ)Z"⟩
abbrev cX2_walkFrom : ByteArray := prog_4_method_10_code
def yX2_walkFrom : MethodName := ⟨RX2, "walkFrom", "(I)I"⟩
abbrev cX2_clearMarks : ByteArray := prog_4_method_11_code
def yX2_clearMarks : MethodName := ⟨RX2, "clearMarks", "()V"⟩
abbrev cX2_tailOf : ByteArray := prog_4_method_12_code
def yX2_tailOf : MethodName := ⟨RX2, "tailOf", "(I)I"⟩
abbrev cX2_roundOf : ByteArray := prog_4_method_13_code
def yX2_roundOf : MethodName := ⟨RX2, "roundOf", "(I)I"⟩
abbrev cX2_roundCount : ByteArray := prog_4_method_14_code
def yX2_roundCount : MethodName := ⟨RX2, "roundCount", "()I"⟩
abbrev cX2_basinOf : ByteArray := prog_4_method_15_code
def yX2_basinOf : MethodName := ⟨RX2, "basinOf", "(I)I"⟩
abbrev cX2_neverLedTo : ByteArray := prog_4_method_16_code
def yX2_neverLedTo : MethodName := ⟨RX2, "neverLedTo", "()I"⟩
abbrev cX2_behind : ByteArray := prog_4_method_17_code
def yX2_behind : MethodName := ⟨RX2, "behind", "(II)I"⟩
abbrev cX2_timesTill : ByteArray := prog_4_method_18_code
def yX2_timesTill : MethodName := ⟨RX2, "timesTill", "(II)I"⟩
abbrev cX2_timesApart : ByteArray := prog_4_method_19_code
def yX2_timesApart : MethodName := ⟨RX2, "timesApart", "(II)I"⟩
abbrev cX2_isLateByAll : ByteArray := prog_4_method_20_code
def yX2_isLateByAll : MethodName := ⟨RX2, "isLateByAll", "(I)Z"⟩
abbrev cX2_raced : ByteArray := prog_4_method_21_code
def yX2_raced : MethodName := ⟨RX2, "raced", "(IZ)I"⟩
def RX3 : String := "TollsForLate$Moment"
def TX3 : u_T := fun k => match k with
  | 0 => ("TollsForLate$Moment", "rings", "I", false)
  | 1 => ("TollsForLate$Moment", "bed", "I", false)
  | 2 => ("TollsForLate$Moment", "weather", "I", false)
  | 3 => ("TollsForLate$Moment", "day", "I", false)
  | 4 => ("TollsForLate$Moment", "x", "I", false)
  | 5 => ("TollsForLate$Moment", "dues", "[I", true)
  | 6 => ("TollsForLate$Moment", "lates", "[I", true)
  | 7 => ("TollsForLate$Moment", "book", "[J", true)
  | _ => ("TollsForLate$Moment", "pages", "I", false)
def tyX3 : Nat → FieldType := fun k => match k with
  | 0 => .int
  | 1 => .int
  | 2 => .int
  | 3 => .int
  | 4 => .int
  | 5 => .array .int
  | 6 => .array .int
  | 7 => .array .long
  | _ => .int
theorem nmX3 : ∀ a, a < 9 → ∀ b, b < 9 → a ≠ b → (TX3 a).2.1 ≠ (TX3 b).2.1 := by decide +kernel
theorem tyX3_ok : ∀ k, k < 9 → parseFieldDescriptor (TX3 k).2.2.1 = some (tyX3 k) := by decide +kernel
abbrev cX3_init : ByteArray := prog_5_method_1_code
def yX3_init : MethodName := ⟨RX3, "<init>", "()V"⟩
abbrev cX3_become : ByteArray := prog_5_method_2_code
def yX3_become : MethodName := ⟨RX3, "become", "(LTollsForLate$Moment;)V"⟩
abbrev cX3_stir : ByteArray := prog_5_method_3_code
def yX3_stir : MethodName := ⟨RX3, "stir", "()V"⟩
abbrev cX3_endDay : ByteArray := prog_5_method_4_code
def yX3_endDay : MethodName := ⟨RX3, "endDay", "(I)V"⟩
abbrev cX3_write : ByteArray := prog_5_method_5_code
def yX3_write : MethodName := ⟨RX3, "write", "(I)V"⟩
abbrev cX3_written : ByteArray := prog_5_method_6_code
def yX3_written : MethodName := ⟨RX3, "written", "(II)I"⟩
def RX4 : String := "TollsForLate$Morning"
def TX4 : u_T := fun k => match k with
  | 0 => ("TollsForLate$Morning", "town", "LTollsForLate$Town;", true)
  | 1 => ("TollsForLate$Morning", "shelf", "[LTollsForLate$Text;", true)
  | 2 => ("TollsForLate$Morning", "waiting", "[I", true)
  | 3 => ("TollsForLate$Morning", "day", "I", false)
  | 4 => ("TollsForLate$Morning", "weather", "I", false)
  | 5 => ("TollsForLate$Morning", "bed", "I", false)
  | 6 => ("TollsForLate$Morning", "law", "LTollsForLate$Text;", false)
  | 7 => ("TollsForLate$Morning", "rings", "I", false)
  | 8 => ("TollsForLate$Morning", "who", "I", false)
  | 9 => ("TollsForLate$Morning", "rung", "I", false)
  | 10 => ("TollsForLate$Morning", "fast", "I", false)
  | _ => ("TollsForLate$Morning", "jam", "I", false)
def tyX4 : Nat → FieldType := fun k => match k with
  | 0 => .object "TollsForLate$Town"
  | 1 => .array (.object "TollsForLate$Text")
  | 2 => .array .int
  | 3 => .int
  | 4 => .int
  | 5 => .int
  | 6 => .object "TollsForLate$Text"
  | 7 => .int
  | 8 => .int
  | 9 => .int
  | 10 => .int
  | _ => .int
theorem nmX4 : ∀ a, a < 12 → ∀ b, b < 12 → a ≠ b → (TX4 a).2.1 ≠ (TX4 b).2.1 := by decide +kernel
theorem tyX4_ok : ∀ k, k < 12 → parseFieldDescriptor (TX4 k).2.2.1 = some (tyX4 k) := by decide +kernel
abbrev cX4_init : ByteArray := prog_6_method_1_code
def yX4_init : MethodName := ⟨RX4, "<init>", "(LTollsForLate$Town;[LTollsForLate$Text;)V"⟩
abbrev cX4_textOf : ByteArray := prog_6_method_2_code
def yX4_textOf : MethodName := ⟨RX4, "textOf", "(I)LTollsForLate$Text;"⟩
abbrev cX4_asNow : ByteArray := prog_6_method_3_code
def yX4_asNow : MethodName := ⟨RX4, "asNow", "()V"⟩
abbrev cX4_asIn : ByteArray := prog_6_method_4_code
def yX4_asIn : MethodName := ⟨RX4, "asIn", "(LTollsForLate$Moment;)V"⟩
abbrev cX4_isUp : ByteArray := prog_6_method_5_code
def yX4_isUp : MethodName := ⟨RX4, "isUp", "(I)Z"⟩
abbrev cX4_runningBy : ByteArray := prog_6_method_6_code
def yX4_runningBy : MethodName := ⟨RX4, "runningBy", "(I)I"⟩
abbrev cX4_lateBy : ByteArray := prog_6_method_7_code
def yX4_lateBy : MethodName := ⟨RX4, "lateBy", "(I)I"⟩
abbrev cX4_takesAmong : ByteArray := prog_6_method_8_code
def yX4_takesAmong : MethodName := ⟨RX4, "takesAmong", "(II)I"⟩
abbrev cX4_jamOf : ByteArray := prog_6_method_9_code
def yX4_jamOf : MethodName := ⟨RX4, "jamOf", "(II)I"⟩
abbrev cX4_takesOf : ByteArray := prog_6_method_10_code
def yX4_takesOf : MethodName := ⟨RX4, "takesOf", "(III)I"⟩
abbrev cX4_worked : ByteArray := prog_6_method_11_code
def yX4_worked : MethodName := ⟨RX4, "worked", "(LTollsForLate$Text;II)I"⟩
abbrev cX4_named : ByteArray := prog_6_method_12_code
def yX4_named : MethodName := ⟨RX4, "named", "(I)I"⟩
abbrev cX4_turned : ByteArray := prog_6_method_13_code
def yX4_turned : MethodName := ⟨RX4, "turned", "(II)I"⟩
abbrev cX4_compared : ByteArray := prog_6_method_14_code
def yX4_compared : MethodName := ⟨RX4, "compared", "(III)I"⟩
abbrev cX4_joined : ByteArray := prog_6_method_15_code
def yX4_joined : MethodName := ⟨RX4, "joined", "(III)I"⟩
def RX5 : String := "TollsForLate$Reader"
def TX5 : u_T := fun k => match k with
  | 0 => ("TollsForLate$Reader", "tokens", "LTollsForLate$Tokens;", true)
  | 1 => ("TollsForLate$Reader", "into", "LTollsForLate$Text;", false)
  | 2 => ("TollsForLate$Reader", "at", "I", false)
  | 3 => ("TollsForLate$Reader", "kind", "I", false)
  | 4 => ("TollsForLate$Reader", "number", "I", false)
  | 5 => ("TollsForLate$Reader", "law", "I", false)
  | 6 => ("TollsForLate$Reader", "fault", "I", false)
  | _ => ("TollsForLate$Reader", "place", "I", false)
def tyX5 : Nat → FieldType := fun k => match k with
  | 0 => .object "TollsForLate$Tokens"
  | 1 => .object "TollsForLate$Text"
  | 2 => .int
  | 3 => .int
  | 4 => .int
  | 5 => .int
  | 6 => .int
  | _ => .int
theorem nmX5 : ∀ a, a < 8 → ∀ b, b < 8 → a ≠ b → (TX5 a).2.1 ≠ (TX5 b).2.1 := by decide +kernel
theorem tyX5_ok : ∀ k, k < 8 → parseFieldDescriptor (TX5 k).2.2.1 = some (tyX5 k) := by decide +kernel
abbrev cX5_init : ByteArray := prog_7_method_1_code
def yX5_init : MethodName := ⟨RX5, "<init>", "()V"⟩
abbrev cX5_readInto : ByteArray := prog_7_method_2_code
def yX5_readInto : MethodName := ⟨RX5, "readInto", "(LTollsForLate$Text;LTollsForLate$Tape;)V"⟩
abbrev cX5_next : ByteArray := prog_7_method_3_code
def yX5_next : MethodName := ⟨RX5, "next", "()V"⟩
abbrev cX5_refuse : ByteArray := prog_7_method_4_code
def yX5_refuse : MethodName := ⟨RX5, "refuse", "(I)Z"⟩
abbrev cX5_accept : ByteArray := prog_7_method_5_code
def yX5_accept : MethodName := ⟨RX5, "accept", "(I)Z"⟩
abbrev cX5_clause : ByteArray := prog_7_method_6_code
def yX5_clause : MethodName := ⟨RX5, "clause", "(LTollsForLate$Text;)Z"⟩
abbrev cX5_plain : ByteArray := prog_7_method_7_code
def yX5_plain : MethodName := ⟨RX5, "plain", "(I)Z"⟩
abbrev cX5_told : ByteArray := prog_7_method_8_code
def yX5_told : MethodName := ⟨RX5, "told", "(III)Z"⟩
abbrev cX5_sum : ByteArray := prog_7_method_9_code
def yX5_sum : MethodName := ⟨RX5, "sum", "(I)Z"⟩
abbrev cX5_product : ByteArray := prog_7_method_10_code
def yX5_product : MethodName := ⟨RX5, "product", "(I)Z"⟩
abbrev cX5_one : ByteArray := prog_7_method_11_code
def yX5_one : MethodName := ⟨RX5, "one", "(I)Z"⟩
abbrev cX5_opens : ByteArray := prog_7_method_12_code
def yX5_opens : MethodName := ⟨RX5, "opens", "(I)Z"⟩
abbrev cX5_put : ByteArray := prog_7_method_13_code
def yX5_put : MethodName := ⟨RX5, "put", "(I)Z"⟩
abbrev cX5_name : ByteArray := prog_7_method_14_code
def yX5_name : MethodName := ⟨RX5, "name", "()Z"⟩
abbrev cX5_choice : ByteArray := prog_7_method_15_code
def yX5_choice : MethodName := ⟨RX5, "choice", "(I)Z"⟩
abbrev cX5_either : ByteArray := prog_7_method_16_code
def yX5_either : MethodName := ⟨RX5, "either", "(I)Z"⟩
abbrev cX5_both : ByteArray := prog_7_method_17_code
def yX5_both : MethodName := ⟨RX5, "both", "(I)Z"⟩
abbrev cX5_ask : ByteArray := prog_7_method_18_code
def yX5_ask : MethodName := ⟨RX5, "ask", "(I)Z"⟩
def RX6 : String := "TollsForLate$Tape"
def TX6 : u_T := fun k => match k with
  | 0 => ("TollsForLate$Tape", "bytes", "[I", true)
  | _ => ("TollsForLate$Tape", "length", "I", false)
def tyX6 : Nat → FieldType := fun k => match k with
  | 0 => .array .int
  | _ => .int
theorem nmX6 : ∀ a, a < 2 → ∀ b, b < 2 → a ≠ b → (TX6 a).2.1 ≠ (TX6 b).2.1 := by decide +kernel
theorem tyX6_ok : ∀ k, k < 2 → parseFieldDescriptor (TX6 k).2.2.1 = some (tyX6 k) := by decide +kernel
abbrev cX6_init : ByteArray := prog_8_method_1_code
def yX6_init : MethodName := ⟨RX6, "<init>", "()V"⟩
abbrev cX6_hasRoomForFive : ByteArray := prog_8_method_2_code
def yX6_hasRoomForFive : MethodName := ⟨RX6, "hasRoomForFive", "()Z"⟩
abbrev cX6_append : ByteArray := prog_8_method_3_code
def yX6_append : MethodName := ⟨RX6, "append", "(I)V"⟩
def RX7 : String := "TollsForLate$Text"
def TX7 : u_T := fun k => match k with
  | 0 => ("TollsForLate$Text", "asks", "[I", true)
  | 1 => ("TollsForLate$Text", "values", "[I", true)
  | 2 => ("TollsForLate$Text", "size", "I", false)
  | 3 => ("TollsForLate$Text", "runsFrom", "I", false)
  | 4 => ("TollsForLate$Text", "runsTo", "I", false)
  | 5 => ("TollsForLate$Text", "takesFrom", "I", false)
  | 6 => ("TollsForLate$Text", "takesTo", "I", false)
  | 7 => ("TollsForLate$Text", "clauses", "[I", true)
  | _ => ("TollsForLate$Text", "count", "I", false)
def tyX7 : Nat → FieldType := fun k => match k with
  | 0 => .array .int
  | 1 => .array .int
  | 2 => .int
  | 3 => .int
  | 4 => .int
  | 5 => .int
  | 6 => .int
  | 7 => .array .int
  | _ => .int
theorem nmX7 : ∀ a, a < 9 → ∀ b, b < 9 → a ≠ b → (TX7 a).2.1 ≠ (TX7 b).2.1 := by decide +kernel
theorem tyX7_ok : ∀ k, k < 9 → parseFieldDescriptor (TX7 k).2.2.1 = some (tyX7 k) := by decide +kernel
abbrev cX7_init : ByteArray := prog_9_method_1_code
def yX7_init : MethodName := ⟨RX7, "<init>", "()V"⟩
abbrev cX7_clear : ByteArray := prog_9_method_2_code
def yX7_clear : MethodName := ⟨RX7, "clear", "()V"⟩
abbrev cX7_has : ByteArray := prog_9_method_3_code
def yX7_has : MethodName := ⟨RX7, "has", "(I)Z"⟩
abbrev cX7_startClause : ByteArray := prog_9_method_4_code
def yX7_startClause : MethodName := ⟨RX7, "startClause", "(I)V"⟩
abbrev cX7_endClause : ByteArray := prog_9_method_5_code
def yX7_endClause : MethodName := ⟨RX7, "endClause", "(I)V"⟩
abbrev cX7_put : ByteArray := prog_9_method_6_code
def yX7_put : MethodName := ⟨RX7, "put", "(II)V"⟩
abbrev cX7_numberOf : ByteArray := prog_9_method_7_code
def yX7_numberOf : MethodName := ⟨RX7, "numberOf", "(II)I"⟩
abbrev cX7_add : ByteArray := prog_9_method_8_code
def yX7_add : MethodName := ⟨RX7, "add", "(II)I"⟩
abbrev cX7_skipToHere : ByteArray := prog_9_method_9_code
def yX7_skipToHere : MethodName := ⟨RX7, "skipToHere", "(I)V"⟩
def RX8 : String := "TollsForLate$Tokens"
def TX8 : u_T := fun k => match k with
  | 0 => ("TollsForLate$Tokens", "kinds", "[I", true)
  | 1 => ("TollsForLate$Tokens", "places", "[I", true)
  | 2 => ("TollsForLate$Tokens", "numbers", "[I", true)
  | _ => ("TollsForLate$Tokens", "count", "I", false)
def tyX8 : Nat → FieldType := fun k => match k with
  | 0 => .array .int
  | 1 => .array .int
  | 2 => .array .int
  | _ => .int
theorem nmX8 : ∀ a, a < 4 → ∀ b, b < 4 → a ≠ b → (TX8 a).2.1 ≠ (TX8 b).2.1 := by decide +kernel
theorem tyX8_ok : ∀ k, k < 4 → parseFieldDescriptor (TX8 k).2.2.1 = some (tyX8 k) := by decide +kernel
abbrev cX8_init : ByteArray := prog_10_method_1_code
def yX8_init : MethodName := ⟨RX8, "<init>", "()V"⟩
abbrev cX8_cut : ByteArray := prog_10_method_2_code
def yX8_cut : MethodName := ⟨RX8, "cut", "(LTollsForLate$Tape;)V"⟩
abbrev cX8_cutOne : ByteArray := prog_10_method_3_code
def yX8_cutOne : MethodName := ⟨RX8, "cutOne", "(LTollsForLate$Tape;I)I"⟩
abbrev cX8_add : ByteArray := prog_10_method_4_code
def yX8_add : MethodName := ⟨RX8, "add", "(III)V"⟩
abbrev cX8_isLetter : ByteArray := prog_10_method_5_code
def yX8_isLetter : MethodName := ⟨RX8, "isLetter", "(I)Z"⟩
abbrev cX8_isDigit : ByteArray := prog_10_method_6_code
def yX8_isDigit : MethodName := ⟨RX8, "isDigit", "(I)Z"⟩
abbrev cX8_signOf : ByteArray := prog_10_method_7_code
def yX8_signOf : MethodName := ⟨RX8, "signOf", "(II)I"⟩
abbrev cX8_wordOf : ByteArray := prog_10_method_8_code
def yX8_wordOf : MethodName := ⟨RX8, "wordOf", "(LTollsForLate$Tape;II)I"⟩
def RX9 : String := "TollsForLate$Town"
def TX9 : u_T := fun k => match k with
  | 0 => ("TollsForLate$Town", "count", "I", false)
  | 1 => ("TollsForLate$Town", "roads", "[I", true)
  | 2 => ("TollsForLate$Town", "onRoad", "[I", true)
  | 3 => ("TollsForLate$Town", "walks", "[I", true)
  | 4 => ("TollsForLate$Town", "runs", "[I", true)
  | 5 => ("TollsForLate$Town", "hears", "[I", true)
  | 6 => ("TollsForLate$Town", "texts", "I", false)
  | 7 => ("TollsForLate$Town", "ruling", "I", false)
  | 8 => ("TollsForLate$Town", "heard", "I", false)
  | 9 => ("TollsForLate$Town", "heardWho", "[I", true)
  | 10 => ("TollsForLate$Town", "heardRung", "[I", true)
  | 11 => ("TollsForLate$Town", "said", "I", false)
  | 12 => ("TollsForLate$Town", "saidWho", "[I", true)
  | 13 => ("TollsForLate$Town", "saidTakes", "[I", true)
  | 14 => ("TollsForLate$Town", "now", "LTollsForLate$Moment;", true)
  | 15 => ("TollsForLate$Town", "past", "[LTollsForLate$Moment;", true)
  | 16 => ("TollsForLate$Town", "eldest", "I", false)
  | _ => ("TollsForLate$Town", "steps", "I", false)
def tyX9 : Nat → FieldType := fun k => match k with
  | 0 => .int
  | 1 => .array .int
  | 2 => .array .int
  | 3 => .array .int
  | 4 => .array .int
  | 5 => .array .int
  | 6 => .int
  | 7 => .int
  | 8 => .int
  | 9 => .array .int
  | 10 => .array .int
  | 11 => .int
  | 12 => .array .int
  | 13 => .array .int
  | 14 => .object "TollsForLate$Moment"
  | 15 => .array (.object "TollsForLate$Moment")
  | 16 => .int
  | _ => .int
theorem nmX9 : ∀ a, a < 18 → ∀ b, b < 18 → a ≠ b → (TX9 a).2.1 ≠ (TX9 b).2.1 := by decide +kernel
theorem tyX9_ok : ∀ k, k < 18 → parseFieldDescriptor (TX9 k).2.2.1 = some (tyX9 k) := by decide +kernel
abbrev cX9_init : ByteArray := prog_11_method_1_code
def yX9_init : MethodName := ⟨RX9, "<init>", "()V"⟩
abbrev cX9_isPerson : ByteArray := prog_11_method_2_code
def yX9_isPerson : MethodName := ⟨RX9, "isPerson", "(I)Z"⟩
abbrev cX9_areRings : ByteArray := prog_11_method_3_code
def yX9_areRings : MethodName := ⟨RX9, "areRings", "(I)Z"⟩
abbrev cX9_allRings : ByteArray := prog_11_method_4_code
def yX9_allRings : MethodName := ⟨RX9, "allRings", "()I"⟩
abbrev cX9_tell : ByteArray := prog_11_method_5_code
def yX9_tell : MethodName := ⟨RX9, "tell", "(IIII)I"⟩
abbrev cX9_markStep : ByteArray := prog_11_method_6_code
def yX9_markStep : MethodName := ⟨RX9, "markStep", "()V"⟩
abbrev cX9_takeBack : ByteArray := prog_11_method_7_code
def yX9_takeBack : MethodName := ⟨RX9, "takeBack", "()Z"⟩
abbrev cX9_aheadOf : ByteArray := prog_11_method_8_code
def yX9_aheadOf : MethodName := ⟨RX9, "aheadOf", "(I)LTollsForLate$Moment;"⟩
abbrev cX9_become : ByteArray := prog_11_method_9_code
def yX9_become : MethodName := ⟨RX9, "become", "(LTollsForLate$Town;)V"⟩
def RX10 : String := "TollsForLate"
def TX10 : u_T := fun k => match k with
  | 0 => ("TollsForLate", "town", "LTollsForLate$Town;", true)
  | 1 => ("TollsForLate", "imaged", "LTollsForLate$Town;", true)
  | 2 => ("TollsForLate", "tape", "LTollsForLate$Tape;", true)
  | 3 => ("TollsForLate", "shelf", "[LTollsForLate$Text;", true)
  | 4 => ("TollsForLate", "reader", "LTollsForLate$Reader;", true)
  | 5 => ("TollsForLate", "morning", "LTollsForLate$Morning;", true)
  | 6 => ("TollsForLate", "deeds", "LTollsForLate$Deeds;", true)
  | 7 => ("TollsForLate", "leads", "LTollsForLate$Leads;", true)
  | 8 => ("TollsForLate", "beliefs", "LTollsForLate$Beliefs;", true)
  | 9 => ("TollsForLate", "wasRead", "Z", false)
  | 10 => ("TollsForLate", "lastFault", "I", false)
  | _ => ("TollsForLate", "lastPlace", "I", false)
def tyX10 : Nat → FieldType := fun k => match k with
  | 0 => .object "TollsForLate$Town"
  | 1 => .object "TollsForLate$Town"
  | 2 => .object "TollsForLate$Tape"
  | 3 => .array (.object "TollsForLate$Text")
  | 4 => .object "TollsForLate$Reader"
  | 5 => .object "TollsForLate$Morning"
  | 6 => .object "TollsForLate$Deeds"
  | 7 => .object "TollsForLate$Leads"
  | 8 => .object "TollsForLate$Beliefs"
  | 9 => .boolean
  | 10 => .int
  | _ => .int
theorem nmX10 : ∀ a, a < 12 → ∀ b, b < 12 → a ≠ b → (TX10 a).2.1 ≠ (TX10 b).2.1 := by decide +kernel
theorem tyX10_ok : ∀ k, k < 12 → parseFieldDescriptor (TX10 k).2.2.1 = some (tyX10 k) := by decide +kernel
abbrev cX10_init : ByteArray := prog_1_method_1_code
def yX10_init : MethodName := ⟨RX10, "<init>", "()V"⟩
abbrev cX10_person : ByteArray := prog_1_method_2_code
def yX10_person : MethodName := ⟨RX10, "person", "(IIII)I"⟩
abbrev cX10_hears : ByteArray := prog_1_method_3_code
def yX10_hears : MethodName := ⟨RX10, "hears", "(IIZ)Z"⟩
abbrev cX10_feed : ByteArray := prog_1_method_4_code
def yX10_feed : MethodName := ⟨RX10, "feed", "(IIIII)I"⟩
abbrev cX10_end : ByteArray := prog_1_method_5_code
def yX10_end : MethodName := ⟨RX10, "end", "(I)I"⟩
abbrev cX10_text : ByteArray := prog_1_method_6_code
def yX10_text : MethodName := ⟨RX10, "text", "()I"⟩
abbrev cX10_fault : ByteArray := prog_1_method_7_code
def yX10_fault : MethodName := ⟨RX10, "fault", "(I)I"⟩
abbrev cX10_by : ByteArray := prog_1_method_8_code
def yX10_by : MethodName := ⟨RX10, "by", "(I)Z"⟩
abbrev cX10_ring : ByteArray := prog_1_method_9_code
def yX10_ring : MethodName := ⟨RX10, "ring", "(I)Z"⟩
abbrev cX10_due : ByteArray := prog_1_method_10_code
def yX10_due : MethodName := ⟨RX10, "due", "(II)Z"⟩
abbrev cX10_bed : ByteArray := prog_1_method_11_code
def yX10_bed : MethodName := ⟨RX10, "bed", "(I)Z"⟩
abbrev cX10_up : ByteArray := prog_1_method_12_code
def yX10_up : MethodName := ⟨RX10, "up", "(I)Z"⟩
abbrev cX10_day : ByteArray := prog_1_method_13_code
def yX10_day : MethodName := ⟨RX10, "day", "(I)I"⟩
abbrev cX10_played : ByteArray := prog_1_method_14_code
def yX10_played : MethodName := ⟨RX10, "played", "(I)I"⟩
abbrev cX10_years : ByteArray := prog_1_method_15_code
def yX10_years : MethodName := ⟨RX10, "years", "(II)I"⟩
abbrev cX10_undo : ByteArray := prog_1_method_16_code
def yX10_undo : MethodName := ⟨RX10, "undo", "()I"⟩
abbrev cX10_of : ByteArray := prog_1_method_17_code
def yX10_of : MethodName := ⟨RX10, "of", "(II)I"⟩
abbrev cX10_is : ByteArray := prog_1_method_18_code
def yX10_is : MethodName := ⟨RX10, "is", "(I)I"⟩
abbrev cX10_book : ByteArray := prog_1_method_19_code
def yX10_book : MethodName := ⟨RX10, "book", "(II)I"⟩
abbrev cX10_foretold : ByteArray := prog_1_method_20_code
def yX10_foretold : MethodName := ⟨RX10, "foretold", "(II)I"⟩
abbrev cX10_late : ByteArray := prog_1_method_21_code
def yX10_late : MethodName := ⟨RX10, "late", "(I)I"⟩
abbrev cX10_runners : ByteArray := prog_1_method_22_code
def yX10_runners : MethodName := ⟨RX10, "runners", "(I)I"⟩
abbrev cX10_settled : ByteArray := prog_1_method_23_code
def yX10_settled : MethodName := ⟨RX10, "settled", "(I)I"⟩
abbrev cX10_fewest : ByteArray := prog_1_method_24_code
def yX10_fewest : MethodName := ⟨RX10, "fewest", "(Z)I"⟩
abbrev cX10_tail : ByteArray := prog_1_method_25_code
def yX10_tail : MethodName := ⟨RX10, "tail", "(I)I"⟩
abbrev cX10_round : ByteArray := prog_1_method_26_code
def yX10_round : MethodName := ⟨RX10, "round", "(I)I"⟩
abbrev cX10_rounds : ByteArray := prog_1_method_27_code
def yX10_rounds : MethodName := ⟨RX10, "rounds", "()I"⟩
abbrev cX10_basin : ByteArray := prog_1_method_28_code
def yX10_basin : MethodName := ⟨RX10, "basin", "(I)I"⟩
abbrev cX10_never : ByteArray := prog_1_method_29_code
def yX10_never : MethodName := ⟨RX10, "never", "()I"⟩
abbrev cX10_after : ByteArray := prog_1_method_30_code
def yX10_after : MethodName := ⟨RX10, "after", "(II)I"⟩
abbrev cX10_times : ByteArray := prog_1_method_31_code
def yX10_times : MethodName := ⟨RX10, "times", "(II)I"⟩
abbrev cX10_apart : ByteArray := prog_1_method_32_code
def yX10_apart : MethodName := ⟨RX10, "apart", "(II)I"⟩
abbrev cX10_always : ByteArray := prog_1_method_33_code
def yX10_always : MethodName := ⟨RX10, "always", "()I"⟩
abbrev cX10_isSettledByEachWeather : ByteArray := prog_1_method_34_code
def yX10_isSettledByEachWeather : MethodName := ⟨RX10, "isSettledByEachWeather", "(I)Z"⟩
abbrev cX10_calm : ByteArray := prog_1_method_35_code
def yX10_calm : MethodName := ⟨RX10, "calm", "(Z)I"⟩
abbrev cX10_helped : ByteArray := prog_1_method_36_code
def yX10_helped : MethodName := ⟨RX10, "helped", "(IZ)I"⟩
abbrev cX10_early : ByteArray := prog_1_method_37_code
def yX10_early : MethodName := ⟨RX10, "early", "(I)I"⟩
abbrev cX10_weathers : ByteArray := prog_1_method_38_code
def yX10_weathers : MethodName := ⟨RX10, "weathers", "(I)I"⟩
abbrev cX10_needless : ByteArray := prog_1_method_39_code
def yX10_needless : MethodName := ⟨RX10, "needless", "()I"⟩
abbrev cX10_lateness : ByteArray := prog_1_method_40_code
def yX10_lateness : MethodName := ⟨RX10, "lateness", "(I)I"⟩
abbrev cX10_wouldBeInTimeWalking : ByteArray := prog_1_method_41_code
def yX10_wouldBeInTimeWalking : MethodName := ⟨RX10, "wouldBeInTimeWalking", "(II)Z"⟩
abbrev cX10_race : ByteArray := prog_1_method_42_code
def yX10_race : MethodName := ⟨RX10, "race", "(IZ)I"⟩
abbrev cX10_heard : ByteArray := prog_1_method_43_code
def yX10_heard : MethodName := ⟨RX10, "heard", "(IZ)I"⟩
abbrev cX10_believes : ByteArray := prog_1_method_44_code
def yX10_believes : MethodName := ⟨RX10, "believes", "(IZ)I"⟩
abbrev cX10_sure : ByteArray := prog_1_method_45_code
def yX10_sure : MethodName := ⟨RX10, "sure", "(Z)I"⟩
abbrev cX10_tells : ByteArray := prog_1_method_46_code
def yX10_tells : MethodName := ⟨RX10, "tells", "(I)I"⟩
abbrev cX10_asleep : ByteArray := prog_1_method_47_code
def yX10_asleep : MethodName := ⟨RX10, "asleep", "(Z)I"⟩
abbrev cX10_nobodyIsLateWith : ByteArray := prog_1_method_48_code
def yX10_nobodyIsLateWith : MethodName := ⟨RX10, "nobodyIsLateWith", "(I)Z"⟩
abbrev cX10_slack : ByteArray := prog_1_method_49_code
def yX10_slack : MethodName := ⟨RX10, "slack", "(I)I"⟩
abbrev cX10_least : ByteArray := prog_1_method_50_code
def yX10_least : MethodName := ⟨RX10, "least", "(I)I"⟩
abbrev cX10_moves : ByteArray := prog_1_method_51_code
def yX10_moves : MethodName := ⟨RX10, "moves", "(II)I"⟩
abbrev cX10_said : ByteArray := prog_1_method_52_code
def yX10_said : MethodName := ⟨RX10, "said", "(II)I"⟩
abbrev cX10_whose : ByteArray := prog_1_method_53_code
def yX10_whose : MethodName := ⟨RX10, "whose", "()I"⟩
abbrev cX10_allSaidIsSoBy : ByteArray := prog_1_method_54_code
def yX10_allSaidIsSoBy : MethodName := ⟨RX10, "allSaidIsSoBy", "(I)Z"⟩
abbrev cX10_latest : ByteArray := prog_1_method_55_code
def yX10_latest : MethodName := ⟨RX10, "latest", "()I"⟩
abbrev cX10_crowded : ByteArray := prog_1_method_56_code
def yX10_crowded : MethodName := ⟨RX10, "crowded", "()I"⟩
abbrev cX10_deaf : ByteArray := prog_1_method_57_code
def yX10_deaf : MethodName := ⟨RX10, "deaf", "()I"⟩
abbrev cX10_ledger : ByteArray := prog_1_method_58_code
def yX10_ledger : MethodName := ⟨RX10, "ledger", "(I)I"⟩
abbrev cX10_image : ByteArray := prog_1_method_59_code
def yX10_image : MethodName := ⟨RX10, "image", "()I"⟩
abbrev cX10_back : ByteArray := prog_1_method_60_code
def yX10_back : MethodName := ⟨RX10, "back", "()I"⟩
abbrev cX10_about : ByteArray := prog_1_method_61_code
def yX10_about : MethodName := ⟨RX10, "about", "(I)I"⟩
abbrev cX10_isName : ByteArray := prog_1_method_62_code
def yX10_isName : MethodName := ⟨RX10, "isName", "(I)Z"⟩
abbrev cX10_runningNow : ByteArray := prog_1_method_63_code
def yX10_runningNow : MethodName := ⟨RX10, "runningNow", "()I"⟩
abbrev cX10_takesNow : ByteArray := prog_1_method_64_code
def yX10_takesNow : MethodName := ⟨RX10, "takesNow", "(I)I"⟩
def RX11 : String := "TollsForLateModel"
def TX11 : u_T := fun k => match k with
  | 0 => ("TollsForLateModel", "a", "[I", true)
  | 1 => ("TollsForLateModel", "image", "[I", true)
  | 2 => ("TollsForLateModel", "texts", "[I", true)
  | 3 => ("TollsForLateModel", "tape", "[I", true)
  | 4 => ("TollsForLateModel", "taped", "I", false)
  | 5 => ("TollsForLateModel", "fault", "I", false)
  | 6 => ("TollsForLateModel", "faultPlace", "I", false)
  | 7 => ("TollsForLateModel", "at", "I", false)
  | 8 => ("TollsForLateModel", "place", "I", false)
  | 9 => ("TollsForLateModel", "token", "I", false)
  | 10 => ("TollsForLateModel", "number", "I", false)
  | 11 => ("TollsForLateModel", "word", "J", false)
  | 12 => ("TollsForLateModel", "text0", "I", false)
  | 13 => ("TollsForLateModel", "written", "I", false)
  | 14 => ("TollsForLateModel", "sort0", "I", false)
  | 15 => ("TollsForLateModel", "pile", "[I", true)
  | 16 => ("TollsForLateModel", "piled", "I", false)
  | 17 => ("TollsForLateModel", "opens", "I", false)
  | 18 => ("TollsForLateModel", "isWhole", "Z", false)
  | 19 => ("TollsForLateModel", "once", "I", false)
  | 20 => ("TollsForLateModel", "named", "[I", true)
  | 21 => ("TollsForLateModel", "ringsAsked", "I", false)
  | 22 => ("TollsForLateModel", "values", "[J", true)
  | 23 => ("TollsForLateModel", "truth", "[Z", true)
  | 24 => ("TollsForLateModel", "isWritten", "Z", false)
  | 25 => ("TollsForLateModel", "lateOnes", "I", false)
  | 26 => ("TollsForLateModel", "aside", "[I", true)
  | 27 => ("TollsForLateModel", "leads", "[I", true)
  | 28 => ("TollsForLateModel", "raced", "[I", true)
  | 29 => ("TollsForLateModel", "days", "[I", true)
  | _ => ("TollsForLateModel", "asks", "[I", true)
def tyX11 : Nat → FieldType := fun k => match k with
  | 0 => .array .int
  | 1 => .array .int
  | 2 => .array .int
  | 3 => .array .int
  | 4 => .int
  | 5 => .int
  | 6 => .int
  | 7 => .int
  | 8 => .int
  | 9 => .int
  | 10 => .int
  | 11 => .long
  | 12 => .int
  | 13 => .int
  | 14 => .int
  | 15 => .array .int
  | 16 => .int
  | 17 => .int
  | 18 => .boolean
  | 19 => .int
  | 20 => .array .int
  | 21 => .int
  | 22 => .array .long
  | 23 => .array .boolean
  | 24 => .boolean
  | 25 => .int
  | 26 => .array .int
  | 27 => .array .int
  | 28 => .array .int
  | 29 => .array .int
  | _ => .array .int
theorem nmX11 : ∀ a, a < 31 → ∀ b, b < 31 → a ≠ b → (TX11 a).2.1 ≠ (TX11 b).2.1 := by decide +kernel
theorem tyX11_ok : ∀ k, k < 31 → parseFieldDescriptor (TX11 k).2.2.1 = some (tyX11 k) := by decide +kernel
abbrev cX11_init : ByteArray := prog_13_method_1_code
def yX11_init : MethodName := ⟨RX11, "<init>", "()V"⟩
abbrev cX11_copy : ByteArray := prog_13_method_2_code
def yX11_copy : MethodName := ⟨RX11, "copy", "([I[I)V"⟩
abbrev cX11_isIn : ByteArray := prog_13_method_3_code
def yX11_isIn : MethodName := ⟨RX11, "isIn", "(III)Z"⟩
abbrev cX11_cut : ByteArray := prog_13_method_4_code
def yX11_cut : MethodName := ⟨RX11, "cut", "(JII)I"⟩
abbrev cX11_has : ByteArray := prog_13_method_5_code
def yX11_has : MethodName := ⟨RX11, "has", "(II)Z"⟩
abbrev cX11_bits : ByteArray := prog_13_method_6_code
def yX11_bits : MethodName := ⟨RX11, "bits", "(I)I"⟩
abbrev cX11_isPerson : ByteArray := prog_13_method_7_code
def yX11_isPerson : MethodName := ⟨RX11, "isPerson", "(I)Z"⟩
abbrev cX11_all : ByteArray := prog_13_method_8_code
def yX11_all : MethodName := ⟨RX11, "all", "()I"⟩
abbrev cX11_areRings : ByteArray := prog_13_method_9_code
def yX11_areRings : MethodName := ⟨RX11, "areRings", "(I)Z"⟩
abbrev cX11_get : ByteArray := prog_13_method_10_code
def yX11_get : MethodName := ⟨RX11, "get", "(II)I"⟩
abbrev cX11_put : ByteArray := prog_13_method_11_code
def yX11_put : MethodName := ⟨RX11, "put", "(III)V"⟩
abbrev cX11_isUp : ByteArray := prog_13_method_12_code
def yX11_isUp : MethodName := ⟨RX11, "isUp", "(I)Z"⟩
abbrev cX11_person : ByteArray := prog_13_method_13_code
def yX11_person : MethodName := ⟨RX11, "person", "(IIII)I"⟩
abbrev cX11_begin : ByteArray := prog_13_method_14_code
def yX11_begin : MethodName := ⟨RX11, "begin", "(I)V"⟩
abbrev cX11_hears : ByteArray := prog_13_method_15_code
def yX11_hears : MethodName := ⟨RX11, "hears", "(IIZ)Z"⟩
abbrev cX11_four : ByteArray := prog_13_method_16_code
def yX11_four : MethodName := ⟨RX11, "four", "(I)V"⟩
abbrev cX11_feed : ByteArray := prog_13_method_17_code
def yX11_feed : MethodName := ⟨RX11, "feed", "(IIIII)I"⟩
abbrev cX11_end : ByteArray := prog_13_method_18_code
def yX11_end : MethodName := ⟨RX11, "end", "(I)I"⟩
abbrev cX11_byteAt : ByteArray := prog_13_method_19_code
def yX11_byteAt : MethodName := ⟨RX11, "byteAt", "(I)I"⟩
abbrev cX11_isLetterByte : ByteArray := prog_13_method_20_code
def yX11_isLetterByte : MethodName := ⟨RX11, "isLetterByte", "(I)Z"⟩
abbrev cX11_isFigure : ByteArray := prog_13_method_21_code
def yX11_isFigure : MethodName := ⟨RX11, "isFigure", "(I)Z"⟩
abbrev cX11_isSign : ByteArray := prog_13_method_22_code
def yX11_isSign : MethodName := ⟨RX11, "isSign", "(I)Z"⟩
abbrev cX11_nextToken : ByteArray := prog_13_method_23_code
def yX11_nextToken : MethodName := ⟨RX11, "nextToken", "()V"⟩
abbrev cX11_w2 : ByteArray := prog_13_method_24_code
def yX11_w2 : MethodName := ⟨RX11, "w2", "(II)J"⟩
abbrev cX11_w3 : ByteArray := prog_13_method_25_code
def yX11_w3 : MethodName := ⟨RX11, "w3", "(III)J"⟩
abbrev cX11_w4 : ByteArray := prog_13_method_26_code
def yX11_w4 : MethodName := ⟨RX11, "w4", "(IIII)J"⟩
abbrev cX11_w5 : ByteArray := prog_13_method_27_code
def yX11_w5 : MethodName := ⟨RX11, "w5", "(IIIII)J"⟩
abbrev cX11_w6 : ByteArray := prog_13_method_28_code
def yX11_w6 : MethodName := ⟨RX11, "w6", "(IIIIII)J"⟩
abbrev cX11_isWord : ByteArray := prog_13_method_29_code
def yX11_isWord : MethodName := ⟨RX11, "isWord", "(J)Z"⟩
abbrev cX11_emit : ByteArray := prog_13_method_30_code
def yX11_emit : MethodName := ⟨RX11, "emit", "(II)V"⟩
abbrev cX11_isWeather : ByteArray := prog_13_method_31_code
def yX11_isWeather : MethodName := ⟨RX11, "isWeather", "()Z"⟩
abbrev cX11_nameOf : ByteArray := prog_13_method_32_code
def yX11_nameOf : MethodName := ⟨RX11, "nameOf", "()I"⟩
abbrev cX11_isOf : ByteArray := prog_13_method_33_code
def yX11_isOf : MethodName := ⟨RX11, "isOf", "(I)Z"⟩
abbrev cX11_rank : ByteArray := prog_13_method_34_code
def yX11_rank : MethodName := ⟨RX11, "rank", "(I)I"⟩
abbrev cX11_settle : ByteArray := prog_13_method_35_code
def yX11_settle : MethodName := ⟨RX11, "settle", "(I)V"⟩
abbrev cX11_openAt : ByteArray := prog_13_method_36_code
def yX11_openAt : MethodName := ⟨RX11, "openAt", "()I"⟩
abbrev cX11_openNow : ByteArray := prog_13_method_37_code
def yX11_openNow : MethodName := ⟨RX11, "openNow", "()I"⟩
abbrev cX11_isCompared : ByteArray := prog_13_method_38_code
def yX11_isCompared : MethodName := ⟨RX11, "isCompared", "()Z"⟩
abbrev cX11_isAskAhead : ByteArray := prog_13_method_39_code
def yX11_isAskAhead : MethodName := ⟨RX11, "isAskAhead", "()Z"⟩
abbrev cX11_opened : ByteArray := prog_13_method_40_code
def yX11_opened : MethodName := ⟨RX11, "opened", "(I)I"⟩
abbrev cX11_beginOne : ByteArray := prog_13_method_41_code
def yX11_beginOne : MethodName := ⟨RX11, "beginOne", "()I"⟩
abbrev cX11_compareOf : ByteArray := prog_13_method_42_code
def yX11_compareOf : MethodName := ⟨RX11, "compareOf", "()I"⟩
abbrev cX11_betweenOf : ByteArray := prog_13_method_43_code
def yX11_betweenOf : MethodName := ⟨RX11, "betweenOf", "()I"⟩
abbrev cX11_partOf : ByteArray := prog_13_method_44_code
def yX11_partOf : MethodName := ⟨RX11, "partOf", "(I)I"⟩
abbrev cX11_behindOne : ByteArray := prog_13_method_45_code
def yX11_behindOne : MethodName := ⟨RX11, "behindOne", "()Z"⟩
abbrev cX11_summed : ByteArray := prog_13_method_46_code
def yX11_summed : MethodName := ⟨RX11, "summed", "()I"⟩
abbrev cX11_figure : ByteArray := prog_13_method_47_code
def yX11_figure : MethodName := ⟨RX11, "figure", "(III)I"⟩
abbrev cX11_worded : ByteArray := prog_13_method_48_code
def yX11_worded : MethodName := ⟨RX11, "worded", "(JIII)I"⟩
abbrev cX11_lawClause : ByteArray := prog_13_method_49_code
def yX11_lawClause : MethodName := ⟨RX11, "lawClause", "(I)I"⟩
abbrev cX11_personClause : ByteArray := prog_13_method_50_code
def yX11_personClause : MethodName := ⟨RX11, "personClause", "(I)I"⟩
abbrev cX11_dueClause : ByteArray := prog_13_method_51_code
def yX11_dueClause : MethodName := ⟨RX11, "dueClause", "(I)I"⟩
abbrev cX11_body : ByteArray := prog_13_method_52_code
def yX11_body : MethodName := ⟨RX11, "body", "(II)I"⟩
abbrev cX11_sortOf : ByteArray := prog_13_method_53_code
def yX11_sortOf : MethodName := ⟨RX11, "sortOf", "()I"⟩
abbrev cX11_clause : ByteArray := prog_13_method_54_code
def yX11_clause : MethodName := ⟨RX11, "clause", "()I"⟩
abbrev cX11_readText : ByteArray := prog_13_method_55_code
def yX11_readText : MethodName := ⟨RX11, "readText", "()I"⟩
abbrev cX11_text : ByteArray := prog_13_method_56_code
def yX11_text : MethodName := ⟨RX11, "text", "()I"⟩
abbrev cX11_fault : ByteArray := prog_13_method_57_code
def yX11_fault : MethodName := ⟨RX11, "fault", "(I)I"⟩
abbrev cX11_by : ByteArray := prog_13_method_58_code
def yX11_by : MethodName := ⟨RX11, "by", "(I)Z"⟩
abbrev cX11_clip : ByteArray := prog_13_method_59_code
def yX11_clip : MethodName := ⟨RX11, "clip", "(J)J"⟩
abbrev cX11_two : ByteArray := prog_13_method_60_code
def yX11_two : MethodName := ⟨RX11, "two", "(IJJ)J"⟩
abbrev cX11_isAsked : ByteArray := prog_13_method_61_code
def yX11_isAsked : MethodName := ⟨RX11, "isAsked", "(IJJ)Z"⟩
abbrev cX11_ringsFor : ByteArray := prog_13_method_62_code
def yX11_ringsFor : MethodName := ⟨RX11, "ringsFor", "(J)J"⟩
abbrev cX11_joined : ByteArray := prog_13_method_63_code
def yX11_joined : MethodName := ⟨RX11, "joined", "(IZZ)Z"⟩
abbrev cX11_summedUp : ByteArray := prog_13_method_64_code
def yX11_summedUp : MethodName := ⟨RX11, "summedUp", "(II)J"⟩
abbrev cX11_says : ByteArray := prog_13_method_65_code
def yX11_says : MethodName := ⟨RX11, "says", "(IIII)I"⟩
abbrev cX11_name : ByteArray := prog_13_method_66_code
def yX11_name : MethodName := ⟨RX11, "name", "(II)V"⟩
abbrev cX11_runnersBy : ByteArray := prog_13_method_67_code
def yX11_runnersBy : MethodName := ⟨RX11, "runnersBy", "(II)I"⟩
abbrev cX11_takesOf : ByteArray := prog_13_method_68_code
def yX11_takesOf : MethodName := ⟨RX11, "takesOf", "(IIII)I"⟩
abbrev cX11_lateBy : ByteArray := prog_13_method_69_code
def yX11_lateBy : MethodName := ⟨RX11, "lateBy", "(I)I"⟩
abbrev cX11_runningNow : ByteArray := prog_13_method_70_code
def yX11_runningNow : MethodName := ⟨RX11, "runningNow", "()I"⟩
abbrev cX11_takesNow : ByteArray := prog_13_method_71_code
def yX11_takesNow : MethodName := ⟨RX11, "takesNow", "(II)I"⟩
abbrev cX11_write : ByteArray := prog_13_method_72_code
def yX11_write : MethodName := ⟨RX11, "write", "(I)V"⟩
abbrev cX11_anew : ByteArray := prog_13_method_73_code
def yX11_anew : MethodName := ⟨RX11, "anew", "()V"⟩
abbrev cX11_pass : ByteArray := prog_13_method_74_code
def yX11_pass : MethodName := ⟨RX11, "pass", "()V"⟩
abbrev cX11_keep : ByteArray := prog_13_method_75_code
def yX11_keep : MethodName := ⟨RX11, "keep", "()V"⟩
abbrev cX11_undo : ByteArray := prog_13_method_76_code
def yX11_undo : MethodName := ⟨RX11, "undo", "()I"⟩
abbrev cX11_ring : ByteArray := prog_13_method_77_code
def yX11_ring : MethodName := ⟨RX11, "ring", "(I)Z"⟩
abbrev cX11_due : ByteArray := prog_13_method_78_code
def yX11_due : MethodName := ⟨RX11, "due", "(II)Z"⟩
abbrev cX11_isLain : ByteArray := prog_13_method_79_code
def yX11_isLain : MethodName := ⟨RX11, "isLain", "(II)Z"⟩
abbrev cX11_bed : ByteArray := prog_13_method_80_code
def yX11_bed : MethodName := ⟨RX11, "bed", "(I)Z"⟩
abbrev cX11_up : ByteArray := prog_13_method_81_code
def yX11_up : MethodName := ⟨RX11, "up", "(I)Z"⟩
abbrev cX11_arePassed : ByteArray := prog_13_method_82_code
def yX11_arePassed : MethodName := ⟨RX11, "arePassed", "(I)Z"⟩
abbrev cX11_day : ByteArray := prog_13_method_83_code
def yX11_day : MethodName := ⟨RX11, "day", "(I)I"⟩
abbrev cX11_isPlayed : ByteArray := prog_13_method_84_code
def yX11_isPlayed : MethodName := ⟨RX11, "isPlayed", "(I)Z"⟩
abbrev cX11_played : ByteArray := prog_13_method_85_code
def yX11_played : MethodName := ⟨RX11, "played", "(I)I"⟩
abbrev cX11_happens : ByteArray := prog_13_method_86_code
def yX11_happens : MethodName := ⟨RX11, "happens", "(I)V"⟩
abbrev cX11_years : ByteArray := prog_13_method_87_code
def yX11_years : MethodName := ⟨RX11, "years", "(II)I"⟩
abbrev cX11_of : ByteArray := prog_13_method_88_code
def yX11_of : MethodName := ⟨RX11, "of", "(II)I"⟩
abbrev cX11_is : ByteArray := prog_13_method_89_code
def yX11_is : MethodName := ⟨RX11, "is", "(I)I"⟩
abbrev cX11_book : ByteArray := prog_13_method_90_code
def yX11_book : MethodName := ⟨RX11, "book", "(II)I"⟩
abbrev cX11_ledger : ByteArray := prog_13_method_91_code
def yX11_ledger : MethodName := ⟨RX11, "ledger", "(I)I"⟩
abbrev cX11_latest : ByteArray := prog_13_method_92_code
def yX11_latest : MethodName := ⟨RX11, "latest", "()I"⟩
abbrev cX11_crowded : ByteArray := prog_13_method_93_code
def yX11_crowded : MethodName := ⟨RX11, "crowded", "()I"⟩
abbrev cX11_deaf : ByteArray := prog_13_method_94_code
def yX11_deaf : MethodName := ⟨RX11, "deaf", "()I"⟩
abbrev cX11_foretold : ByteArray := prog_13_method_95_code
def yX11_foretold : MethodName := ⟨RX11, "foretold", "(II)I"⟩
abbrev cX11_late : ByteArray := prog_13_method_96_code
def yX11_late : MethodName := ⟨RX11, "late", "(I)I"⟩
abbrev cX11_runners : ByteArray := prog_13_method_97_code
def yX11_runners : MethodName := ⟨RX11, "runners", "(I)I"⟩
abbrev cX11_layLeads : ByteArray := prog_13_method_98_code
def yX11_layLeads : MethodName := ⟨RX11, "layLeads", "()V"⟩
abbrev cX11_settled : ByteArray := prog_13_method_99_code
def yX11_settled : MethodName := ⟨RX11, "settled", "(I)I"⟩
abbrev cX11_fewest : ByteArray := prog_13_method_100_code
def yX11_fewest : MethodName := ⟨RX11, "fewest", "(Z)I"⟩
abbrev cX11_goneFrom : ByteArray := prog_13_method_101_code
def yX11_goneFrom : MethodName := ⟨RX11, "goneFrom", "(II)I"⟩
abbrev cX11_isRound : ByteArray := prog_13_method_102_code
def yX11_isRound : MethodName := ⟨RX11, "isRound", "(I)Z"⟩
abbrev cX11_tail : ByteArray := prog_13_method_103_code
def yX11_tail : MethodName := ⟨RX11, "tail", "(I)I"⟩
abbrev cX11_round : ByteArray := prog_13_method_104_code
def yX11_round : MethodName := ⟨RX11, "round", "(I)I"⟩
abbrev cX11_rounds : ByteArray := prog_13_method_105_code
def yX11_rounds : MethodName := ⟨RX11, "rounds", "()I"⟩
abbrev cX11_timesTo : ByteArray := prog_13_method_106_code
def yX11_timesTo : MethodName := ⟨RX11, "timesTo", "(II)I"⟩
abbrev cX11_basin : ByteArray := prog_13_method_107_code
def yX11_basin : MethodName := ⟨RX11, "basin", "(I)I"⟩
abbrev cX11_never : ByteArray := prog_13_method_108_code
def yX11_never : MethodName := ⟨RX11, "never", "()I"⟩
abbrev cX11_after : ByteArray := prog_13_method_109_code
def yX11_after : MethodName := ⟨RX11, "after", "(II)I"⟩
abbrev cX11_times : ByteArray := prog_13_method_110_code
def yX11_times : MethodName := ⟨RX11, "times", "(II)I"⟩
abbrev cX11_apart : ByteArray := prog_13_method_111_code
def yX11_apart : MethodName := ⟨RX11, "apart", "(II)I"⟩
abbrev cX11_always : ByteArray := prog_13_method_112_code
def yX11_always : MethodName := ⟨RX11, "always", "()I"⟩
abbrev cX11_calm : ByteArray := prog_13_method_113_code
def yX11_calm : MethodName := ⟨RX11, "calm", "(Z)I"⟩
abbrev cX11_helped : ByteArray := prog_13_method_114_code
def yX11_helped : MethodName := ⟨RX11, "helped", "(IZ)I"⟩
abbrev cX11_early : ByteArray := prog_13_method_115_code
def yX11_early : MethodName := ⟨RX11, "early", "(I)I"⟩
abbrev cX11_weathers : ByteArray := prog_13_method_116_code
def yX11_weathers : MethodName := ⟨RX11, "weathers", "(I)I"⟩
abbrev cX11_isNeedless : ByteArray := prog_13_method_117_code
def yX11_isNeedless : MethodName := ⟨RX11, "isNeedless", "(I)Z"⟩
abbrev cX11_needless : ByteArray := prog_13_method_118_code
def yX11_needless : MethodName := ⟨RX11, "needless", "()I"⟩
abbrev cX11_lateness : ByteArray := prog_13_method_119_code
def yX11_lateness : MethodName := ⟨RX11, "lateness", "(I)I"⟩
abbrev cX11_race : ByteArray := prog_13_method_120_code
def yX11_race : MethodName := ⟨RX11, "race", "(IZ)I"⟩
abbrev cX11_chosen : ByteArray := prog_13_method_121_code
def yX11_chosen : MethodName := ⟨RX11, "chosen", "(III)I"⟩
abbrev cX11_heard : ByteArray := prog_13_method_122_code
def yX11_heard : MethodName := ⟨RX11, "heard", "(IZ)I"⟩
abbrev cX11_layDays : ByteArray := prog_13_method_123_code
def yX11_layDays : MethodName := ⟨RX11, "layDays", "()I"⟩
abbrev cX11_divisor : ByteArray := prog_13_method_124_code
def yX11_divisor : MethodName := ⟨RX11, "divisor", "(II)I"⟩
abbrev cX11_believes : ByteArray := prog_13_method_125_code
def yX11_believes : MethodName := ⟨RX11, "believes", "(IZ)I"⟩
abbrev cX11_sure : ByteArray := prog_13_method_126_code
def yX11_sure : MethodName := ⟨RX11, "sure", "(Z)I"⟩
abbrev cX11_asksBy : ByteArray := prog_13_method_127_code
def yX11_asksBy : MethodName := ⟨RX11, "asksBy", "(III)I"⟩
abbrev cX11_tells : ByteArray := prog_13_method_128_code
def yX11_tells : MethodName := ⟨RX11, "tells", "(I)I"⟩
abbrev cX11_inBed : ByteArray := prog_13_method_129_code
def yX11_inBed : MethodName := ⟨RX11, "inBed", "()I"⟩
abbrev cX11_layBeds : ByteArray := prog_13_method_130_code
def yX11_layBeds : MethodName := ⟨RX11, "layBeds", "(I)V"⟩
abbrev cX11_leastAsleep : ByteArray := prog_13_method_131_code
def yX11_leastAsleep : MethodName := ⟨RX11, "leastAsleep", "()I"⟩
abbrev cX11_asleep : ByteArray := prog_13_method_132_code
def yX11_asleep : MethodName := ⟨RX11, "asleep", "(Z)I"⟩
abbrev cX11_slack : ByteArray := prog_13_method_133_code
def yX11_slack : MethodName := ⟨RX11, "slack", "(I)I"⟩
abbrev cX11_least : ByteArray := prog_13_method_134_code
def yX11_least : MethodName := ⟨RX11, "least", "(I)I"⟩
abbrev cX11_moves : ByteArray := prog_13_method_135_code
def yX11_moves : MethodName := ⟨RX11, "moves", "(II)I"⟩
abbrev cX11_said : ByteArray := prog_13_method_136_code
def yX11_said : MethodName := ⟨RX11, "said", "(II)I"⟩
abbrev cX11_whose : ByteArray := prog_13_method_137_code
def yX11_whose : MethodName := ⟨RX11, "whose", "()I"⟩
abbrev cX11_image : ByteArray := prog_13_method_138_code
def yX11_image : MethodName := ⟨RX11, "image", "()I"⟩
abbrev cX11_back : ByteArray := prog_13_method_139_code
def yX11_back : MethodName := ⟨RX11, "back", "()I"⟩
abbrev cX11_about : ByteArray := prog_13_method_140_code
def yX11_about : MethodName := ⟨RX11, "about", "(I)I"⟩
def RJ11 : String := "java/lang/Character"
def TJ11 : u_T := fun k => match k with
  | _ => ("", "", "", false)
def tyJ11 : Nat → FieldType := fun k => match k with
  | _ => .int
abbrev cJ11_isValidCodePoint_9a6ad : ByteArray := prog_14_method_11_code
def yJ11_isValidCodePoint_9a6ad : MethodName := ⟨RJ11, "isValidCodePoint", "(I)Z"⟩
abbrev cJ11_highSurrogate_5068e : ByteArray := prog_14_method_28_code
def yJ11_highSurrogate_5068e : MethodName := ⟨RJ11, "highSurrogate", "(I)C"⟩
abbrev cJ11_lowSurrogate_5068e : ByteArray := prog_14_method_29_code
def yJ11_lowSurrogate_5068e : MethodName := ⟨RJ11, "lowSurrogate", "(I)C"⟩
def RJ6 : String := "java/lang/Integer"
def TJ6 : u_T := fun k => match k with
  | _ => ("", "", "", false)
def tyJ6 : Nat → FieldType := fun k => match k with
  | _ => .int
abbrev cJ6_bitCount_0f7a4 : ByteArray := prog_15_method_49_code
def yJ6_bitCount_0f7a4 : MethodName := ⟨RJ6, "bitCount", "(I)I"⟩
def RJ9 : String := "java/lang/Math"
def TJ9 : u_T := fun k => match k with
  | _ => ("", "", "", false)
def tyJ9 : Nat → FieldType := fun k => match k with
  | _ => .int
abbrev cJ9_max_7cf53 : ByteArray := prog_16_method_65_code
def yJ9_max_7cf53 : MethodName := ⟨RJ9, "max", "(II)I"⟩
abbrev cJ9_min_7cf53 : ByteArray := prog_16_method_69_code
def yJ9_min_7cf53 : MethodName := ⟨RJ9, "min", "(II)I"⟩
def RJ0 : String := "java/lang/String"
def TJ0 : u_T := fun k => match k with
  | _ => ("", "", "", false)
def tyJ0 : Nat → FieldType := fun k => match k with
  | _ => .int
abbrev cJ0_length_8abf5 : ByteArray := prog_17_method_54_code
def yJ0_length_8abf5 : MethodName := ⟨RJ0, "length", "()I"⟩
abbrev cJ0_charAt_5068e : ByteArray := prog_17_method_56_code
def yJ0_charAt_5068e : MethodName := ⟨RJ0, "charAt", "(I)C"⟩
abbrev cJ0_indexOf_0f7a4 : ByteArray := prog_17_method_79_code
def yJ0_indexOf_0f7a4 : MethodName := ⟨RJ0, "indexOf", "(I)I"⟩
abbrev cJ0_indexOf_7cf53 : ByteArray := prog_17_method_80_code
def yJ0_indexOf_7cf53 : MethodName := ⟨RJ0, "indexOf", "(II)I"⟩
abbrev cJ0_coder_7d493 : ByteArray := prog_17_method_152_code
def yJ0_coder_7d493 : MethodName := ⟨RJ0, "coder", "()B"⟩
abbrev cJ0_isLatin1_aae02 : ByteArray := prog_17_method_154_code
def yJ0_isLatin1_aae02 : MethodName := ⟨RJ0, "isLatin1", "()Z"⟩
abbrev cJ0_checkIndex_df160 : ByteArray := prog_17_method_155_code
def yJ0_checkIndex_df160 : MethodName := ⟨RJ0, "checkIndex", "(II)V"⟩
abbrev cJ0_checkBoundsBeginEnd_23922 : ByteArray := prog_17_method_158_code
def yJ0_checkBoundsBeginEnd_23922 : MethodName := ⟨RJ0, "checkBoundsBeginEnd", "(III)V"⟩
def RJ1 : String := "java/lang/StringLatin1"
def TJ1 : u_T := fun k => match k with
  | _ => ("", "", "", false)
def tyJ1 : Nat → FieldType := fun k => match k with
  | _ => .int
abbrev cJ1_charAt_3b067 : ByteArray := prog_18_method_2_code
def yJ1_charAt_3b067 : MethodName := ⟨RJ1, "charAt", "([BI)C"⟩
abbrev cJ1_canEncode_9a6ad : ByteArray := prog_18_method_4_code
def yJ1_canEncode_9a6ad : MethodName := ⟨RJ1, "canEncode", "(I)Z"⟩
abbrev cJ1_indexOf_4cfef : ByteArray := prog_18_method_22_code
def yJ1_indexOf_4cfef : MethodName := ⟨RJ1, "indexOf", "([BIII)I"⟩
abbrev cJ1_indexOfChar_4cfef : ByteArray := prog_18_method_23_code
def yJ1_indexOfChar_4cfef : MethodName := ⟨RJ1, "indexOfChar", "([BIII)I"⟩
def RJ2 : String := "java/lang/StringUTF16"
def TJ2 : u_T := fun k => match k with
  | _ => ("", "", "", false)
def tyJ2 : Nat → FieldType := fun k => match k with
  | _ => .int
abbrev cJ2_getChar_3b067 : ByteArray := prog_19_method_5_code
def yJ2_getChar_3b067 : MethodName := ⟨RJ2, "getChar", "([BI)C"⟩
abbrev cJ2_length_9d52b : ByteArray := prog_19_method_6_code
def yJ2_length_9d52b : MethodName := ⟨RJ2, "length", "([B)I"⟩
abbrev cJ2_indexOf_4cfef : ByteArray := prog_19_method_40_code
def yJ2_indexOf_4cfef : MethodName := ⟨RJ2, "indexOf", "([BIII)I"⟩
abbrev cJ2_indexOfChar_4cfef : ByteArray := prog_19_method_47_code
def yJ2_indexOfChar_4cfef : MethodName := ⟨RJ2, "indexOfChar", "([BIII)I"⟩
abbrev cJ2_indexOfCharUnsafe_4cfef : ByteArray := prog_19_method_48_code
def yJ2_indexOfCharUnsafe_4cfef : MethodName := ⟨RJ2, "indexOfCharUnsafe", "([BIII)I"⟩
abbrev cJ2_indexOfSupplementary_4cfef : ByteArray := prog_19_method_49_code
def yJ2_indexOfSupplementary_4cfef : MethodName := ⟨RJ2, "indexOfSupplementary", "([BIII)I"⟩
abbrev cJ2_charAt_3b067 : ByteArray := prog_19_method_83_code
def yJ2_charAt_3b067 : MethodName := ⟨RJ2, "charAt", "([BI)C"⟩
abbrev cJ2_checkIndex_2214a : ByteArray := prog_19_method_91_code
def yJ2_checkIndex_2214a : MethodName := ⟨RJ2, "checkIndex", "(I[B)V"⟩
abbrev cJ2_checkBoundsBeginEnd_d044e : ByteArray := prog_19_method_93_code
def yJ2_checkBoundsBeginEnd_d044e : MethodName := ⟨RJ2, "checkBoundsBeginEnd", "(II[B)V"⟩
def RJ10 : String := "java/lang/System"
def TJ10 : u_T := fun k => match k with
  | _ => ("", "", "", false)
def tyJ10 : Nat → FieldType := fun k => match k with
  | _ => .int
def RJ3 : String := "jdk/internal/util/Preconditions"
def TJ3 : u_T := fun k => match k with
  | _ => ("", "", "", false)
def tyJ3 : Nat → FieldType := fun k => match k with
  | _ => .int
abbrev cJ3_checkIndex_8e157 : ByteArray := prog_21_method_11_code
def yJ3_checkIndex_8e157 : MethodName := ⟨RJ3, "checkIndex", "(IILjava/util/function/BiFunction;)I"⟩
abbrev cJ3_checkFromToIndex_8c36e : ByteArray := prog_21_method_12_code
def yJ3_checkFromToIndex_8c36e : MethodName := ⟨RJ3, "checkFromToIndex", "(IIILjava/util/function/BiFunction;)I"⟩
def RL : String := "TollsForLateLaw"
abbrev cL_law : ByteArray := code
def yL_law : MethodName := ⟨RL, "law", "([I)Z"⟩
abbrev vwCl : List vw_C := [(RX0, TX0, 6), (RX1, TX1, 3), (RX2, TX2, 6), (RX3, TX3, 9), (RX4, TX4, 12), (RX5, TX5, 8), (RX6, TX6, 2), (RX7, TX7, 9), (RX8, TX8, 4), (RX9, TX9, 18), (RX10, TX10, 12), (RX11, TX11, 31)]
