/-- a private method of a class that the tables say can be made, by its rows of tables_1 -/
def lw_okq (q : MethodName × Nat) : Prop := (q.1.cls ≠ "java/lang/invoke/MethodHandle" ∧ q.1.cls ≠ "java/lang/invoke/VarHandle") ∧ Cond.instantiable q.1.cls q.2 ∈ tables_1 ∧ Cond.privateMethod q.1 ∈ tables_1 ∧ Cond.instanceMethod q.1 ∈ tables_1
theorem lw_p0 : lw_okq (⟨"SunLamps", "homeAt", "(I)LSunLamps$Home;"⟩, 13) := ⟨⟨by decide +kernel, by decide +kernel⟩, List.mem_of_getElem? (i := 23) (by decide +kernel), List.mem_of_getElem? (i := 286) (by decide +kernel), List.mem_of_getElem? (i := 287) (by decide +kernel)⟩
theorem lw_p1 : lw_okq (⟨"SunLamps", "lampAt", "(I)LSunLamps$Lamp;"⟩, 13) := ⟨⟨by decide +kernel, by decide +kernel⟩, List.mem_of_getElem? (i := 23) (by decide +kernel), List.mem_of_getElem? (i := 423) (by decide +kernel), List.mem_of_getElem? (i := 424) (by decide +kernel)⟩
theorem lw_p2 : lw_okq (⟨"SunLamps$Terms", "textAt", "(I)LSunLamps$Text;"⟩, 9) := ⟨⟨by decide +kernel, by decide +kernel⟩, List.mem_of_getElem? (i := 55) (by decide +kernel), List.mem_of_getElem? (i := 455) (by decide +kernel), List.mem_of_getElem? (i := 456) (by decide +kernel)⟩
theorem lw_p3 : lw_okq (⟨"SunLamps$Terms", "textOf", "(I)LSunLamps$Text;"⟩, 9) := ⟨⟨by decide +kernel, by decide +kernel⟩, List.mem_of_getElem? (i := 55) (by decide +kernel), List.mem_of_getElem? (i := 464) (by decide +kernel), List.mem_of_getElem? (i := 465) (by decide +kernel)⟩
theorem lw_p4 : lw_okq (⟨"SunLamps", "passOneDay", "()V"⟩, 13) := ⟨⟨by decide +kernel, by decide +kernel⟩, List.mem_of_getElem? (i := 23) (by decide +kernel), List.mem_of_getElem? (i := 515) (by decide +kernel), List.mem_of_getElem? (i := 516) (by decide +kernel)⟩
theorem lw_p5 : lw_okq (⟨"SunLamps$Terms", "numberOf", "(II)I"⟩, 9) := ⟨⟨by decide +kernel, by decide +kernel⟩, List.mem_of_getElem? (i := 55) (by decide +kernel), List.mem_of_getElem? (i := 527) (by decide +kernel), List.mem_of_getElem? (i := 528) (by decide +kernel)⟩
theorem lw_p6 : lw_okq (⟨"SunLamps$Terms", "runOn", "(LSunLamps$Lamp;LSunLamps$Meter;)I"⟩, 9) := ⟨⟨by decide +kernel, by decide +kernel⟩, List.mem_of_getElem? (i := 55) (by decide +kernel), List.mem_of_getElem? (i := 540) (by decide +kernel), List.mem_of_getElem? (i := 541) (by decide +kernel)⟩
theorem lw_p7 : lw_okq (⟨"SunLamps", "kindOf", "(LSunLamps$Lamp;I)I"⟩, 13) := ⟨⟨by decide +kernel, by decide +kernel⟩, List.mem_of_getElem? (i := 23) (by decide +kernel), List.mem_of_getElem? (i := 557) (by decide +kernel), List.mem_of_getElem? (i := 558) (by decide +kernel)⟩
theorem lw_p8 : lw_okq (⟨"SunLamps$TextReader", "readClause", "(LSunLamps$Text;)Z"⟩, 3) := ⟨⟨by decide +kernel, by decide +kernel⟩, List.mem_of_getElem? (i := 37) (by decide +kernel), List.mem_of_getElem? (i := 610) (by decide +kernel), List.mem_of_getElem? (i := 611) (by decide +kernel)⟩
theorem lw_p9 : lw_okq (⟨"SunLamps$TextReader", "peek", "()I"⟩, 3) := ⟨⟨by decide +kernel, by decide +kernel⟩, List.mem_of_getElem? (i := 37) (by decide +kernel), List.mem_of_getElem? (i := 614) (by decide +kernel), List.mem_of_getElem? (i := 615) (by decide +kernel)⟩
theorem lw_p10 : lw_okq (⟨"SunLamps$TextReader", "skipWord", "(Ljava/lang/String;)Z"⟩, 3) := ⟨⟨by decide +kernel, by decide +kernel⟩, List.mem_of_getElem? (i := 37) (by decide +kernel), List.mem_of_getElem? (i := 619) (by decide +kernel), List.mem_of_getElem? (i := 620) (by decide +kernel)⟩
theorem lw_p11 : lw_okq (⟨"SunLamps$TextReader", "skip", "(C)Z"⟩, 3) := ⟨⟨by decide +kernel, by decide +kernel⟩, List.mem_of_getElem? (i := 37) (by decide +kernel), List.mem_of_getElem? (i := 671) (by decide +kernel), List.mem_of_getElem? (i := 672) (by decide +kernel)⟩
theorem lw_p12 : lw_okq (⟨"SunLamps$TextReader", "readSum", "(LSunLamps$Text;)Z"⟩, 3) := ⟨⟨by decide +kernel, by decide +kernel⟩, List.mem_of_getElem? (i := 37) (by decide +kernel), List.mem_of_getElem? (i := 675) (by decide +kernel), List.mem_of_getElem? (i := 676) (by decide +kernel)⟩
theorem lw_p13 : lw_okq (⟨"SunLamps$TextReader", "readNumber", "()I"⟩, 3) := ⟨⟨by decide +kernel, by decide +kernel⟩, List.mem_of_getElem? (i := 37) (by decide +kernel), List.mem_of_getElem? (i := 679) (by decide +kernel), List.mem_of_getElem? (i := 680) (by decide +kernel)⟩
theorem lw_p14 : lw_okq (⟨"SunLamps$TextReader", "readGrace", "(LSunLamps$Text;)Z"⟩, 3) := ⟨⟨by decide +kernel, by decide +kernel⟩, List.mem_of_getElem? (i := 37) (by decide +kernel), List.mem_of_getElem? (i := 689) (by decide +kernel), List.mem_of_getElem? (i := 690) (by decide +kernel)⟩
theorem lw_p15 : lw_okq (⟨"SunLamps$TextReader", "readRun", "(LSunLamps$Text;)Z"⟩, 3) := ⟨⟨by decide +kernel, by decide +kernel⟩, List.mem_of_getElem? (i := 37) (by decide +kernel), List.mem_of_getElem? (i := 694) (by decide +kernel), List.mem_of_getElem? (i := 695) (by decide +kernel)⟩
def lw_privs_1 : List (MethodName × Nat) := [(⟨"SunLamps", "homeAt", "(I)LSunLamps$Home;"⟩, 13), (⟨"SunLamps", "lampAt", "(I)LSunLamps$Lamp;"⟩, 13), (⟨"SunLamps$Terms", "textAt", "(I)LSunLamps$Text;"⟩, 9), (⟨"SunLamps$Terms", "textOf", "(I)LSunLamps$Text;"⟩, 9), (⟨"SunLamps", "passOneDay", "()V"⟩, 13), (⟨"SunLamps$Terms", "numberOf", "(II)I"⟩, 9), (⟨"SunLamps$Terms", "runOn", "(LSunLamps$Lamp;LSunLamps$Meter;)I"⟩, 9), (⟨"SunLamps", "kindOf", "(LSunLamps$Lamp;I)I"⟩, 13), (⟨"SunLamps$TextReader", "readClause", "(LSunLamps$Text;)Z"⟩, 3), (⟨"SunLamps$TextReader", "peek", "()I"⟩, 3), (⟨"SunLamps$TextReader", "skipWord", "(Ljava/lang/String;)Z"⟩, 3), (⟨"SunLamps$TextReader", "skip", "(C)Z"⟩, 3), (⟨"SunLamps$TextReader", "readSum", "(LSunLamps$Text;)Z"⟩, 3), (⟨"SunLamps$TextReader", "readNumber", "()I"⟩, 3), (⟨"SunLamps$TextReader", "readGrace", "(LSunLamps$Text;)Z"⟩, 3), (⟨"SunLamps$TextReader", "readRun", "(LSunLamps$Text;)Z"⟩, 3)]
theorem lw_r1 : ∀ q ∈ lw_privs_1, lw_okq q := List.forall_mem_cons.mpr ⟨lw_p0, List.forall_mem_cons.mpr ⟨lw_p1, List.forall_mem_cons.mpr ⟨lw_p2, List.forall_mem_cons.mpr ⟨lw_p3, List.forall_mem_cons.mpr ⟨lw_p4, List.forall_mem_cons.mpr ⟨lw_p5, List.forall_mem_cons.mpr ⟨lw_p6, List.forall_mem_cons.mpr ⟨lw_p7, List.forall_mem_cons.mpr ⟨lw_p8, List.forall_mem_cons.mpr ⟨lw_p9, List.forall_mem_cons.mpr ⟨lw_p10, List.forall_mem_cons.mpr ⟨lw_p11, List.forall_mem_cons.mpr ⟨lw_p12, List.forall_mem_cons.mpr ⟨lw_p13, List.forall_mem_cons.mpr ⟨lw_p14, List.forall_mem_cons.mpr ⟨lw_p15, fun _ h => absurd h List.not_mem_nil⟩⟩⟩⟩⟩⟩⟩⟩⟩⟩⟩⟩⟩⟩⟩⟩
theorem lw_p16 : lw_okq (⟨"SunLamps$TextReader", "readTests", "(LSunLamps$Text;I)Z"⟩, 3) := ⟨⟨by decide +kernel, by decide +kernel⟩, List.mem_of_getElem? (i := 37) (by decide +kernel), List.mem_of_getElem? (i := 699) (by decide +kernel), List.mem_of_getElem? (i := 700) (by decide +kernel)⟩
theorem lw_p17 : lw_okq (⟨"SunLamps$TextReader", "readAny", "(LSunLamps$Text;I)Z"⟩, 3) := ⟨⟨by decide +kernel, by decide +kernel⟩, List.mem_of_getElem? (i := 37) (by decide +kernel), List.mem_of_getElem? (i := 703) (by decide +kernel), List.mem_of_getElem? (i := 704) (by decide +kernel)⟩
theorem lw_p18 : lw_okq (⟨"SunLamps$TextReader", "readAll", "(LSunLamps$Text;I)Z"⟩, 3) := ⟨⟨by decide +kernel, by decide +kernel⟩, List.mem_of_getElem? (i := 37) (by decide +kernel), List.mem_of_getElem? (i := 707) (by decide +kernel), List.mem_of_getElem? (i := 708) (by decide +kernel)⟩
theorem lw_p19 : lw_okq (⟨"SunLamps$TextReader", "readOne", "(LSunLamps$Text;I)Z"⟩, 3) := ⟨⟨by decide +kernel, by decide +kernel⟩, List.mem_of_getElem? (i := 37) (by decide +kernel), List.mem_of_getElem? (i := 711) (by decide +kernel), List.mem_of_getElem? (i := 712) (by decide +kernel)⟩
theorem lw_p20 : lw_okq (⟨"SunLamps$TextReader", "readTest", "(LSunLamps$Text;)Z"⟩, 3) := ⟨⟨by decide +kernel, by decide +kernel⟩, List.mem_of_getElem? (i := 37) (by decide +kernel), List.mem_of_getElem? (i := 719) (by decide +kernel), List.mem_of_getElem? (i := 720) (by decide +kernel)⟩
theorem lw_p21 : lw_okq (⟨"SunLamps$TextReader", "letterAt", "()I"⟩, 3) := ⟨⟨by decide +kernel, by decide +kernel⟩, List.mem_of_getElem? (i := 37) (by decide +kernel), List.mem_of_getElem? (i := 723) (by decide +kernel), List.mem_of_getElem? (i := 724) (by decide +kernel)⟩
theorem lw_p22 : lw_okq (⟨"SunLamps$Agent", "goOn", "(IIIIII)V"⟩, 7) := ⟨⟨by decide +kernel, by decide +kernel⟩, List.mem_of_getElem? (i := 162) (by decide +kernel), List.mem_of_getElem? (i := 861) (by decide +kernel), List.mem_of_getElem? (i := 862) (by decide +kernel)⟩
theorem lw_p23 : lw_okq (⟨"SunLamps$Agent", "keepRow", "(II)V"⟩, 7) := ⟨⟨by decide +kernel, by decide +kernel⟩, List.mem_of_getElem? (i := 162) (by decide +kernel), List.mem_of_getElem? (i := 865) (by decide +kernel), List.mem_of_getElem? (i := 866) (by decide +kernel)⟩
theorem lw_p24 : lw_okq (⟨"SunLamps$Book", "putCell", "(II)V"⟩, 3) := ⟨⟨by decide +kernel, by decide +kernel⟩, List.mem_of_getElem? (i := 121) (by decide +kernel), List.mem_of_getElem? (i := 888) (by decide +kernel), List.mem_of_getElem? (i := 889) (by decide +kernel)⟩
theorem lw_p25 : lw_okq (⟨"SunLamps", "fewestCauses", "(III)I"⟩, 13) := ⟨⟨by decide +kernel, by decide +kernel⟩, List.mem_of_getElem? (i := 23) (by decide +kernel), List.mem_of_getElem? (i := 896) (by decide +kernel), List.mem_of_getElem? (i := 897) (by decide +kernel)⟩
theorem lw_p26 : lw_okq (⟨"SunLamps", "causesOfFirstOpen", "(I)I"⟩, 13) := ⟨⟨by decide +kernel, by decide +kernel⟩, List.mem_of_getElem? (i := 23) (by decide +kernel), List.mem_of_getElem? (i := 900) (by decide +kernel), List.mem_of_getElem? (i := 901) (by decide +kernel)⟩
theorem lw_p27 : lw_okq (⟨"SunLamps", "litDays", "(II)I"⟩, 13) := ⟨⟨by decide +kernel, by decide +kernel⟩, List.mem_of_getElem? (i := 23) (by decide +kernel), List.mem_of_getElem? (i := 928) (by decide +kernel), List.mem_of_getElem? (i := 929) (by decide +kernel)⟩
theorem lw_p28 : lw_okq (⟨"SunLamps$Acts", "runFrom", "(IIII)I"⟩, 5) := ⟨⟨by decide +kernel, by decide +kernel⟩, List.mem_of_getElem? (i := 138) (by decide +kernel), List.mem_of_getElem? (i := 964) (by decide +kernel), List.mem_of_getElem? (i := 965) (by decide +kernel)⟩
theorem lw_p29 : lw_okq (⟨"SunLamps$Acts", "runBody", "(IIII)I"⟩, 5) := ⟨⟨by decide +kernel, by decide +kernel⟩, List.mem_of_getElem? (i := 138) (by decide +kernel), List.mem_of_getElem? (i := 970) (by decide +kernel), List.mem_of_getElem? (i := 971) (by decide +kernel)⟩
theorem lw_p30 : lw_okq (⟨"SunLamps", "tapeAt", "(I)LSunLamps$Tape;"⟩, 13) := ⟨⟨by decide +kernel, by decide +kernel⟩, List.mem_of_getElem? (i := 23) (by decide +kernel), List.mem_of_getElem? (i := 986) (by decide +kernel), List.mem_of_getElem? (i := 987) (by decide +kernel)⟩
theorem lw_p31 : lw_okq (⟨"SunLamps$Tape", "asKept", "(J)J"⟩, 3) := ⟨⟨by decide +kernel, by decide +kernel⟩, List.mem_of_getElem? (i := 193) (by decide +kernel), List.mem_of_getElem? (i := 1027) (by decide +kernel), List.mem_of_getElem? (i := 1028) (by decide +kernel)⟩
def lw_privs_2 : List (MethodName × Nat) := [(⟨"SunLamps$TextReader", "readTests", "(LSunLamps$Text;I)Z"⟩, 3), (⟨"SunLamps$TextReader", "readAny", "(LSunLamps$Text;I)Z"⟩, 3), (⟨"SunLamps$TextReader", "readAll", "(LSunLamps$Text;I)Z"⟩, 3), (⟨"SunLamps$TextReader", "readOne", "(LSunLamps$Text;I)Z"⟩, 3), (⟨"SunLamps$TextReader", "readTest", "(LSunLamps$Text;)Z"⟩, 3), (⟨"SunLamps$TextReader", "letterAt", "()I"⟩, 3), (⟨"SunLamps$Agent", "goOn", "(IIIIII)V"⟩, 7), (⟨"SunLamps$Agent", "keepRow", "(II)V"⟩, 7), (⟨"SunLamps$Book", "putCell", "(II)V"⟩, 3), (⟨"SunLamps", "fewestCauses", "(III)I"⟩, 13), (⟨"SunLamps", "causesOfFirstOpen", "(I)I"⟩, 13), (⟨"SunLamps", "litDays", "(II)I"⟩, 13), (⟨"SunLamps$Acts", "runFrom", "(IIII)I"⟩, 5), (⟨"SunLamps$Acts", "runBody", "(IIII)I"⟩, 5), (⟨"SunLamps", "tapeAt", "(I)LSunLamps$Tape;"⟩, 13), (⟨"SunLamps$Tape", "asKept", "(J)J"⟩, 3)]
theorem lw_r2 : ∀ q ∈ lw_privs_2, lw_okq q := List.forall_mem_cons.mpr ⟨lw_p16, List.forall_mem_cons.mpr ⟨lw_p17, List.forall_mem_cons.mpr ⟨lw_p18, List.forall_mem_cons.mpr ⟨lw_p19, List.forall_mem_cons.mpr ⟨lw_p20, List.forall_mem_cons.mpr ⟨lw_p21, List.forall_mem_cons.mpr ⟨lw_p22, List.forall_mem_cons.mpr ⟨lw_p23, List.forall_mem_cons.mpr ⟨lw_p24, List.forall_mem_cons.mpr ⟨lw_p25, List.forall_mem_cons.mpr ⟨lw_p26, List.forall_mem_cons.mpr ⟨lw_p27, List.forall_mem_cons.mpr ⟨lw_p28, List.forall_mem_cons.mpr ⟨lw_p29, List.forall_mem_cons.mpr ⟨lw_p30, List.forall_mem_cons.mpr ⟨lw_p31, fun _ h => absurd h List.not_mem_nil⟩⟩⟩⟩⟩⟩⟩⟩⟩⟩⟩⟩⟩⟩⟩⟩
theorem lw_p32 : lw_okq (⟨"SunLampsModel", "in", "(III)Z"⟩, 73) := ⟨⟨by decide +kernel, by decide +kernel⟩, List.mem_of_getElem? (i := 1046) (by decide +kernel), List.mem_of_getElem? (i := 1277) (by decide +kernel), List.mem_of_getElem? (i := 1278) (by decide +kernel)⟩
theorem lw_p33 : lw_okq (⟨"SunLampsModel", "isHome", "(I)Z"⟩, 73) := ⟨⟨by decide +kernel, by decide +kernel⟩, List.mem_of_getElem? (i := 1046) (by decide +kernel), List.mem_of_getElem? (i := 1285) (by decide +kernel), List.mem_of_getElem? (i := 1286) (by decide +kernel)⟩
theorem lw_p34 : lw_okq (⟨"SunLampsModel", "isLamp", "(I)Z"⟩, 73) := ⟨⟨by decide +kernel, by decide +kernel⟩, List.mem_of_getElem? (i := 1046) (by decide +kernel), List.mem_of_getElem? (i := 1297) (by decide +kernel), List.mem_of_getElem? (i := 1298) (by decide +kernel)⟩
theorem lw_p35 : lw_okq (⟨"SunLampsModel", "comes", "(I)V"⟩, 73) := ⟨⟨by decide +kernel, by decide +kernel⟩, List.mem_of_getElem? (i := 1046) (by decide +kernel), List.mem_of_getElem? (i := 1301) (by decide +kernel), List.mem_of_getElem? (i := 1302) (by decide +kernel)⟩
theorem lw_p36 : lw_okq (⟨"SunLampsModel", "look", "(I)V"⟩, 73) := ⟨⟨by decide +kernel, by decide +kernel⟩, List.mem_of_getElem? (i := 1046) (by decide +kernel), List.mem_of_getElem? (i := 1305) (by decide +kernel), List.mem_of_getElem? (i := 1306) (by decide +kernel)⟩
theorem lw_p37 : lw_okq (⟨"SunLampsModel", "owed", "(I)I"⟩, 73) := ⟨⟨by decide +kernel, by decide +kernel⟩, List.mem_of_getElem? (i := 1046) (by decide +kernel), List.mem_of_getElem? (i := 1309) (by decide +kernel), List.mem_of_getElem? (i := 1310) (by decide +kernel)⟩
theorem lw_p38 : lw_okq (⟨"SunLampsModel", "isLet", "(III)Z"⟩, 73) := ⟨⟨by decide +kernel, by decide +kernel⟩, List.mem_of_getElem? (i := 1046) (by decide +kernel), List.mem_of_getElem? (i := 1317) (by decide +kernel), List.mem_of_getElem? (i := 1318) (by decide +kernel)⟩
theorem lw_p39 : lw_okq (⟨"SunLampsModel", "darkAhead", "(I)I"⟩, 73) := ⟨⟨by decide +kernel, by decide +kernel⟩, List.mem_of_getElem? (i := 1046) (by decide +kernel), List.mem_of_getElem? (i := 1321) (by decide +kernel), List.mem_of_getElem? (i := 1322) (by decide +kernel)⟩
theorem lw_p40 : lw_okq (⟨"SunLampsModel", "ruler", "(III)I"⟩, 73) := ⟨⟨by decide +kernel, by decide +kernel⟩, List.mem_of_getElem? (i := 1046) (by decide +kernel), List.mem_of_getElem? (i := 1325) (by decide +kernel), List.mem_of_getElem? (i := 1326) (by decide +kernel)⟩
theorem lw_p41 : lw_okq (⟨"SunLampsModel", "goesThrough", "(I)Z"⟩, 73) := ⟨⟨by decide +kernel, by decide +kernel⟩, List.mem_of_getElem? (i := 1046) (by decide +kernel), List.mem_of_getElem? (i := 1329) (by decide +kernel), List.mem_of_getElem? (i := 1330) (by decide +kernel)⟩
theorem lw_p42 : lw_okq (⟨"SunLampsModel", "takesClause", "()Z"⟩, 73) := ⟨⟨by decide +kernel, by decide +kernel⟩, List.mem_of_getElem? (i := 1046) (by decide +kernel), List.mem_of_getElem? (i := 1333) (by decide +kernel), List.mem_of_getElem? (i := 1334) (by decide +kernel)⟩
theorem lw_p43 : lw_okq (⟨"SunLampsModel", "next", "()I"⟩, 73) := ⟨⟨by decide +kernel, by decide +kernel⟩, List.mem_of_getElem? (i := 1046) (by decide +kernel), List.mem_of_getElem? (i := 1337) (by decide +kernel), List.mem_of_getElem? (i := 1338) (by decide +kernel)⟩
theorem lw_p44 : lw_okq (⟨"SunLampsModel", "takesSum", "()Z"⟩, 73) := ⟨⟨by decide +kernel, by decide +kernel⟩, List.mem_of_getElem? (i := 1046) (by decide +kernel), List.mem_of_getElem? (i := 1341) (by decide +kernel), List.mem_of_getElem? (i := 1342) (by decide +kernel)⟩
theorem lw_p45 : lw_okq (⟨"SunLampsModel", "takesWord", "(II)Z"⟩, 73) := ⟨⟨by decide +kernel, by decide +kernel⟩, List.mem_of_getElem? (i := 1046) (by decide +kernel), List.mem_of_getElem? (i := 1345) (by decide +kernel), List.mem_of_getElem? (i := 1346) (by decide +kernel)⟩
theorem lw_p46 : lw_okq (⟨"SunLampsModel", "takes", "(I)Z"⟩, 73) := ⟨⟨by decide +kernel, by decide +kernel⟩, List.mem_of_getElem? (i := 1046) (by decide +kernel), List.mem_of_getElem? (i := 1349) (by decide +kernel), List.mem_of_getElem? (i := 1350) (by decide +kernel)⟩
theorem lw_p47 : lw_okq (⟨"SunLampsModel", "takesNumber", "()Z"⟩, 73) := ⟨⟨by decide +kernel, by decide +kernel⟩, List.mem_of_getElem? (i := 1046) (by decide +kernel), List.mem_of_getElem? (i := 1353) (by decide +kernel), List.mem_of_getElem? (i := 1354) (by decide +kernel)⟩
def lw_privs_3 : List (MethodName × Nat) := [(⟨"SunLampsModel", "in", "(III)Z"⟩, 73), (⟨"SunLampsModel", "isHome", "(I)Z"⟩, 73), (⟨"SunLampsModel", "isLamp", "(I)Z"⟩, 73), (⟨"SunLampsModel", "comes", "(I)V"⟩, 73), (⟨"SunLampsModel", "look", "(I)V"⟩, 73), (⟨"SunLampsModel", "owed", "(I)I"⟩, 73), (⟨"SunLampsModel", "isLet", "(III)Z"⟩, 73), (⟨"SunLampsModel", "darkAhead", "(I)I"⟩, 73), (⟨"SunLampsModel", "ruler", "(III)I"⟩, 73), (⟨"SunLampsModel", "goesThrough", "(I)Z"⟩, 73), (⟨"SunLampsModel", "takesClause", "()Z"⟩, 73), (⟨"SunLampsModel", "next", "()I"⟩, 73), (⟨"SunLampsModel", "takesSum", "()Z"⟩, 73), (⟨"SunLampsModel", "takesWord", "(II)Z"⟩, 73), (⟨"SunLampsModel", "takes", "(I)Z"⟩, 73), (⟨"SunLampsModel", "takesNumber", "()Z"⟩, 73)]
theorem lw_r3 : ∀ q ∈ lw_privs_3, lw_okq q := List.forall_mem_cons.mpr ⟨lw_p32, List.forall_mem_cons.mpr ⟨lw_p33, List.forall_mem_cons.mpr ⟨lw_p34, List.forall_mem_cons.mpr ⟨lw_p35, List.forall_mem_cons.mpr ⟨lw_p36, List.forall_mem_cons.mpr ⟨lw_p37, List.forall_mem_cons.mpr ⟨lw_p38, List.forall_mem_cons.mpr ⟨lw_p39, List.forall_mem_cons.mpr ⟨lw_p40, List.forall_mem_cons.mpr ⟨lw_p41, List.forall_mem_cons.mpr ⟨lw_p42, List.forall_mem_cons.mpr ⟨lw_p43, List.forall_mem_cons.mpr ⟨lw_p44, List.forall_mem_cons.mpr ⟨lw_p45, List.forall_mem_cons.mpr ⟨lw_p46, List.forall_mem_cons.mpr ⟨lw_p47, fun _ h => absurd h List.not_mem_nil⟩⟩⟩⟩⟩⟩⟩⟩⟩⟩⟩⟩⟩⟩⟩⟩
theorem lw_p48 : lw_okq (⟨"SunLampsModel", "isDigit", "()Z"⟩, 73) := ⟨⟨by decide +kernel, by decide +kernel⟩, List.mem_of_getElem? (i := 1046) (by decide +kernel), List.mem_of_getElem? (i := 1357) (by decide +kernel), List.mem_of_getElem? (i := 1358) (by decide +kernel)⟩
theorem lw_p49 : lw_okq (⟨"SunLampsModel", "says", "(IIZ)V"⟩, 73) := ⟨⟨by decide +kernel, by decide +kernel⟩, List.mem_of_getElem? (i := 1046) (by decide +kernel), List.mem_of_getElem? (i := 1361) (by decide +kernel), List.mem_of_getElem? (i := 1362) (by decide +kernel)⟩
theorem lw_p50 : lw_okq (⟨"SunLampsModel", "takesE", "()Z"⟩, 73) := ⟨⟨by decide +kernel, by decide +kernel⟩, List.mem_of_getElem? (i := 1046) (by decide +kernel), List.mem_of_getElem? (i := 1367) (by decide +kernel), List.mem_of_getElem? (i := 1368) (by decide +kernel)⟩
theorem lw_p51 : lw_okq (⟨"SunLampsModel", "takesTest", "()Z"⟩, 73) := ⟨⟨by decide +kernel, by decide +kernel⟩, List.mem_of_getElem? (i := 1046) (by decide +kernel), List.mem_of_getElem? (i := 1371) (by decide +kernel), List.mem_of_getElem? (i := 1372) (by decide +kernel)⟩
theorem lw_p52 : lw_okq (⟨"SunLampsModel", "factOf", "(I)I"⟩, 73) := ⟨⟨by decide +kernel, by decide +kernel⟩, List.mem_of_getElem? (i := 1046) (by decide +kernel), List.mem_of_getElem? (i := 1375) (by decide +kernel), List.mem_of_getElem? (i := 1376) (by decide +kernel)⟩
theorem lw_p53 : lw_okq (⟨"SunLampsModel", "push", "(Z)V"⟩, 73) := ⟨⟨by decide +kernel, by decide +kernel⟩, List.mem_of_getElem? (i := 1046) (by decide +kernel), List.mem_of_getElem? (i := 1379) (by decide +kernel), List.mem_of_getElem? (i := 1380) (by decide +kernel)⟩
theorem lw_p54 : lw_okq (⟨"SunLampsModel", "settle", "(I)V"⟩, 73) := ⟨⟨by decide +kernel, by decide +kernel⟩, List.mem_of_getElem? (i := 1046) (by decide +kernel), List.mem_of_getElem? (i := 1383) (by decide +kernel), List.mem_of_getElem? (i := 1384) (by decide +kernel)⟩
theorem lw_p55 : lw_okq (⟨"SunLampsModel", "goDay", "()V"⟩, 73) := ⟨⟨by decide +kernel, by decide +kernel⟩, List.mem_of_getElem? (i := 1046) (by decide +kernel), List.mem_of_getElem? (i := 1397) (by decide +kernel), List.mem_of_getElem? (i := 1398) (by decide +kernel)⟩
theorem lw_p56 : lw_okq (⟨"SunLampsModel", "goes", "(I)I"⟩, 73) := ⟨⟨by decide +kernel, by decide +kernel⟩, List.mem_of_getElem? (i := 1046) (by decide +kernel), List.mem_of_getElem? (i := 1401) (by decide +kernel), List.mem_of_getElem? (i := 1402) (by decide +kernel)⟩
theorem lw_p57 : lw_okq (⟨"SunLampsModel", "runs", "(I)Z"⟩, 73) := ⟨⟨by decide +kernel, by decide +kernel⟩, List.mem_of_getElem? (i := 1046) (by decide +kernel), List.mem_of_getElem? (i := 1405) (by decide +kernel), List.mem_of_getElem? (i := 1406) (by decide +kernel)⟩
theorem lw_p58 : lw_okq (⟨"SunLampsModel", "grace", "(I)I"⟩, 73) := ⟨⟨by decide +kernel, by decide +kernel⟩, List.mem_of_getElem? (i := 1046) (by decide +kernel), List.mem_of_getElem? (i := 1409) (by decide +kernel), List.mem_of_getElem? (i := 1410) (by decide +kernel)⟩
theorem lw_p59 : lw_okq (⟨"SunLampsModel", "kindOf", "(II)I"⟩, 73) := ⟨⟨by decide +kernel, by decide +kernel⟩, List.mem_of_getElem? (i := 1046) (by decide +kernel), List.mem_of_getElem? (i := 1417) (by decide +kernel), List.mem_of_getElem? (i := 1418) (by decide +kernel)⟩
theorem lw_p60 : lw_okq (⟨"SunLampsModel", "isUnder", "(II)Z"⟩, 73) := ⟨⟨by decide +kernel, by decide +kernel⟩, List.mem_of_getElem? (i := 1046) (by decide +kernel), List.mem_of_getElem? (i := 1425) (by decide +kernel), List.mem_of_getElem? (i := 1426) (by decide +kernel)⟩
theorem lw_p61 : lw_okq (⟨"SunLampsModel", "isDay", "(I)Z"⟩, 73) := ⟨⟨by decide +kernel, by decide +kernel⟩, List.mem_of_getElem? (i := 1046) (by decide +kernel), List.mem_of_getElem? (i := 1437) (by decide +kernel), List.mem_of_getElem? (i := 1438) (by decide +kernel)⟩
theorem lw_p62 : lw_okq (⟨"SunLampsModel", "daysFor", "(II)I"⟩, 73) := ⟨⟨by decide +kernel, by decide +kernel⟩, List.mem_of_getElem? (i := 1046) (by decide +kernel), List.mem_of_getElem? (i := 1445) (by decide +kernel), List.mem_of_getElem? (i := 1446) (by decide +kernel)⟩
theorem lw_p63 : lw_okq (⟨"SunLampsModel", "codeOf", "(III)I"⟩, 73) := ⟨⟨by decide +kernel, by decide +kernel⟩, List.mem_of_getElem? (i := 1046) (by decide +kernel), List.mem_of_getElem? (i := 1457) (by decide +kernel), List.mem_of_getElem? (i := 1458) (by decide +kernel)⟩
def lw_privs_4 : List (MethodName × Nat) := [(⟨"SunLampsModel", "isDigit", "()Z"⟩, 73), (⟨"SunLampsModel", "says", "(IIZ)V"⟩, 73), (⟨"SunLampsModel", "takesE", "()Z"⟩, 73), (⟨"SunLampsModel", "takesTest", "()Z"⟩, 73), (⟨"SunLampsModel", "factOf", "(I)I"⟩, 73), (⟨"SunLampsModel", "push", "(Z)V"⟩, 73), (⟨"SunLampsModel", "settle", "(I)V"⟩, 73), (⟨"SunLampsModel", "goDay", "()V"⟩, 73), (⟨"SunLampsModel", "goes", "(I)I"⟩, 73), (⟨"SunLampsModel", "runs", "(I)Z"⟩, 73), (⟨"SunLampsModel", "grace", "(I)I"⟩, 73), (⟨"SunLampsModel", "kindOf", "(II)I"⟩, 73), (⟨"SunLampsModel", "isUnder", "(II)Z"⟩, 73), (⟨"SunLampsModel", "isDay", "(I)Z"⟩, 73), (⟨"SunLampsModel", "daysFor", "(II)I"⟩, 73), (⟨"SunLampsModel", "codeOf", "(III)I"⟩, 73)]
theorem lw_r4 : ∀ q ∈ lw_privs_4, lw_okq q := List.forall_mem_cons.mpr ⟨lw_p48, List.forall_mem_cons.mpr ⟨lw_p49, List.forall_mem_cons.mpr ⟨lw_p50, List.forall_mem_cons.mpr ⟨lw_p51, List.forall_mem_cons.mpr ⟨lw_p52, List.forall_mem_cons.mpr ⟨lw_p53, List.forall_mem_cons.mpr ⟨lw_p54, List.forall_mem_cons.mpr ⟨lw_p55, List.forall_mem_cons.mpr ⟨lw_p56, List.forall_mem_cons.mpr ⟨lw_p57, List.forall_mem_cons.mpr ⟨lw_p58, List.forall_mem_cons.mpr ⟨lw_p59, List.forall_mem_cons.mpr ⟨lw_p60, List.forall_mem_cons.mpr ⟨lw_p61, List.forall_mem_cons.mpr ⟨lw_p62, List.forall_mem_cons.mpr ⟨lw_p63, fun _ h => absurd h List.not_mem_nil⟩⟩⟩⟩⟩⟩⟩⟩⟩⟩⟩⟩⟩⟩⟩⟩
theorem lw_p64 : lw_okq (⟨"SunLampsModel", "takesCode", "(II)I"⟩, 73) := ⟨⟨by decide +kernel, by decide +kernel⟩, List.mem_of_getElem? (i := 1046) (by decide +kernel), List.mem_of_getElem? (i := 1470) (by decide +kernel), List.mem_of_getElem? (i := 1471) (by decide +kernel)⟩
theorem lw_p65 : lw_okq (⟨"SunLampsModel", "abs", "(I)I"⟩, 73) := ⟨⟨by decide +kernel, by decide +kernel⟩, List.mem_of_getElem? (i := 1046) (by decide +kernel), List.mem_of_getElem? (i := 1482) (by decide +kernel), List.mem_of_getElem? (i := 1483) (by decide +kernel)⟩
theorem lw_p66 : lw_okq (⟨"SunLampsModel", "areAlike", "(III)Z"⟩, 73) := ⟨⟨by decide +kernel, by decide +kernel⟩, List.mem_of_getElem? (i := 1046) (by decide +kernel), List.mem_of_getElem? (i := 1498) (by decide +kernel), List.mem_of_getElem? (i := 1499) (by decide +kernel)⟩
theorem lw_p67 : lw_okq (⟨"SunLampsModel", "ones", "(I)I"⟩, 73) := ⟨⟨by decide +kernel, by decide +kernel⟩, List.mem_of_getElem? (i := 1046) (by decide +kernel), List.mem_of_getElem? (i := 1506) (by decide +kernel), List.mem_of_getElem? (i := 1507) (by decide +kernel)⟩
theorem lw_p68 : lw_okq (⟨"SunLampsModel", "findWay", "(II)V"⟩, 73) := ⟨⟨by decide +kernel, by decide +kernel⟩, List.mem_of_getElem? (i := 1046) (by decide +kernel), List.mem_of_getElem? (i := 1510) (by decide +kernel), List.mem_of_getElem? (i := 1511) (by decide +kernel)⟩
theorem lw_p69 : lw_okq (⟨"SunLampsModel", "minutesTo", "(II)I"⟩, 73) := ⟨⟨by decide +kernel, by decide +kernel⟩, List.mem_of_getElem? (i := 1046) (by decide +kernel), List.mem_of_getElem? (i := 1514) (by decide +kernel), List.mem_of_getElem? (i := 1515) (by decide +kernel)⟩
theorem lw_p70 : lw_okq (⟨"SunLampsModel", "keep", "()V"⟩, 73) := ⟨⟨by decide +kernel, by decide +kernel⟩, List.mem_of_getElem? (i := 1046) (by decide +kernel), List.mem_of_getElem? (i := 1540) (by decide +kernel), List.mem_of_getElem? (i := 1541) (by decide +kernel)⟩
theorem lw_p71 : lw_okq (⟨"SunLampsModel", "putBack", "()V"⟩, 73) := ⟨⟨by decide +kernel, by decide +kernel⟩, List.mem_of_getElem? (i := 1046) (by decide +kernel), List.mem_of_getElem? (i := 1544) (by decide +kernel), List.mem_of_getElem? (i := 1545) (by decide +kernel)⟩
theorem lw_p72 : lw_okq (⟨"SunLampsModel", "countsOf", "(I)I"⟩, 73) := ⟨⟨by decide +kernel, by decide +kernel⟩, List.mem_of_getElem? (i := 1046) (by decide +kernel), List.mem_of_getElem? (i := 1560) (by decide +kernel), List.mem_of_getElem? (i := 1561) (by decide +kernel)⟩
theorem lw_p73 : lw_okq (⟨"SunLampsModel", "body", "(I)V"⟩, 73) := ⟨⟨by decide +kernel, by decide +kernel⟩, List.mem_of_getElem? (i := 1046) (by decide +kernel), List.mem_of_getElem? (i := 1564) (by decide +kernel), List.mem_of_getElem? (i := 1565) (by decide +kernel)⟩
theorem lw_p74 : lw_okq (⟨"SunLampsModel", "plainCounts", "(I)I"⟩, 73) := ⟨⟨by decide +kernel, by decide +kernel⟩, List.mem_of_getElem? (i := 1046) (by decide +kernel), List.mem_of_getElem? (i := 1568) (by decide +kernel), List.mem_of_getElem? (i := 1569) (by decide +kernel)⟩
theorem lw_p75 : lw_okq (⟨"SunLampsModel", "owesOf", "(I)I"⟩, 73) := ⟨⟨by decide +kernel, by decide +kernel⟩, List.mem_of_getElem? (i := 1046) (by decide +kernel), List.mem_of_getElem? (i := 1572) (by decide +kernel), List.mem_of_getElem? (i := 1573) (by decide +kernel)⟩
theorem lw_p76 : lw_okq (⟨"SunLampsModel", "paidOwes", "(I)I"⟩, 73) := ⟨⟨by decide +kernel, by decide +kernel⟩, List.mem_of_getElem? (i := 1046) (by decide +kernel), List.mem_of_getElem? (i := 1576) (by decide +kernel), List.mem_of_getElem? (i := 1577) (by decide +kernel)⟩
theorem lw_p77 : lw_okq (⟨"SunLampsModel", "plainOwes", "(I)I"⟩, 73) := ⟨⟨by decide +kernel, by decide +kernel⟩, List.mem_of_getElem? (i := 1046) (by decide +kernel), List.mem_of_getElem? (i := 1580) (by decide +kernel), List.mem_of_getElem? (i := 1581) (by decide +kernel)⟩
theorem lw_p78 : lw_okq (⟨"SunLampsModel", "ranksOf", "(I)I"⟩, 73) := ⟨⟨by decide +kernel, by decide +kernel⟩, List.mem_of_getElem? (i := 1046) (by decide +kernel), List.mem_of_getElem? (i := 1584) (by decide +kernel), List.mem_of_getElem? (i := 1585) (by decide +kernel)⟩
theorem lw_p79 : lw_okq (⟨"SunLampsModel", "lentRanks", "(I)I"⟩, 73) := ⟨⟨by decide +kernel, by decide +kernel⟩, List.mem_of_getElem? (i := 1046) (by decide +kernel), List.mem_of_getElem? (i := 1588) (by decide +kernel), List.mem_of_getElem? (i := 1589) (by decide +kernel)⟩
def lw_privs_5 : List (MethodName × Nat) := [(⟨"SunLampsModel", "takesCode", "(II)I"⟩, 73), (⟨"SunLampsModel", "abs", "(I)I"⟩, 73), (⟨"SunLampsModel", "areAlike", "(III)Z"⟩, 73), (⟨"SunLampsModel", "ones", "(I)I"⟩, 73), (⟨"SunLampsModel", "findWay", "(II)V"⟩, 73), (⟨"SunLampsModel", "minutesTo", "(II)I"⟩, 73), (⟨"SunLampsModel", "keep", "()V"⟩, 73), (⟨"SunLampsModel", "putBack", "()V"⟩, 73), (⟨"SunLampsModel", "countsOf", "(I)I"⟩, 73), (⟨"SunLampsModel", "body", "(I)V"⟩, 73), (⟨"SunLampsModel", "plainCounts", "(I)I"⟩, 73), (⟨"SunLampsModel", "owesOf", "(I)I"⟩, 73), (⟨"SunLampsModel", "paidOwes", "(I)I"⟩, 73), (⟨"SunLampsModel", "plainOwes", "(I)I"⟩, 73), (⟨"SunLampsModel", "ranksOf", "(I)I"⟩, 73), (⟨"SunLampsModel", "lentRanks", "(I)I"⟩, 73)]
theorem lw_r5 : ∀ q ∈ lw_privs_5, lw_okq q := List.forall_mem_cons.mpr ⟨lw_p64, List.forall_mem_cons.mpr ⟨lw_p65, List.forall_mem_cons.mpr ⟨lw_p66, List.forall_mem_cons.mpr ⟨lw_p67, List.forall_mem_cons.mpr ⟨lw_p68, List.forall_mem_cons.mpr ⟨lw_p69, List.forall_mem_cons.mpr ⟨lw_p70, List.forall_mem_cons.mpr ⟨lw_p71, List.forall_mem_cons.mpr ⟨lw_p72, List.forall_mem_cons.mpr ⟨lw_p73, List.forall_mem_cons.mpr ⟨lw_p74, List.forall_mem_cons.mpr ⟨lw_p75, List.forall_mem_cons.mpr ⟨lw_p76, List.forall_mem_cons.mpr ⟨lw_p77, List.forall_mem_cons.mpr ⟨lw_p78, List.forall_mem_cons.mpr ⟨lw_p79, fun _ h => absurd h List.not_mem_nil⟩⟩⟩⟩⟩⟩⟩⟩⟩⟩⟩⟩⟩⟩⟩⟩
theorem lw_p80 : lw_okq (⟨"SunLampsModel", "plainRanks", "(I)I"⟩, 73) := ⟨⟨by decide +kernel, by decide +kernel⟩, List.mem_of_getElem? (i := 1046) (by decide +kernel), List.mem_of_getElem? (i := 1592) (by decide +kernel), List.mem_of_getElem? (i := 1593) (by decide +kernel)⟩
theorem lw_p81 : lw_okq (⟨"SunLampsModel", "isTape", "(I)Z"⟩, 73) := ⟨⟨by decide +kernel, by decide +kernel⟩, List.mem_of_getElem? (i := 1046) (by decide +kernel), List.mem_of_getElem? (i := 1612) (by decide +kernel), List.mem_of_getElem? (i := 1613) (by decide +kernel)⟩
theorem lw_p82 : lw_okq (⟨"SunLampsModel", "narrow", "(IJ)J"⟩, 73) := ⟨⟨by decide +kernel, by decide +kernel⟩, List.mem_of_getElem? (i := 1046) (by decide +kernel), List.mem_of_getElem? (i := 1627) (by decide +kernel), List.mem_of_getElem? (i := 1628) (by decide +kernel)⟩
def lw_privs_6 : List (MethodName × Nat) := [(⟨"SunLampsModel", "plainRanks", "(I)I"⟩, 73), (⟨"SunLampsModel", "isTape", "(I)Z"⟩, 73), (⟨"SunLampsModel", "narrow", "(IJ)J"⟩, 73)]
theorem lw_r6 : ∀ q ∈ lw_privs_6, lw_okq q := List.forall_mem_cons.mpr ⟨lw_p80, List.forall_mem_cons.mpr ⟨lw_p81, List.forall_mem_cons.mpr ⟨lw_p82, fun _ h => absurd h List.not_mem_nil⟩⟩⟩
def lw_privs : List (MethodName × Nat) := lw_privs_1 ++ (lw_privs_2 ++ (lw_privs_3 ++ (lw_privs_4 ++ (lw_privs_5 ++ (lw_privs_6)))))
def lw_tbl : List Cond := k2_sels lw_privs ++ tables_1
theorem lw_privs_ok : ∀ q ∈ lw_privs, lw_okq q := by
  show ∀ q ∈ lw_privs_1 ++ (lw_privs_2 ++ (lw_privs_3 ++ (lw_privs_4 ++ (lw_privs_5 ++ (lw_privs_6))))), lw_okq q
  exact List.forall_mem_append.mpr ⟨lw_r1, List.forall_mem_append.mpr ⟨lw_r2, List.forall_mem_append.mpr ⟨lw_r3, List.forall_mem_append.mpr ⟨lw_r4, List.forall_mem_append.mpr ⟨lw_r5, lw_r6⟩⟩⟩⟩⟩
/-! ===== BEGIN words of one list among another's, by their places ===== -/
theorem goodIn_r {big : List Cond} (ws : List Cond) (ps : List Nat) (hp : ws = ps.filterMap (fun i => big[i]?)) (h : ws.all goodWord = true) : GoodIn big ws := by
  intro w hw
  have h1 := List.all_eq_true.mp h w hw
  rw [hp] at hw
  obtain ⟨i, -, hi⟩ := List.mem_filterMap.mp hw
  have hm : w ∈ big := by first | exact List.mem_of_getElem? hi | exact List.getElem?_mem hi
  exact ⟨hm, good_of_word h1⟩
theorem goodIn_app {big a b : List Cond} (ha : GoodIn big a) (hb : GoodIn big b) : GoodIn big (a ++ b) := fun w h => (List.mem_append.mp h).elim (ha w) (hb w)
theorem goodIn_ca {big a b : List Cond} {c : Cond} (ha : GoodIn big (c :: a)) (hb : GoodIn big b) : GoodIn big (c :: (a ++ b)) := fun w h => (List.mem_cons.mp h).elim (fun e => ha w (List.mem_cons.mpr (Or.inl e))) (fun h => (List.mem_append.mp h).elim (fun h => ha w (List.mem_cons.mpr (Or.inr h))) (hb w))
theorem goodIn_sub {big ws : List Cond} (hm : ∀ w ∈ ws, w ∈ big) (h : ws.all goodWord = true) : GoodIn big ws := fun w hw => ⟨hm w hw, good_of_word (List.all_eq_true.mp h w hw)⟩
/-! ===== END ===== -/
/-! ===== BEGIN printed: names, fields, word lists, decode rows ===== -/
def RX0 : String := "SunLamps$Acts"
def TX0 : u_T := fun k => match k with
  | 0 => ("SunLamps$Acts", "ran", "I", false)
  | 1 => ("SunLamps$Acts", "bodies", "[I", true)
  | 2 => ("SunLamps$Acts", "lamp", "I", false)
  | 3 => ("SunLamps$Acts", "day", "I", false)
  | _ => ("SunLamps$Acts", "kind", "I", false)
def tyX0 : Nat → FieldType := fun k => match k with
  | 0 => .int
  | 1 => .array .int
  | 2 => .int
  | 3 => .int
  | _ => .int
abbrev wsX00 : List Cond := u_ws RX0 TX0 5
theorem nmX0 : ∀ a, a < 5 → ∀ b, b < 5 → a ≠ b → (TX0 a).2.1 ≠ (TX0 b).2.1 := by decide +kernel
theorem tyX0_ok : ∀ k, k < 5 → parseFieldDescriptor (TX0 k).2.2.1 = some (tyX0 k) := by decide +kernel
abbrev cX0_init : ByteArray := prog_2_method_1_code
def yX0_init : MethodName := ⟨RX0, "<init>", "()V"⟩
abbrev cX0_isKind : ByteArray := prog_2_method_2_code
def yX0_isKind : MethodName := ⟨RX0, "isKind", "(I)Z"⟩
abbrev cX0_isUnder : ByteArray := prog_2_method_3_code
def yX0_isUnder : MethodName := ⟨RX0, "isUnder", "(II)Z"⟩
abbrev cX0_isLit : ByteArray := prog_2_method_4_code
def yX0_isLit : MethodName := ⟨RX0, "isLit", "(I)Z"⟩
abbrev cX0_forget : ByteArray := prog_2_method_5_code
def yX0_forget : MethodName := ⟨RX0, "forget", "()V"⟩
abbrev cX0_perform : ByteArray := prog_2_method_6_code
def yX0_perform : MethodName := ⟨RX0, "perform", "(IIIII)I"⟩
abbrev cX0_runFrom : ByteArray := prog_2_method_7_code
def yX0_runFrom : MethodName := ⟨RX0, "runFrom", "(IIII)I"⟩
abbrev cX0_runBody : ByteArray := prog_2_method_8_code
def yX0_runBody : MethodName := ⟨RX0, "runBody", "(IIII)I"⟩
def RX1 : String := "SunLamps$Agent"
def TX1 : u_T := fun k => match k with
  | 0 => ("SunLamps$Agent", "told", "[LSunLamps$Home;", true)
  | 1 => ("SunLamps$Agent", "toldCount", "I", false)
  | 2 => ("SunLamps$Agent", "month", "I", false)
  | 3 => ("SunLamps$Agent", "row", "[I", true)
  | 4 => ("SunLamps$Agent", "bestRow", "[I", true)
  | 5 => ("SunLamps$Agent", "bestVisits", "I", false)
  | _ => ("SunLamps$Agent", "bestCoins", "I", false)
def tyX1 : Nat → FieldType := fun k => match k with
  | 0 => .array (.object "SunLamps$Home")
  | 1 => .int
  | 2 => .int
  | 3 => .array .int
  | 4 => .array .int
  | 5 => .int
  | _ => .int
abbrev wsX10 : List Cond := u_ws RX1 TX1 7
theorem nmX1 : ∀ a, a < 7 → ∀ b, b < 7 → a ≠ b → (TX1 a).2.1 ≠ (TX1 b).2.1 := by decide +kernel
theorem tyX1_ok : ∀ k, k < 7 → parseFieldDescriptor (TX1 k).2.2.1 = some (tyX1 k) := by decide +kernel
abbrev cX1_init : ByteArray := prog_3_method_1_code
def yX1_init : MethodName := ⟨RX1, "<init>", "()V"⟩
abbrev cX1_forget : ByteArray := prog_3_method_2_code
def yX1_forget : MethodName := ⟨RX1, "forget", "(I)V"⟩
abbrev cX1_mayVisit : ByteArray := prog_3_method_3_code
def yX1_mayVisit : MethodName := ⟨RX1, "mayVisit", "(LSunLamps$Home;)V"⟩
abbrev cX1_lookFor : ByteArray := prog_3_method_4_code
def yX1_lookFor : MethodName := ⟨RX1, "lookFor", "(I)V"⟩
abbrev cX1_goOn : ByteArray := prog_3_method_5_code
def yX1_goOn : MethodName := ⟨RX1, "goOn", "(IIIIII)V"⟩
abbrev cX1_keepRow : ByteArray := prog_3_method_6_code
def yX1_keepRow : MethodName := ⟨RX1, "keepRow", "(II)V"⟩
def RX2 : String := "SunLamps$Book"
def TX2 : u_T := fun k => match k with
  | 0 => ("SunLamps$Book", "limit", "I", true)
  | 1 => ("SunLamps$Book", "cells", "[I", true)
  | _ => ("SunLamps$Book", "size", "I", false)
def tyX2 : Nat → FieldType := fun k => match k with
  | 0 => .int
  | 1 => .array .int
  | _ => .int
abbrev wsX20 : List Cond := u_ws RX2 TX2 3
theorem nmX2 : ∀ a, a < 3 → ∀ b, b < 3 → a ≠ b → (TX2 a).2.1 ≠ (TX2 b).2.1 := by decide +kernel
theorem tyX2_ok : ∀ k, k < 3 → parseFieldDescriptor (TX2 k).2.2.1 = some (tyX2 k) := by decide +kernel
abbrev cX2_init : ByteArray := prog_4_method_1_code
def yX2_init : MethodName := ⟨RX2, "<init>", "(I)V"⟩
abbrev cX2_isFull : ByteArray := prog_4_method_2_code
def yX2_isFull : MethodName := ⟨RX2, "isFull", "()Z"⟩
abbrev cX2_append : ByteArray := prog_4_method_3_code
def yX2_append : MethodName := ⟨RX2, "append", "(IIII)I"⟩
abbrev cX2_putCell : ByteArray := prog_4_method_4_code
def yX2_putCell : MethodName := ⟨RX2, "putCell", "(II)V"⟩
abbrev cX2_cell : ByteArray := prog_4_method_5_code
def yX2_cell : MethodName := ⟨RX2, "cell", "(II)I"⟩
def RX3 : String := "SunLamps$Codes"
def TX3 : u_T := fun k => match k with
  | 0 => ("SunLamps$Codes", "tookCounts", "J", false)
  | 1 => ("SunLamps$Codes", "tookCodes", "I", false)
  | 2 => ("SunLamps$Codes", "tookDays", "I", false)
  | 3 => ("SunLamps$Codes", "soldDays", "[B", true)
  | _ => ("SunLamps$Codes", "soldCodes", "I", false)
def tyX3 : Nat → FieldType := fun k => match k with
  | 0 => .long
  | 1 => .int
  | 2 => .int
  | 3 => .array .byte
  | _ => .int
abbrev wsX30 : List Cond := u_ws RX3 TX3 5
theorem nmX3 : ∀ a, a < 5 → ∀ b, b < 5 → a ≠ b → (TX3 a).2.1 ≠ (TX3 b).2.1 := by decide +kernel
theorem tyX3_ok : ∀ k, k < 5 → parseFieldDescriptor (TX3 k).2.2.1 = some (tyX3 k) := by decide +kernel
abbrev cX3_init : ByteArray := prog_5_method_1_code
def yX3_init : MethodName := ⟨RX3, "<init>", "()V"⟩
abbrev cX3_reckon : ByteArray := prog_5_method_2_code
def yX3_reckon : MethodName := ⟨RX3, "reckon", "(III)I"⟩
abbrev cX3_daysIn : ByteArray := prog_5_method_3_code
def yX3_daysIn : MethodName := ⟨RX3, "daysIn", "(III)I"⟩
abbrev cX3_low : ByteArray := prog_5_method_4_code
def yX3_low : MethodName := ⟨RX3, "low", "()I"⟩
abbrev cX3_accept : ByteArray := prog_5_method_5_code
def yX3_accept : MethodName := ⟨RX3, "accept", "(II)I"⟩
abbrev cX3_isSoldOut : ByteArray := prog_5_method_6_code
def yX3_isSoldOut : MethodName := ⟨RX3, "isSoldOut", "()Z"⟩
abbrev cX3_addSold : ByteArray := prog_5_method_7_code
def yX3_addSold : MethodName := ⟨RX3, "addSold", "(II)I"⟩
abbrev cX3_isAsSold : ByteArray := prog_5_method_8_code
def yX3_isAsSold : MethodName := ⟨RX3, "isAsSold", "()Z"⟩
def RX4 : String := "SunLamps$Home"
def TX4 : u_T := fun k => match k with
  | 0 => ("SunLamps$Home", "number", "I", true)
  | 1 => ("SunLamps$Home", "x", "I", true)
  | 2 => ("SunLamps$Home", "y", "I", true)
  | _ => ("SunLamps$Home", "coins", "[I", true)
def tyX4 : Nat → FieldType := fun k => match k with
  | 0 => .int
  | 1 => .int
  | 2 => .int
  | _ => .array .int
abbrev wsX40 : List Cond := u_ws RX4 TX4 4
theorem nmX4 : ∀ a, a < 4 → ∀ b, b < 4 → a ≠ b → (TX4 a).2.1 ≠ (TX4 b).2.1 := by decide +kernel
theorem tyX4_ok : ∀ k, k < 4 → parseFieldDescriptor (TX4 k).2.2.1 = some (tyX4 k) := by decide +kernel
abbrev cX4_init : ByteArray := prog_6_method_1_code
def yX4_init : MethodName := ⟨RX4, "<init>", "(III)V"⟩
abbrev cX4_coinsIn : ByteArray := prog_6_method_2_code
def yX4_coinsIn : MethodName := ⟨RX4, "coinsIn", "(I)I"⟩
abbrev cX4_putCoins : ByteArray := prog_6_method_3_code
def yX4_putCoins : MethodName := ⟨RX4, "putCoins", "(II)V"⟩
abbrev cX4_isAlike : ByteArray := prog_6_method_4_code
def yX4_isAlike : MethodName := ⟨RX4, "isAlike", "(LSunLamps$Home;I)Z"⟩
abbrev cX4_minutesFrom : ByteArray := prog_6_method_5_code
def yX4_minutesFrom : MethodName := ⟨RX4, "minutesFrom", "(II)I"⟩
def RX5 : String := "SunLamps$Lamp"
def TX5 : u_T := fun k => match k with
  | 0 => ("SunLamps$Lamp", "number", "I", true)
  | 1 => ("SunLamps$Lamp", "lot", "I", true)
  | 2 => ("SunLamps$Lamp", "drift", "I", true)
  | 3 => ("SunLamps$Lamp", "born", "I", true)
  | 4 => ("SunLamps$Lamp", "meter", "LSunLamps$Meter;", true)
  | 5 => ("SunLamps$Lamp", "beside", "LSunLamps$Meter;", true)
  | 6 => ("SunLamps$Lamp", "codes", "LSunLamps$Codes;", true)
  | 7 => ("SunLamps$Lamp", "kinds", "[B", true)
  | 8 => ("SunLamps$Lamp", "price", "I", false)
  | 9 => ("SunLamps$Lamp", "state", "I", false)
  | 10 => ("SunLamps$Lamp", "home", "LSunLamps$Home;", false)
  | 11 => ("SunLamps$Lamp", "broken", "Z", false)
  | _ => ("SunLamps$Lamp", "roofSince", "I", false)
def tyX5 : Nat → FieldType := fun k => match k with
  | 0 => .int
  | 1 => .int
  | 2 => .int
  | 3 => .int
  | 4 => .object "SunLamps$Meter"
  | 5 => .object "SunLamps$Meter"
  | 6 => .object "SunLamps$Codes"
  | 7 => .array .byte
  | 8 => .int
  | 9 => .int
  | 10 => .object "SunLamps$Home"
  | 11 => .boolean
  | _ => .int
abbrev wsX50 : List Cond := u_ws RX5 TX5 13
theorem nmX5 : ∀ a, a < 13 → ∀ b, b < 13 → a ≠ b → (TX5 a).2.1 ≠ (TX5 b).2.1 := by decide +kernel
theorem tyX5_ok : ∀ k, k < 13 → parseFieldDescriptor (TX5 k).2.2.1 = some (tyX5 k) := by decide +kernel
abbrev cX5_init : ByteArray := prog_7_method_1_code
def yX5_init : MethodName := ⟨RX5, "<init>", "(IIIII)V"⟩
abbrev cX5_owed : ByteArray := prog_7_method_2_code
def yX5_owed : MethodName := ⟨RX5, "owed", "()I"⟩
abbrev cX5_owedOn : ByteArray := prog_7_method_3_code
def yX5_owedOn : MethodName := ⟨RX5, "owedOn", "(LSunLamps$Meter;)I"⟩
abbrev cX5_comeOnRoof : ByteArray := prog_7_method_4_code
def yX5_comeOnRoof : MethodName := ⟨RX5, "comeOnRoof", "(LSunLamps$Home;I)V"⟩
abbrev cX5_beFetched : ByteArray := prog_7_method_5_code
def yX5_beFetched : MethodName := ⟨RX5, "beFetched", "()V"⟩
abbrev cX5_becomeOwnedIfPaid : ByteArray := prog_7_method_6_code
def yX5_becomeOwnedIfPaid : MethodName := ⟨RX5, "becomeOwnedIfPaid", "()V"⟩
abbrev cX5_hearNumber : ByteArray := prog_7_method_7_code
def yX5_hearNumber : MethodName := ⟨RX5, "hearNumber", "(I)I"⟩
abbrev cX5_clockOff : ByteArray := prog_7_method_8_code
def yX5_clockOff : MethodName := ⟨RX5, "clockOff", "(I)I"⟩
abbrev cX5_keepKind : ByteArray := prog_7_method_9_code
def yX5_keepKind : MethodName := ⟨RX5, "keepKind", "(II)V"⟩
abbrev cX5_kindKept : ByteArray := prog_7_method_10_code
def yX5_kindKept : MethodName := ⟨RX5, "kindKept", "(I)I"⟩
def RX6 : String := "SunLamps$Meter"
def TX6 : u_T := fun k => match k with
  | 0 => ("SunLamps$Meter", "counter", "I", false)
  | 1 => ("SunLamps$Meter", "lent", "I", false)
  | 2 => ("SunLamps$Meter", "ran", "I", false)
  | _ => ("SunLamps$Meter", "dark", "I", false)
def tyX6 : Nat → FieldType := fun k => match k with
  | 0 => .int
  | 1 => .int
  | 2 => .int
  | _ => .int
abbrev wsX60 : List Cond := u_ws RX6 TX6 4
theorem nmX6 : ∀ a, a < 4 → ∀ b, b < 4 → a ≠ b → (TX6 a).2.1 ≠ (TX6 b).2.1 := by decide +kernel
theorem tyX6_ok : ∀ k, k < 4 → parseFieldDescriptor (TX6 k).2.2.1 = some (tyX6 k) := by decide +kernel
abbrev cX6_init : ByteArray := prog_8_method_1_code
def yX6_init : MethodName := ⟨RX6, "<init>", "()V"⟩
abbrev cX6_copy : ByteArray := prog_8_method_2_code
def yX6_copy : MethodName := ⟨RX6, "copy", "(LSunLamps$Meter;)V"⟩
abbrev cX6_runOneDay : ByteArray := prog_8_method_3_code
def yX6_runOneDay : MethodName := ⟨RX6, "runOneDay", "()V"⟩
def RX7 : String := "SunLamps$Tape"
def TX7 : u_T := fun k => match k with
  | 0 => ("SunLamps$Tape", "sort", "I", false)
  | 1 => ("SunLamps$Tape", "length", "I", false)
  | _ => ("SunLamps$Tape", "items", "[J", true)
def tyX7 : Nat → FieldType := fun k => match k with
  | 0 => .int
  | 1 => .int
  | _ => .array .long
abbrev wsX70 : List Cond := u_ws RX7 TX7 3
theorem nmX7 : ∀ a, a < 3 → ∀ b, b < 3 → a ≠ b → (TX7 a).2.1 ≠ (TX7 b).2.1 := by decide +kernel
theorem tyX7_ok : ∀ k, k < 3 → parseFieldDescriptor (TX7 k).2.2.1 = some (tyX7 k) := by decide +kernel
abbrev cX7_init : ByteArray := prog_9_method_1_code
def yX7_init : MethodName := ⟨RX7, "<init>", "()V"⟩
abbrev cX7_become : ByteArray := prog_9_method_2_code
def yX7_become : MethodName := ⟨RX7, "become", "(II)V"⟩
abbrev cX7_hasPlace : ByteArray := prog_9_method_3_code
def yX7_hasPlace : MethodName := ⟨RX7, "hasPlace", "(I)Z"⟩
abbrev cX7_hasPlaces : ByteArray := prog_9_method_4_code
def yX7_hasPlaces : MethodName := ⟨RX7, "hasPlaces", "(II)Z"⟩
abbrev cX7_itemAt : ByteArray := prog_9_method_5_code
def yX7_itemAt : MethodName := ⟨RX7, "itemAt", "(I)J"⟩
abbrev cX7_putItem : ByteArray := prog_9_method_6_code
def yX7_putItem : MethodName := ⟨RX7, "putItem", "(IJ)V"⟩
abbrev cX7_asKept : ByteArray := prog_9_method_7_code
def yX7_asKept : MethodName := ⟨RX7, "asKept", "(J)J"⟩
def RX8 : String := "SunLamps$Terms"
def TX8 : u_T := fun k => match k with
  | 0 => ("SunLamps$Terms", "texts", "[LSunLamps$Text;", true)
  | 1 => ("SunLamps$Terms", "size", "I", false)
  | 2 => ("SunLamps$Terms", "draft", "LSunLamps$Text;", false)
  | 3 => ("SunLamps$Terms", "isTrying", "Z", false)
  | 4 => ("SunLamps$Terms", "settledMonth", "I", false)
  | 5 => ("SunLamps$Terms", "grace", "I", false)
  | 6 => ("SunLamps$Terms", "run", "I", false)
  | 7 => ("SunLamps$Terms", "offText", "LSunLamps$Text;", false)
  | _ => ("SunLamps$Terms", "offClause", "I", false)
def tyX8 : Nat → FieldType := fun k => match k with
  | 0 => .array (.object "SunLamps$Text")
  | 1 => .int
  | 2 => .object "SunLamps$Text"
  | 3 => .boolean
  | 4 => .int
  | 5 => .int
  | 6 => .int
  | 7 => .object "SunLamps$Text"
  | _ => .int
abbrev wsX80 : List Cond := u_ws RX8 TX8 9
theorem nmX8 : ∀ a, a < 9 → ∀ b, b < 9 → a ≠ b → (TX8 a).2.1 ≠ (TX8 b).2.1 := by decide +kernel
theorem tyX8_ok : ∀ k, k < 9 → parseFieldDescriptor (TX8 k).2.2.1 = some (tyX8 k) := by decide +kernel
abbrev cX8_init : ByteArray := prog_10_method_1_code
def yX8_init : MethodName := ⟨RX8, "<init>", "()V"⟩
abbrev cX8_isFull : ByteArray := prog_10_method_2_code
def yX8_isFull : MethodName := ⟨RX8, "isFull", "()Z"⟩
abbrev cX8_keepDraft : ByteArray := prog_10_method_3_code
def yX8_keepDraft : MethodName := ⟨RX8, "keepDraft", "(I)I"⟩
abbrev cX8_tryDraft : ByteArray := prog_10_method_4_code
def yX8_tryDraft : MethodName := ⟨RX8, "tryDraft", "(I)V"⟩
abbrev cX8_endTry : ByteArray := prog_10_method_5_code
def yX8_endTry : MethodName := ⟨RX8, "endTry", "()V"⟩
abbrev cX8_textAt : ByteArray := prog_10_method_6_code
def yX8_textAt : MethodName := ⟨RX8, "textAt", "(I)LSunLamps$Text;"⟩
abbrev cX8_rulingOf : ByteArray := prog_10_method_7_code
def yX8_rulingOf : MethodName := ⟨RX8, "rulingOf", "(III)I"⟩
abbrev cX8_textOf : ByteArray := prog_10_method_8_code
def yX8_textOf : MethodName := ⟨RX8, "textOf", "(I)LSunLamps$Text;"⟩
abbrev cX8_daysFor : ByteArray := prog_10_method_9_code
def yX8_daysFor : MethodName := ⟨RX8, "daysFor", "(II)I"⟩
abbrev cX8_graceOf : ByteArray := prog_10_method_10_code
def yX8_graceOf : MethodName := ⟨RX8, "graceOf", "(I)I"⟩
abbrev cX8_runOf : ByteArray := prog_10_method_11_code
def yX8_runOf : MethodName := ⟨RX8, "runOf", "(I)I"⟩
abbrev cX8_numberOf : ByteArray := prog_10_method_12_code
def yX8_numberOf : MethodName := ⟨RX8, "numberOf", "(II)I"⟩
abbrev cX8_holds : ByteArray := prog_10_method_13_code
def yX8_holds : MethodName := ⟨RX8, "holds", "(ILSunLamps$Lamp;I)Z"⟩
abbrev cX8_settle : ByteArray := prog_10_method_14_code
def yX8_settle : MethodName := ⟨RX8, "settle", "(I)V"⟩
abbrev cX8_goBy : ByteArray := prog_10_method_15_code
def yX8_goBy : MethodName := ⟨RX8, "goBy", "(LSunLamps$Lamp;LSunLamps$Meter;)I"⟩
abbrev cX8_runOn : ByteArray := prog_10_method_16_code
def yX8_runOn : MethodName := ⟨RX8, "runOn", "(LSunLamps$Lamp;LSunLamps$Meter;)I"⟩
def RX9 : String := "SunLamps$Text"
def TX9 : u_T := fun k => match k with
  | 0 => ("SunLamps$Text", "day", "I", false)
  | 1 => ("SunLamps$Text", "clauses", "I", false)
  | 2 => ("SunLamps$Text", "words", "[I", true)
  | 3 => ("SunLamps$Text", "firsts", "[I", true)
  | 4 => ("SunLamps$Text", "seconds", "[I", true)
  | 5 => ("SunLamps$Text", "steps", "[I", true)
  | _ => ("SunLamps$Text", "stepCount", "I", false)
def tyX9 : Nat → FieldType := fun k => match k with
  | 0 => .int
  | 1 => .int
  | 2 => .array .int
  | 3 => .array .int
  | 4 => .array .int
  | 5 => .array .int
  | _ => .int
abbrev wsX90 : List Cond := u_ws RX9 TX9 7
theorem nmX9 : ∀ a, a < 7 → ∀ b, b < 7 → a ≠ b → (TX9 a).2.1 ≠ (TX9 b).2.1 := by decide +kernel
theorem tyX9_ok : ∀ k, k < 7 → parseFieldDescriptor (TX9 k).2.2.1 = some (tyX9 k) := by decide +kernel
abbrev cX9_init : ByteArray := prog_11_method_1_code
def yX9_init : MethodName := ⟨RX9, "<init>", "()V"⟩
abbrev cX9_clear : ByteArray := prog_11_method_2_code
def yX9_clear : MethodName := ⟨RX9, "clear", "()V"⟩
abbrev cX9_addClause : ByteArray := prog_11_method_3_code
def yX9_addClause : MethodName := ⟨RX9, "addClause", "(III)V"⟩
abbrev cX9_addStep : ByteArray := prog_11_method_4_code
def yX9_addStep : MethodName := ⟨RX9, "addStep", "(I)V"⟩
abbrev cX9_lastOf : ByteArray := prog_11_method_5_code
def yX9_lastOf : MethodName := ⟨RX9, "lastOf", "(II)I"⟩
abbrev cX9_first : ByteArray := prog_11_method_6_code
def yX9_first : MethodName := ⟨RX9, "first", "(I)I"⟩
abbrev cX9_second : ByteArray := prog_11_method_7_code
def yX9_second : MethodName := ⟨RX9, "second", "(I)I"⟩
abbrev cX9_holds : ByteArray := prog_11_method_8_code
def yX9_holds : MethodName := ⟨RX9, "holds", "(ILSunLamps$Lamp;LSunLamps$Meter;I)Z"⟩
abbrev cX9_isMet : ByteArray := prog_11_method_9_code
def yX9_isMet : MethodName := ⟨RX9, "isMet", "(II)Z"⟩
abbrev cX9_valueOf : ByteArray := prog_11_method_10_code
def yX9_valueOf : MethodName := ⟨RX9, "valueOf", "(ILSunLamps$Lamp;LSunLamps$Meter;LSunLamps$Home;I)I"⟩
def RX10 : String := "SunLamps$TextReader"
def TX10 : u_T := fun k => match k with
  | 0 => ("SunLamps$TextReader", "bytes", "[I", true)
  | 1 => ("SunLamps$TextReader", "length", "I", false)
  | _ => ("SunLamps$TextReader", "at", "I", false)
def tyX10 : Nat → FieldType := fun k => match k with
  | 0 => .array .int
  | 1 => .int
  | _ => .int
abbrev wsX100 : List Cond := u_ws RX10 TX10 3
theorem nmX10 : ∀ a, a < 3 → ∀ b, b < 3 → a ≠ b → (TX10 a).2.1 ≠ (TX10 b).2.1 := by decide +kernel
theorem tyX10_ok : ∀ k, k < 3 → parseFieldDescriptor (TX10 k).2.2.1 = some (tyX10 k) := by decide +kernel
abbrev cX10_init : ByteArray := prog_12_method_1_code
def yX10_init : MethodName := ⟨RX10, "<init>", "()V"⟩
abbrev cX10_hasRoomFor : ByteArray := prog_12_method_2_code
def yX10_hasRoomFor : MethodName := ⟨RX10, "hasRoomFor", "(I)Z"⟩
abbrev cX10_append : ByteArray := prog_12_method_3_code
def yX10_append : MethodName := ⟨RX10, "append", "(I)V"⟩
abbrev cX10_readInto : ByteArray := prog_12_method_4_code
def yX10_readInto : MethodName := ⟨RX10, "readInto", "(LSunLamps$Text;)I"⟩
abbrev cX10_readClause : ByteArray := prog_12_method_5_code
def yX10_readClause : MethodName := ⟨RX10, "readClause", "(LSunLamps$Text;)Z"⟩
abbrev cX10_readSum : ByteArray := prog_12_method_6_code
def yX10_readSum : MethodName := ⟨RX10, "readSum", "(LSunLamps$Text;)Z"⟩
abbrev cX10_readGrace : ByteArray := prog_12_method_7_code
def yX10_readGrace : MethodName := ⟨RX10, "readGrace", "(LSunLamps$Text;)Z"⟩
abbrev cX10_readRun : ByteArray := prog_12_method_8_code
def yX10_readRun : MethodName := ⟨RX10, "readRun", "(LSunLamps$Text;)Z"⟩
abbrev cX10_readTests : ByteArray := prog_12_method_9_code
def yX10_readTests : MethodName := ⟨RX10, "readTests", "(LSunLamps$Text;I)Z"⟩
abbrev cX10_readAny : ByteArray := prog_12_method_10_code
def yX10_readAny : MethodName := ⟨RX10, "readAny", "(LSunLamps$Text;I)Z"⟩
abbrev cX10_readAll : ByteArray := prog_12_method_11_code
def yX10_readAll : MethodName := ⟨RX10, "readAll", "(LSunLamps$Text;I)Z"⟩
abbrev cX10_readOne : ByteArray := prog_12_method_12_code
def yX10_readOne : MethodName := ⟨RX10, "readOne", "(LSunLamps$Text;I)Z"⟩
abbrev cX10_readTest : ByteArray := prog_12_method_13_code
def yX10_readTest : MethodName := ⟨RX10, "readTest", "(LSunLamps$Text;)Z"⟩
abbrev cX10_letterAt : ByteArray := prog_12_method_14_code
def yX10_letterAt : MethodName := ⟨RX10, "letterAt", "()I"⟩
abbrev cX10_readNumber : ByteArray := prog_12_method_15_code
def yX10_readNumber : MethodName := ⟨RX10, "readNumber", "()I"⟩
abbrev cX10_skipWord : ByteArray := prog_12_method_16_code
def yX10_skipWord : MethodName := ⟨RX10, "skipWord", "(Ljava/lang/String;)Z"⟩
abbrev cX10_skip : ByteArray := prog_12_method_17_code
def yX10_skip : MethodName := ⟨RX10, "skip", "(C)Z"⟩
abbrev cX10_peek : ByteArray := prog_12_method_18_code
def yX10_peek : MethodName := ⟨RX10, "peek", "()I"⟩
def RX11 : String := "SunLamps"
def TX11 : u_T := fun k => match k with
  | 0 => ("SunLamps", "homes", "[LSunLamps$Home;", true)
  | 1 => ("SunLamps", "lamps", "[LSunLamps$Lamp;", true)
  | 2 => ("SunLamps", "tapes", "[LSunLamps$Tape;", true)
  | 3 => ("SunLamps", "reader", "LSunLamps$TextReader;", true)
  | 4 => ("SunLamps", "terms", "LSunLamps$Terms;", true)
  | 5 => ("SunLamps", "faults", "LSunLamps$Book;", true)
  | 6 => ("SunLamps", "sales", "LSunLamps$Book;", true)
  | 7 => ("SunLamps", "messages", "LSunLamps$Book;", true)
  | 8 => ("SunLamps", "acts", "LSunLamps$Acts;", true)
  | 9 => ("SunLamps", "agent", "LSunLamps$Agent;", true)
  | 10 => ("SunLamps", "homeCount", "I", false)
  | 11 => ("SunLamps", "lampCount", "I", false)
  | _ => ("SunLamps", "today", "I", false)
def tyX11 : Nat → FieldType := fun k => match k with
  | 0 => .array (.object "SunLamps$Home")
  | 1 => .array (.object "SunLamps$Lamp")
  | 2 => .array (.object "SunLamps$Tape")
  | 3 => .object "SunLamps$TextReader"
  | 4 => .object "SunLamps$Terms"
  | 5 => .object "SunLamps$Book"
  | 6 => .object "SunLamps$Book"
  | 7 => .object "SunLamps$Book"
  | 8 => .object "SunLamps$Acts"
  | 9 => .object "SunLamps$Agent"
  | 10 => .int
  | 11 => .int
  | _ => .int
abbrev wsX110 : List Cond := u_ws RX11 TX11 13
theorem nmX11 : ∀ a, a < 13 → ∀ b, b < 13 → a ≠ b → (TX11 a).2.1 ≠ (TX11 b).2.1 := by decide +kernel
theorem tyX11_ok : ∀ k, k < 13 → parseFieldDescriptor (TX11 k).2.2.1 = some (tyX11 k) := by decide +kernel
abbrev cX11_init : ByteArray := prog_1_method_1_code
def yX11_init : MethodName := ⟨RX11, "<init>", "()V"⟩
abbrev cX11_home : ByteArray := prog_1_method_2_code
def yX11_home : MethodName := ⟨RX11, "home", "(II)I"⟩
abbrev cX11_month : ByteArray := prog_1_method_3_code
def yX11_month : MethodName := ⟨RX11, "month", "(III)I"⟩
abbrev cX11_lamp : ByteArray := prog_1_method_4_code
def yX11_lamp : MethodName := ⟨RX11, "lamp", "(III)I"⟩
abbrev cX11_lend : ByteArray := prog_1_method_5_code
def yX11_lend : MethodName := ⟨RX11, "lend", "(II)I"⟩
abbrev cX11_move : ByteArray := prog_1_method_6_code
def yX11_move : MethodName := ⟨RX11, "move", "(II)I"⟩
abbrev cX11_of : ByteArray := prog_1_method_7_code
def yX11_of : MethodName := ⟨RX11, "of", "(II)J"⟩
abbrev cX11_pass : ByteArray := prog_1_method_8_code
def yX11_pass : MethodName := ⟨RX11, "pass", "(I)I"⟩
abbrev cX11_passOneDay : ByteArray := prog_1_method_9_code
def yX11_passOneDay : MethodName := ⟨RX11, "passOneDay", "()V"⟩
abbrev cX11_kind : ByteArray := prog_1_method_10_code
def yX11_kind : MethodName := ⟨RX11, "kind", "(II)I"⟩
abbrev cX11_days : ByteArray := prog_1_method_11_code
def yX11_days : MethodName := ⟨RX11, "days", "(IIII)I"⟩
abbrev cX11_feed : ByteArray := prog_1_method_12_code
def yX11_feed : MethodName := ⟨RX11, "feed", "(II)I"⟩
abbrev cX11_text : ByteArray := prog_1_method_13_code
def yX11_text : MethodName := ⟨RX11, "text", "(I)I"⟩
abbrev cX11_force : ByteArray := prog_1_method_14_code
def yX11_force : MethodName := ⟨RX11, "force", "(IIII)I"⟩
abbrev cX11_why : ByteArray := prog_1_method_15_code
def yX11_why : MethodName := ⟨RX11, "why", "(III)I"⟩
abbrev cX11_code : ByteArray := prog_1_method_16_code
def yX11_code : MethodName := ⟨RX11, "code", "(III)I"⟩
abbrev cX11_sold : ByteArray := prog_1_method_17_code
def yX11_sold : MethodName := ⟨RX11, "sold", "(II)I"⟩
abbrev cX11_take : ByteArray := prog_1_method_18_code
def yX11_take : MethodName := ⟨RX11, "take", "(II)I"⟩
abbrev cX11_agree : ByteArray := prog_1_method_19_code
def yX11_agree : MethodName := ⟨RX11, "agree", "(I)I"⟩
abbrev cX11_drift : ByteArray := prog_1_method_20_code
def yX11_drift : MethodName := ⟨RX11, "drift", "(II)J"⟩
abbrev cX11_paid : ByteArray := prog_1_method_21_code
def yX11_paid : MethodName := ⟨RX11, "paid", "(II)I"⟩
abbrev cX11_roll : ByteArray := prog_1_method_22_code
def yX11_roll : MethodName := ⟨RX11, "roll", "(II)I"⟩
abbrev cX11_can : ByteArray := prog_1_method_23_code
def yX11_can : MethodName := ⟨RX11, "can", "(III)I"⟩
abbrev cX11_best : ByteArray := prog_1_method_24_code
def yX11_best : MethodName := ⟨RX11, "best", "(III)I"⟩
abbrev cX11_broke : ByteArray := prog_1_method_25_code
def yX11_broke : MethodName := ⟨RX11, "broke", "(III)I"⟩
abbrev cX11_cause : ByteArray := prog_1_method_26_code
def yX11_cause : MethodName := ⟨RX11, "cause", "()I"⟩
abbrev cX11_fewestCauses : ByteArray := prog_1_method_27_code
def yX11_fewestCauses : MethodName := ⟨RX11, "fewestCauses", "(III)I"⟩
abbrev cX11_causesOfFirstOpen : ByteArray := prog_1_method_28_code
def yX11_causesOfFirstOpen : MethodName := ⟨RX11, "causesOfFirstOpen", "(I)I"⟩
abbrev cX11_isFewer : ByteArray := prog_1_method_29_code
def yX11_isFewer : MethodName := ⟨RX11, "isFewer", "(II)Z"⟩
abbrev cX11_sell : ByteArray := prog_1_method_30_code
def yX11_sell : MethodName := ⟨RX11, "sell", "(IIII)I"⟩
abbrev cX11_whose : ByteArray := prog_1_method_31_code
def yX11_whose : MethodName := ⟨RX11, "whose", "(II)I"⟩
abbrev cX11_tried : ByteArray := prog_1_method_32_code
def yX11_tried : MethodName := ⟨RX11, "tried", "(II)I"⟩
abbrev cX11_litDays : ByteArray := prog_1_method_33_code
def yX11_litDays : MethodName := ⟨RX11, "litDays", "(II)I"⟩
abbrev cX11_hear : ByteArray := prog_1_method_34_code
def yX11_hear : MethodName := ⟨RX11, "hear", "(III)I"⟩
abbrev cX11_known : ByteArray := prog_1_method_35_code
def yX11_known : MethodName := ⟨RX11, "known", "(II)I"⟩
abbrev cX11_act : ByteArray := prog_1_method_36_code
def yX11_act : MethodName := ⟨RX11, "act", "(IIII)I"⟩
abbrev cX11_trace : ByteArray := prog_1_method_37_code
def yX11_trace : MethodName := ⟨RX11, "trace", "(I)I"⟩
abbrev cX11_taken : ByteArray := prog_1_method_38_code
def yX11_taken : MethodName := ⟨RX11, "taken", "(III)I"⟩
abbrev cX11_list : ByteArray := prog_1_method_39_code
def yX11_list : MethodName := ⟨RX11, "list", "(III)J"⟩
abbrev cX11_count : ByteArray := prog_1_method_40_code
def yX11_count : MethodName := ⟨RX11, "count", "(I)I"⟩
abbrev cX11_tape : ByteArray := prog_1_method_41_code
def yX11_tape : MethodName := ⟨RX11, "tape", "(III)I"⟩
abbrev cX11_item : ByteArray := prog_1_method_42_code
def yX11_item : MethodName := ⟨RX11, "item", "(IIJ)I"⟩
abbrev cX11_read : ByteArray := prog_1_method_43_code
def yX11_read : MethodName := ⟨RX11, "read", "(II)J"⟩
abbrev cX11_shift : ByteArray := prog_1_method_44_code
def yX11_shift : MethodName := ⟨RX11, "shift", "(IIIII)I"⟩
abbrev cX11_isWithin : ByteArray := prog_1_method_45_code
def yX11_isWithin : MethodName := ⟨RX11, "isWithin", "(III)Z"⟩
abbrev cX11_isDay : ByteArray := prog_1_method_46_code
def yX11_isDay : MethodName := ⟨RX11, "isDay", "(I)Z"⟩
abbrev cX11_isSum : ByteArray := prog_1_method_47_code
def yX11_isSum : MethodName := ⟨RX11, "isSum", "(I)Z"⟩
abbrev cX11_valueAt : ByteArray := prog_1_method_48_code
def yX11_valueAt : MethodName := ⟨RX11, "valueAt", "([II)I"⟩
abbrev cX11_homeAt : ByteArray := prog_1_method_49_code
def yX11_homeAt : MethodName := ⟨RX11, "homeAt", "(I)LSunLamps$Home;"⟩
abbrev cX11_lampAt : ByteArray := prog_1_method_50_code
def yX11_lampAt : MethodName := ⟨RX11, "lampAt", "(I)LSunLamps$Lamp;"⟩
abbrev cX11_tapeAt : ByteArray := prog_1_method_51_code
def yX11_tapeAt : MethodName := ⟨RX11, "tapeAt", "(I)LSunLamps$Tape;"⟩
abbrev cX11_kindOf : ByteArray := prog_1_method_52_code
def yX11_kindOf : MethodName := ⟨RX11, "kindOf", "(LSunLamps$Lamp;I)I"⟩
def RX12 : String := "SunLampsModel"
def TX12 : u_T := fun k => match k with
  | 0 => ("SunLampsModel", "today", "I", false)
  | 1 => ("SunLampsModel", "homes", "I", false)
  | 2 => ("SunLampsModel", "lamps", "I", false)
  | 3 => ("SunLampsModel", "homeX", "[I", true)
  | 4 => ("SunLampsModel", "homeY", "[I", true)
  | 5 => ("SunLampsModel", "coins", "[I", true)
  | 6 => ("SunLampsModel", "lot", "[I", true)
  | 7 => ("SunLampsModel", "price", "[I", true)
  | 8 => ("SunLampsModel", "drifts", "[I", true)
  | 9 => ("SunLampsModel", "state", "[I", true)
  | 10 => ("SunLampsModel", "home", "[I", true)
  | 11 => ("SunLampsModel", "counter", "[I", true)
  | 12 => ("SunLampsModel", "lent", "[I", true)
  | 13 => ("SunLampsModel", "run", "[I", true)
  | 14 => ("SunLampsModel", "low", "[I", true)
  | 15 => ("SunLampsModel", "nextCount", "[I", true)
  | 16 => ("SunLampsModel", "cameDay", "[I", true)
  | 17 => ("SunLampsModel", "roofDay", "[I", true)
  | 18 => ("SunLampsModel", "tookMany", "[I", true)
  | 19 => ("SunLampsModel", "tookDays", "[I", true)
  | 20 => ("SunLampsModel", "tookCounts", "[J", true)
  | 21 => ("SunLampsModel", "broken", "[Z", true)
  | 22 => ("SunLampsModel", "soldDays", "[I", true)
  | 23 => ("SunLampsModel", "kinds", "[I", true)
  | 24 => ("SunLampsModel", "texts", "I", false)
  | 25 => ("SunLampsModel", "fed", "I", false)
  | 26 => ("SunLampsModel", "textDay", "[I", true)
  | 27 => ("SunLampsModel", "text", "[I", true)
  | 28 => ("SunLampsModel", "size", "[I", true)
  | 29 => ("SunLampsModel", "facts", "[I", true)
  | 30 => ("SunLampsModel", "base", "I", false)
  | 31 => ("SunLampsModel", "many", "I", false)
  | 32 => ("SunLampsModel", "at", "I", false)
  | 33 => ("SunLampsModel", "clauses", "I", false)
  | 34 => ("SunLampsModel", "askWord", "I", false)
  | 35 => ("SunLampsModel", "askCoins", "I", false)
  | 36 => ("SunLampsModel", "saidAt", "I", false)
  | 37 => ("SunLampsModel", "saidNumber", "I", false)
  | 38 => ("SunLampsModel", "saidHolds", "Z", false)
  | 39 => ("SunLampsModel", "digits", "I", false)
  | 40 => ("SunLampsModel", "waits", "[I", true)
  | 41 => ("SunLampsModel", "pile", "[Z", true)
  | 42 => ("SunLampsModel", "waiting", "I", false)
  | 43 => ("SunLampsModel", "piled", "I", false)
  | 44 => ("SunLampsModel", "open", "I", false)
  | 45 => ("SunLampsModel", "isTried", "Z", false)
  | 46 => ("SunLampsModel", "way", "[I", true)
  | 47 => ("SunLampsModel", "bestWay", "[I", true)
  | 48 => ("SunLampsModel", "wayMinutes", "[I", true)
  | 49 => ("SunLampsModel", "wayCoins", "[I", true)
  | 50 => ("SunLampsModel", "bestMany", "I", false)
  | 51 => ("SunLampsModel", "bestCoins", "I", false)
  | 52 => ("SunLampsModel", "faults", "I", false)
  | 53 => ("SunLampsModel", "sales", "I", false)
  | 54 => ("SunLampsModel", "messages", "I", false)
  | 55 => ("SunLampsModel", "faultBits", "[I", true)
  | 56 => ("SunLampsModel", "saleLamp", "[I", true)
  | 57 => ("SunLampsModel", "saleLender", "[I", true)
  | 58 => ("SunLampsModel", "saleFrom", "[I", true)
  | 59 => ("SunLampsModel", "saleTo", "[I", true)
  | 60 => ("SunLampsModel", "hearLamp", "[I", true)
  | 61 => ("SunLampsModel", "hearDay", "[I", true)
  | 62 => ("SunLampsModel", "hearLate", "[I", true)
  | 63 => ("SunLampsModel", "kept", "[I", true)
  | 64 => ("SunLampsModel", "ran", "I", false)
  | 65 => ("SunLampsModel", "actLamp", "I", false)
  | 66 => ("SunLampsModel", "actDay", "I", false)
  | 67 => ("SunLampsModel", "actKind", "I", false)
  | 68 => ("SunLampsModel", "bodies", "[I", true)
  | 69 => ("SunLampsModel", "sort", "[I", true)
  | 70 => ("SunLampsModel", "length", "[I", true)
  | 71 => ("SunLampsModel", "item", "[J", true)
  | _ => ("SunLampsModel", "aside", "[J", true)
def tyX12 : Nat → FieldType := fun k => match k with
  | 0 => .int
  | 1 => .int
  | 2 => .int
  | 3 => .array .int
  | 4 => .array .int
  | 5 => .array .int
  | 6 => .array .int
  | 7 => .array .int
  | 8 => .array .int
  | 9 => .array .int
  | 10 => .array .int
  | 11 => .array .int
  | 12 => .array .int
  | 13 => .array .int
  | 14 => .array .int
  | 15 => .array .int
  | 16 => .array .int
  | 17 => .array .int
  | 18 => .array .int
  | 19 => .array .int
  | 20 => .array .long
  | 21 => .array .boolean
  | 22 => .array .int
  | 23 => .array .int
  | 24 => .int
  | 25 => .int
  | 26 => .array .int
  | 27 => .array .int
  | 28 => .array .int
  | 29 => .array .int
  | 30 => .int
  | 31 => .int
  | 32 => .int
  | 33 => .int
  | 34 => .int
  | 35 => .int
  | 36 => .int
  | 37 => .int
  | 38 => .boolean
  | 39 => .int
  | 40 => .array .int
  | 41 => .array .boolean
  | 42 => .int
  | 43 => .int
  | 44 => .int
  | 45 => .boolean
  | 46 => .array .int
  | 47 => .array .int
  | 48 => .array .int
  | 49 => .array .int
  | 50 => .int
  | 51 => .int
  | 52 => .int
  | 53 => .int
  | 54 => .int
  | 55 => .array .int
  | 56 => .array .int
  | 57 => .array .int
  | 58 => .array .int
  | 59 => .array .int
  | 60 => .array .int
  | 61 => .array .int
  | 62 => .array .int
  | 63 => .array .int
  | 64 => .int
  | 65 => .int
  | 66 => .int
  | 67 => .int
  | 68 => .array .int
  | 69 => .array .int
  | 70 => .array .int
  | 71 => .array .long
  | _ => .array .long
abbrev wsX120 : List Cond := u_ws RX12 TX12 73
theorem nmX12 : ∀ a, a < 73 → ∀ b, b < 73 → a ≠ b → (TX12 a).2.1 ≠ (TX12 b).2.1 := by decide +kernel
theorem tyX12_ok : ∀ k, k < 73 → parseFieldDescriptor (TX12 k).2.2.1 = some (tyX12 k) := by decide +kernel
abbrev cX12_init : ByteArray := prog_14_method_1_code
def yX12_init : MethodName := ⟨RX12, "<init>", "()V"⟩
abbrev cX12_in : ByteArray := prog_14_method_2_code
def yX12_in : MethodName := ⟨RX12, "in", "(III)Z"⟩
abbrev cX12_abs : ByteArray := prog_14_method_3_code
def yX12_abs : MethodName := ⟨RX12, "abs", "(I)I"⟩
abbrev cX12_isDay : ByteArray := prog_14_method_4_code
def yX12_isDay : MethodName := ⟨RX12, "isDay", "(I)Z"⟩
abbrev cX12_isHome : ByteArray := prog_14_method_5_code
def yX12_isHome : MethodName := ⟨RX12, "isHome", "(I)Z"⟩
abbrev cX12_isLamp : ByteArray := prog_14_method_6_code
def yX12_isLamp : MethodName := ⟨RX12, "isLamp", "(I)Z"⟩
abbrev cX12_home : ByteArray := prog_14_method_7_code
def yX12_home : MethodName := ⟨RX12, "home", "(II)I"⟩
abbrev cX12_month : ByteArray := prog_14_method_8_code
def yX12_month : MethodName := ⟨RX12, "month", "(III)I"⟩
abbrev cX12_lamp : ByteArray := prog_14_method_9_code
def yX12_lamp : MethodName := ⟨RX12, "lamp", "(III)I"⟩
abbrev cX12_owed : ByteArray := prog_14_method_10_code
def yX12_owed : MethodName := ⟨RX12, "owed", "(I)I"⟩
abbrev cX12_look : ByteArray := prog_14_method_11_code
def yX12_look : MethodName := ⟨RX12, "look", "(I)V"⟩
abbrev cX12_comes : ByteArray := prog_14_method_12_code
def yX12_comes : MethodName := ⟨RX12, "comes", "(I)V"⟩
abbrev cX12_lend : ByteArray := prog_14_method_13_code
def yX12_lend : MethodName := ⟨RX12, "lend", "(II)I"⟩
abbrev cX12_move : ByteArray := prog_14_method_14_code
def yX12_move : MethodName := ⟨RX12, "move", "(II)I"⟩
abbrev cX12_darkAhead : ByteArray := prog_14_method_15_code
def yX12_darkAhead : MethodName := ⟨RX12, "darkAhead", "(I)I"⟩
abbrev cX12_of : ByteArray := prog_14_method_16_code
def yX12_of : MethodName := ⟨RX12, "of", "(II)J"⟩
abbrev cX12_goes : ByteArray := prog_14_method_17_code
def yX12_goes : MethodName := ⟨RX12, "goes", "(I)I"⟩
abbrev cX12_goDay : ByteArray := prog_14_method_18_code
def yX12_goDay : MethodName := ⟨RX12, "goDay", "()V"⟩
abbrev cX12_pass : ByteArray := prog_14_method_19_code
def yX12_pass : MethodName := ⟨RX12, "pass", "(I)I"⟩
abbrev cX12_kindOf : ByteArray := prog_14_method_20_code
def yX12_kindOf : MethodName := ⟨RX12, "kindOf", "(II)I"⟩
abbrev cX12_kind : ByteArray := prog_14_method_21_code
def yX12_kind : MethodName := ⟨RX12, "kind", "(II)I"⟩
abbrev cX12_isUnder : ByteArray := prog_14_method_22_code
def yX12_isUnder : MethodName := ⟨RX12, "isUnder", "(II)Z"⟩
abbrev cX12_days : ByteArray := prog_14_method_23_code
def yX12_days : MethodName := ⟨RX12, "days", "(IIII)I"⟩
abbrev cX12_feed : ByteArray := prog_14_method_24_code
def yX12_feed : MethodName := ⟨RX12, "feed", "(II)I"⟩
abbrev cX12_next : ByteArray := prog_14_method_25_code
def yX12_next : MethodName := ⟨RX12, "next", "()I"⟩
abbrev cX12_isDigit : ByteArray := prog_14_method_26_code
def yX12_isDigit : MethodName := ⟨RX12, "isDigit", "()Z"⟩
abbrev cX12_takes : ByteArray := prog_14_method_27_code
def yX12_takes : MethodName := ⟨RX12, "takes", "(I)Z"⟩
abbrev cX12_takesWord : ByteArray := prog_14_method_28_code
def yX12_takesWord : MethodName := ⟨RX12, "takesWord", "(II)Z"⟩
abbrev cX12_takesNumber : ByteArray := prog_14_method_29_code
def yX12_takesNumber : MethodName := ⟨RX12, "takesNumber", "()Z"⟩
abbrev cX12_push : ByteArray := prog_14_method_30_code
def yX12_push : MethodName := ⟨RX12, "push", "(Z)V"⟩
abbrev cX12_settle : ByteArray := prog_14_method_31_code
def yX12_settle : MethodName := ⟨RX12, "settle", "(I)V"⟩
abbrev cX12_factOf : ByteArray := prog_14_method_32_code
def yX12_factOf : MethodName := ⟨RX12, "factOf", "(I)I"⟩
abbrev cX12_takesTest : ByteArray := prog_14_method_33_code
def yX12_takesTest : MethodName := ⟨RX12, "takesTest", "()Z"⟩
abbrev cX12_takesE : ByteArray := prog_14_method_34_code
def yX12_takesE : MethodName := ⟨RX12, "takesE", "()Z"⟩
abbrev cX12_says : ByteArray := prog_14_method_35_code
def yX12_says : MethodName := ⟨RX12, "says", "(IIZ)V"⟩
abbrev cX12_takesSum : ByteArray := prog_14_method_36_code
def yX12_takesSum : MethodName := ⟨RX12, "takesSum", "()Z"⟩
abbrev cX12_takesClause : ByteArray := prog_14_method_37_code
def yX12_takesClause : MethodName := ⟨RX12, "takesClause", "()Z"⟩
abbrev cX12_goesThrough : ByteArray := prog_14_method_38_code
def yX12_goesThrough : MethodName := ⟨RX12, "goesThrough", "(I)Z"⟩
abbrev cX12_text : ByteArray := prog_14_method_39_code
def yX12_text : MethodName := ⟨RX12, "text", "(I)I"⟩
abbrev cX12_ruler : ByteArray := prog_14_method_40_code
def yX12_ruler : MethodName := ⟨RX12, "ruler", "(III)I"⟩
abbrev cX12_daysFor : ByteArray := prog_14_method_41_code
def yX12_daysFor : MethodName := ⟨RX12, "daysFor", "(II)I"⟩
abbrev cX12_grace : ByteArray := prog_14_method_42_code
def yX12_grace : MethodName := ⟨RX12, "grace", "(I)I"⟩
abbrev cX12_runs : ByteArray := prog_14_method_43_code
def yX12_runs : MethodName := ⟨RX12, "runs", "(I)Z"⟩
abbrev cX12_isLet : ByteArray := prog_14_method_44_code
def yX12_isLet : MethodName := ⟨RX12, "isLet", "(III)Z"⟩
abbrev cX12_force : ByteArray := prog_14_method_45_code
def yX12_force : MethodName := ⟨RX12, "force", "(IIII)I"⟩
abbrev cX12_why : ByteArray := prog_14_method_46_code
def yX12_why : MethodName := ⟨RX12, "why", "(III)I"⟩
abbrev cX12_codeOf : ByteArray := prog_14_method_47_code
def yX12_codeOf : MethodName := ⟨RX12, "codeOf", "(III)I"⟩
abbrev cX12_code : ByteArray := prog_14_method_48_code
def yX12_code : MethodName := ⟨RX12, "code", "(III)I"⟩
abbrev cX12_sold : ByteArray := prog_14_method_49_code
def yX12_sold : MethodName := ⟨RX12, "sold", "(II)I"⟩
abbrev cX12_takesCode : ByteArray := prog_14_method_50_code
def yX12_takesCode : MethodName := ⟨RX12, "takesCode", "(II)I"⟩
abbrev cX12_take : ByteArray := prog_14_method_51_code
def yX12_take : MethodName := ⟨RX12, "take", "(II)I"⟩
abbrev cX12_agree : ByteArray := prog_14_method_52_code
def yX12_agree : MethodName := ⟨RX12, "agree", "(I)I"⟩
abbrev cX12_drift : ByteArray := prog_14_method_53_code
def yX12_drift : MethodName := ⟨RX12, "drift", "(II)J"⟩
abbrev cX12_paid : ByteArray := prog_14_method_54_code
def yX12_paid : MethodName := ⟨RX12, "paid", "(II)I"⟩
abbrev cX12_roll : ByteArray := prog_14_method_55_code
def yX12_roll : MethodName := ⟨RX12, "roll", "(II)I"⟩
abbrev cX12_areAlike : ByteArray := prog_14_method_56_code
def yX12_areAlike : MethodName := ⟨RX12, "areAlike", "(III)Z"⟩
abbrev cX12_can : ByteArray := prog_14_method_57_code
def yX12_can : MethodName := ⟨RX12, "can", "(III)I"⟩
abbrev cX12_minutesTo : ByteArray := prog_14_method_58_code
def yX12_minutesTo : MethodName := ⟨RX12, "minutesTo", "(II)I"⟩
abbrev cX12_findWay : ByteArray := prog_14_method_59_code
def yX12_findWay : MethodName := ⟨RX12, "findWay", "(II)V"⟩
abbrev cX12_ones : ByteArray := prog_14_method_60_code
def yX12_ones : MethodName := ⟨RX12, "ones", "(I)I"⟩
abbrev cX12_best : ByteArray := prog_14_method_61_code
def yX12_best : MethodName := ⟨RX12, "best", "(III)I"⟩
abbrev cX12_broke : ByteArray := prog_14_method_62_code
def yX12_broke : MethodName := ⟨RX12, "broke", "(III)I"⟩
abbrev cX12_cause : ByteArray := prog_14_method_63_code
def yX12_cause : MethodName := ⟨RX12, "cause", "()I"⟩
abbrev cX12_sell : ByteArray := prog_14_method_64_code
def yX12_sell : MethodName := ⟨RX12, "sell", "(IIII)I"⟩
abbrev cX12_whose : ByteArray := prog_14_method_65_code
def yX12_whose : MethodName := ⟨RX12, "whose", "(II)I"⟩
abbrev cX12_keep : ByteArray := prog_14_method_66_code
def yX12_keep : MethodName := ⟨RX12, "keep", "()V"⟩
abbrev cX12_putBack : ByteArray := prog_14_method_67_code
def yX12_putBack : MethodName := ⟨RX12, "putBack", "()V"⟩
abbrev cX12_tried : ByteArray := prog_14_method_68_code
def yX12_tried : MethodName := ⟨RX12, "tried", "(II)I"⟩
abbrev cX12_hear : ByteArray := prog_14_method_69_code
def yX12_hear : MethodName := ⟨RX12, "hear", "(III)I"⟩
abbrev cX12_known : ByteArray := prog_14_method_70_code
def yX12_known : MethodName := ⟨RX12, "known", "(II)I"⟩
abbrev cX12_body : ByteArray := prog_14_method_71_code
def yX12_body : MethodName := ⟨RX12, "body", "(I)V"⟩
abbrev cX12_plainCounts : ByteArray := prog_14_method_72_code
def yX12_plainCounts : MethodName := ⟨RX12, "plainCounts", "(I)I"⟩
abbrev cX12_countsOf : ByteArray := prog_14_method_73_code
def yX12_countsOf : MethodName := ⟨RX12, "countsOf", "(I)I"⟩
abbrev cX12_plainOwes : ByteArray := prog_14_method_74_code
def yX12_plainOwes : MethodName := ⟨RX12, "plainOwes", "(I)I"⟩
abbrev cX12_paidOwes : ByteArray := prog_14_method_75_code
def yX12_paidOwes : MethodName := ⟨RX12, "paidOwes", "(I)I"⟩
abbrev cX12_owesOf : ByteArray := prog_14_method_76_code
def yX12_owesOf : MethodName := ⟨RX12, "owesOf", "(I)I"⟩
abbrev cX12_plainRanks : ByteArray := prog_14_method_77_code
def yX12_plainRanks : MethodName := ⟨RX12, "plainRanks", "(I)I"⟩
abbrev cX12_lentRanks : ByteArray := prog_14_method_78_code
def yX12_lentRanks : MethodName := ⟨RX12, "lentRanks", "(I)I"⟩
abbrev cX12_ranksOf : ByteArray := prog_14_method_79_code
def yX12_ranksOf : MethodName := ⟨RX12, "ranksOf", "(I)I"⟩
abbrev cX12_act : ByteArray := prog_14_method_80_code
def yX12_act : MethodName := ⟨RX12, "act", "(IIII)I"⟩
abbrev cX12_trace : ByteArray := prog_14_method_81_code
def yX12_trace : MethodName := ⟨RX12, "trace", "(I)I"⟩
abbrev cX12_taken : ByteArray := prog_14_method_82_code
def yX12_taken : MethodName := ⟨RX12, "taken", "(III)I"⟩
abbrev cX12_count : ByteArray := prog_14_method_83_code
def yX12_count : MethodName := ⟨RX12, "count", "(I)I"⟩
abbrev cX12_isTape : ByteArray := prog_14_method_84_code
def yX12_isTape : MethodName := ⟨RX12, "isTape", "(I)Z"⟩
abbrev cX12_list : ByteArray := prog_14_method_85_code
def yX12_list : MethodName := ⟨RX12, "list", "(III)J"⟩
abbrev cX12_tape : ByteArray := prog_14_method_86_code
def yX12_tape : MethodName := ⟨RX12, "tape", "(III)I"⟩
abbrev cX12_narrow : ByteArray := prog_14_method_87_code
def yX12_narrow : MethodName := ⟨RX12, "narrow", "(IJ)J"⟩
abbrev cX12_item : ByteArray := prog_14_method_88_code
def yX12_item : MethodName := ⟨RX12, "item", "(IIJ)I"⟩
abbrev cX12_read : ByteArray := prog_14_method_89_code
def yX12_read : MethodName := ⟨RX12, "read", "(II)J"⟩
abbrev cX12_shift : ByteArray := prog_14_method_90_code
def yX12_shift : MethodName := ⟨RX12, "shift", "(IIIII)I"⟩
def RJ6 : String := "java/lang/Integer"
def TJ6 : u_T := fun k => match k with
  | _ => ("", "", "", false)
def tyJ6 : Nat → FieldType := fun k => match k with
  | _ => .int
abbrev wsJ60 : List Cond := u_ws RJ6 TJ6 0
theorem nmJ6 : ∀ a, a < 0 → ∀ b, b < 0 → a ≠ b → (TJ6 a).2.1 ≠ (TJ6 b).2.1 := by decide +kernel
theorem tyJ6_ok : ∀ k, k < 0 → parseFieldDescriptor (TJ6 k).2.2.1 = some (tyJ6 k) := by decide +kernel
abbrev cJ6_numberOfTrailingZeros_0f7a4 : ByteArray := prog_15_method_48_code
def yJ6_numberOfTrailingZeros_0f7a4 : MethodName := ⟨RJ6, "numberOfTrailingZeros", "(I)I"⟩
abbrev cJ6_bitCount_0f7a4 : ByteArray := prog_15_method_49_code
def yJ6_bitCount_0f7a4 : MethodName := ⟨RJ6, "bitCount", "(I)I"⟩
def RJ13 : String := "java/lang/Long"
def TJ13 : u_T := fun k => match k with
  | _ => ("", "", "", false)
def tyJ13 : Nat → FieldType := fun k => match k with
  | _ => .int
abbrev wsJ130 : List Cond := u_ws RJ13 TJ13 0
theorem nmJ13 : ∀ a, a < 0 → ∀ b, b < 0 → a ≠ b → (TJ13 a).2.1 ≠ (TJ13 b).2.1 := by decide +kernel
theorem tyJ13_ok : ∀ k, k < 0 → parseFieldDescriptor (TJ13 k).2.2.1 = some (tyJ13 k) := by decide +kernel
abbrev cJ13_numberOfTrailingZeros_95d88 : ByteArray := prog_16_method_49_code
def yJ13_numberOfTrailingZeros_95d88 : MethodName := ⟨RJ13, "numberOfTrailingZeros", "(J)I"⟩
def RJ9 : String := "java/lang/Math"
def TJ9 : u_T := fun k => match k with
  | _ => ("", "", "", false)
def tyJ9 : Nat → FieldType := fun k => match k with
  | _ => .int
abbrev wsJ90 : List Cond := u_ws RJ9 TJ9 0
theorem nmJ9 : ∀ a, a < 0 → ∀ b, b < 0 → a ≠ b → (TJ9 a).2.1 ≠ (TJ9 b).2.1 := by decide +kernel
theorem tyJ9_ok : ∀ k, k < 0 → parseFieldDescriptor (TJ9 k).2.2.1 = some (tyJ9 k) := by decide +kernel
abbrev cJ9_floorDiv_f86c9 : ByteArray := prog_17_method_49_code
def yJ9_floorDiv_f86c9 : MethodName := ⟨RJ9, "floorDiv", "(JJ)J"⟩
abbrev cJ9_floorMod_7cf53 : ByteArray := prog_17_method_50_code
def yJ9_floorMod_7cf53 : MethodName := ⟨RJ9, "floorMod", "(II)I"⟩
abbrev cJ9_floorMod_f86c9 : ByteArray := prog_17_method_52_code
def yJ9_floorMod_f86c9 : MethodName := ⟨RJ9, "floorMod", "(JJ)J"⟩
abbrev cJ9_abs_0f7a4 : ByteArray := prog_17_method_59_code
def yJ9_abs_0f7a4 : MethodName := ⟨RJ9, "abs", "(I)I"⟩
abbrev cJ9_max_7cf53 : ByteArray := prog_17_method_65_code
def yJ9_max_7cf53 : MethodName := ⟨RJ9, "max", "(II)I"⟩
abbrev cJ9_min_7cf53 : ByteArray := prog_17_method_69_code
def yJ9_min_7cf53 : MethodName := ⟨RJ9, "min", "(II)I"⟩
def RJ0 : String := "java/lang/String"
def TJ0 : u_T := fun k => match k with
  | _ => ("", "", "", false)
def tyJ0 : Nat → FieldType := fun k => match k with
  | _ => .int
abbrev wsJ00 : List Cond := u_ws RJ0 TJ0 0
theorem nmJ0 : ∀ a, a < 0 → ∀ b, b < 0 → a ≠ b → (TJ0 a).2.1 ≠ (TJ0 b).2.1 := by decide +kernel
theorem tyJ0_ok : ∀ k, k < 0 → parseFieldDescriptor (TJ0 k).2.2.1 = some (tyJ0 k) := by decide +kernel
abbrev cJ0_length_8abf5 : ByteArray := prog_18_method_54_code
def yJ0_length_8abf5 : MethodName := ⟨RJ0, "length", "()I"⟩
abbrev cJ0_charAt_5068e : ByteArray := prog_18_method_56_code
def yJ0_charAt_5068e : MethodName := ⟨RJ0, "charAt", "(I)C"⟩
abbrev cJ0_coder_7d493 : ByteArray := prog_18_method_152_code
def yJ0_coder_7d493 : MethodName := ⟨RJ0, "coder", "()B"⟩
abbrev cJ0_isLatin1_aae02 : ByteArray := prog_18_method_154_code
def yJ0_isLatin1_aae02 : MethodName := ⟨RJ0, "isLatin1", "()Z"⟩
abbrev cJ0_checkIndex_df160 : ByteArray := prog_18_method_155_code
def yJ0_checkIndex_df160 : MethodName := ⟨RJ0, "checkIndex", "(II)V"⟩
def RJ1 : String := "java/lang/StringLatin1"
def TJ1 : u_T := fun k => match k with
  | _ => ("", "", "", false)
def tyJ1 : Nat → FieldType := fun k => match k with
  | _ => .int
abbrev wsJ10 : List Cond := u_ws RJ1 TJ1 0
theorem nmJ1 : ∀ a, a < 0 → ∀ b, b < 0 → a ≠ b → (TJ1 a).2.1 ≠ (TJ1 b).2.1 := by decide +kernel
theorem tyJ1_ok : ∀ k, k < 0 → parseFieldDescriptor (TJ1 k).2.2.1 = some (tyJ1 k) := by decide +kernel
abbrev cJ1_charAt_3b067 : ByteArray := prog_19_method_2_code
def yJ1_charAt_3b067 : MethodName := ⟨RJ1, "charAt", "([BI)C"⟩
def RJ2 : String := "java/lang/StringUTF16"
def TJ2 : u_T := fun k => match k with
  | _ => ("", "", "", false)
def tyJ2 : Nat → FieldType := fun k => match k with
  | _ => .int
abbrev wsJ20 : List Cond := u_ws RJ2 TJ2 0
theorem nmJ2 : ∀ a, a < 0 → ∀ b, b < 0 → a ≠ b → (TJ2 a).2.1 ≠ (TJ2 b).2.1 := by decide +kernel
theorem tyJ2_ok : ∀ k, k < 0 → parseFieldDescriptor (TJ2 k).2.2.1 = some (tyJ2 k) := by decide +kernel
abbrev cJ2_getChar_3b067 : ByteArray := prog_20_method_5_code
def yJ2_getChar_3b067 : MethodName := ⟨RJ2, "getChar", "([BI)C"⟩
abbrev cJ2_length_9d52b : ByteArray := prog_20_method_6_code
def yJ2_length_9d52b : MethodName := ⟨RJ2, "length", "([B)I"⟩
abbrev cJ2_charAt_3b067 : ByteArray := prog_20_method_83_code
def yJ2_charAt_3b067 : MethodName := ⟨RJ2, "charAt", "([BI)C"⟩
abbrev cJ2_checkIndex_2214a : ByteArray := prog_20_method_91_code
def yJ2_checkIndex_2214a : MethodName := ⟨RJ2, "checkIndex", "(I[B)V"⟩
def RJ10 : String := "java/lang/System"
def TJ10 : u_T := fun k => match k with
  | _ => ("", "", "", false)
def tyJ10 : Nat → FieldType := fun k => match k with
  | _ => .int
abbrev wsJ100 : List Cond := u_ws RJ10 TJ10 0
theorem nmJ10 : ∀ a, a < 0 → ∀ b, b < 0 → a ≠ b → (TJ10 a).2.1 ≠ (TJ10 b).2.1 := by decide +kernel
theorem tyJ10_ok : ∀ k, k < 0 → parseFieldDescriptor (TJ10 k).2.2.1 = some (tyJ10 k) := by decide +kernel
def RJ3 : String := "jdk/internal/util/Preconditions"
def TJ3 : u_T := fun k => match k with
  | _ => ("", "", "", false)
def tyJ3 : Nat → FieldType := fun k => match k with
  | _ => .int
abbrev wsJ30 : List Cond := u_ws RJ3 TJ3 0
theorem nmJ3 : ∀ a, a < 0 → ∀ b, b < 0 → a ≠ b → (TJ3 a).2.1 ≠ (TJ3 b).2.1 := by decide +kernel
theorem tyJ3_ok : ∀ k, k < 0 → parseFieldDescriptor (TJ3 k).2.2.1 = some (tyJ3 k) := by decide +kernel
abbrev cJ3_checkIndex_8e157 : ByteArray := prog_22_method_11_code
def yJ3_checkIndex_8e157 : MethodName := ⟨RJ3, "checkIndex", "(IILjava/util/function/BiFunction;)I"⟩
def RL : String := "SunLampsLaw"
abbrev cL_law : ByteArray := code
def yL_law : MethodName := ⟨RL, "law", "([I)Z"⟩
abbrev vwCl : List vw_C := [(RX0, TX0, 5), (RX1, TX1, 7), (RX2, TX2, 3), (RX3, TX3, 5), (RX4, TX4, 4), (RX5, TX5, 13), (RX6, TX6, 4), (RX7, TX7, 3), (RX8, TX8, 9), (RX9, TX9, 7), (RX10, TX10, 3), (RX11, TX11, 13), (RX12, TX12, 73)]
