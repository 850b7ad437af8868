section
-- ===== PART A: goes FIRST, ahead of the names: the tables' words, and 'selects' of the private methods out of them =====
/-- a private method of a class that the tables say can be made, by its rows of tables_1 -/
def lw_okq (q : MethodName × Nat) : Prop := (q.1.cls ≠ "java/lang/invoke/MethodHandle" ∧ q.1.cls ≠ "java/lang/invoke/VarHandle") ∧ Cond.instantiable q.1.cls q.2 ∈ tables_1 ∧ Cond.privateMethod q.1 ∈ tables_1 ∧ Cond.instanceMethod q.1 ∈ tables_1
theorem lw_p0 : lw_okq (⟨"PleasureGarden$Grounds", "measure", "()V"⟩, 5) := ⟨⟨by decide +kernel, by decide +kernel⟩, List.mem_of_getElem? (i := 29) (by decide +kernel), List.mem_of_getElem? (i := 37) (by decide +kernel), List.mem_of_getElem? (i := 38) (by decide +kernel)⟩
theorem lw_p1 : lw_okq (⟨"PleasureGarden", "settle", "(LPleasureGarden$Party;I)V"⟩, 15) := ⟨⟨by decide +kernel, by decide +kernel⟩, List.mem_of_getElem? (i := 21) (by decide +kernel), List.mem_of_getElem? (i := 473) (by decide +kernel), List.mem_of_getElem? (i := 474) (by decide +kernel)⟩
theorem lw_p2 : lw_okq (⟨"PleasureGarden", "worth", "(ILPleasureGarden$Party;I)I"⟩, 15) := ⟨⟨by decide +kernel, by decide +kernel⟩, List.mem_of_getElem? (i := 21) (by decide +kernel), List.mem_of_getElem? (i := 485) (by decide +kernel), List.mem_of_getElem? (i := 486) (by decide +kernel)⟩
theorem lw_p3 : lw_okq (⟨"PleasureGarden$Reader", "expression", "(II)I"⟩, 6) := ⟨⟨by decide +kernel, by decide +kernel⟩, List.mem_of_getElem? (i := 288) (by decide +kernel), List.mem_of_getElem? (i := 516) (by decide +kernel), List.mem_of_getElem? (i := 517) (by decide +kernel)⟩
theorem lw_p4 : lw_okq (⟨"PleasureGarden$Reader", "operand", "(I)I"⟩, 6) := ⟨⟨by decide +kernel, by decide +kernel⟩, List.mem_of_getElem? (i := 288) (by decide +kernel), List.mem_of_getElem? (i := 520) (by decide +kernel), List.mem_of_getElem? (i := 521) (by decide +kernel)⟩
theorem lw_p5 : lw_okq (⟨"PleasureGarden$Reader", "take", "(C)Z"⟩, 6) := ⟨⟨by decide +kernel, by decide +kernel⟩, List.mem_of_getElem? (i := 288) (by decide +kernel), List.mem_of_getElem? (i := 524) (by decide +kernel), List.mem_of_getElem? (i := 525) (by decide +kernel)⟩
theorem lw_p6 : lw_okq (⟨"PleasureGarden$Reader", "next", "()I"⟩, 6) := ⟨⟨by decide +kernel, by decide +kernel⟩, List.mem_of_getElem? (i := 288) (by decide +kernel), List.mem_of_getElem? (i := 528) (by decide +kernel), List.mem_of_getElem? (i := 529) (by decide +kernel)⟩
theorem lw_p7 : lw_okq (⟨"PleasureGarden$Reader", "fail", "()V"⟩, 6) := ⟨⟨by decide +kernel, by decide +kernel⟩, List.mem_of_getElem? (i := 288) (by decide +kernel), List.mem_of_getElem? (i := 532) (by decide +kernel), List.mem_of_getElem? (i := 533) (by decide +kernel)⟩
theorem lw_p8 : lw_okq (⟨"PleasureGarden$Reader", "number", "()I"⟩, 6) := ⟨⟨by decide +kernel, by decide +kernel⟩, List.mem_of_getElem? (i := 288) (by decide +kernel), List.mem_of_getElem? (i := 539) (by decide +kernel), List.mem_of_getElem? (i := 540) (by decide +kernel)⟩
theorem lw_p9 : lw_okq (⟨"PleasureGarden", "setOff", "(LPleasureGarden$Party;II)V"⟩, 15) := ⟨⟨by decide +kernel, by decide +kernel⟩, List.mem_of_getElem? (i := 21) (by decide +kernel), List.mem_of_getElem? (i := 645) (by decide +kernel), List.mem_of_getElem? (i := 646) (by decide +kernel)⟩
theorem lw_p10 : lw_okq (⟨"PleasureGarden", "quitBox", "(LPleasureGarden$Party;)V"⟩, 15) := ⟨⟨by decide +kernel, by decide +kernel⟩, List.mem_of_getElem? (i := 21) (by decide +kernel), List.mem_of_getElem? (i := 649) (by decide +kernel), List.mem_of_getElem? (i := 650) (by decide +kernel)⟩
theorem lw_p11 : lw_okq (⟨"PleasureGarden$Kitchen", "move", "(II)V"⟩, 8) := ⟨⟨by decide +kernel, by decide +kernel⟩, List.mem_of_getElem? (i := 244) (by decide +kernel), List.mem_of_getElem? (i := 661) (by decide +kernel), List.mem_of_getElem? (i := 662) (by decide +kernel)⟩
theorem lw_p12 : lw_okq (⟨"PleasureGarden", "showOut", "(LPleasureGarden$Party;)I"⟩, 15) := ⟨⟨by decide +kernel, by decide +kernel⟩, List.mem_of_getElem? (i := 21) (by decide +kernel), List.mem_of_getElem? (i := 673) (by decide +kernel), List.mem_of_getElem? (i := 674) (by decide +kernel)⟩
theorem lw_p13 : lw_okq (⟨"PleasureGarden", "seatArrivals", "()V"⟩, 15) := ⟨⟨by decide +kernel, by decide +kernel⟩, List.mem_of_getElem? (i := 21) (by decide +kernel), List.mem_of_getElem? (i := 697) (by decide +kernel), List.mem_of_getElem? (i := 698) (by decide +kernel)⟩
theorem lw_p14 : lw_okq (⟨"PleasureGarden", "seekShelter", "()V"⟩, 15) := ⟨⟨by decide +kernel, by decide +kernel⟩, List.mem_of_getElem? (i := 21) (by decide +kernel), List.mem_of_getElem? (i := 701) (by decide +kernel), List.mem_of_getElem? (i := 702) (by decide +kernel)⟩
theorem lw_p15 : lw_okq (⟨"PleasureGarden", "serveOrders", "()V"⟩, 15) := ⟨⟨by decide +kernel, by decide +kernel⟩, List.mem_of_getElem? (i := 21) (by decide +kernel), List.mem_of_getElem? (i := 709) (by decide +kernel), List.mem_of_getElem? (i := 710) (by decide +kernel)⟩
def lw_privs_1 : List (MethodName × Nat) := [(⟨"PleasureGarden$Grounds", "measure", "()V"⟩, 5), (⟨"PleasureGarden", "settle", "(LPleasureGarden$Party;I)V"⟩, 15), (⟨"PleasureGarden", "worth", "(ILPleasureGarden$Party;I)I"⟩, 15), (⟨"PleasureGarden$Reader", "expression", "(II)I"⟩, 6), (⟨"PleasureGarden$Reader", "operand", "(I)I"⟩, 6), (⟨"PleasureGarden$Reader", "take", "(C)Z"⟩, 6), (⟨"PleasureGarden$Reader", "next", "()I"⟩, 6), (⟨"PleasureGarden$Reader", "fail", "()V"⟩, 6), (⟨"PleasureGarden$Reader", "number", "()I"⟩, 6), (⟨"PleasureGarden", "setOff", "(LPleasureGarden$Party;II)V"⟩, 15), (⟨"PleasureGarden", "quitBox", "(LPleasureGarden$Party;)V"⟩, 15), (⟨"PleasureGarden$Kitchen", "move", "(II)V"⟩, 8), (⟨"PleasureGarden", "showOut", "(LPleasureGarden$Party;)I"⟩, 15), (⟨"PleasureGarden", "seatArrivals", "()V"⟩, 15), (⟨"PleasureGarden", "seekShelter", "()V"⟩, 15), (⟨"PleasureGarden", "serveOrders", "()V"⟩, 15)]
theorem lw_r1 : ∀ q ∈ lw_privs_1, lw_okq q := List.forall_mem_cons.mpr ⟨lw_p0, List.forall_mem_cons.mpr ⟨lw_p1, List.forall_mem_cons.mpr ⟨lw_p2, List.forall_mem_cons.mpr ⟨lw_p3, List.forall_mem_cons.mpr ⟨lw_p4, List.forall_mem_cons.mpr ⟨lw_p5, List.forall_mem_cons.mpr ⟨lw_p6, List.forall_mem_cons.mpr ⟨lw_p7, List.forall_mem_cons.mpr ⟨lw_p8, List.forall_mem_cons.mpr ⟨lw_p9, List.forall_mem_cons.mpr ⟨lw_p10, List.forall_mem_cons.mpr ⟨lw_p11, List.forall_mem_cons.mpr ⟨lw_p12, List.forall_mem_cons.mpr ⟨lw_p13, List.forall_mem_cons.mpr ⟨lw_p14, List.forall_mem_cons.mpr ⟨lw_p15, fun _ h => absurd h List.not_mem_nil⟩⟩⟩⟩⟩⟩⟩⟩⟩⟩⟩⟩⟩⟩⟩⟩
theorem lw_p16 : lw_okq (⟨"PleasureGarden$Kitchen", "removeFirst", "()V"⟩, 8) := ⟨⟨by decide +kernel, by decide +kernel⟩, List.mem_of_getElem? (i := 244) (by decide +kernel), List.mem_of_getElem? (i := 718) (by decide +kernel), List.mem_of_getElem? (i := 719) (by decide +kernel)⟩
theorem lw_p17 : lw_okq (⟨"PleasureGarden", "overcrowding", "()I"⟩, 15) := ⟨⟨by decide +kernel, by decide +kernel⟩, List.mem_of_getElem? (i := 21) (by decide +kernel), List.mem_of_getElem? (i := 726) (by decide +kernel), List.mem_of_getElem? (i := 727) (by decide +kernel)⟩
theorem lw_p18 : lw_okq (⟨"PleasureGarden$Lamps", "secondOf", "(III)I"⟩, 6) := ⟨⟨by decide +kernel, by decide +kernel⟩, List.mem_of_getElem? (i := 191) (by decide +kernel), List.mem_of_getElem? (i := 760) (by decide +kernel), List.mem_of_getElem? (i := 761) (by decide +kernel)⟩
theorem lw_p19 : lw_okq (⟨"PleasureGarden$Lamps", "costOf", "(II)I"⟩, 6) := ⟨⟨by decide +kernel, by decide +kernel⟩, List.mem_of_getElem? (i := 191) (by decide +kernel), List.mem_of_getElem? (i := 798) (by decide +kernel), List.mem_of_getElem? (i := 799) (by decide +kernel)⟩
theorem lw_p20 : lw_okq (⟨"PleasureGarden", "beginNight", "()V"⟩, 15) := ⟨⟨by decide +kernel, by decide +kernel⟩, List.mem_of_getElem? (i := 21) (by decide +kernel), List.mem_of_getElem? (i := 874) (by decide +kernel), List.mem_of_getElem? (i := 875) (by decide +kernel)⟩
theorem lw_p21 : lw_okq (⟨"PleasureGarden$Watch", "saw", "(II)Z"⟩, 9) := ⟨⟨by decide +kernel, by decide +kernel⟩, List.mem_of_getElem? (i := 155) (by decide +kernel), List.mem_of_getElem? (i := 925) (by decide +kernel), List.mem_of_getElem? (i := 926) (by decide +kernel)⟩
theorem lw_p22 : lw_okq (⟨"PleasureGardenModel", "isPlace", "(I)Z"⟩, 71) := ⟨⟨by decide +kernel, by decide +kernel⟩, List.mem_of_getElem? (i := 941) (by decide +kernel), List.mem_of_getElem? (i := 1172) (by decide +kernel), List.mem_of_getElem? (i := 1173) (by decide +kernel)⟩
theorem lw_p23 : lw_okq (⟨"PleasureGardenModel", "findFar", "(I)V"⟩, 71) := ⟨⟨by decide +kernel, by decide +kernel⟩, List.mem_of_getElem? (i := 941) (by decide +kernel), List.mem_of_getElem? (i := 1180) (by decide +kernel), List.mem_of_getElem? (i := 1181) (by decide +kernel)⟩
theorem lw_p24 : lw_okq (⟨"PleasureGardenModel", "tonight", "(III)I"⟩, 71) := ⟨⟨by decide +kernel, by decide +kernel⟩, List.mem_of_getElem? (i := 941) (by decide +kernel), List.mem_of_getElem? (i := 1200) (by decide +kernel), List.mem_of_getElem? (i := 1201) (by decide +kernel)⟩
theorem lw_p25 : lw_okq (⟨"PleasureGardenModel", "forceOn", "(III)I"⟩, 71) := ⟨⟨by decide +kernel, by decide +kernel⟩, List.mem_of_getElem? (i := 941) (by decide +kernel), List.mem_of_getElem? (i := 1204) (by decide +kernel), List.mem_of_getElem? (i := 1205) (by decide +kernel)⟩
theorem lw_p26 : lw_okq (⟨"PleasureGardenModel", "coinsBy", "(III)I"⟩, 71) := ⟨⟨by decide +kernel, by decide +kernel⟩, List.mem_of_getElem? (i := 941) (by decide +kernel), List.mem_of_getElem? (i := 1208) (by decide +kernel), List.mem_of_getElem? (i := 1209) (by decide +kernel)⟩
theorem lw_p27 : lw_okq (⟨"PleasureGardenModel", "rainsIn", "(I)Z"⟩, 71) := ⟨⟨by decide +kernel, by decide +kernel⟩, List.mem_of_getElem? (i := 941) (by decide +kernel), List.mem_of_getElem? (i := 1212) (by decide +kernel), List.mem_of_getElem? (i := 1213) (by decide +kernel)⟩
theorem lw_p28 : lw_okq (⟨"PleasureGardenModel", "rainSince", "(I)I"⟩, 71) := ⟨⟨by decide +kernel, by decide +kernel⟩, List.mem_of_getElem? (i := 941) (by decide +kernel), List.mem_of_getElem? (i := 1216) (by decide +kernel), List.mem_of_getElem? (i := 1217) (by decide +kernel)⟩
theorem lw_p29 : lw_okq (⟨"PleasureGardenModel", "headsIn", "()I"⟩, 71) := ⟨⟨by decide +kernel, by decide +kernel⟩, List.mem_of_getElem? (i := 941) (by decide +kernel), List.mem_of_getElem? (i := 1220) (by decide +kernel), List.mem_of_getElem? (i := 1221) (by decide +kernel)⟩
theorem lw_p30 : lw_okq (⟨"PleasureGardenModel", "says", "(I)I"⟩, 71) := ⟨⟨by decide +kernel, by decide +kernel⟩, List.mem_of_getElem? (i := 941) (by decide +kernel), List.mem_of_getElem? (i := 1224) (by decide +kernel), List.mem_of_getElem? (i := 1225) (by decide +kernel)⟩
theorem lw_p31 : lw_okq (⟨"PleasureGardenModel", "isParty", "(I)Z"⟩, 71) := ⟨⟨by decide +kernel, by decide +kernel⟩, List.mem_of_getElem? (i := 941) (by decide +kernel), List.mem_of_getElem? (i := 1236) (by decide +kernel), List.mem_of_getElem? (i := 1237) (by decide +kernel)⟩
def lw_privs_2 : List (MethodName × Nat) := [(⟨"PleasureGarden$Kitchen", "removeFirst", "()V"⟩, 8), (⟨"PleasureGarden", "overcrowding", "()I"⟩, 15), (⟨"PleasureGarden$Lamps", "secondOf", "(III)I"⟩, 6), (⟨"PleasureGarden$Lamps", "costOf", "(II)I"⟩, 6), (⟨"PleasureGarden", "beginNight", "()V"⟩, 15), (⟨"PleasureGarden$Watch", "saw", "(II)Z"⟩, 9), (⟨"PleasureGardenModel", "isPlace", "(I)Z"⟩, 71), (⟨"PleasureGardenModel", "findFar", "(I)V"⟩, 71), (⟨"PleasureGardenModel", "tonight", "(III)I"⟩, 71), (⟨"PleasureGardenModel", "forceOn", "(III)I"⟩, 71), (⟨"PleasureGardenModel", "coinsBy", "(III)I"⟩, 71), (⟨"PleasureGardenModel", "rainsIn", "(I)Z"⟩, 71), (⟨"PleasureGardenModel", "rainSince", "(I)I"⟩, 71), (⟨"PleasureGardenModel", "headsIn", "()I"⟩, 71), (⟨"PleasureGardenModel", "says", "(I)I"⟩, 71), (⟨"PleasureGardenModel", "isParty", "(I)Z"⟩, 71)]
theorem lw_r2 : ∀ q ∈ lw_privs_2, lw_okq q := List.forall_mem_cons.mpr ⟨lw_p16, List.forall_mem_cons.mpr ⟨lw_p17, List.forall_mem_cons.mpr ⟨lw_p18, List.forall_mem_cons.mpr ⟨lw_p19, List.forall_mem_cons.mpr ⟨lw_p20, List.forall_mem_cons.mpr ⟨lw_p21, List.forall_mem_cons.mpr ⟨lw_p22, List.forall_mem_cons.mpr ⟨lw_p23, List.forall_mem_cons.mpr ⟨lw_p24, List.forall_mem_cons.mpr ⟨lw_p25, List.forall_mem_cons.mpr ⟨lw_p26, List.forall_mem_cons.mpr ⟨lw_p27, List.forall_mem_cons.mpr ⟨lw_p28, List.forall_mem_cons.mpr ⟨lw_p29, List.forall_mem_cons.mpr ⟨lw_p30, List.forall_mem_cons.mpr ⟨lw_p31, fun _ h => absurd h List.not_mem_nil⟩⟩⟩⟩⟩⟩⟩⟩⟩⟩⟩⟩⟩⟩⟩⟩
theorem lw_p32 : lw_okq (⟨"PleasureGardenModel", "goes", "(III)V"⟩, 71) := ⟨⟨by decide +kernel, by decide +kernel⟩, List.mem_of_getElem? (i := 941) (by decide +kernel), List.mem_of_getElem? (i := 1240) (by decide +kernel), List.mem_of_getElem? (i := 1241) (by decide +kernel)⟩
theorem lw_p33 : lw_okq (⟨"PleasureGardenModel", "getsUp", "(I)V"⟩, 71) := ⟨⟨by decide +kernel, by decide +kernel⟩, List.mem_of_getElem? (i := 941) (by decide +kernel), List.mem_of_getElem? (i := 1244) (by decide +kernel), List.mem_of_getElem? (i := 1245) (by decide +kernel)⟩
theorem lw_p34 : lw_okq (⟨"PleasureGardenModel", "shift", "(II)V"⟩, 71) := ⟨⟨by decide +kernel, by decide +kernel⟩, List.mem_of_getElem? (i := 941) (by decide +kernel), List.mem_of_getElem? (i := 1248) (by decide +kernel), List.mem_of_getElem? (i := 1249) (by decide +kernel)⟩
theorem lw_p35 : lw_okq (⟨"PleasureGardenModel", "goesOut", "(I)V"⟩, 71) := ⟨⟨by decide +kernel, by decide +kernel⟩, List.mem_of_getElem? (i := 941) (by decide +kernel), List.mem_of_getElem? (i := 1256) (by decide +kernel), List.mem_of_getElem? (i := 1257) (by decide +kernel)⟩
theorem lw_p36 : lw_okq (⟨"PleasureGardenModel", "headsAt", "(I)I"⟩, 71) := ⟨⟨by decide +kernel, by decide +kernel⟩, List.mem_of_getElem? (i := 941) (by decide +kernel), List.mem_of_getElem? (i := 1268) (by decide +kernel), List.mem_of_getElem? (i := 1269) (by decide +kernel)⟩
theorem lw_p37 : lw_okq (⟨"PleasureGardenModel", "keep", "()V"⟩, 71) := ⟨⟨by decide +kernel, by decide +kernel⟩, List.mem_of_getElem? (i := 941) (by decide +kernel), List.mem_of_getElem? (i := 1276) (by decide +kernel), List.mem_of_getElem? (i := 1277) (by decide +kernel)⟩
theorem lw_p38 : lw_okq (⟨"PleasureGardenModel", "flee", "(I)V"⟩, 71) := ⟨⟨by decide +kernel, by decide +kernel⟩, List.mem_of_getElem? (i := 941) (by decide +kernel), List.mem_of_getElem? (i := 1280) (by decide +kernel), List.mem_of_getElem? (i := 1281) (by decide +kernel)⟩
theorem lw_p39 : lw_okq (⟨"PleasureGardenModel", "serve", "()V"⟩, 71) := ⟨⟨by decide +kernel, by decide +kernel⟩, List.mem_of_getElem? (i := 941) (by decide +kernel), List.mem_of_getElem? (i := 1284) (by decide +kernel), List.mem_of_getElem? (i := 1285) (by decide +kernel)⟩
theorem lw_p40 : lw_okq (⟨"PleasureGardenModel", "isLamp", "(I)Z"⟩, 71) := ⟨⟨by decide +kernel, by decide +kernel⟩, List.mem_of_getElem? (i := 941) (by decide +kernel), List.mem_of_getElem? (i := 1296) (by decide +kernel), List.mem_of_getElem? (i := 1297) (by decide +kernel)⟩
theorem lw_p41 : lw_okq (⟨"PleasureGardenModel", "find", "(II)V"⟩, 71) := ⟨⟨by decide +kernel, by decide +kernel⟩, List.mem_of_getElem? (i := 941) (by decide +kernel), List.mem_of_getElem? (i := 1304) (by decide +kernel), List.mem_of_getElem? (i := 1305) (by decide +kernel)⟩
theorem lw_p42 : lw_okq (⟨"PleasureGardenModel", "isBox", "(I)Z"⟩, 71) := ⟨⟨by decide +kernel, by decide +kernel⟩, List.mem_of_getElem? (i := 941) (by decide +kernel), List.mem_of_getElem? (i := 1332) (by decide +kernel), List.mem_of_getElem? (i := 1333) (by decide +kernel)⟩
theorem lw_p43 : lw_okq (⟨"PleasureGardenModel", "whoIn", "(I)I"⟩, 71) := ⟨⟨by decide +kernel, by decide +kernel⟩, List.mem_of_getElem? (i := 941) (by decide +kernel), List.mem_of_getElem? (i := 1336) (by decide +kernel), List.mem_of_getElem? (i := 1337) (by decide +kernel)⟩
theorem lw_p44 : lw_okq (⟨"PleasureGardenModel", "parse", "(I)I"⟩, 71) := ⟨⟨by decide +kernel, by decide +kernel⟩, List.mem_of_getElem? (i := 941) (by decide +kernel), List.mem_of_getElem? (i := 1372) (by decide +kernel), List.mem_of_getElem? (i := 1373) (by decide +kernel)⟩
theorem lw_p45 : lw_okq (⟨"PleasureGardenModel", "operand", "(I)Z"⟩, 71) := ⟨⟨by decide +kernel, by decide +kernel⟩, List.mem_of_getElem? (i := 941) (by decide +kernel), List.mem_of_getElem? (i := 1376) (by decide +kernel), List.mem_of_getElem? (i := 1377) (by decide +kernel)⟩
theorem lw_p46 : lw_okq (⟨"PleasureGardenModel", "opened", "()I"⟩, 71) := ⟨⟨by decide +kernel, by decide +kernel⟩, List.mem_of_getElem? (i := 941) (by decide +kernel), List.mem_of_getElem? (i := 1380) (by decide +kernel), List.mem_of_getElem? (i := 1381) (by decide +kernel)⟩
theorem lw_p47 : lw_okq (⟨"PleasureGardenModel", "lay", "(III)V"⟩, 71) := ⟨⟨by decide +kernel, by decide +kernel⟩, List.mem_of_getElem? (i := 941) (by decide +kernel), List.mem_of_getElem? (i := 1387) (by decide +kernel), List.mem_of_getElem? (i := 1388) (by decide +kernel)⟩
def lw_privs_3 : List (MethodName × Nat) := [(⟨"PleasureGardenModel", "goes", "(III)V"⟩, 71), (⟨"PleasureGardenModel", "getsUp", "(I)V"⟩, 71), (⟨"PleasureGardenModel", "shift", "(II)V"⟩, 71), (⟨"PleasureGardenModel", "goesOut", "(I)V"⟩, 71), (⟨"PleasureGardenModel", "headsAt", "(I)I"⟩, 71), (⟨"PleasureGardenModel", "keep", "()V"⟩, 71), (⟨"PleasureGardenModel", "flee", "(I)V"⟩, 71), (⟨"PleasureGardenModel", "serve", "()V"⟩, 71), (⟨"PleasureGardenModel", "isLamp", "(I)Z"⟩, 71), (⟨"PleasureGardenModel", "find", "(II)V"⟩, 71), (⟨"PleasureGardenModel", "isBox", "(I)Z"⟩, 71), (⟨"PleasureGardenModel", "whoIn", "(I)I"⟩, 71), (⟨"PleasureGardenModel", "parse", "(I)I"⟩, 71), (⟨"PleasureGardenModel", "operand", "(I)Z"⟩, 71), (⟨"PleasureGardenModel", "opened", "()I"⟩, 71), (⟨"PleasureGardenModel", "lay", "(III)V"⟩, 71)]
theorem lw_r3 : ∀ q ∈ lw_privs_3, lw_okq q := List.forall_mem_cons.mpr ⟨lw_p32, List.forall_mem_cons.mpr ⟨lw_p33, List.forall_mem_cons.mpr ⟨lw_p34, List.forall_mem_cons.mpr ⟨lw_p35, List.forall_mem_cons.mpr ⟨lw_p36, List.forall_mem_cons.mpr ⟨lw_p37, List.forall_mem_cons.mpr ⟨lw_p38, List.forall_mem_cons.mpr ⟨lw_p39, List.forall_mem_cons.mpr ⟨lw_p40, List.forall_mem_cons.mpr ⟨lw_p41, List.forall_mem_cons.mpr ⟨lw_p42, List.forall_mem_cons.mpr ⟨lw_p43, List.forall_mem_cons.mpr ⟨lw_p44, List.forall_mem_cons.mpr ⟨lw_p45, List.forall_mem_cons.mpr ⟨lw_p46, List.forall_mem_cons.mpr ⟨lw_p47, fun _ h => absurd h List.not_mem_nil⟩⟩⟩⟩⟩⟩⟩⟩⟩⟩⟩⟩⟩⟩⟩⟩
theorem lw_p48 : lw_okq (⟨"PleasureGardenModel", "done", "(II)V"⟩, 71) := ⟨⟨by decide +kernel, by decide +kernel⟩, List.mem_of_getElem? (i := 941) (by decide +kernel), List.mem_of_getElem? (i := 1397) (by decide +kernel), List.mem_of_getElem? (i := 1398) (by decide +kernel)⟩
theorem lw_p49 : lw_okq (⟨"PleasureGardenModel", "isNear", "(II)Z"⟩, 71) := ⟨⟨by decide +kernel, by decide +kernel⟩, List.mem_of_getElem? (i := 941) (by decide +kernel), List.mem_of_getElem? (i := 1433) (by decide +kernel), List.mem_of_getElem? (i := 1434) (by decide +kernel)⟩
def lw_privs_4 : List (MethodName × Nat) := [(⟨"PleasureGardenModel", "done", "(II)V"⟩, 71), (⟨"PleasureGardenModel", "isNear", "(II)Z"⟩, 71)]
theorem lw_r4 : ∀ q ∈ lw_privs_4, lw_okq q := List.forall_mem_cons.mpr ⟨lw_p48, List.forall_mem_cons.mpr ⟨lw_p49, fun _ h => absurd h List.not_mem_nil⟩⟩
def lw_privs : List (MethodName × Nat) := lw_privs_1 ++ (lw_privs_2 ++ (lw_privs_3 ++ (lw_privs_4)))
def lw_tbl : List Cond := k2_sels lw_privs ++ tables_1
theorem lw_privs_ok : ∀ q ∈ lw_privs, lw_okq q := by
  show ∀ q ∈ lw_privs_1 ++ (lw_privs_2 ++ (lw_privs_3 ++ (lw_privs_4))), lw_okq q
  exact List.forall_mem_append.mpr ⟨lw_r1, List.forall_mem_append.mpr ⟨lw_r2, List.forall_mem_append.mpr ⟨lw_r3, lw_r4⟩⟩⟩
end
section
/-! names, the shape of the cells, words: written by wip/gen/mk01.py -/
def jR_G : String := "PleasureGarden"
def jT_G : u_T := fun k => match k with
  | 0 => ("PleasureGarden", "grounds", "LPleasureGarden$Grounds;", true)
  | 1 => ("PleasureGarden", "sky", "LPleasureGarden$Sky;", true)
  | 2 => ("PleasureGarden", "sold", "[Z", true)
  | 3 => ("PleasureGarden", "guests", "LPleasureGarden$Guests;", true)
  | 4 => ("PleasureGarden", "watch", "LPleasureGarden$Watch;", true)
  | 5 => ("PleasureGarden", "lamps", "LPleasureGarden$Lamps;", true)
  | 6 => ("PleasureGarden", "boxes", "LPleasureGarden$Boxes;", true)
  | 7 => ("PleasureGarden", "kitchen", "LPleasureGarden$Kitchen;", true)
  | 8 => ("PleasureGarden", "prices", "LPleasureGarden$Prices;", true)
  | 9 => ("PleasureGarden", "ledger", "LPleasureGarden$Ledger;", true)
  | 10 => ("PleasureGarden", "night", "I", false)
  | 11 => ("PleasureGarden", "minute", "I", false)
  | 12 => ("PleasureGarden", "forged", "I", false)
  | 13 => ("PleasureGarden", "crush", "I", false)
  | _ => ("PleasureGarden", "takings", "I", false)
def jt_G : Nat → FieldType := fun k => match k with
  | 0 => .object "PleasureGarden$Grounds"
  | 1 => .object "PleasureGarden$Sky"
  | 2 => .array (.boolean)
  | 3 => .object "PleasureGarden$Guests"
  | 4 => .object "PleasureGarden$Watch"
  | 5 => .object "PleasureGarden$Lamps"
  | 6 => .object "PleasureGarden$Boxes"
  | 7 => .object "PleasureGarden$Kitchen"
  | 8 => .object "PleasureGarden$Prices"
  | 9 => .object "PleasureGarden$Ledger"
  | 10 => .int
  | 11 => .int
  | 12 => .int
  | 13 => .int
  | _ => .int
theorem jn_G : ∀ a, a < 15 → ∀ b, b < 15 → a ≠ b → (jT_G a).2.1 ≠ (jT_G b).2.1 := by decide +kernel
theorem jto_G : ∀ k, k < 15 → parseFieldDescriptor (jT_G k).2.2.1 = some (jt_G k) := by decide +kernel
def jR_Gr : String := "PleasureGarden$Grounds"
def jT_Gr : u_T := fun k => match k with
  | 0 => ("PleasureGarden$Grounds", "count", "I", false)
  | 1 => ("PleasureGarden$Grounds", "room", "[I", true)
  | 2 => ("PleasureGarden$Grounds", "covered", "[Z", true)
  | 3 => ("PleasureGarden$Grounds", "walks", "[[I", true)
  | _ => ("PleasureGarden$Grounds", "ways", "[[I", true)
def jt_Gr : Nat → FieldType := fun k => match k with
  | 0 => .int
  | 1 => .array (.int)
  | 2 => .array (.boolean)
  | 3 => .array (.array (.int))
  | _ => .array (.array (.int))
theorem jn_Gr : ∀ a, a < 5 → ∀ b, b < 5 → a ≠ b → (jT_Gr a).2.1 ≠ (jT_Gr b).2.1 := by decide +kernel
theorem jto_Gr : ∀ k, k < 5 → parseFieldDescriptor (jT_Gr k).2.2.1 = some (jt_Gr k) := by decide +kernel
def jR_Sk : String := "PleasureGarden$Sky"
def jT_Sk : u_T := fun k => match k with
  | 0 => ("PleasureGarden$Sky", "spans", "I", false)
  | _ => ("PleasureGarden$Sky", "wet", "[Z", true)
def jt_Sk : Nat → FieldType := fun k => match k with
  | 0 => .int
  | _ => .array (.boolean)
theorem jn_Sk : ∀ a, a < 2 → ∀ b, b < 2 → a ≠ b → (jT_Sk a).2.1 ≠ (jT_Sk b).2.1 := by decide +kernel
theorem jto_Sk : ∀ k, k < 2 → parseFieldDescriptor (jT_Sk k).2.2.1 = some (jt_Sk k) := by decide +kernel
def jR_Gu : String := "PleasureGarden$Guests"
def jT_Gu : u_T := fun k => match k with
  | 0 => ("PleasureGarden$Guests", "count", "I", false)
  | _ => ("PleasureGarden$Guests", "all", "[LPleasureGarden$Party;", true)
def jt_Gu : Nat → FieldType := fun k => match k with
  | 0 => .int
  | _ => .array (.object "PleasureGarden$Party")
theorem jn_Gu : ∀ a, a < 2 → ∀ b, b < 2 → a ≠ b → (jT_Gu a).2.1 ≠ (jT_Gu b).2.1 := by decide +kernel
theorem jto_Gu : ∀ k, k < 2 → parseFieldDescriptor (jT_Gu k).2.2.1 = some (jt_Gu k) := by decide +kernel
def jR_Pa : String := "PleasureGarden$Party"
def jT_Pa : u_T := fun k => match k with
  | 0 => ("PleasureGarden$Party", "number", "I", true)
  | 1 => ("PleasureGarden$Party", "heads", "I", false)
  | 2 => ("PleasureGarden$Party", "ticket", "I", false)
  | 3 => ("PleasureGarden$Party", "state", "I", false)
  | 4 => ("PleasureGarden$Party", "place", "I", false)
  | 5 => ("PleasureGarden$Party", "due", "I", false)
  | 6 => ("PleasureGarden$Party", "box", "I", false)
  | 7 => ("PleasureGarden$Party", "paid", "I", false)
  | 8 => ("PleasureGarden$Party", "refund", "I", false)
  | 9 => ("PleasureGarden$Party", "slices", "I", false)
  | 10 => ("PleasureGarden$Party", "came", "I", false)
  | _ => ("PleasureGarden$Party", "stay", "I", false)
def jt_Pa : Nat → FieldType := fun k => match k with
  | 0 => .int
  | 1 => .int
  | 2 => .int
  | 3 => .int
  | 4 => .int
  | 5 => .int
  | 6 => .int
  | 7 => .int
  | 8 => .int
  | 9 => .int
  | 10 => .int
  | _ => .int
theorem jn_Pa : ∀ a, a < 12 → ∀ b, b < 12 → a ≠ b → (jT_Pa a).2.1 ≠ (jT_Pa b).2.1 := by decide +kernel
theorem jto_Pa : ∀ k, k < 12 → parseFieldDescriptor (jT_Pa k).2.2.1 = some (jt_Pa k) := by decide +kernel
def jR_Wa : String := "PleasureGarden$Watch"
def jT_Wa : u_T := fun k => match k with
  | 0 => ("PleasureGarden$Watch", "shot", "I", false)
  | 1 => ("PleasureGarden$Watch", "stays", "I", false)
  | 2 => ("PleasureGarden$Watch", "who", "[I", true)
  | 3 => ("PleasureGarden$Watch", "where", "[I", true)
  | 4 => ("PleasureGarden$Watch", "from", "[I", true)
  | 5 => ("PleasureGarden$Watch", "until", "[I", true)
  | 6 => ("PleasureGarden$Watch", "thefts", "I", false)
  | 7 => ("PleasureGarden$Watch", "theftMinute", "[I", true)
  | _ => ("PleasureGarden$Watch", "theftPlace", "[I", true)
def jt_Wa : Nat → FieldType := fun k => match k with
  | 0 => .int
  | 1 => .int
  | 2 => .array (.int)
  | 3 => .array (.int)
  | 4 => .array (.int)
  | 5 => .array (.int)
  | 6 => .int
  | 7 => .array (.int)
  | _ => .array (.int)
theorem jn_Wa : ∀ a, a < 9 → ∀ b, b < 9 → a ≠ b → (jT_Wa a).2.1 ≠ (jT_Wa b).2.1 := by decide +kernel
theorem jto_Wa : ∀ k, k < 9 → parseFieldDescriptor (jT_Wa k).2.2.1 = some (jt_Wa k) := by decide +kernel
def jR_La : String := "PleasureGarden$Lamps"
def jT_La : u_T := fun k => match k with
  | 0 => ("PleasureGarden$Lamps", "count", "I", false)
  | 1 => ("PleasureGarden$Lamps", "fuses", "I", false)
  | 2 => ("PleasureGarden$Lamps", "litAt", "I", false)
  | 3 => ("PleasureGarden$Lamps", "oil", "[I", true)
  | 4 => ("PleasureGarden$Lamps", "second", "[I", true)
  | _ => ("PleasureGarden$Lamps", "rows", "[[I", true)
def jt_La : Nat → FieldType := fun k => match k with
  | 0 => .int
  | 1 => .int
  | 2 => .int
  | 3 => .array (.int)
  | 4 => .array (.int)
  | _ => .array (.array (.int))
theorem jn_La : ∀ a, a < 6 → ∀ b, b < 6 → a ≠ b → (jT_La a).2.1 ≠ (jT_La b).2.1 := by decide +kernel
theorem jto_La : ∀ k, k < 6 → parseFieldDescriptor (jT_La k).2.2.1 = some (jt_La k) := by decide +kernel
def jR_Bo : String := "PleasureGarden$Boxes"
def jT_Bo : u_T := fun k => match k with
  | 0 => ("PleasureGarden$Boxes", "count", "I", false)
  | 1 => ("PleasureGarden$Boxes", "place", "[I", true)
  | 2 => ("PleasureGarden$Boxes", "seats", "[I", true)
  | _ => ("PleasureGarden$Boxes", "guest", "[I", true)
def jt_Bo : Nat → FieldType := fun k => match k with
  | 0 => .int
  | 1 => .array (.int)
  | 2 => .array (.int)
  | _ => .array (.int)
theorem jn_Bo : ∀ a, a < 4 → ∀ b, b < 4 → a ≠ b → (jT_Bo a).2.1 ≠ (jT_Bo b).2.1 := by decide +kernel
theorem jto_Bo : ∀ k, k < 4 → parseFieldDescriptor (jT_Bo k).2.2.1 = some (jt_Bo k) := by decide +kernel
def jR_Ki : String := "PleasureGarden$Kitchen"
def jT_Ki : u_T := fun k => match k with
  | 0 => ("PleasureGarden$Kitchen", "grams", "I", false)
  | 1 => ("PleasureGarden$Kitchen", "slice", "I", false)
  | 2 => ("PleasureGarden$Kitchen", "waiters", "I", false)
  | 3 => ("PleasureGarden$Kitchen", "served", "I", false)
  | 4 => ("PleasureGarden$Kitchen", "orders", "I", false)
  | 5 => ("PleasureGarden$Kitchen", "party", "[I", true)
  | 6 => ("PleasureGarden$Kitchen", "slices", "[I", true)
  | _ => ("PleasureGarden$Kitchen", "lacking", "[Z", true)
def jt_Ki : Nat → FieldType := fun k => match k with
  | 0 => .int
  | 1 => .int
  | 2 => .int
  | 3 => .int
  | 4 => .int
  | 5 => .array (.int)
  | 6 => .array (.int)
  | _ => .array (.boolean)
theorem jn_Ki : ∀ a, a < 8 → ∀ b, b < 8 → a ≠ b → (jT_Ki a).2.1 ≠ (jT_Ki b).2.1 := by decide +kernel
theorem jto_Ki : ∀ k, k < 8 → parseFieldDescriptor (jT_Ki k).2.2.1 = some (jt_Ki k) := by decide +kernel
def jR_Pr : String := "PleasureGarden$Prices"
def jT_Pr : u_T := fun k => match k with
  | 0 => ("PleasureGarden$Prices", "count", "I", false)
  | 1 => ("PleasureGarden$Prices", "tape", "I", false)
  | 2 => ("PleasureGarden$Prices", "bytes", "[B", true)
  | 3 => ("PleasureGarden$Prices", "length", "[I", true)
  | 4 => ("PleasureGarden$Prices", "kind", "[I", true)
  | 5 => ("PleasureGarden$Prices", "from", "[I", true)
  | 6 => ("PleasureGarden$Prices", "made", "[I", true)
  | _ => ("PleasureGarden$Prices", "reader", "LPleasureGarden$Reader;", true)
def jt_Pr : Nat → FieldType := fun k => match k with
  | 0 => .int
  | 1 => .int
  | 2 => .array (.byte)
  | 3 => .array (.int)
  | 4 => .array (.int)
  | 5 => .array (.int)
  | 6 => .array (.int)
  | _ => .object "PleasureGarden$Reader"
theorem jn_Pr : ∀ a, a < 8 → ∀ b, b < 8 → a ≠ b → (jT_Pr a).2.1 ≠ (jT_Pr b).2.1 := by decide +kernel
theorem jto_Pr : ∀ k, k < 8 → parseFieldDescriptor (jT_Pr k).2.2.1 = some (jt_Pr k) := by decide +kernel
def jR_Re : String := "PleasureGarden$Reader"
def jT_Re : u_T := fun k => match k with
  | 0 => ("PleasureGarden$Reader", "names", "[I", true)
  | 1 => ("PleasureGarden$Reader", "fault", "I", false)
  | 2 => ("PleasureGarden$Reader", "text", "[B", false)
  | 3 => ("PleasureGarden$Reader", "start", "I", false)
  | 4 => ("PleasureGarden$Reader", "end", "I", false)
  | _ => ("PleasureGarden$Reader", "at", "I", false)
def jt_Re : Nat → FieldType := fun k => match k with
  | 0 => .array (.int)
  | 1 => .int
  | 2 => .array (.byte)
  | 3 => .int
  | 4 => .int
  | _ => .int
theorem jn_Re : ∀ a, a < 6 → ∀ b, b < 6 → a ≠ b → (jT_Re a).2.1 ≠ (jT_Re b).2.1 := by decide +kernel
theorem jto_Re : ∀ k, k < 6 → parseFieldDescriptor (jT_Re k).2.2.1 = some (jt_Re k) := by decide +kernel
def jR_Le : String := "PleasureGarden$Ledger"
def jT_Le : u_T := fun k => match k with
  | 0 => ("PleasureGarden$Ledger", "count", "I", false)
  | 1 => ("PleasureGarden$Ledger", "takings", "[I", true)
  | 2 => ("PleasureGarden$Ledger", "rain", "[I", true)
  | _ => ("PleasureGarden$Ledger", "heads", "[I", true)
def jt_Le : Nat → FieldType := fun k => match k with
  | 0 => .int
  | 1 => .array (.int)
  | 2 => .array (.int)
  | _ => .array (.int)
theorem jn_Le : ∀ a, a < 4 → ∀ b, b < 4 → a ≠ b → (jT_Le a).2.1 ≠ (jT_Le b).2.1 := by decide +kernel
theorem jto_Le : ∀ k, k < 4 → parseFieldDescriptor (jT_Le k).2.2.1 = some (jt_Le k) := by decide +kernel
def jR_M : String := "PleasureGardenModel"
def jT_M : u_T := fun k => match k with
  | 0 => ("PleasureGardenModel", "code", "I", false)
  | 1 => ("PleasureGardenModel", "night", "I", false)
  | 2 => ("PleasureGardenModel", "minute", "I", false)
  | 3 => ("PleasureGardenModel", "places", "I", false)
  | 4 => ("PleasureGardenModel", "room", "[I", true)
  | 5 => ("PleasureGardenModel", "covered", "[Z", true)
  | 6 => ("PleasureGardenModel", "walks", "[I", true)
  | 7 => ("PleasureGardenModel", "rains", "I", false)
  | 8 => ("PleasureGardenModel", "rainFrom", "[I", true)
  | 9 => ("PleasureGardenModel", "rainTo", "[I", true)
  | 10 => ("PleasureGardenModel", "far", "[I", true)
  | 11 => ("PleasureGardenModel", "isSold", "[Z", true)
  | 12 => ("PleasureGardenModel", "parties", "I", false)
  | 13 => ("PleasureGardenModel", "headsOf", "[I", true)
  | 14 => ("PleasureGardenModel", "ticketOf", "[I", true)
  | 15 => ("PleasureGardenModel", "state", "[I", true)
  | 16 => ("PleasureGardenModel", "placeOf", "[I", true)
  | 17 => ("PleasureGardenModel", "till", "[I", true)
  | 18 => ("PleasureGardenModel", "boxOf", "[I", true)
  | 19 => ("PleasureGardenModel", "paid", "[I", true)
  | 20 => ("PleasureGardenModel", "refund", "[I", true)
  | 21 => ("PleasureGardenModel", "served", "[I", true)
  | 22 => ("PleasureGardenModel", "came", "[I", true)
  | 23 => ("PleasureGardenModel", "was", "[B", true)
  | 24 => ("PleasureGardenModel", "forged", "I", false)
  | 25 => ("PleasureGardenModel", "crush", "I", false)
  | 26 => ("PleasureGardenModel", "takings", "I", false)
  | 27 => ("PleasureGardenModel", "servedAll", "I", false)
  | 28 => ("PleasureGardenModel", "lamps", "I", false)
  | 29 => ("PleasureGardenModel", "oil", "[I", true)
  | 30 => ("PleasureGardenModel", "fuses", "I", false)
  | 31 => ("PleasureGardenModel", "fuseA", "[I", true)
  | 32 => ("PleasureGardenModel", "fuseB", "[I", true)
  | 33 => ("PleasureGardenModel", "fuseLong", "[I", true)
  | 34 => ("PleasureGardenModel", "burnt", "[I", true)
  | 35 => ("PleasureGardenModel", "lit", "[I", true)
  | 36 => ("PleasureGardenModel", "hasLight", "Z", false)
  | 37 => ("PleasureGardenModel", "litIn", "I", false)
  | 38 => ("PleasureGardenModel", "last", "I", false)
  | 39 => ("PleasureGardenModel", "darks", "I", false)
  | 40 => ("PleasureGardenModel", "boxes", "I", false)
  | 41 => ("PleasureGardenModel", "boxPlace", "[I", true)
  | 42 => ("PleasureGardenModel", "seats", "[I", true)
  | 43 => ("PleasureGardenModel", "kitchen", "I", false)
  | 44 => ("PleasureGardenModel", "slice", "I", false)
  | 45 => ("PleasureGardenModel", "waiters", "I", false)
  | 46 => ("PleasureGardenModel", "orders", "I", false)
  | 47 => ("PleasureGardenModel", "orderOf", "[I", true)
  | 48 => ("PleasureGardenModel", "orderSlices", "[I", true)
  | 49 => ("PleasureGardenModel", "isLacking", "[Z", true)
  | 50 => ("PleasureGardenModel", "tape", "[B", true)
  | 51 => ("PleasureGardenModel", "taped", "I", false)
  | 52 => ("PleasureGardenModel", "prices", "I", false)
  | 53 => ("PleasureGardenModel", "priceKind", "[I", true)
  | 54 => ("PleasureGardenModel", "priceNight", "[I", true)
  | 55 => ("PleasureGardenModel", "priceFrom", "[I", true)
  | 56 => ("PleasureGardenModel", "priceSize", "[I", true)
  | 57 => ("PleasureGardenModel", "step", "[I", true)
  | 58 => ("PleasureGardenModel", "number", "[I", true)
  | 59 => ("PleasureGardenModel", "wait", "[I", true)
  | 60 => ("PleasureGardenModel", "waits", "I", false)
  | 61 => ("PleasureGardenModel", "laid", "I", false)
  | 62 => ("PleasureGardenModel", "at", "I", false)
  | 63 => ("PleasureGardenModel", "named", "[I", true)
  | 64 => ("PleasureGardenModel", "pile", "[I", true)
  | 65 => ("PleasureGardenModel", "nightTakings", "[I", true)
  | 66 => ("PleasureGardenModel", "nightRain", "[I", true)
  | 67 => ("PleasureGardenModel", "nightHeads", "[I", true)
  | 68 => ("PleasureGardenModel", "thefts", "I", false)
  | 69 => ("PleasureGardenModel", "theftMinute", "[I", true)
  | _ => ("PleasureGardenModel", "theftPlace", "[I", true)
def jt_M : Nat → FieldType := fun k => match k with
  | 0 => .int
  | 1 => .int
  | 2 => .int
  | 3 => .int
  | 4 => .array (.int)
  | 5 => .array (.boolean)
  | 6 => .array (.int)
  | 7 => .int
  | 8 => .array (.int)
  | 9 => .array (.int)
  | 10 => .array (.int)
  | 11 => .array (.boolean)
  | 12 => .int
  | 13 => .array (.int)
  | 14 => .array (.int)
  | 15 => .array (.int)
  | 16 => .array (.int)
  | 17 => .array (.int)
  | 18 => .array (.int)
  | 19 => .array (.int)
  | 20 => .array (.int)
  | 21 => .array (.int)
  | 22 => .array (.int)
  | 23 => .array (.byte)
  | 24 => .int
  | 25 => .int
  | 26 => .int
  | 27 => .int
  | 28 => .int
  | 29 => .array (.int)
  | 30 => .int
  | 31 => .array (.int)
  | 32 => .array (.int)
  | 33 => .array (.int)
  | 34 => .array (.int)
  | 35 => .array (.int)
  | 36 => .boolean
  | 37 => .int
  | 38 => .int
  | 39 => .int
  | 40 => .int
  | 41 => .array (.int)
  | 42 => .array (.int)
  | 43 => .int
  | 44 => .int
  | 45 => .int
  | 46 => .int
  | 47 => .array (.int)
  | 48 => .array (.int)
  | 49 => .array (.boolean)
  | 50 => .array (.byte)
  | 51 => .int
  | 52 => .int
  | 53 => .array (.int)
  | 54 => .array (.int)
  | 55 => .array (.int)
  | 56 => .array (.int)
  | 57 => .array (.int)
  | 58 => .array (.int)
  | 59 => .array (.int)
  | 60 => .int
  | 61 => .int
  | 62 => .int
  | 63 => .array (.int)
  | 64 => .array (.int)
  | 65 => .array (.int)
  | 66 => .array (.int)
  | 67 => .array (.int)
  | 68 => .int
  | 69 => .array (.int)
  | _ => .array (.int)
theorem jn_M : ∀ a, a < 71 → ∀ b, b < 71 → a ≠ b → (jT_M a).2.1 ≠ (jT_M b).2.1 := by decide +kernel
theorem jto_M : ∀ k, k < 71 → parseFieldDescriptor (jT_M k).2.2.1 = some (jt_M k) := by decide +kernel
abbrev j_cl : List vw_C := [(jR_G, jT_G, 15), (jR_Gr, jT_Gr, 5), (jR_Sk, jT_Sk, 2), (jR_Gu, jT_Gu, 2), (jR_Pa, jT_Pa, 12), (jR_Wa, jT_Wa, 9), (jR_La, jT_La, 6), (jR_Bo, jT_Bo, 4), (jR_Ki, jT_Ki, 8), (jR_Pr, jT_Pr, 8), (jR_Re, jT_Re, 6), (jR_Le, jT_Le, 4), (jR_M, jT_M, 71)]
def j_fkL : List (List Nat) := [[1, 1, 1, 1, 1, 1, 1, 1, 1, 1, 0, 0, 0, 0, 0], [0, 1, 1, 1, 1], [0, 1], [0, 1], [0, 0, 0, 0, 0, 0, 0, 0, 0, 0, 0, 0], [0, 0, 1, 1, 1, 1, 0, 1, 1], [0, 0, 0, 1, 1, 1], [0, 1, 1, 1], [0, 0, 0, 0, 0, 1, 1, 1], [0, 0, 1, 1, 1, 1, 1, 1], [1, 0, 2, 0, 0, 0], [0, 1, 1, 1], [0, 0, 0, 0, 1, 1, 1, 0, 1, 1, 1, 1, 0, 1, 1, 1, 1, 1, 1, 1, 1, 1, 1, 1, 0, 0, 0, 0, 0, 1, 0, 1, 1, 1, 1, 1, 0, 0, 0, 0, 0, 1, 1, 0, 0, 0, 0, 1, 1, 1, 1, 0, 0, 1, 1, 1, 1, 1, 1, 1, 0, 0, 0, 1, 1, 1, 1, 1, 0, 1, 1]]
/-- what a field holds: 0 a number, 1 a fixed reference, 2 a reference that is kept as a number -/
def j_fk (ci k : Nat) : Nat := (j_fkL.getD ci []).getD k 0
/-- the shape of a cell: (0, class, fields), (1, kind of number, length), (2, kind of reference, length) -/
def j_sh (c : Nat) : Nat × Nat × Nat := if c < 204 then (if c < 143 then (if c < 22 then (if c < 3 then (if c < 1 then ((0, 0, 15)) else (if c < 2 then (0, 1, 5) else (1, 0, 16))) else (if c < 5 then (if c < 4 then (1, 1, 16) else (2, 4, 16)) else (if c < 21 then (1, 0, 16) else (2, 4, 16)))) else (if c < 40 then (if c < 38 then ((1, 0, 16)) else (if c < 39 then (0, 2, 2) else (1, 1, 480))) else (if c < 42 then (if c < 41 then (1, 1, 300) else (0, 3, 2)) else (if c < 43 then (2, 3, 100) else (0, 4, 12))))) else (if c < 194 then (if c < 150 then (if c < 144 then ((0, 5, 9)) else (if c < 148 then (1, 0, 1040) else (1, 0, 20))) else (if c < 153 then (if c < 151 then (0, 6, 6) else (1, 0, 40)) else (if c < 154 then (2, 4, 40) else (1, 0, 40)))) else (if c < 199 then (if c < 195 then ((0, 7, 4)) else (if c < 198 then (1, 0, 20) else (0, 8, 8))) else (if c < 202 then (if c < 201 then (1, 0, 60) else (1, 1, 60)) else (if c < 203 then (0, 9, 8) else (1, 2, 3720)))))) else (if c < 233 then (if c < 216 then (if c < 210 then (if c < 208 then ((1, 0, 30)) else (if c < 209 then (0, 10, 6) else (1, 0, 8))) else (if c < 212 then (if c < 211 then (1, 2, 0) else (0, 11, 4)) else (if c < 215 then (1, 0, 200) else (0, 12, 71)))) else (if c < 219 then (if c < 217 then ((1, 0, 16)) else (if c < 218 then (1, 1, 16) else (1, 0, 256))) else (if c < 222 then (if c < 221 then (1, 0, 20) else (1, 0, 16)) else (if c < 223 then (1, 1, 300) else (1, 0, 100))))) else (if c < 245 then (if c < 238 then (if c < 234 then ((1, 2, 48000)) else (if c < 235 then (1, 0, 40) else (1, 0, 80))) else (if c < 242 then (if c < 240 then (1, 0, 40) else (1, 0, 20)) else (if c < 244 then (1, 0, 60) else (1, 1, 60)))) else (if c < 253 then (if c < 250 then (if c < 246 then (1, 2, 120) else (1, 0, 30)) else (if c < 252 then (1, 0, 3900) else (1, 0, 130))) else (if c < 255 then (if c < 254 then (1, 0, 128) else (1, 0, 130)) else (if c < 258 then (1, 0, 200) else (1, 0, 20))))))
def j_N : Nat := 260
def j_pfL : List (Nat × Nat × Nat) := [(0, 0, 1), (0, 1, 38), (0, 2, 40), (0, 3, 41), (0, 4, 143), (0, 5, 150), (0, 6, 194), (0, 7, 198), (0, 8, 202), (0, 9, 211), (1, 1, 2), (1, 2, 3), (1, 3, 4), (1, 4, 21), (38, 1, 39), (41, 1, 42), (143, 2, 144), (143, 3, 145), (143, 4, 146), (143, 5, 147), (143, 7, 148), (143, 8, 149), (150, 3, 151), (150, 4, 152), (150, 5, 153), (194, 1, 195), (194, 2, 196), (194, 3, 197), (198, 5, 199), (198, 6, 200), (198, 7, 201), (202, 2, 203), (202, 3, 204), (202, 4, 205), (202, 5, 206), (202, 6, 207), (202, 7, 208), (208, 0, 209), (211, 1, 212), (211, 2, 213), (211, 3, 214), (215, 4, 216), (215, 5, 217), (215, 6, 218), (215, 8, 219), (215, 9, 220), (215, 10, 221), (215, 11, 222), (215, 13, 223), (215, 14, 224), (215, 15, 225), (215, 16, 226), (215, 17, 227), (215, 18, 228), (215, 19, 229), (215, 20, 230), (215, 21, 231), (215, 22, 232), (215, 23, 233), (215, 29, 234), (215, 31, 235), (215, 32, 236), (215, 33, 237), (215, 34, 238), (215, 35, 239), (215, 41, 240), (215, 42, 241), (215, 47, 242), (215, 48, 243), (215, 49, 244), (215, 50, 245), (215, 53, 246), (215, 54, 247), (215, 55, 248), (215, 56, 249), (215, 57, 250), (215, 58, 251), (215, 59, 252), (215, 63, 253), (215, 64, 254), (215, 65, 255), (215, 66, 256), (215, 67, 257), (215, 69, 258), (215, 70, 259)]
def j_paL : List (Nat × Nat × Nat) := [(4, 5, 16), (21, 22, 16), (42, 43, 100), (153, 154, 40)]
/-- the fixed references: of the objects, by lists; of the arrays of rows and of parties, one behind another -/
def j_Fx (lo hi : Nat) (P : Nat → Nat → Option Nat) : Prop := (∀ q ∈ j_pfL, lo ≤ q.1 → q.1 < hi → P q.1 q.2.1 = some q.2.2) ∧ ∀ q ∈ j_paL, lo ≤ q.1 → q.1 < hi → ∀ i, i < q.2.2 → P q.1 i = some (q.2.1 + i)
def j_T : List Cond := lw_tbl.filter goodWord
theorem j_in {w : Cond} (i : Nat) (h : lw_tbl[i]? = some w) (g : goodWord w = true) : w ∈ j_T := List.mem_filter.mpr ⟨List.mem_of_getElem? h, g⟩
theorem j_T_good : ∀ w ∈ j_T, (w.onTables && w.keeps) = true ∨ ∃ ty, w = .arrayClass ty := fun _ h => good_of_word (List.mem_filter.mp h).2
set_option maxRecDepth 20000 in
theorem ji_G : ∀ w ∈ u_ws jR_G jT_G 15, w ∈ j_T := fun w hw => by
  have h : (u_ws jR_G jT_G 15).all goodWord = true := by decide +kernel
  have e : u_ws jR_G jT_G 15 = [431, 433, 435, 437, 439, 441, 443, 445, 447, 449, 451, 453, 455, 457, 459].filterMap (fun i => lw_tbl[i]?) := by decide +kernel
  refine List.mem_filter.mpr ⟨?_, List.all_eq_true.mp h w hw⟩
  rw [e] at hw
  obtain ⟨i, -, hi⟩ := List.mem_filterMap.mp hw
  exact List.mem_of_getElem? hi
set_option maxRecDepth 20000 in
theorem ji_Gr : ∀ w ∈ u_ws jR_Gr jT_Gr 5, w ∈ j_T := fun w hw => by
  have h : (u_ws jR_Gr jT_Gr 5).all goodWord = true := by decide +kernel
  have e : u_ws jR_Gr jT_Gr 5 = [103, 105, 107, 109, 111].filterMap (fun i => lw_tbl[i]?) := by decide +kernel
  refine List.mem_filter.mpr ⟨?_, List.all_eq_true.mp h w hw⟩
  rw [e] at hw
  obtain ⟨i, -, hi⟩ := List.mem_filterMap.mp hw
  exact List.mem_of_getElem? hi
set_option maxRecDepth 20000 in
theorem ji_Sk : ∀ w ∈ u_ws jR_Sk jT_Sk 2, w ∈ j_T := fun w hw => by
  have h : (u_ws jR_Sk jT_Sk 2).all goodWord = true := by decide +kernel
  have e : u_ws jR_Sk jT_Sk 2 = [125, 127].filterMap (fun i => lw_tbl[i]?) := by decide +kernel
  refine List.mem_filter.mpr ⟨?_, List.all_eq_true.mp h w hw⟩
  rw [e] at hw
  obtain ⟨i, -, hi⟩ := List.mem_filterMap.mp hw
  exact List.mem_of_getElem? hi
set_option maxRecDepth 20000 in
theorem ji_Gu : ∀ w ∈ u_ws jR_Gu jT_Gu 2, w ∈ j_T := fun w hw => by
  have h : (u_ws jR_Gu jT_Gu 2).all goodWord = true := by decide +kernel
  have e : u_ws jR_Gu jT_Gu 2 = [199, 201].filterMap (fun i => lw_tbl[i]?) := by decide +kernel
  refine List.mem_filter.mpr ⟨?_, List.all_eq_true.mp h w hw⟩
  rw [e] at hw
  obtain ⟨i, -, hi⟩ := List.mem_filterMap.mp hw
  exact List.mem_of_getElem? hi
set_option maxRecDepth 20000 in
theorem ji_Pa : ∀ w ∈ u_ws jR_Pa jT_Pa 12, w ∈ j_T := fun w hw => by
  have h : (u_ws jR_Pa jT_Pa 12).all goodWord = true := by decide +kernel
  have e : u_ws jR_Pa jT_Pa 12 = [170, 172, 174, 176, 178, 180, 182, 184, 186, 188, 190, 192].filterMap (fun i => lw_tbl[i]?) := by decide +kernel
  refine List.mem_filter.mpr ⟨?_, List.all_eq_true.mp h w hw⟩
  rw [e] at hw
  obtain ⟨i, -, hi⟩ := List.mem_filterMap.mp hw
  exact List.mem_of_getElem? hi
set_option maxRecDepth 20000 in
theorem ji_Wa : ∀ w ∈ u_ws jR_Wa jT_Wa 9, w ∈ j_T := fun w hw => by
  have h : (u_ws jR_Wa jT_Wa 9).all goodWord = true := by decide +kernel
  have e : u_ws jR_Wa jT_Wa 9 = [221, 223, 225, 227, 229, 231, 233, 235, 237].filterMap (fun i => lw_tbl[i]?) := by decide +kernel
  refine List.mem_filter.mpr ⟨?_, List.all_eq_true.mp h w hw⟩
  rw [e] at hw
  obtain ⟨i, -, hi⟩ := List.mem_filterMap.mp hw
  exact List.mem_of_getElem? hi
set_option maxRecDepth 20000 in
theorem ji_La : ∀ w ∈ u_ws jR_La jT_La 6, w ∈ j_T := fun w hw => by
  have h : (u_ws jR_La jT_La 6).all goodWord = true := by decide +kernel
  have e : u_ws jR_La jT_La 6 = [257, 259, 261, 263, 265, 267].filterMap (fun i => lw_tbl[i]?) := by decide +kernel
  refine List.mem_filter.mpr ⟨?_, List.all_eq_true.mp h w hw⟩
  rw [e] at hw
  obtain ⟨i, -, hi⟩ := List.mem_filterMap.mp hw
  exact List.mem_of_getElem? hi
set_option maxRecDepth 20000 in
theorem ji_Bo : ∀ w ∈ u_ws jR_Bo jT_Bo 4, w ∈ j_T := fun w hw => by
  have h : (u_ws jR_Bo jT_Bo 4).all goodWord = true := by decide +kernel
  have e : u_ws jR_Bo jT_Bo 4 = [284, 286, 288, 290].filterMap (fun i => lw_tbl[i]?) := by decide +kernel
  refine List.mem_filter.mpr ⟨?_, List.all_eq_true.mp h w hw⟩
  rw [e] at hw
  obtain ⟨i, -, hi⟩ := List.mem_filterMap.mp hw
  exact List.mem_of_getElem? hi
set_option maxRecDepth 20000 in
theorem ji_Ki : ∀ w ∈ u_ws jR_Ki jT_Ki 8, w ∈ j_T := fun w hw => by
  have h : (u_ws jR_Ki jT_Ki 8).all goodWord = true := by decide +kernel
  have e : u_ws jR_Ki jT_Ki 8 = [314, 316, 318, 320, 322, 324, 326, 328].filterMap (fun i => lw_tbl[i]?) := by decide +kernel
  refine List.mem_filter.mpr ⟨?_, List.all_eq_true.mp h w hw⟩
  rw [e] at hw
  obtain ⟨i, -, hi⟩ := List.mem_filterMap.mp hw
  exact List.mem_of_getElem? hi
set_option maxRecDepth 20000 in
theorem ji_Pr : ∀ w ∈ u_ws jR_Pr jT_Pr 8, w ∈ j_T := fun w hw => by
  have h : (u_ws jR_Pr jT_Pr 8).all goodWord = true := by decide +kernel
  have e : u_ws jR_Pr jT_Pr 8 = [376, 378, 380, 382, 384, 386, 388, 390].filterMap (fun i => lw_tbl[i]?) := by decide +kernel
  refine List.mem_filter.mpr ⟨?_, List.all_eq_true.mp h w hw⟩
  rw [e] at hw
  obtain ⟨i, -, hi⟩ := List.mem_filterMap.mp hw
  exact List.mem_of_getElem? hi
set_option maxRecDepth 20000 in
theorem ji_Re : ∀ w ∈ u_ws jR_Re jT_Re 6, w ∈ j_T := fun w hw => by
  have h : (u_ws jR_Re jT_Re 6).all goodWord = true := by decide +kernel
  have e : u_ws jR_Re jT_Re 6 = [351, 353, 355, 357, 359, 361].filterMap (fun i => lw_tbl[i]?) := by decide +kernel
  refine List.mem_filter.mpr ⟨?_, List.all_eq_true.mp h w hw⟩
  rw [e] at hw
  obtain ⟨i, -, hi⟩ := List.mem_filterMap.mp hw
  exact List.mem_of_getElem? hi
set_option maxRecDepth 20000 in
theorem ji_Le : ∀ w ∈ u_ws jR_Le jT_Le 4, w ∈ j_T := fun w hw => by
  have h : (u_ws jR_Le jT_Le 4).all goodWord = true := by decide +kernel
  have e : u_ws jR_Le jT_Le 4 = [407, 409, 411, 413].filterMap (fun i => lw_tbl[i]?) := by decide +kernel
  refine List.mem_filter.mpr ⟨?_, List.all_eq_true.mp h w hw⟩
  rw [e] at hw
  obtain ⟨i, -, hi⟩ := List.mem_filterMap.mp hw
  exact List.mem_of_getElem? hi
set_option maxRecDepth 20000 in
theorem ji_M : ∀ w ∈ u_ws jR_M jT_M 71, w ∈ j_T := fun w hw => by
  have h : (u_ws jR_M jT_M 71).all goodWord = true := by decide +kernel
  have e : u_ws jR_M jT_M 71 = [1067, 1069, 1071, 1073, 1075, 1077, 1079, 1081, 1083, 1085, 1087, 1089, 1091, 1093, 1095, 1097, 1099, 1101, 1103, 1105, 1107, 1109, 1111, 1113, 1115, 1117, 1119, 1121, 1123, 1125, 1127, 1129, 1131, 1133, 1135, 1137, 1139, 1141, 1143, 1145, 1147, 1149, 1151, 1153, 1155, 1157, 1159, 1161, 1163, 1165, 1167, 1169, 1171, 1173, 1175, 1177, 1179, 1181, 1183, 1185, 1187, 1189, 1191, 1193, 1195, 1197, 1199, 1201, 1203, 1205, 1207].filterMap (fun i => lw_tbl[i]?) := by decide +kernel
  refine List.mem_filter.mpr ⟨?_, List.all_eq_true.mp h w hw⟩
  rw [e] at hw
  obtain ⟨i, -, hi⟩ := List.mem_filterMap.mp hw
  exact List.mem_of_getElem? hi
abbrev jb_G_init : ByteArray := prog_1_method_1_code
def jy_G_init : MethodName := ⟨"PleasureGarden", "<init>", "()V"⟩
abbrev jb_G_place : ByteArray := prog_1_method_2_code
def jy_G_place : MethodName := ⟨"PleasureGarden", "place", "(II)I"⟩
abbrev jb_G_walk : ByteArray := prog_1_method_3_code
def jy_G_walk : MethodName := ⟨"PleasureGarden", "walk", "(III)I"⟩
abbrev jb_G_way : ByteArray := prog_1_method_4_code
def jy_G_way : MethodName := ⟨"PleasureGarden", "way", "(II)I"⟩
abbrev jb_G_rain : ByteArray := prog_1_method_5_code
def jy_G_rain : MethodName := ⟨"PleasureGarden", "rain", "(II)I"⟩
abbrev jb_G_sell : ByteArray := prog_1_method_6_code
def jy_G_sell : MethodName := ⟨"PleasureGarden", "sell", "(II)I"⟩
abbrev jb_G_enter : ByteArray := prog_1_method_7_code
def jy_G_enter : MethodName := ⟨"PleasureGarden", "enter", "(II)I"⟩
abbrev jb_G_go : ByteArray := prog_1_method_8_code
def jy_G_go : MethodName := ⟨"PleasureGarden", "go", "(II)I"⟩
abbrev jb_G_leave : ByteArray := prog_1_method_9_code
def jy_G_leave : MethodName := ⟨"PleasureGarden", "leave", "(I)I"⟩
abbrev jb_G_party : ByteArray := prog_1_method_10_code
def jy_G_party : MethodName := ⟨"PleasureGarden", "party", "(II)I"⟩
abbrev jb_G_heads : ByteArray := prog_1_method_11_code
def jy_G_heads : MethodName := ⟨"PleasureGarden", "heads", "(I)I"⟩
abbrev jb_G_minutes : ByteArray := prog_1_method_12_code
def jy_G_minutes : MethodName := ⟨"PleasureGarden", "minutes", "(I)I"⟩
abbrev jb_G_lamp : ByteArray := prog_1_method_13_code
def jy_G_lamp : MethodName := ⟨"PleasureGarden", "lamp", "(I)I"⟩
abbrev jb_G_fuse : ByteArray := prog_1_method_14_code
def jy_G_fuse : MethodName := ⟨"PleasureGarden", "fuse", "(III)I"⟩
abbrev jb_G_light : ByteArray := prog_1_method_15_code
def jy_G_light : MethodName := ⟨"PleasureGarden", "light", "(II)I"⟩
abbrev jb_G_burns : ByteArray := prog_1_method_16_code
def jy_G_burns : MethodName := ⟨"PleasureGarden", "burns", "(I)I"⟩
abbrev jb_G_dark : ByteArray := prog_1_method_17_code
def jy_G_dark : MethodName := ⟨"PleasureGarden", "dark", "()I"⟩
abbrev jb_G_spent : ByteArray := prog_1_method_18_code
def jy_G_spent : MethodName := ⟨"PleasureGarden", "spent", "()I"⟩
abbrev jb_G_best : ByteArray := prog_1_method_19_code
def jy_G_best : MethodName := ⟨"PleasureGarden", "best", "(I)I"⟩
abbrev jb_G_box : ByteArray := prog_1_method_20_code
def jy_G_box : MethodName := ⟨"PleasureGarden", "box", "(II)I"⟩
abbrev jb_G_let : ByteArray := prog_1_method_21_code
def jy_G_let : MethodName := ⟨"PleasureGarden", "let", "(II)I"⟩
abbrev jb_G_rise : ByteArray := prog_1_method_22_code
def jy_G_rise : MethodName := ⟨"PleasureGarden", "rise", "(I)I"⟩
abbrev jb_G_in : ByteArray := prog_1_method_23_code
def jy_G_in : MethodName := ⟨"PleasureGarden", "in", "(I)I"⟩
abbrev jb_G_ham : ByteArray := prog_1_method_24_code
def jy_G_ham : MethodName := ⟨"PleasureGarden", "ham", "(I)I"⟩
abbrev jb_G_rule : ByteArray := prog_1_method_25_code
def jy_G_rule : MethodName := ⟨"PleasureGarden", "rule", "(II)I"⟩
abbrev jb_G_order : ByteArray := prog_1_method_26_code
def jy_G_order : MethodName := ⟨"PleasureGarden", "order", "(II)I"⟩
abbrev jb_G_feed : ByteArray := prog_1_method_27_code
def jy_G_feed : MethodName := ⟨"PleasureGarden", "feed", "(II)I"⟩
abbrev jb_G_price : ByteArray := prog_1_method_28_code
def jy_G_price : MethodName := ⟨"PleasureGarden", "price", "(II)I"⟩
abbrev jb_G_inForce : ByteArray := prog_1_method_29_code
def jy_G_inForce : MethodName := ⟨"PleasureGarden", "inForce", "(III)I"⟩
abbrev jb_G_gives : ByteArray := prog_1_method_30_code
def jy_G_gives : MethodName := ⟨"PleasureGarden", "gives", "(III)I"⟩
abbrev jb_G_close : ByteArray := prog_1_method_31_code
def jy_G_close : MethodName := ⟨"PleasureGarden", "close", "()I"⟩
abbrev jb_G_night : ByteArray := prog_1_method_32_code
def jy_G_night : MethodName := ⟨"PleasureGarden", "night", "(II)I"⟩
abbrev jb_G_foretold : ByteArray := prog_1_method_33_code
def jy_G_foretold : MethodName := ⟨"PleasureGarden", "foretold", "(I)I"⟩
abbrev jb_G_stolen : ByteArray := prog_1_method_34_code
def jy_G_stolen : MethodName := ⟨"PleasureGarden", "stolen", "(II)I"⟩
abbrev jb_G_near : ByteArray := prog_1_method_35_code
def jy_G_near : MethodName := ⟨"PleasureGarden", "near", "(I)I"⟩
abbrev jb_G_doubt : ByteArray := prog_1_method_36_code
def jy_G_doubt : MethodName := ⟨"PleasureGarden", "doubt", "(I)I"⟩
abbrev jb_G_count : ByteArray := prog_1_method_37_code
def jy_G_count : MethodName := ⟨"PleasureGarden", "count", "(I)I"⟩
abbrev jb_G_within : ByteArray := prog_1_method_38_code
def jy_G_within : MethodName := ⟨"PleasureGarden", "within", "(III)Z"⟩
abbrev jb_G_settle : ByteArray := prog_1_method_39_code
def jy_G_settle : MethodName := ⟨"PleasureGarden", "settle", "(LPleasureGarden$Party;I)V"⟩
abbrev jb_G_setOff : ByteArray := prog_1_method_40_code
def jy_G_setOff : MethodName := ⟨"PleasureGarden", "setOff", "(LPleasureGarden$Party;II)V"⟩
abbrev jb_G_showOut : ByteArray := prog_1_method_41_code
def jy_G_showOut : MethodName := ⟨"PleasureGarden", "showOut", "(LPleasureGarden$Party;)I"⟩
abbrev jb_G_quitBox : ByteArray := prog_1_method_42_code
def jy_G_quitBox : MethodName := ⟨"PleasureGarden", "quitBox", "(LPleasureGarden$Party;)V"⟩
abbrev jb_G_seatArrivals : ByteArray := prog_1_method_43_code
def jy_G_seatArrivals : MethodName := ⟨"PleasureGarden", "seatArrivals", "()V"⟩
abbrev jb_G_seekShelter : ByteArray := prog_1_method_44_code
def jy_G_seekShelter : MethodName := ⟨"PleasureGarden", "seekShelter", "()V"⟩
abbrev jb_G_serveOrders : ByteArray := prog_1_method_45_code
def jy_G_serveOrders : MethodName := ⟨"PleasureGarden", "serveOrders", "()V"⟩
abbrev jb_G_overcrowding : ByteArray := prog_1_method_46_code
def jy_G_overcrowding : MethodName := ⟨"PleasureGarden", "overcrowding", "()I"⟩
abbrev jb_G_worth : ByteArray := prog_1_method_47_code
def jy_G_worth : MethodName := ⟨"PleasureGarden", "worth", "(ILPleasureGarden$Party;I)I"⟩
abbrev jb_G_beginNight : ByteArray := prog_1_method_48_code
def jy_G_beginNight : MethodName := ⟨"PleasureGarden", "beginNight", "()V"⟩
abbrev jb_Gr_init : ByteArray := prog_3_method_1_code
def jy_Gr_init : MethodName := ⟨"PleasureGarden$Grounds", "<init>", "()V"⟩
abbrev jb_Gr_has : ByteArray := prog_3_method_2_code
def jy_Gr_has : MethodName := ⟨"PleasureGarden$Grounds", "has", "(I)Z"⟩
abbrev jb_Gr_add : ByteArray := prog_3_method_3_code
def jy_Gr_add : MethodName := ⟨"PleasureGarden$Grounds", "add", "(IZ)I"⟩
abbrev jb_Gr_setWalk : ByteArray := prog_3_method_4_code
def jy_Gr_setWalk : MethodName := ⟨"PleasureGarden$Grounds", "setWalk", "(III)I"⟩
abbrev jb_Gr_measure : ByteArray := prog_3_method_5_code
def jy_Gr_measure : MethodName := ⟨"PleasureGarden$Grounds", "measure", "()V"⟩
abbrev jb_Gr_nearestShelter : ByteArray := prog_3_method_6_code
def jy_Gr_nearestShelter : MethodName := ⟨"PleasureGarden$Grounds", "nearestShelter", "(I)I"⟩
abbrev jb_Sk_init : ByteArray := prog_11_method_1_code
def jy_Sk_init : MethodName := ⟨"PleasureGarden$Sky", "<init>", "()V"⟩
abbrev jb_Sk_add : ByteArray := prog_11_method_2_code
def jy_Sk_add : MethodName := ⟨"PleasureGarden$Sky", "add", "(II)I"⟩
abbrev jb_Sk_rains : ByteArray := prog_11_method_3_code
def jy_Sk_rains : MethodName := ⟨"PleasureGarden$Sky", "rains", "(I)Z"⟩
abbrev jb_Sk_wetMinutes : ByteArray := prog_11_method_4_code
def jy_Sk_wetMinutes : MethodName := ⟨"PleasureGarden$Sky", "wetMinutes", "(II)I"⟩
abbrev jb_Sk_clear : ByteArray := prog_11_method_5_code
def jy_Sk_clear : MethodName := ⟨"PleasureGarden$Sky", "clear", "()V"⟩
abbrev jb_Gu_init : ByteArray := prog_4_method_1_code
def jy_Gu_init : MethodName := ⟨"PleasureGarden$Guests", "<init>", "()V"⟩
abbrev jb_Gu_has : ByteArray := prog_4_method_2_code
def jy_Gu_has : MethodName := ⟨"PleasureGarden$Guests", "has", "(I)Z"⟩
abbrev jb_Gu_add : ByteArray := prog_4_method_3_code
def jy_Gu_add : MethodName := ⟨"PleasureGarden$Guests", "add", "(III)LPleasureGarden$Party;"⟩
abbrev jb_Gu_showsTwice : ByteArray := prog_4_method_4_code
def jy_Gu_showsTwice : MethodName := ⟨"PleasureGarden$Guests", "showsTwice", "(I)Z"⟩
abbrev jb_Gu_headsAt : ByteArray := prog_4_method_5_code
def jy_Gu_headsAt : MethodName := ⟨"PleasureGarden$Guests", "headsAt", "(I)I"⟩
abbrev jb_Gu_headsIn : ByteArray := prog_4_method_6_code
def jy_Gu_headsIn : MethodName := ⟨"PleasureGarden$Guests", "headsIn", "()I"⟩
abbrev jb_Gu_headsThatCame : ByteArray := prog_4_method_7_code
def jy_Gu_headsThatCame : MethodName := ⟨"PleasureGarden$Guests", "headsThatCame", "()I"⟩
abbrev jb_Pa_init : ByteArray := prog_8_method_1_code
def jy_Pa_init : MethodName := ⟨"PleasureGarden$Party", "<init>", "(I)V"⟩
abbrev jb_Pa_begin : ByteArray := prog_8_method_2_code
def jy_Pa_begin : MethodName := ⟨"PleasureGarden$Party", "begin", "(III)V"⟩
abbrev jb_Pa_isIn : ByteArray := prog_8_method_3_code
def jy_Pa_isIn : MethodName := ⟨"PleasureGarden$Party", "isIn", "()Z"⟩
abbrev jb_Pa_tell : ByteArray := prog_8_method_4_code
def jy_Pa_tell : MethodName := ⟨"PleasureGarden$Party", "tell", "(I)I"⟩
abbrev jb_Wa_init : ByteArray := prog_12_method_1_code
def jy_Wa_init : MethodName := ⟨"PleasureGarden$Watch", "<init>", "()V"⟩
abbrev jb_Wa_openStay : ByteArray := prog_12_method_2_code
def jy_Wa_openStay : MethodName := ⟨"PleasureGarden$Watch", "openStay", "(II)I"⟩
abbrev jb_Wa_endStay : ByteArray := prog_12_method_3_code
def jy_Wa_endStay : MethodName := ⟨"PleasureGarden$Watch", "endStay", "(I)V"⟩
abbrev jb_Wa_tell : ByteArray := prog_12_method_4_code
def jy_Wa_tell : MethodName := ⟨"PleasureGarden$Watch", "tell", "(II)I"⟩
abbrev jb_Wa_witnesses : ByteArray := prog_12_method_5_code
def jy_Wa_witnesses : MethodName := ⟨"PleasureGarden$Watch", "witnesses", "(I)I"⟩
abbrev jb_Wa_suspicion : ByteArray := prog_12_method_6_code
def jy_Wa_suspicion : MethodName := ⟨"PleasureGarden$Watch", "suspicion", "(I)I"⟩
abbrev jb_Wa_saw : ByteArray := prog_12_method_7_code
def jy_Wa_saw : MethodName := ⟨"PleasureGarden$Watch", "saw", "(II)Z"⟩
abbrev jb_Wa_clear : ByteArray := prog_12_method_8_code
def jy_Wa_clear : MethodName := ⟨"PleasureGarden$Watch", "clear", "()V"⟩
abbrev jb_La_init : ByteArray := prog_6_method_1_code
def jy_La_init : MethodName := ⟨"PleasureGarden$Lamps", "<init>", "()V"⟩
abbrev jb_La_has : ByteArray := prog_6_method_2_code
def jy_La_has : MethodName := ⟨"PleasureGarden$Lamps", "has", "(I)Z"⟩
abbrev jb_La_hang : ByteArray := prog_6_method_3_code
def jy_La_hang : MethodName := ⟨"PleasureGarden$Lamps", "hang", "(I)I"⟩
abbrev jb_La_join : ByteArray := prog_6_method_4_code
def jy_La_join : MethodName := ⟨"PleasureGarden$Lamps", "join", "(III)I"⟩
abbrev jb_La_secondOf : ByteArray := prog_6_method_5_code
def jy_La_secondOf : MethodName := ⟨"PleasureGarden$Lamps", "secondOf", "(III)I"⟩
abbrev jb_La_kindle : ByteArray := prog_6_method_6_code
def jy_La_kindle : MethodName := ⟨"PleasureGarden$Lamps", "kindle", "(III)I"⟩
abbrev jb_La_isLit : ByteArray := prog_6_method_7_code
def jy_La_isLit : MethodName := ⟨"PleasureGarden$Lamps", "isLit", "(I)Z"⟩
abbrev jb_La_unlit : ByteArray := prog_6_method_8_code
def jy_La_unlit : MethodName := ⟨"PleasureGarden$Lamps", "unlit", "()I"⟩
abbrev jb_La_burntOut : ByteArray := prog_6_method_9_code
def jy_La_burntOut : MethodName := ⟨"PleasureGarden$Lamps", "burntOut", "(I)I"⟩
abbrev jb_La_bestStart : ByteArray := prog_6_method_10_code
def jy_La_bestStart : MethodName := ⟨"PleasureGarden$Lamps", "bestStart", "(I)I"⟩
abbrev jb_La_costOf : ByteArray := prog_6_method_11_code
def jy_La_costOf : MethodName := ⟨"PleasureGarden$Lamps", "costOf", "(II)I"⟩
abbrev jb_La_putOut : ByteArray := prog_6_method_12_code
def jy_La_putOut : MethodName := ⟨"PleasureGarden$Lamps", "putOut", "()V"⟩
abbrev jb_Bo_init : ByteArray := prog_2_method_1_code
def jy_Bo_init : MethodName := ⟨"PleasureGarden$Boxes", "<init>", "()V"⟩
abbrev jb_Bo_has : ByteArray := prog_2_method_2_code
def jy_Bo_has : MethodName := ⟨"PleasureGarden$Boxes", "has", "(I)Z"⟩
abbrev jb_Bo_add : ByteArray := prog_2_method_3_code
def jy_Bo_add : MethodName := ⟨"PleasureGarden$Boxes", "add", "(II)I"⟩
abbrev jb_Ki_init : ByteArray := prog_5_method_1_code
def jy_Ki_init : MethodName := ⟨"PleasureGarden$Kitchen", "<init>", "()V"⟩
abbrev jb_Ki_append : ByteArray := prog_5_method_2_code
def jy_Ki_append : MethodName := ⟨"PleasureGarden$Kitchen", "append", "(IIZ)I"⟩
abbrev jb_Ki_serveFirst : ByteArray := prog_5_method_3_code
def jy_Ki_serveFirst : MethodName := ⟨"PleasureGarden$Kitchen", "serveFirst", "()Z"⟩
abbrev jb_Ki_removeFirst : ByteArray := prog_5_method_4_code
def jy_Ki_removeFirst : MethodName := ⟨"PleasureGarden$Kitchen", "removeFirst", "()V"⟩
abbrev jb_Ki_dropOrdersOf : ByteArray := prog_5_method_5_code
def jy_Ki_dropOrdersOf : MethodName := ⟨"PleasureGarden$Kitchen", "dropOrdersOf", "(I)V"⟩
abbrev jb_Ki_move : ByteArray := prog_5_method_6_code
def jy_Ki_move : MethodName := ⟨"PleasureGarden$Kitchen", "move", "(II)V"⟩
abbrev jb_Pr_init : ByteArray := prog_9_method_1_code
def jy_Pr_init : MethodName := ⟨"PleasureGarden$Prices", "<init>", "()V"⟩
abbrev jb_Pr_has : ByteArray := prog_9_method_2_code
def jy_Pr_has : MethodName := ⟨"PleasureGarden$Prices", "has", "(I)Z"⟩
abbrev jb_Pr_write : ByteArray := prog_9_method_3_code
def jy_Pr_write : MethodName := ⟨"PleasureGarden$Prices", "write", "(II)I"⟩
abbrev jb_Pr_make : ByteArray := prog_9_method_4_code
def jy_Pr_make : MethodName := ⟨"PleasureGarden$Prices", "make", "(III)I"⟩
abbrev jb_Pr_latest : ByteArray := prog_9_method_5_code
def jy_Pr_latest : MethodName := ⟨"PleasureGarden$Prices", "latest", "(III)I"⟩
abbrev jb_Pr_read : ByteArray := prog_9_method_6_code
def jy_Pr_read : MethodName := ⟨"PleasureGarden$Prices", "read", "(I)I"⟩
abbrev jb_Re_init : ByteArray := prog_10_method_1_code
def jy_Re_init : MethodName := ⟨"PleasureGarden$Reader", "<init>", "()V"⟩
abbrev jb_Re_valueOf : ByteArray := prog_10_method_2_code
def jy_Re_valueOf : MethodName := ⟨"PleasureGarden$Reader", "valueOf", "([BII)I"⟩
abbrev jb_Re_next : ByteArray := prog_10_method_3_code
def jy_Re_next : MethodName := ⟨"PleasureGarden$Reader", "next", "()I"⟩
abbrev jb_Re_take : ByteArray := prog_10_method_4_code
def jy_Re_take : MethodName := ⟨"PleasureGarden$Reader", "take", "(C)Z"⟩
abbrev jb_Re_fail : ByteArray := prog_10_method_5_code
def jy_Re_fail : MethodName := ⟨"PleasureGarden$Reader", "fail", "()V"⟩
abbrev jb_Re_expression : ByteArray := prog_10_method_6_code
def jy_Re_expression : MethodName := ⟨"PleasureGarden$Reader", "expression", "(II)I"⟩
abbrev jb_Re_operand : ByteArray := prog_10_method_7_code
def jy_Re_operand : MethodName := ⟨"PleasureGarden$Reader", "operand", "(I)I"⟩
abbrev jb_Re_number : ByteArray := prog_10_method_8_code
def jy_Re_number : MethodName := ⟨"PleasureGarden$Reader", "number", "()I"⟩
abbrev jb_Re_isDigit : ByteArray := prog_10_method_9_code
def jy_Re_isDigit : MethodName := ⟨"PleasureGarden$Reader", "isDigit", "(I)Z"⟩
abbrev jb_Re_levelOf : ByteArray := prog_10_method_10_code
def jy_Re_levelOf : MethodName := ⟨"PleasureGarden$Reader", "levelOf", "(I)I"⟩
abbrev jb_Re_joined : ByteArray := prog_10_method_11_code
def jy_Re_joined : MethodName := ⟨"PleasureGarden$Reader", "joined", "(III)I"⟩
abbrev jb_Le_init : ByteArray := prog_7_method_1_code
def jy_Le_init : MethodName := ⟨"PleasureGarden$Ledger", "<init>", "()V"⟩
abbrev jb_Le_keep : ByteArray := prog_7_method_2_code
def jy_Le_keep : MethodName := ⟨"PleasureGarden$Ledger", "keep", "(III)V"⟩
abbrev jb_Le_meanNearest : ByteArray := prog_7_method_3_code
def jy_Le_meanNearest : MethodName := ⟨"PleasureGarden$Ledger", "meanNearest", "(I)I"⟩
abbrev jb_M_init : ByteArray := prog_14_method_1_code
def jy_M_init : MethodName := ⟨"PleasureGardenModel", "<init>", "()V"⟩
abbrev jb_M_among : ByteArray := prog_14_method_3_code
def jy_M_among : MethodName := ⟨"PleasureGardenModel", "among", "(III)Z"⟩
abbrev jb_M_isPlace : ByteArray := prog_14_method_4_code
def jy_M_isPlace : MethodName := ⟨"PleasureGardenModel", "isPlace", "(I)Z"⟩
abbrev jb_M_place : ByteArray := prog_14_method_5_code
def jy_M_place : MethodName := ⟨"PleasureGardenModel", "place", "(II)I"⟩
abbrev jb_M_walk : ByteArray := prog_14_method_6_code
def jy_M_walk : MethodName := ⟨"PleasureGardenModel", "walk", "(III)I"⟩
abbrev jb_M_findFar : ByteArray := prog_14_method_7_code
def jy_M_findFar : MethodName := ⟨"PleasureGardenModel", "findFar", "(I)V"⟩
abbrev jb_M_way : ByteArray := prog_14_method_8_code
def jy_M_way : MethodName := ⟨"PleasureGardenModel", "way", "(II)I"⟩
abbrev jb_M_rain : ByteArray := prog_14_method_9_code
def jy_M_rain : MethodName := ⟨"PleasureGardenModel", "rain", "(II)I"⟩
abbrev jb_M_rainsIn : ByteArray := prog_14_method_10_code
def jy_M_rainsIn : MethodName := ⟨"PleasureGardenModel", "rainsIn", "(I)Z"⟩
abbrev jb_M_rainSince : ByteArray := prog_14_method_11_code
def jy_M_rainSince : MethodName := ⟨"PleasureGardenModel", "rainSince", "(I)I"⟩
abbrev jb_M_isParty : ByteArray := prog_14_method_12_code
def jy_M_isParty : MethodName := ⟨"PleasureGardenModel", "isParty", "(I)Z"⟩
abbrev jb_M_isTicket : ByteArray := prog_14_method_13_code
def jy_M_isTicket : MethodName := ⟨"PleasureGardenModel", "isTicket", "(I)Z"⟩
abbrev jb_M_sell : ByteArray := prog_14_method_14_code
def jy_M_sell : MethodName := ⟨"PleasureGardenModel", "sell", "(II)I"⟩
abbrev jb_M_enter : ByteArray := prog_14_method_15_code
def jy_M_enter : MethodName := ⟨"PleasureGardenModel", "enter", "(II)I"⟩
abbrev jb_M_getsUp : ByteArray := prog_14_method_16_code
def jy_M_getsUp : MethodName := ⟨"PleasureGardenModel", "getsUp", "(I)V"⟩
abbrev jb_M_goes : ByteArray := prog_14_method_17_code
def jy_M_goes : MethodName := ⟨"PleasureGardenModel", "goes", "(III)V"⟩
abbrev jb_M_go : ByteArray := prog_14_method_18_code
def jy_M_go : MethodName := ⟨"PleasureGardenModel", "go", "(II)I"⟩
abbrev jb_M_goesOut : ByteArray := prog_14_method_19_code
def jy_M_goesOut : MethodName := ⟨"PleasureGardenModel", "goesOut", "(I)V"⟩
abbrev jb_M_leave : ByteArray := prog_14_method_20_code
def jy_M_leave : MethodName := ⟨"PleasureGardenModel", "leave", "(I)I"⟩
abbrev jb_M_party : ByteArray := prog_14_method_21_code
def jy_M_party : MethodName := ⟨"PleasureGardenModel", "party", "(II)I"⟩
abbrev jb_M_headsAt : ByteArray := prog_14_method_22_code
def jy_M_headsAt : MethodName := ⟨"PleasureGardenModel", "headsAt", "(I)I"⟩
abbrev jb_M_heads : ByteArray := prog_14_method_23_code
def jy_M_heads : MethodName := ⟨"PleasureGardenModel", "heads", "(I)I"⟩
abbrev jb_M_headsIn : ByteArray := prog_14_method_24_code
def jy_M_headsIn : MethodName := ⟨"PleasureGardenModel", "headsIn", "()I"⟩
abbrev jb_M_flee : ByteArray := prog_14_method_25_code
def jy_M_flee : MethodName := ⟨"PleasureGardenModel", "flee", "(I)V"⟩
abbrev jb_M_keep : ByteArray := prog_14_method_26_code
def jy_M_keep : MethodName := ⟨"PleasureGardenModel", "keep", "()V"⟩
abbrev jb_M_minutes : ByteArray := prog_14_method_27_code
def jy_M_minutes : MethodName := ⟨"PleasureGardenModel", "minutes", "(I)I"⟩
abbrev jb_M_isLamp : ByteArray := prog_14_method_28_code
def jy_M_isLamp : MethodName := ⟨"PleasureGardenModel", "isLamp", "(I)Z"⟩
abbrev jb_M_lamp : ByteArray := prog_14_method_29_code
def jy_M_lamp : MethodName := ⟨"PleasureGardenModel", "lamp", "(I)I"⟩
abbrev jb_M_fuse : ByteArray := prog_14_method_30_code
def jy_M_fuse : MethodName := ⟨"PleasureGardenModel", "fuse", "(III)I"⟩
abbrev jb_M_find : ByteArray := prog_14_method_31_code
def jy_M_find : MethodName := ⟨"PleasureGardenModel", "find", "(II)V"⟩
abbrev jb_M_light : ByteArray := prog_14_method_32_code
def jy_M_light : MethodName := ⟨"PleasureGardenModel", "light", "(II)I"⟩
abbrev jb_M_burns : ByteArray := prog_14_method_33_code
def jy_M_burns : MethodName := ⟨"PleasureGardenModel", "burns", "(I)I"⟩
abbrev jb_M_dark : ByteArray := prog_14_method_34_code
def jy_M_dark : MethodName := ⟨"PleasureGardenModel", "dark", "()I"⟩
abbrev jb_M_spent : ByteArray := prog_14_method_35_code
def jy_M_spent : MethodName := ⟨"PleasureGardenModel", "spent", "()I"⟩
abbrev jb_M_best : ByteArray := prog_14_method_36_code
def jy_M_best : MethodName := ⟨"PleasureGardenModel", "best", "(I)I"⟩
abbrev jb_M_isBox : ByteArray := prog_14_method_37_code
def jy_M_isBox : MethodName := ⟨"PleasureGardenModel", "isBox", "(I)Z"⟩
abbrev jb_M_box : ByteArray := prog_14_method_38_code
def jy_M_box : MethodName := ⟨"PleasureGardenModel", "box", "(II)I"⟩
abbrev jb_M_whoIn : ByteArray := prog_14_method_39_code
def jy_M_whoIn : MethodName := ⟨"PleasureGardenModel", "whoIn", "(I)I"⟩
abbrev jb_M_let : ByteArray := prog_14_method_40_code
def jy_M_let : MethodName := ⟨"PleasureGardenModel", "let", "(II)I"⟩
abbrev jb_M_rise : ByteArray := prog_14_method_41_code
def jy_M_rise : MethodName := ⟨"PleasureGardenModel", "rise", "(I)I"⟩
abbrev jb_M_in : ByteArray := prog_14_method_42_code
def jy_M_in : MethodName := ⟨"PleasureGardenModel", "in", "(I)I"⟩
abbrev jb_M_ham : ByteArray := prog_14_method_43_code
def jy_M_ham : MethodName := ⟨"PleasureGardenModel", "ham", "(I)I"⟩
abbrev jb_M_rule : ByteArray := prog_14_method_44_code
def jy_M_rule : MethodName := ⟨"PleasureGardenModel", "rule", "(II)I"⟩
abbrev jb_M_order : ByteArray := prog_14_method_45_code
def jy_M_order : MethodName := ⟨"PleasureGardenModel", "order", "(II)I"⟩
abbrev jb_M_shift : ByteArray := prog_14_method_46_code
def jy_M_shift : MethodName := ⟨"PleasureGardenModel", "shift", "(II)V"⟩
abbrev jb_M_serve : ByteArray := prog_14_method_47_code
def jy_M_serve : MethodName := ⟨"PleasureGardenModel", "serve", "()V"⟩
abbrev jb_M_feed : ByteArray := prog_14_method_48_code
def jy_M_feed : MethodName := ⟨"PleasureGardenModel", "feed", "(II)I"⟩
abbrev jb_M_isName : ByteArray := prog_14_method_49_code
def jy_M_isName : MethodName := ⟨"PleasureGardenModel", "isName", "(I)Z"⟩
abbrev jb_M_signOf : ByteArray := prog_14_method_50_code
def jy_M_signOf : MethodName := ⟨"PleasureGardenModel", "signOf", "(I)I"⟩
abbrev jb_M_tight : ByteArray := prog_14_method_51_code
def jy_M_tight : MethodName := ⟨"PleasureGardenModel", "tight", "(I)I"⟩
abbrev jb_M_lay : ByteArray := prog_14_method_52_code
def jy_M_lay : MethodName := ⟨"PleasureGardenModel", "lay", "(III)V"⟩
abbrev jb_M_done : ByteArray := prog_14_method_53_code
def jy_M_done : MethodName := ⟨"PleasureGardenModel", "done", "(II)V"⟩
abbrev jb_M_opened : ByteArray := prog_14_method_54_code
def jy_M_opened : MethodName := ⟨"PleasureGardenModel", "opened", "()I"⟩
abbrev jb_M_operand : ByteArray := prog_14_method_55_code
def jy_M_operand : MethodName := ⟨"PleasureGardenModel", "operand", "(I)Z"⟩
abbrev jb_M_parse : ByteArray := prog_14_method_56_code
def jy_M_parse : MethodName := ⟨"PleasureGardenModel", "parse", "(I)I"⟩
abbrev jb_M_isNight : ByteArray := prog_14_method_57_code
def jy_M_isNight : MethodName := ⟨"PleasureGardenModel", "isNight", "(I)Z"⟩
abbrev jb_M_price : ByteArray := prog_14_method_58_code
def jy_M_price : MethodName := ⟨"PleasureGardenModel", "price", "(II)I"⟩
abbrev jb_M_forceOn : ByteArray := prog_14_method_59_code
def jy_M_forceOn : MethodName := ⟨"PleasureGardenModel", "forceOn", "(III)I"⟩
abbrev jb_M_inForce : ByteArray := prog_14_method_60_code
def jy_M_inForce : MethodName := ⟨"PleasureGardenModel", "inForce", "(III)I"⟩
abbrev jb_M_both : ByteArray := prog_14_method_61_code
def jy_M_both : MethodName := ⟨"PleasureGardenModel", "both", "(III)I"⟩
abbrev jb_M_says : ByteArray := prog_14_method_62_code
def jy_M_says : MethodName := ⟨"PleasureGardenModel", "says", "(I)I"⟩
abbrev jb_M_coinsBy : ByteArray := prog_14_method_63_code
def jy_M_coinsBy : MethodName := ⟨"PleasureGardenModel", "coinsBy", "(III)I"⟩
abbrev jb_M_tonight : ByteArray := prog_14_method_64_code
def jy_M_tonight : MethodName := ⟨"PleasureGardenModel", "tonight", "(III)I"⟩
abbrev jb_M_gives : ByteArray := prog_14_method_65_code
def jy_M_gives : MethodName := ⟨"PleasureGardenModel", "gives", "(III)I"⟩
abbrev jb_M_close : ByteArray := prog_14_method_66_code
def jy_M_close : MethodName := ⟨"PleasureGardenModel", "close", "()I"⟩
abbrev jb_M_night : ByteArray := prog_14_method_67_code
def jy_M_night : MethodName := ⟨"PleasureGardenModel", "night", "(II)I"⟩
abbrev jb_M_off : ByteArray := prog_14_method_68_code
def jy_M_off : MethodName := ⟨"PleasureGardenModel", "off", "(II)I"⟩
abbrev jb_M_foretold : ByteArray := prog_14_method_69_code
def jy_M_foretold : MethodName := ⟨"PleasureGardenModel", "foretold", "(I)I"⟩
abbrev jb_M_stolen : ByteArray := prog_14_method_70_code
def jy_M_stolen : MethodName := ⟨"PleasureGardenModel", "stolen", "(II)I"⟩
abbrev jb_M_isNear : ByteArray := prog_14_method_71_code
def jy_M_isNear : MethodName := ⟨"PleasureGardenModel", "isNear", "(II)Z"⟩
abbrev jb_M_near : ByteArray := prog_14_method_72_code
def jy_M_near : MethodName := ⟨"PleasureGardenModel", "near", "(I)I"⟩
abbrev jb_M_doubt : ByteArray := prog_14_method_73_code
def jy_M_doubt : MethodName := ⟨"PleasureGardenModel", "doubt", "(I)I"⟩
abbrev jb_M_count : ByteArray := prog_14_method_74_code
def jy_M_count : MethodName := ⟨"PleasureGardenModel", "count", "(I)I"⟩
theorem jqc_G_init : Cond.code jy_G_init jb_G_init 1 none ∈ j_T := j_in 74 (by decide +kernel) (by decide +kernel)
theorem jqi_G_init : Cond.instanceMethod jy_G_init ∈ j_T := j_in 73 (by decide +kernel) (by decide +kernel)
theorem jqc_G_place : Cond.code jy_G_place jb_G_place 3 (some .int) ∈ j_T := j_in 465 (by decide +kernel) (by decide +kernel)
theorem jqi_G_place : Cond.instanceMethod jy_G_place ∈ j_T := j_in 463 (by decide +kernel) (by decide +kernel)
theorem jqv_G_place : Cond.selects "PleasureGarden" jy_G_place jy_G_place ∈ j_T := j_in 464 (by decide +kernel) (by decide +kernel)
theorem jqc_G_walk : Cond.code jy_G_walk jb_G_walk 4 (some .int) ∈ j_T := j_in 476 (by decide +kernel) (by decide +kernel)
theorem jqi_G_walk : Cond.instanceMethod jy_G_walk ∈ j_T := j_in 474 (by decide +kernel) (by decide +kernel)
theorem jqv_G_walk : Cond.selects "PleasureGarden" jy_G_walk jy_G_walk ∈ j_T := j_in 475 (by decide +kernel) (by decide +kernel)
theorem jqc_G_way : Cond.code jy_G_way jb_G_way 4 (some .int) ∈ j_T := j_in 488 (by decide +kernel) (by decide +kernel)
theorem jqi_G_way : Cond.instanceMethod jy_G_way ∈ j_T := j_in 486 (by decide +kernel) (by decide +kernel)
theorem jqv_G_way : Cond.selects "PleasureGarden" jy_G_way jy_G_way ∈ j_T := j_in 487 (by decide +kernel) (by decide +kernel)
theorem jqc_G_rain : Cond.code jy_G_rain jb_G_rain 3 (some .int) ∈ j_T := j_in 493 (by decide +kernel) (by decide +kernel)
theorem jqi_G_rain : Cond.instanceMethod jy_G_rain ∈ j_T := j_in 491 (by decide +kernel) (by decide +kernel)
theorem jqv_G_rain : Cond.selects "PleasureGarden" jy_G_rain jy_G_rain ∈ j_T := j_in 492 (by decide +kernel) (by decide +kernel)
theorem jqc_G_sell : Cond.code jy_G_sell jb_G_sell 5 (some .int) ∈ j_T := j_in 501 (by decide +kernel) (by decide +kernel)
theorem jqi_G_sell : Cond.instanceMethod jy_G_sell ∈ j_T := j_in 499 (by decide +kernel) (by decide +kernel)
theorem jqv_G_sell : Cond.selects "PleasureGarden" jy_G_sell jy_G_sell ∈ j_T := j_in 500 (by decide +kernel) (by decide +kernel)
theorem jqc_G_enter : Cond.code jy_G_enter jb_G_enter 4 (some .int) ∈ j_T := j_in 505 (by decide +kernel) (by decide +kernel)
theorem jqi_G_enter : Cond.instanceMethod jy_G_enter ∈ j_T := j_in 503 (by decide +kernel) (by decide +kernel)
theorem jqv_G_enter : Cond.selects "PleasureGarden" jy_G_enter jy_G_enter ∈ j_T := j_in 504 (by decide +kernel) (by decide +kernel)
theorem jqc_G_go : Cond.code jy_G_go jb_G_go 5 (some .int) ∈ j_T := j_in 689 (by decide +kernel) (by decide +kernel)
theorem jqi_G_go : Cond.instanceMethod jy_G_go ∈ j_T := j_in 687 (by decide +kernel) (by decide +kernel)
theorem jqv_G_go : Cond.selects "PleasureGarden" jy_G_go jy_G_go ∈ j_T := j_in 688 (by decide +kernel) (by decide +kernel)
theorem jqc_G_leave : Cond.code jy_G_leave jb_G_leave 3 (some .int) ∈ j_T := j_in 721 (by decide +kernel) (by decide +kernel)
theorem jqi_G_leave : Cond.instanceMethod jy_G_leave ∈ j_T := j_in 719 (by decide +kernel) (by decide +kernel)
theorem jqv_G_leave : Cond.selects "PleasureGarden" jy_G_leave jy_G_leave ∈ j_T := j_in 720 (by decide +kernel) (by decide +kernel)
theorem jqc_G_party : Cond.code jy_G_party jb_G_party 3 (some .int) ∈ j_T := j_in 729 (by decide +kernel) (by decide +kernel)
theorem jqi_G_party : Cond.instanceMethod jy_G_party ∈ j_T := j_in 727 (by decide +kernel) (by decide +kernel)
theorem jqv_G_party : Cond.selects "PleasureGarden" jy_G_party jy_G_party ∈ j_T := j_in 728 (by decide +kernel) (by decide +kernel)
theorem jqc_G_heads : Cond.code jy_G_heads jb_G_heads 2 (some .int) ∈ j_T := j_in 737 (by decide +kernel) (by decide +kernel)
theorem jqi_G_heads : Cond.instanceMethod jy_G_heads ∈ j_T := j_in 735 (by decide +kernel) (by decide +kernel)
theorem jqv_G_heads : Cond.selects "PleasureGarden" jy_G_heads jy_G_heads ∈ j_T := j_in 736 (by decide +kernel) (by decide +kernel)
theorem jqc_G_minutes : Cond.code jy_G_minutes jb_G_minutes 4 (some .int) ∈ j_T := j_in 745 (by decide +kernel) (by decide +kernel)
theorem jqi_G_minutes : Cond.instanceMethod jy_G_minutes ∈ j_T := j_in 743 (by decide +kernel) (by decide +kernel)
theorem jqv_G_minutes : Cond.selects "PleasureGarden" jy_G_minutes jy_G_minutes ∈ j_T := j_in 744 (by decide +kernel) (by decide +kernel)
theorem jqc_G_lamp : Cond.code jy_G_lamp jb_G_lamp 2 (some .int) ∈ j_T := j_in 783 (by decide +kernel) (by decide +kernel)
theorem jqi_G_lamp : Cond.instanceMethod jy_G_lamp ∈ j_T := j_in 781 (by decide +kernel) (by decide +kernel)
theorem jqv_G_lamp : Cond.selects "PleasureGarden" jy_G_lamp jy_G_lamp ∈ j_T := j_in 782 (by decide +kernel) (by decide +kernel)
theorem jqc_G_fuse : Cond.code jy_G_fuse jb_G_fuse 4 (some .int) ∈ j_T := j_in 791 (by decide +kernel) (by decide +kernel)
theorem jqi_G_fuse : Cond.instanceMethod jy_G_fuse ∈ j_T := j_in 789 (by decide +kernel) (by decide +kernel)
theorem jqv_G_fuse : Cond.selects "PleasureGarden" jy_G_fuse jy_G_fuse ∈ j_T := j_in 790 (by decide +kernel) (by decide +kernel)
theorem jqc_G_light : Cond.code jy_G_light jb_G_light 3 (some .int) ∈ j_T := j_in 804 (by decide +kernel) (by decide +kernel)
theorem jqi_G_light : Cond.instanceMethod jy_G_light ∈ j_T := j_in 802 (by decide +kernel) (by decide +kernel)
theorem jqv_G_light : Cond.selects "PleasureGarden" jy_G_light jy_G_light ∈ j_T := j_in 803 (by decide +kernel) (by decide +kernel)
theorem jqc_G_burns : Cond.code jy_G_burns jb_G_burns 2 (some .int) ∈ j_T := j_in 817 (by decide +kernel) (by decide +kernel)
theorem jqi_G_burns : Cond.instanceMethod jy_G_burns ∈ j_T := j_in 815 (by decide +kernel) (by decide +kernel)
theorem jqv_G_burns : Cond.selects "PleasureGarden" jy_G_burns jy_G_burns ∈ j_T := j_in 816 (by decide +kernel) (by decide +kernel)
theorem jqc_G_dark : Cond.code jy_G_dark jb_G_dark 1 (some .int) ∈ j_T := j_in 825 (by decide +kernel) (by decide +kernel)
theorem jqi_G_dark : Cond.instanceMethod jy_G_dark ∈ j_T := j_in 823 (by decide +kernel) (by decide +kernel)
theorem jqv_G_dark : Cond.selects "PleasureGarden" jy_G_dark jy_G_dark ∈ j_T := j_in 824 (by decide +kernel) (by decide +kernel)
theorem jqc_G_spent : Cond.code jy_G_spent jb_G_spent 1 (some .int) ∈ j_T := j_in 834 (by decide +kernel) (by decide +kernel)
theorem jqi_G_spent : Cond.instanceMethod jy_G_spent ∈ j_T := j_in 832 (by decide +kernel) (by decide +kernel)
theorem jqv_G_spent : Cond.selects "PleasureGarden" jy_G_spent jy_G_spent ∈ j_T := j_in 833 (by decide +kernel) (by decide +kernel)
theorem jqc_G_best : Cond.code jy_G_best jb_G_best 2 (some .int) ∈ j_T := j_in 842 (by decide +kernel) (by decide +kernel)
theorem jqi_G_best : Cond.instanceMethod jy_G_best ∈ j_T := j_in 840 (by decide +kernel) (by decide +kernel)
theorem jqv_G_best : Cond.selects "PleasureGarden" jy_G_best jy_G_best ∈ j_T := j_in 841 (by decide +kernel) (by decide +kernel)
theorem jqc_G_box : Cond.code jy_G_box jb_G_box 3 (some .int) ∈ j_T := j_in 854 (by decide +kernel) (by decide +kernel)
theorem jqi_G_box : Cond.instanceMethod jy_G_box ∈ j_T := j_in 852 (by decide +kernel) (by decide +kernel)
theorem jqv_G_box : Cond.selects "PleasureGarden" jy_G_box jy_G_box ∈ j_T := j_in 853 (by decide +kernel) (by decide +kernel)
theorem jqc_G_let : Cond.code jy_G_let jb_G_let 5 (some .int) ∈ j_T := j_in 862 (by decide +kernel) (by decide +kernel)
theorem jqi_G_let : Cond.instanceMethod jy_G_let ∈ j_T := j_in 860 (by decide +kernel) (by decide +kernel)
theorem jqv_G_let : Cond.selects "PleasureGarden" jy_G_let jy_G_let ∈ j_T := j_in 861 (by decide +kernel) (by decide +kernel)
theorem jqc_G_rise : Cond.code jy_G_rise jb_G_rise 4 (some .int) ∈ j_T := j_in 866 (by decide +kernel) (by decide +kernel)
theorem jqi_G_rise : Cond.instanceMethod jy_G_rise ∈ j_T := j_in 864 (by decide +kernel) (by decide +kernel)
theorem jqv_G_rise : Cond.selects "PleasureGarden" jy_G_rise jy_G_rise ∈ j_T := j_in 865 (by decide +kernel) (by decide +kernel)
theorem jqc_G_in : Cond.code jy_G_in jb_G_in 2 (some .int) ∈ j_T := j_in 870 (by decide +kernel) (by decide +kernel)
theorem jqi_G_in : Cond.instanceMethod jy_G_in ∈ j_T := j_in 868 (by decide +kernel) (by decide +kernel)
theorem jqv_G_in : Cond.selects "PleasureGarden" jy_G_in jy_G_in ∈ j_T := j_in 869 (by decide +kernel) (by decide +kernel)
theorem jqc_G_ham : Cond.code jy_G_ham jb_G_ham 2 (some .int) ∈ j_T := j_in 874 (by decide +kernel) (by decide +kernel)
theorem jqi_G_ham : Cond.instanceMethod jy_G_ham ∈ j_T := j_in 872 (by decide +kernel) (by decide +kernel)
theorem jqv_G_ham : Cond.selects "PleasureGarden" jy_G_ham jy_G_ham ∈ j_T := j_in 873 (by decide +kernel) (by decide +kernel)
theorem jqc_G_rule : Cond.code jy_G_rule jb_G_rule 4 (some .int) ∈ j_T := j_in 879 (by decide +kernel) (by decide +kernel)
theorem jqi_G_rule : Cond.instanceMethod jy_G_rule ∈ j_T := j_in 877 (by decide +kernel) (by decide +kernel)
theorem jqv_G_rule : Cond.selects "PleasureGarden" jy_G_rule jy_G_rule ∈ j_T := j_in 878 (by decide +kernel) (by decide +kernel)
theorem jqc_G_order : Cond.code jy_G_order jb_G_order 3 (some .int) ∈ j_T := j_in 883 (by decide +kernel) (by decide +kernel)
theorem jqi_G_order : Cond.instanceMethod jy_G_order ∈ j_T := j_in 881 (by decide +kernel) (by decide +kernel)
theorem jqv_G_order : Cond.selects "PleasureGarden" jy_G_order jy_G_order ∈ j_T := j_in 882 (by decide +kernel) (by decide +kernel)
theorem jqc_G_feed : Cond.code jy_G_feed jb_G_feed 3 (some .int) ∈ j_T := j_in 888 (by decide +kernel) (by decide +kernel)
theorem jqi_G_feed : Cond.instanceMethod jy_G_feed ∈ j_T := j_in 886 (by decide +kernel) (by decide +kernel)
theorem jqv_G_feed : Cond.selects "PleasureGarden" jy_G_feed jy_G_feed ∈ j_T := j_in 887 (by decide +kernel) (by decide +kernel)
theorem jqc_G_price : Cond.code jy_G_price jb_G_price 3 (some .int) ∈ j_T := j_in 896 (by decide +kernel) (by decide +kernel)
theorem jqi_G_price : Cond.instanceMethod jy_G_price ∈ j_T := j_in 894 (by decide +kernel) (by decide +kernel)
theorem jqv_G_price : Cond.selects "PleasureGarden" jy_G_price jy_G_price ∈ j_T := j_in 895 (by decide +kernel) (by decide +kernel)
theorem jqc_G_inForce : Cond.code jy_G_inForce jb_G_inForce 5 (some .int) ∈ j_T := j_in 904 (by decide +kernel) (by decide +kernel)
theorem jqi_G_inForce : Cond.instanceMethod jy_G_inForce ∈ j_T := j_in 902 (by decide +kernel) (by decide +kernel)
theorem jqv_G_inForce : Cond.selects "PleasureGarden" jy_G_inForce jy_G_inForce ∈ j_T := j_in 903 (by decide +kernel) (by decide +kernel)
theorem jqc_G_gives : Cond.code jy_G_gives jb_G_gives 4 (some .int) ∈ j_T := j_in 908 (by decide +kernel) (by decide +kernel)
theorem jqi_G_gives : Cond.instanceMethod jy_G_gives ∈ j_T := j_in 906 (by decide +kernel) (by decide +kernel)
theorem jqv_G_gives : Cond.selects "PleasureGarden" jy_G_gives jy_G_gives ∈ j_T := j_in 907 (by decide +kernel) (by decide +kernel)
theorem jqc_G_close : Cond.code jy_G_close jb_G_close 2 (some .int) ∈ j_T := j_in 913 (by decide +kernel) (by decide +kernel)
theorem jqi_G_close : Cond.instanceMethod jy_G_close ∈ j_T := j_in 911 (by decide +kernel) (by decide +kernel)
theorem jqv_G_close : Cond.selects "PleasureGarden" jy_G_close jy_G_close ∈ j_T := j_in 912 (by decide +kernel) (by decide +kernel)
theorem jqc_G_night : Cond.code jy_G_night jb_G_night 3 (some .int) ∈ j_T := j_in 942 (by decide +kernel) (by decide +kernel)
theorem jqi_G_night : Cond.instanceMethod jy_G_night ∈ j_T := j_in 940 (by decide +kernel) (by decide +kernel)
theorem jqv_G_night : Cond.selects "PleasureGarden" jy_G_night jy_G_night ∈ j_T := j_in 941 (by decide +kernel) (by decide +kernel)
theorem jqc_G_foretold : Cond.code jy_G_foretold jb_G_foretold 2 (some .int) ∈ j_T := j_in 946 (by decide +kernel) (by decide +kernel)
theorem jqi_G_foretold : Cond.instanceMethod jy_G_foretold ∈ j_T := j_in 944 (by decide +kernel) (by decide +kernel)
theorem jqv_G_foretold : Cond.selects "PleasureGarden" jy_G_foretold jy_G_foretold ∈ j_T := j_in 945 (by decide +kernel) (by decide +kernel)
theorem jqc_G_stolen : Cond.code jy_G_stolen jb_G_stolen 3 (some .int) ∈ j_T := j_in 961 (by decide +kernel) (by decide +kernel)
theorem jqi_G_stolen : Cond.instanceMethod jy_G_stolen ∈ j_T := j_in 959 (by decide +kernel) (by decide +kernel)
theorem jqv_G_stolen : Cond.selects "PleasureGarden" jy_G_stolen jy_G_stolen ∈ j_T := j_in 960 (by decide +kernel) (by decide +kernel)
theorem jqc_G_near : Cond.code jy_G_near jb_G_near 2 (some .int) ∈ j_T := j_in 969 (by decide +kernel) (by decide +kernel)
theorem jqi_G_near : Cond.instanceMethod jy_G_near ∈ j_T := j_in 967 (by decide +kernel) (by decide +kernel)
theorem jqv_G_near : Cond.selects "PleasureGarden" jy_G_near jy_G_near ∈ j_T := j_in 968 (by decide +kernel) (by decide +kernel)
theorem jqc_G_doubt : Cond.code jy_G_doubt jb_G_doubt 2 (some .int) ∈ j_T := j_in 981 (by decide +kernel) (by decide +kernel)
theorem jqi_G_doubt : Cond.instanceMethod jy_G_doubt ∈ j_T := j_in 979 (by decide +kernel) (by decide +kernel)
theorem jqv_G_doubt : Cond.selects "PleasureGarden" jy_G_doubt jy_G_doubt ∈ j_T := j_in 980 (by decide +kernel) (by decide +kernel)
theorem jqc_G_count : Cond.code jy_G_count jb_G_count 2 (some .int) ∈ j_T := j_in 989 (by decide +kernel) (by decide +kernel)
theorem jqi_G_count : Cond.instanceMethod jy_G_count ∈ j_T := j_in 987 (by decide +kernel) (by decide +kernel)
theorem jqv_G_count : Cond.selects "PleasureGarden" jy_G_count jy_G_count ∈ j_T := j_in 988 (by decide +kernel) (by decide +kernel)
theorem jqc_G_within : Cond.code jy_G_within jb_G_within 3 (some .boolean) ∈ j_T := j_in 468 (by decide +kernel) (by decide +kernel)
theorem jqs_G_within : Cond.static jy_G_within ∈ j_T := j_in 467 (by decide +kernel) (by decide +kernel)
theorem jqc_G_settle : Cond.code jy_G_settle jb_G_settle 3 none ∈ j_T := j_in 525 (by decide +kernel) (by decide +kernel)
theorem jqi_G_settle : Cond.instanceMethod jy_G_settle ∈ j_T := j_in 524 (by decide +kernel) (by decide +kernel)
theorem jqv_G_settle : Cond.selects "PleasureGarden" jy_G_settle jy_G_settle ∈ j_T := j_in 1 (by decide +kernel) (by decide +kernel)
theorem jqc_G_setOff : Cond.code jy_G_setOff jb_G_setOff 4 none ∈ j_T := j_in 697 (by decide +kernel) (by decide +kernel)
theorem jqi_G_setOff : Cond.instanceMethod jy_G_setOff ∈ j_T := j_in 696 (by decide +kernel) (by decide +kernel)
theorem jqv_G_setOff : Cond.selects "PleasureGarden" jy_G_setOff jy_G_setOff ∈ j_T := j_in 9 (by decide +kernel) (by decide +kernel)
theorem jqc_G_showOut : Cond.code jy_G_showOut jb_G_showOut 3 (some .int) ∈ j_T := j_in 725 (by decide +kernel) (by decide +kernel)
theorem jqi_G_showOut : Cond.instanceMethod jy_G_showOut ∈ j_T := j_in 724 (by decide +kernel) (by decide +kernel)
theorem jqv_G_showOut : Cond.selects "PleasureGarden" jy_G_showOut jy_G_showOut ∈ j_T := j_in 12 (by decide +kernel) (by decide +kernel)
theorem jqc_G_quitBox : Cond.code jy_G_quitBox jb_G_quitBox 2 none ∈ j_T := j_in 701 (by decide +kernel) (by decide +kernel)
theorem jqi_G_quitBox : Cond.instanceMethod jy_G_quitBox ∈ j_T := j_in 700 (by decide +kernel) (by decide +kernel)
theorem jqv_G_quitBox : Cond.selects "PleasureGarden" jy_G_quitBox jy_G_quitBox ∈ j_T := j_in 10 (by decide +kernel) (by decide +kernel)
theorem jqc_G_seatArrivals : Cond.code jy_G_seatArrivals jb_G_seatArrivals 3 none ∈ j_T := j_in 749 (by decide +kernel) (by decide +kernel)
theorem jqi_G_seatArrivals : Cond.instanceMethod jy_G_seatArrivals ∈ j_T := j_in 748 (by decide +kernel) (by decide +kernel)
theorem jqv_G_seatArrivals : Cond.selects "PleasureGarden" jy_G_seatArrivals jy_G_seatArrivals ∈ j_T := j_in 13 (by decide +kernel) (by decide +kernel)
theorem jqc_G_seekShelter : Cond.code jy_G_seekShelter jb_G_seekShelter 5 none ∈ j_T := j_in 753 (by decide +kernel) (by decide +kernel)
theorem jqi_G_seekShelter : Cond.instanceMethod jy_G_seekShelter ∈ j_T := j_in 752 (by decide +kernel) (by decide +kernel)
theorem jqv_G_seekShelter : Cond.selects "PleasureGarden" jy_G_seekShelter jy_G_seekShelter ∈ j_T := j_in 14 (by decide +kernel) (by decide +kernel)
theorem jqc_G_serveOrders : Cond.code jy_G_serveOrders jb_G_serveOrders 7 none ∈ j_T := j_in 761 (by decide +kernel) (by decide +kernel)
theorem jqi_G_serveOrders : Cond.instanceMethod jy_G_serveOrders ∈ j_T := j_in 760 (by decide +kernel) (by decide +kernel)
theorem jqv_G_serveOrders : Cond.selects "PleasureGarden" jy_G_serveOrders jy_G_serveOrders ∈ j_T := j_in 15 (by decide +kernel) (by decide +kernel)
theorem jqc_G_overcrowding : Cond.code jy_G_overcrowding jb_G_overcrowding 3 (some .int) ∈ j_T := j_in 778 (by decide +kernel) (by decide +kernel)
theorem jqi_G_overcrowding : Cond.instanceMethod jy_G_overcrowding ∈ j_T := j_in 777 (by decide +kernel) (by decide +kernel)
theorem jqv_G_overcrowding : Cond.selects "PleasureGarden" jy_G_overcrowding jy_G_overcrowding ∈ j_T := j_in 17 (by decide +kernel) (by decide +kernel)
theorem jqc_G_worth : Cond.code jy_G_worth jb_G_worth 5 (some .int) ∈ j_T := j_in 537 (by decide +kernel) (by decide +kernel)
theorem jqi_G_worth : Cond.instanceMethod jy_G_worth ∈ j_T := j_in 536 (by decide +kernel) (by decide +kernel)
theorem jqv_G_worth : Cond.selects "PleasureGarden" jy_G_worth jy_G_worth ∈ j_T := j_in 2 (by decide +kernel) (by decide +kernel)
theorem jqc_G_beginNight : Cond.code jy_G_beginNight jb_G_beginNight 1 none ∈ j_T := j_in 926 (by decide +kernel) (by decide +kernel)
theorem jqi_G_beginNight : Cond.instanceMethod jy_G_beginNight ∈ j_T := j_in 925 (by decide +kernel) (by decide +kernel)
theorem jqv_G_beginNight : Cond.selects "PleasureGarden" jy_G_beginNight jy_G_beginNight ∈ j_T := j_in 20 (by decide +kernel) (by decide +kernel)
theorem jqc_Gr_init : Cond.code jy_Gr_init jb_Gr_init 1 none ∈ j_T := j_in 82 (by decide +kernel) (by decide +kernel)
theorem jqi_Gr_init : Cond.instanceMethod jy_Gr_init ∈ j_T := j_in 81 (by decide +kernel) (by decide +kernel)
theorem jqc_Gr_has : Cond.code jy_Gr_has jb_Gr_has 2 (some .boolean) ∈ j_T := j_in 480 (by decide +kernel) (by decide +kernel)
theorem jqi_Gr_has : Cond.instanceMethod jy_Gr_has ∈ j_T := j_in 478 (by decide +kernel) (by decide +kernel)
theorem jqv_Gr_has : Cond.selects "PleasureGarden$Grounds" jy_Gr_has jy_Gr_has ∈ j_T := j_in 479 (by decide +kernel) (by decide +kernel)
theorem jqc_Gr_add : Cond.code jy_Gr_add jb_Gr_add 3 (some .int) ∈ j_T := j_in 472 (by decide +kernel) (by decide +kernel)
theorem jqi_Gr_add : Cond.instanceMethod jy_Gr_add ∈ j_T := j_in 470 (by decide +kernel) (by decide +kernel)
theorem jqv_Gr_add : Cond.selects "PleasureGarden$Grounds" jy_Gr_add jy_Gr_add ∈ j_T := j_in 471 (by decide +kernel) (by decide +kernel)
theorem jqc_Gr_setWalk : Cond.code jy_Gr_setWalk jb_Gr_setWalk 5 (some .int) ∈ j_T := j_in 484 (by decide +kernel) (by decide +kernel)
theorem jqi_Gr_setWalk : Cond.instanceMethod jy_Gr_setWalk ∈ j_T := j_in 482 (by decide +kernel) (by decide +kernel)
theorem jqv_Gr_setWalk : Cond.selects "PleasureGarden$Grounds" jy_Gr_setWalk jy_Gr_setWalk ∈ j_T := j_in 483 (by decide +kernel) (by decide +kernel)
theorem jqc_Gr_measure : Cond.code jy_Gr_measure jb_Gr_measure 4 none ∈ j_T := j_in 89 (by decide +kernel) (by decide +kernel)
theorem jqi_Gr_measure : Cond.instanceMethod jy_Gr_measure ∈ j_T := j_in 88 (by decide +kernel) (by decide +kernel)
theorem jqv_Gr_measure : Cond.selects "PleasureGarden$Grounds" jy_Gr_measure jy_Gr_measure ∈ j_T := j_in 0 (by decide +kernel) (by decide +kernel)
theorem jqc_Gr_nearestShelter : Cond.code jy_Gr_nearestShelter jb_Gr_nearestShelter 5 (some .int) ∈ j_T := j_in 757 (by decide +kernel) (by decide +kernel)
theorem jqi_Gr_nearestShelter : Cond.instanceMethod jy_Gr_nearestShelter ∈ j_T := j_in 755 (by decide +kernel) (by decide +kernel)
theorem jqv_Gr_nearestShelter : Cond.selects "PleasureGarden$Grounds" jy_Gr_nearestShelter jy_Gr_nearestShelter ∈ j_T := j_in 756 (by decide +kernel) (by decide +kernel)
theorem jqc_Sk_init : Cond.code jy_Sk_init jb_Sk_init 1 none ∈ j_T := j_in 120 (by decide +kernel) (by decide +kernel)
theorem jqi_Sk_init : Cond.instanceMethod jy_Sk_init ∈ j_T := j_in 119 (by decide +kernel) (by decide +kernel)
theorem jqc_Sk_add : Cond.code jy_Sk_add jb_Sk_add 4 (some .int) ∈ j_T := j_in 497 (by decide +kernel) (by decide +kernel)
theorem jqi_Sk_add : Cond.instanceMethod jy_Sk_add ∈ j_T := j_in 495 (by decide +kernel) (by decide +kernel)
theorem jqv_Sk_add : Cond.selects "PleasureGarden$Sky" jy_Sk_add jy_Sk_add ∈ j_T := j_in 496 (by decide +kernel) (by decide +kernel)
theorem jqc_Sk_rains : Cond.code jy_Sk_rains jb_Sk_rains 2 (some .boolean) ∈ j_T := j_in 545 (by decide +kernel) (by decide +kernel)
theorem jqi_Sk_rains : Cond.instanceMethod jy_Sk_rains ∈ j_T := j_in 543 (by decide +kernel) (by decide +kernel)
theorem jqv_Sk_rains : Cond.selects "PleasureGarden$Sky" jy_Sk_rains jy_Sk_rains ∈ j_T := j_in 544 (by decide +kernel) (by decide +kernel)
theorem jqc_Sk_wetMinutes : Cond.code jy_Sk_wetMinutes jb_Sk_wetMinutes 5 (some .int) ∈ j_T := j_in 550 (by decide +kernel) (by decide +kernel)
theorem jqi_Sk_wetMinutes : Cond.instanceMethod jy_Sk_wetMinutes ∈ j_T := j_in 548 (by decide +kernel) (by decide +kernel)
theorem jqv_Sk_wetMinutes : Cond.selects "PleasureGarden$Sky" jy_Sk_wetMinutes jy_Sk_wetMinutes ∈ j_T := j_in 549 (by decide +kernel) (by decide +kernel)
theorem jqc_Sk_clear : Cond.code jy_Sk_clear jb_Sk_clear 2 none ∈ j_T := j_in 930 (by decide +kernel) (by decide +kernel)
theorem jqi_Sk_clear : Cond.instanceMethod jy_Sk_clear ∈ j_T := j_in 928 (by decide +kernel) (by decide +kernel)
theorem jqv_Sk_clear : Cond.selects "PleasureGarden$Sky" jy_Sk_clear jy_Sk_clear ∈ j_T := j_in 929 (by decide +kernel) (by decide +kernel)
theorem jqc_Gu_init : Cond.code jy_Gu_init jb_Gu_init 2 none ∈ j_T := j_in 134 (by decide +kernel) (by decide +kernel)
theorem jqi_Gu_init : Cond.instanceMethod jy_Gu_init ∈ j_T := j_in 133 (by decide +kernel) (by decide +kernel)
theorem jqc_Gu_has : Cond.code jy_Gu_has jb_Gu_has 2 (some .boolean) ∈ j_T := j_in 693 (by decide +kernel) (by decide +kernel)
theorem jqi_Gu_has : Cond.instanceMethod jy_Gu_has ∈ j_T := j_in 691 (by decide +kernel) (by decide +kernel)
theorem jqv_Gu_has : Cond.selects "PleasureGarden$Guests" jy_Gu_has jy_Gu_has ∈ j_T := j_in 692 (by decide +kernel) (by decide +kernel)
theorem jqc_Gu_add : Cond.code jy_Gu_add jb_Gu_add 5 (some (.object "PleasureGarden$Party")) ∈ j_T := j_in 517 (by decide +kernel) (by decide +kernel)
theorem jqi_Gu_add : Cond.instanceMethod jy_Gu_add ∈ j_T := j_in 515 (by decide +kernel) (by decide +kernel)
theorem jqv_Gu_add : Cond.selects "PleasureGarden$Guests" jy_Gu_add jy_Gu_add ∈ j_T := j_in 516 (by decide +kernel) (by decide +kernel)
theorem jqc_Gu_showsTwice : Cond.code jy_Gu_showsTwice jb_Gu_showsTwice 3 (some .boolean) ∈ j_T := j_in 509 (by decide +kernel) (by decide +kernel)
theorem jqi_Gu_showsTwice : Cond.instanceMethod jy_Gu_showsTwice ∈ j_T := j_in 507 (by decide +kernel) (by decide +kernel)
theorem jqv_Gu_showsTwice : Cond.selects "PleasureGarden$Guests" jy_Gu_showsTwice jy_Gu_showsTwice ∈ j_T := j_in 508 (by decide +kernel) (by decide +kernel)
theorem jqc_Gu_headsAt : Cond.code jy_Gu_headsAt jb_Gu_headsAt 4 (some .int) ∈ j_T := j_in 741 (by decide +kernel) (by decide +kernel)
theorem jqi_Gu_headsAt : Cond.instanceMethod jy_Gu_headsAt ∈ j_T := j_in 739 (by decide +kernel) (by decide +kernel)
theorem jqv_Gu_headsAt : Cond.selects "PleasureGarden$Guests" jy_Gu_headsAt jy_Gu_headsAt ∈ j_T := j_in 740 (by decide +kernel) (by decide +kernel)
theorem jqc_Gu_headsIn : Cond.code jy_Gu_headsIn jb_Gu_headsIn 3 (some .int) ∈ j_T := j_in 555 (by decide +kernel) (by decide +kernel)
theorem jqi_Gu_headsIn : Cond.instanceMethod jy_Gu_headsIn ∈ j_T := j_in 553 (by decide +kernel) (by decide +kernel)
theorem jqv_Gu_headsIn : Cond.selects "PleasureGarden$Guests" jy_Gu_headsIn jy_Gu_headsIn ∈ j_T := j_in 554 (by decide +kernel) (by decide +kernel)
theorem jqc_Gu_headsThatCame : Cond.code jy_Gu_headsThatCame jb_Gu_headsThatCame 3 (some .int) ∈ j_T := j_in 918 (by decide +kernel) (by decide +kernel)
theorem jqi_Gu_headsThatCame : Cond.instanceMethod jy_Gu_headsThatCame ∈ j_T := j_in 916 (by decide +kernel) (by decide +kernel)
theorem jqv_Gu_headsThatCame : Cond.selects "PleasureGarden$Guests" jy_Gu_headsThatCame jy_Gu_headsThatCame ∈ j_T := j_in 917 (by decide +kernel) (by decide +kernel)
theorem jqc_Pa_init : Cond.code jy_Pa_init jb_Pa_init 2 none ∈ j_T := j_in 141 (by decide +kernel) (by decide +kernel)
theorem jqi_Pa_init : Cond.instanceMethod jy_Pa_init ∈ j_T := j_in 140 (by decide +kernel) (by decide +kernel)
theorem jqc_Pa_begin : Cond.code jy_Pa_begin jb_Pa_begin 4 none ∈ j_T := j_in 521 (by decide +kernel) (by decide +kernel)
theorem jqi_Pa_begin : Cond.instanceMethod jy_Pa_begin ∈ j_T := j_in 519 (by decide +kernel) (by decide +kernel)
theorem jqv_Pa_begin : Cond.selects "PleasureGarden$Party" jy_Pa_begin jy_Pa_begin ∈ j_T := j_in 520 (by decide +kernel) (by decide +kernel)
theorem jqc_Pa_isIn : Cond.code jy_Pa_isIn jb_Pa_isIn 1 (some .boolean) ∈ j_T := j_in 513 (by decide +kernel) (by decide +kernel)
theorem jqi_Pa_isIn : Cond.instanceMethod jy_Pa_isIn ∈ j_T := j_in 511 (by decide +kernel) (by decide +kernel)
theorem jqv_Pa_isIn : Cond.selects "PleasureGarden$Party" jy_Pa_isIn jy_Pa_isIn ∈ j_T := j_in 512 (by decide +kernel) (by decide +kernel)
theorem jqc_Pa_tell : Cond.code jy_Pa_tell jb_Pa_tell 2 (some .int) ∈ j_T := j_in 733 (by decide +kernel) (by decide +kernel)
theorem jqi_Pa_tell : Cond.instanceMethod jy_Pa_tell ∈ j_T := j_in 731 (by decide +kernel) (by decide +kernel)
theorem jqv_Pa_tell : Cond.selects "PleasureGarden$Party" jy_Pa_tell jy_Pa_tell ∈ j_T := j_in 732 (by decide +kernel) (by decide +kernel)
theorem jqc_Wa_init : Cond.code jy_Wa_init jb_Wa_init 1 none ∈ j_T := j_in 208 (by decide +kernel) (by decide +kernel)
theorem jqi_Wa_init : Cond.instanceMethod jy_Wa_init ∈ j_T := j_in 207 (by decide +kernel) (by decide +kernel)
theorem jqc_Wa_openStay : Cond.code jy_Wa_openStay jb_Wa_openStay 3 (some .int) ∈ j_T := j_in 529 (by decide +kernel) (by decide +kernel)
theorem jqi_Wa_openStay : Cond.instanceMethod jy_Wa_openStay ∈ j_T := j_in 527 (by decide +kernel) (by decide +kernel)
theorem jqv_Wa_openStay : Cond.selects "PleasureGarden$Watch" jy_Wa_openStay jy_Wa_openStay ∈ j_T := j_in 528 (by decide +kernel) (by decide +kernel)
theorem jqc_Wa_endStay : Cond.code jy_Wa_endStay jb_Wa_endStay 2 none ∈ j_T := j_in 717 (by decide +kernel) (by decide +kernel)
theorem jqi_Wa_endStay : Cond.instanceMethod jy_Wa_endStay ∈ j_T := j_in 715 (by decide +kernel) (by decide +kernel)
theorem jqv_Wa_endStay : Cond.selects "PleasureGarden$Watch" jy_Wa_endStay jy_Wa_endStay ∈ j_T := j_in 716 (by decide +kernel) (by decide +kernel)
theorem jqc_Wa_tell : Cond.code jy_Wa_tell jb_Wa_tell 3 (some .int) ∈ j_T := j_in 965 (by decide +kernel) (by decide +kernel)
theorem jqi_Wa_tell : Cond.instanceMethod jy_Wa_tell ∈ j_T := j_in 963 (by decide +kernel) (by decide +kernel)
theorem jqv_Wa_tell : Cond.selects "PleasureGarden$Watch" jy_Wa_tell jy_Wa_tell ∈ j_T := j_in 964 (by decide +kernel) (by decide +kernel)
theorem jqc_Wa_witnesses : Cond.code jy_Wa_witnesses jb_Wa_witnesses 4 (some .int) ∈ j_T := j_in 973 (by decide +kernel) (by decide +kernel)
theorem jqi_Wa_witnesses : Cond.instanceMethod jy_Wa_witnesses ∈ j_T := j_in 971 (by decide +kernel) (by decide +kernel)
theorem jqv_Wa_witnesses : Cond.selects "PleasureGarden$Watch" jy_Wa_witnesses jy_Wa_witnesses ∈ j_T := j_in 972 (by decide +kernel) (by decide +kernel)
theorem jqc_Wa_suspicion : Cond.code jy_Wa_suspicion jb_Wa_suspicion 5 (some .int) ∈ j_T := j_in 985 (by decide +kernel) (by decide +kernel)
theorem jqi_Wa_suspicion : Cond.instanceMethod jy_Wa_suspicion ∈ j_T := j_in 983 (by decide +kernel) (by decide +kernel)
theorem jqv_Wa_suspicion : Cond.selects "PleasureGarden$Watch" jy_Wa_suspicion jy_Wa_suspicion ∈ j_T := j_in 984 (by decide +kernel) (by decide +kernel)
theorem jqc_Wa_saw : Cond.code jy_Wa_saw jb_Wa_saw 4 (some .boolean) ∈ j_T := j_in 977 (by decide +kernel) (by decide +kernel)
theorem jqi_Wa_saw : Cond.instanceMethod jy_Wa_saw ∈ j_T := j_in 976 (by decide +kernel) (by decide +kernel)
theorem jqv_Wa_saw : Cond.selects "PleasureGarden$Watch" jy_Wa_saw jy_Wa_saw ∈ j_T := j_in 21 (by decide +kernel) (by decide +kernel)
theorem jqc_Wa_clear : Cond.code jy_Wa_clear jb_Wa_clear 1 none ∈ j_T := j_in 938 (by decide +kernel) (by decide +kernel)
theorem jqi_Wa_clear : Cond.instanceMethod jy_Wa_clear ∈ j_T := j_in 936 (by decide +kernel) (by decide +kernel)
theorem jqv_Wa_clear : Cond.selects "PleasureGarden$Watch" jy_Wa_clear jy_Wa_clear ∈ j_T := j_in 937 (by decide +kernel) (by decide +kernel)
theorem jqc_La_init : Cond.code jy_La_init jb_La_init 3 none ∈ j_T := j_in 244 (by decide +kernel) (by decide +kernel)
theorem jqi_La_init : Cond.instanceMethod jy_La_init ∈ j_T := j_in 243 (by decide +kernel) (by decide +kernel)
theorem jqc_La_has : Cond.code jy_La_has jb_La_has 2 (some .boolean) ∈ j_T := j_in 795 (by decide +kernel) (by decide +kernel)
theorem jqi_La_has : Cond.instanceMethod jy_La_has ∈ j_T := j_in 793 (by decide +kernel) (by decide +kernel)
theorem jqv_La_has : Cond.selects "PleasureGarden$Lamps" jy_La_has jy_La_has ∈ j_T := j_in 794 (by decide +kernel) (by decide +kernel)
theorem jqc_La_hang : Cond.code jy_La_hang jb_La_hang 2 (some .int) ∈ j_T := j_in 787 (by decide +kernel) (by decide +kernel)
theorem jqi_La_hang : Cond.instanceMethod jy_La_hang ∈ j_T := j_in 785 (by decide +kernel) (by decide +kernel)
theorem jqv_La_hang : Cond.selects "PleasureGarden$Lamps" jy_La_hang jy_La_hang ∈ j_T := j_in 786 (by decide +kernel) (by decide +kernel)
theorem jqc_La_join : Cond.code jy_La_join jb_La_join 8 (some .int) ∈ j_T := j_in 799 (by decide +kernel) (by decide +kernel)
theorem jqi_La_join : Cond.instanceMethod jy_La_join ∈ j_T := j_in 797 (by decide +kernel) (by decide +kernel)
theorem jqv_La_join : Cond.selects "PleasureGarden$Lamps" jy_La_join jy_La_join ∈ j_T := j_in 798 (by decide +kernel) (by decide +kernel)
theorem jqc_La_secondOf : Cond.code jy_La_secondOf jb_La_secondOf 5 (some .int) ∈ j_T := j_in 812 (by decide +kernel) (by decide +kernel)
theorem jqi_La_secondOf : Cond.instanceMethod jy_La_secondOf ∈ j_T := j_in 811 (by decide +kernel) (by decide +kernel)
theorem jqv_La_secondOf : Cond.selects "PleasureGarden$Lamps" jy_La_secondOf jy_La_secondOf ∈ j_T := j_in 18 (by decide +kernel) (by decide +kernel)
theorem jqc_La_kindle : Cond.code jy_La_kindle jb_La_kindle 6 (some .int) ∈ j_T := j_in 808 (by decide +kernel) (by decide +kernel)
theorem jqi_La_kindle : Cond.instanceMethod jy_La_kindle ∈ j_T := j_in 806 (by decide +kernel) (by decide +kernel)
theorem jqv_La_kindle : Cond.selects "PleasureGarden$Lamps" jy_La_kindle jy_La_kindle ∈ j_T := j_in 807 (by decide +kernel) (by decide +kernel)
theorem jqc_La_isLit : Cond.code jy_La_isLit jb_La_isLit 2 (some .boolean) ∈ j_T := j_in 821 (by decide +kernel) (by decide +kernel)
theorem jqi_La_isLit : Cond.instanceMethod jy_La_isLit ∈ j_T := j_in 819 (by decide +kernel) (by decide +kernel)
theorem jqv_La_isLit : Cond.selects "PleasureGarden$Lamps" jy_La_isLit jy_La_isLit ∈ j_T := j_in 820 (by decide +kernel) (by decide +kernel)
theorem jqc_La_unlit : Cond.code jy_La_unlit jb_La_unlit 3 (some .int) ∈ j_T := j_in 829 (by decide +kernel) (by decide +kernel)
theorem jqi_La_unlit : Cond.instanceMethod jy_La_unlit ∈ j_T := j_in 827 (by decide +kernel) (by decide +kernel)
theorem jqv_La_unlit : Cond.selects "PleasureGarden$Lamps" jy_La_unlit jy_La_unlit ∈ j_T := j_in 828 (by decide +kernel) (by decide +kernel)
theorem jqc_La_burntOut : Cond.code jy_La_burntOut jb_La_burntOut 4 (some .int) ∈ j_T := j_in 838 (by decide +kernel) (by decide +kernel)
theorem jqi_La_burntOut : Cond.instanceMethod jy_La_burntOut ∈ j_T := j_in 836 (by decide +kernel) (by decide +kernel)
theorem jqv_La_burntOut : Cond.selects "PleasureGarden$Lamps" jy_La_burntOut jy_La_burntOut ∈ j_T := j_in 837 (by decide +kernel) (by decide +kernel)
theorem jqc_La_bestStart : Cond.code jy_La_bestStart jb_La_bestStart 9 (some .int) ∈ j_T := j_in 846 (by decide +kernel) (by decide +kernel)
theorem jqi_La_bestStart : Cond.instanceMethod jy_La_bestStart ∈ j_T := j_in 844 (by decide +kernel) (by decide +kernel)
theorem jqv_La_bestStart : Cond.selects "PleasureGarden$Lamps" jy_La_bestStart jy_La_bestStart ∈ j_T := j_in 845 (by decide +kernel) (by decide +kernel)
theorem jqc_La_costOf : Cond.code jy_La_costOf jb_La_costOf 7 (some .int) ∈ j_T := j_in 850 (by decide +kernel) (by decide +kernel)
theorem jqi_La_costOf : Cond.instanceMethod jy_La_costOf ∈ j_T := j_in 849 (by decide +kernel) (by decide +kernel)
theorem jqv_La_costOf : Cond.selects "PleasureGarden$Lamps" jy_La_costOf jy_La_costOf ∈ j_T := j_in 19 (by decide +kernel) (by decide +kernel)
theorem jqc_La_putOut : Cond.code jy_La_putOut jb_La_putOut 1 none ∈ j_T := j_in 934 (by decide +kernel) (by decide +kernel)
theorem jqi_La_putOut : Cond.instanceMethod jy_La_putOut ∈ j_T := j_in 932 (by decide +kernel) (by decide +kernel)
theorem jqv_La_putOut : Cond.selects "PleasureGarden$Lamps" jy_La_putOut jy_La_putOut ∈ j_T := j_in 933 (by decide +kernel) (by decide +kernel)
theorem jqc_Bo_init : Cond.code jy_Bo_init jb_Bo_init 1 none ∈ j_T := j_in 274 (by decide +kernel) (by decide +kernel)
theorem jqi_Bo_init : Cond.instanceMethod jy_Bo_init ∈ j_T := j_in 273 (by decide +kernel) (by decide +kernel)
theorem jqc_Bo_has : Cond.code jy_Bo_has jb_Bo_has 2 (some .boolean) ∈ j_T := j_in 705 (by decide +kernel) (by decide +kernel)
theorem jqi_Bo_has : Cond.instanceMethod jy_Bo_has ∈ j_T := j_in 703 (by decide +kernel) (by decide +kernel)
theorem jqv_Bo_has : Cond.selects "PleasureGarden$Boxes" jy_Bo_has jy_Bo_has ∈ j_T := j_in 704 (by decide +kernel) (by decide +kernel)
theorem jqc_Bo_add : Cond.code jy_Bo_add jb_Bo_add 3 (some .int) ∈ j_T := j_in 858 (by decide +kernel) (by decide +kernel)
theorem jqi_Bo_add : Cond.instanceMethod jy_Bo_add ∈ j_T := j_in 856 (by decide +kernel) (by decide +kernel)
theorem jqv_Bo_add : Cond.selects "PleasureGarden$Boxes" jy_Bo_add jy_Bo_add ∈ j_T := j_in 857 (by decide +kernel) (by decide +kernel)
theorem jqc_Ki_init : Cond.code jy_Ki_init jb_Ki_init 1 none ∈ j_T := j_in 297 (by decide +kernel) (by decide +kernel)
theorem jqi_Ki_init : Cond.instanceMethod jy_Ki_init ∈ j_T := j_in 296 (by decide +kernel) (by decide +kernel)
theorem jqc_Ki_append : Cond.code jy_Ki_append jb_Ki_append 4 (some .int) ∈ j_T := j_in 774 (by decide +kernel) (by decide +kernel)
theorem jqi_Ki_append : Cond.instanceMethod jy_Ki_append ∈ j_T := j_in 772 (by decide +kernel) (by decide +kernel)
theorem jqv_Ki_append : Cond.selects "PleasureGarden$Kitchen" jy_Ki_append jy_Ki_append ∈ j_T := j_in 773 (by decide +kernel) (by decide +kernel)
theorem jqc_Ki_serveFirst : Cond.code jy_Ki_serveFirst jb_Ki_serveFirst 5 (some .boolean) ∈ j_T := j_in 766 (by decide +kernel) (by decide +kernel)
theorem jqi_Ki_serveFirst : Cond.instanceMethod jy_Ki_serveFirst ∈ j_T := j_in 764 (by decide +kernel) (by decide +kernel)
theorem jqv_Ki_serveFirst : Cond.selects "PleasureGarden$Kitchen" jy_Ki_serveFirst jy_Ki_serveFirst ∈ j_T := j_in 765 (by decide +kernel) (by decide +kernel)
theorem jqc_Ki_removeFirst : Cond.code jy_Ki_removeFirst jb_Ki_removeFirst 2 none ∈ j_T := j_in 770 (by decide +kernel) (by decide +kernel)
theorem jqi_Ki_removeFirst : Cond.instanceMethod jy_Ki_removeFirst ∈ j_T := j_in 769 (by decide +kernel) (by decide +kernel)
theorem jqv_Ki_removeFirst : Cond.selects "PleasureGarden$Kitchen" jy_Ki_removeFirst jy_Ki_removeFirst ∈ j_T := j_in 16 (by decide +kernel) (by decide +kernel)
theorem jqc_Ki_dropOrdersOf : Cond.code jy_Ki_dropOrdersOf jb_Ki_dropOrdersOf 4 none ∈ j_T := j_in 709 (by decide +kernel) (by decide +kernel)
theorem jqi_Ki_dropOrdersOf : Cond.instanceMethod jy_Ki_dropOrdersOf ∈ j_T := j_in 707 (by decide +kernel) (by decide +kernel)
theorem jqv_Ki_dropOrdersOf : Cond.selects "PleasureGarden$Kitchen" jy_Ki_dropOrdersOf jy_Ki_dropOrdersOf ∈ j_T := j_in 708 (by decide +kernel) (by decide +kernel)
theorem jqc_Ki_move : Cond.code jy_Ki_move jb_Ki_move 3 none ∈ j_T := j_in 713 (by decide +kernel) (by decide +kernel)
theorem jqi_Ki_move : Cond.instanceMethod jy_Ki_move ∈ j_T := j_in 712 (by decide +kernel) (by decide +kernel)
theorem jqv_Ki_move : Cond.selects "PleasureGarden$Kitchen" jy_Ki_move jy_Ki_move ∈ j_T := j_in 11 (by decide +kernel) (by decide +kernel)
theorem jqc_Pr_init : Cond.code jy_Pr_init jb_Pr_init 1 none ∈ j_T := j_in 335 (by decide +kernel) (by decide +kernel)
theorem jqi_Pr_init : Cond.instanceMethod jy_Pr_init ∈ j_T := j_in 334 (by decide +kernel) (by decide +kernel)
theorem jqc_Pr_has : Cond.code jy_Pr_has jb_Pr_has 2 (some .boolean) ∈ j_T := j_in 541 (by decide +kernel) (by decide +kernel)
theorem jqi_Pr_has : Cond.instanceMethod jy_Pr_has ∈ j_T := j_in 539 (by decide +kernel) (by decide +kernel)
theorem jqv_Pr_has : Cond.selects "PleasureGarden$Prices" jy_Pr_has jy_Pr_has ∈ j_T := j_in 540 (by decide +kernel) (by decide +kernel)
theorem jqc_Pr_write : Cond.code jy_Pr_write jb_Pr_write 4 (some .int) ∈ j_T := j_in 892 (by decide +kernel) (by decide +kernel)
theorem jqi_Pr_write : Cond.instanceMethod jy_Pr_write ∈ j_T := j_in 890 (by decide +kernel) (by decide +kernel)
theorem jqv_Pr_write : Cond.selects "PleasureGarden$Prices" jy_Pr_write jy_Pr_write ∈ j_T := j_in 891 (by decide +kernel) (by decide +kernel)
theorem jqc_Pr_make : Cond.code jy_Pr_make jb_Pr_make 5 (some .int) ∈ j_T := j_in 900 (by decide +kernel) (by decide +kernel)
theorem jqi_Pr_make : Cond.instanceMethod jy_Pr_make ∈ j_T := j_in 898 (by decide +kernel) (by decide +kernel)
theorem jqv_Pr_make : Cond.selects "PleasureGarden$Prices" jy_Pr_make jy_Pr_make ∈ j_T := j_in 899 (by decide +kernel) (by decide +kernel)
theorem jqc_Pr_latest : Cond.code jy_Pr_latest jb_Pr_latest 5 (some .int) ∈ j_T := j_in 533 (by decide +kernel) (by decide +kernel)
theorem jqi_Pr_latest : Cond.instanceMethod jy_Pr_latest ∈ j_T := j_in 531 (by decide +kernel) (by decide +kernel)
theorem jqv_Pr_latest : Cond.selects "PleasureGarden$Prices" jy_Pr_latest jy_Pr_latest ∈ j_T := j_in 532 (by decide +kernel) (by decide +kernel)
theorem jqc_Pr_read : Cond.code jy_Pr_read jb_Pr_read 3 (some .int) ∈ j_T := j_in 559 (by decide +kernel) (by decide +kernel)
theorem jqi_Pr_read : Cond.instanceMethod jy_Pr_read ∈ j_T := j_in 557 (by decide +kernel) (by decide +kernel)
theorem jqv_Pr_read : Cond.selects "PleasureGarden$Prices" jy_Pr_read jy_Pr_read ∈ j_T := j_in 558 (by decide +kernel) (by decide +kernel)
theorem jqc_Re_init : Cond.code jy_Re_init jb_Re_init 1 none ∈ j_T := j_in 341 (by decide +kernel) (by decide +kernel)
theorem jqi_Re_init : Cond.instanceMethod jy_Re_init ∈ j_T := j_in 340 (by decide +kernel) (by decide +kernel)
theorem jqc_Re_valueOf : Cond.code jy_Re_valueOf jb_Re_valueOf 10 (some .int) ∈ j_T := j_in 563 (by decide +kernel) (by decide +kernel)
theorem jqi_Re_valueOf : Cond.instanceMethod jy_Re_valueOf ∈ j_T := j_in 561 (by decide +kernel) (by decide +kernel)
theorem jqv_Re_valueOf : Cond.selects "PleasureGarden$Reader" jy_Re_valueOf jy_Re_valueOf ∈ j_T := j_in 562 (by decide +kernel) (by decide +kernel)
theorem jqc_Re_next : Cond.code jy_Re_next jb_Re_next 1 (some .int) ∈ j_T := j_in 580 (by decide +kernel) (by decide +kernel)
theorem jqi_Re_next : Cond.instanceMethod jy_Re_next ∈ j_T := j_in 579 (by decide +kernel) (by decide +kernel)
theorem jqv_Re_next : Cond.selects "PleasureGarden$Reader" jy_Re_next jy_Re_next ∈ j_T := j_in 6 (by decide +kernel) (by decide +kernel)
theorem jqc_Re_take : Cond.code jy_Re_take jb_Re_take 2 (some .boolean) ∈ j_T := j_in 576 (by decide +kernel) (by decide +kernel)
theorem jqi_Re_take : Cond.instanceMethod jy_Re_take ∈ j_T := j_in 575 (by decide +kernel) (by decide +kernel)
theorem jqv_Re_take : Cond.selects "PleasureGarden$Reader" jy_Re_take jy_Re_take ∈ j_T := j_in 5 (by decide +kernel) (by decide +kernel)
theorem jqc_Re_fail : Cond.code jy_Re_fail jb_Re_fail 1 none ∈ j_T := j_in 584 (by decide +kernel) (by decide +kernel)
theorem jqi_Re_fail : Cond.instanceMethod jy_Re_fail ∈ j_T := j_in 583 (by decide +kernel) (by decide +kernel)
theorem jqv_Re_fail : Cond.selects "PleasureGarden$Reader" jy_Re_fail jy_Re_fail ∈ j_T := j_in 7 (by decide +kernel) (by decide +kernel)
theorem jqc_Re_expression : Cond.code jy_Re_expression jb_Re_expression 7 (some .int) ∈ j_T := j_in 568 (by decide +kernel) (by decide +kernel)
theorem jqi_Re_expression : Cond.instanceMethod jy_Re_expression ∈ j_T := j_in 567 (by decide +kernel) (by decide +kernel)
theorem jqv_Re_expression : Cond.selects "PleasureGarden$Reader" jy_Re_expression jy_Re_expression ∈ j_T := j_in 3 (by decide +kernel) (by decide +kernel)
theorem jqc_Re_operand : Cond.code jy_Re_operand jb_Re_operand 4 (some .int) ∈ j_T := j_in 572 (by decide +kernel) (by decide +kernel)
theorem jqi_Re_operand : Cond.instanceMethod jy_Re_operand ∈ j_T := j_in 571 (by decide +kernel) (by decide +kernel)
theorem jqv_Re_operand : Cond.selects "PleasureGarden$Reader" jy_Re_operand jy_Re_operand ∈ j_T := j_in 4 (by decide +kernel) (by decide +kernel)
theorem jqc_Re_number : Cond.code jy_Re_number jb_Re_number 3 (some .int) ∈ j_T := j_in 591 (by decide +kernel) (by decide +kernel)
theorem jqi_Re_number : Cond.instanceMethod jy_Re_number ∈ j_T := j_in 590 (by decide +kernel) (by decide +kernel)
theorem jqv_Re_number : Cond.selects "PleasureGarden$Reader" jy_Re_number jy_Re_number ∈ j_T := j_in 8 (by decide +kernel) (by decide +kernel)
theorem jqc_Re_isDigit : Cond.code jy_Re_isDigit jb_Re_isDigit 1 (some .boolean) ∈ j_T := j_in 587 (by decide +kernel) (by decide +kernel)
theorem jqs_Re_isDigit : Cond.static jy_Re_isDigit ∈ j_T := j_in 586 (by decide +kernel) (by decide +kernel)
theorem jqc_Re_levelOf : Cond.code jy_Re_levelOf jb_Re_levelOf 1 (some .int) ∈ j_T := j_in 679 (by decide +kernel) (by decide +kernel)
theorem jqs_Re_levelOf : Cond.static jy_Re_levelOf ∈ j_T := j_in 678 (by decide +kernel) (by decide +kernel)
theorem jqc_Re_joined : Cond.code jy_Re_joined jb_Re_joined 3 (some .int) ∈ j_T := j_in 682 (by decide +kernel) (by decide +kernel)
theorem jqs_Re_joined : Cond.static jy_Re_joined ∈ j_T := j_in 681 (by decide +kernel) (by decide +kernel)
theorem jqc_Le_init : Cond.code jy_Le_init jb_Le_init 1 none ∈ j_T := j_in 397 (by decide +kernel) (by decide +kernel)
theorem jqi_Le_init : Cond.instanceMethod jy_Le_init ∈ j_T := j_in 396 (by decide +kernel) (by decide +kernel)
theorem jqc_Le_keep : Cond.code jy_Le_keep jb_Le_keep 4 none ∈ j_T := j_in 922 (by decide +kernel) (by decide +kernel)
theorem jqi_Le_keep : Cond.instanceMethod jy_Le_keep ∈ j_T := j_in 920 (by decide +kernel) (by decide +kernel)
theorem jqv_Le_keep : Cond.selects "PleasureGarden$Ledger" jy_Le_keep jy_Le_keep ∈ j_T := j_in 921 (by decide +kernel) (by decide +kernel)
theorem jqc_Le_meanNearest : Cond.code jy_Le_meanNearest jb_Le_meanNearest 8 (some .int) ∈ j_T := j_in 950 (by decide +kernel) (by decide +kernel)
theorem jqi_Le_meanNearest : Cond.instanceMethod jy_Le_meanNearest ∈ j_T := j_in 948 (by decide +kernel) (by decide +kernel)
theorem jqv_Le_meanNearest : Cond.selects "PleasureGarden$Ledger" jy_Le_meanNearest jy_Le_meanNearest ∈ j_T := j_in 949 (by decide +kernel) (by decide +kernel)
theorem jqc_M_init : Cond.code jy_M_init jb_M_init 1 none ∈ j_T := j_in 994 (by decide +kernel) (by decide +kernel)
theorem jqi_M_init : Cond.instanceMethod jy_M_init ∈ j_T := j_in 993 (by decide +kernel) (by decide +kernel)
theorem jqc_M_among : Cond.code jy_M_among jb_M_among 3 (some .boolean) ∈ j_T := j_in 1216 (by decide +kernel) (by decide +kernel)
theorem jqs_M_among : Cond.static jy_M_among ∈ j_T := j_in 1215 (by decide +kernel) (by decide +kernel)
theorem jqc_M_isPlace : Cond.code jy_M_isPlace jb_M_isPlace 2 (some .boolean) ∈ j_T := j_in 1224 (by decide +kernel) (by decide +kernel)
theorem jqi_M_isPlace : Cond.instanceMethod jy_M_isPlace ∈ j_T := j_in 1223 (by decide +kernel) (by decide +kernel)
theorem jqv_M_isPlace : Cond.selects "PleasureGardenModel" jy_M_isPlace jy_M_isPlace ∈ j_T := j_in 22 (by decide +kernel) (by decide +kernel)
theorem jqc_M_place : Cond.code jy_M_place jb_M_place 3 (some .int) ∈ j_T := j_in 1213 (by decide +kernel) (by decide +kernel)
theorem jqi_M_place : Cond.instanceMethod jy_M_place ∈ j_T := j_in 1211 (by decide +kernel) (by decide +kernel)
theorem jqv_M_place : Cond.selects "PleasureGardenModel" jy_M_place jy_M_place ∈ j_T := j_in 1212 (by decide +kernel) (by decide +kernel)
theorem jqc_M_walk : Cond.code jy_M_walk jb_M_walk 5 (some .int) ∈ j_T := j_in 1220 (by decide +kernel) (by decide +kernel)
theorem jqi_M_walk : Cond.instanceMethod jy_M_walk ∈ j_T := j_in 1218 (by decide +kernel) (by decide +kernel)
theorem jqv_M_walk : Cond.selects "PleasureGardenModel" jy_M_walk jy_M_walk ∈ j_T := j_in 1219 (by decide +kernel) (by decide +kernel)
theorem jqc_M_findFar : Cond.code jy_M_findFar jb_M_findFar 6 none ∈ j_T := j_in 1232 (by decide +kernel) (by decide +kernel)
theorem jqi_M_findFar : Cond.instanceMethod jy_M_findFar ∈ j_T := j_in 1231 (by decide +kernel) (by decide +kernel)
theorem jqv_M_findFar : Cond.selects "PleasureGardenModel" jy_M_findFar jy_M_findFar ∈ j_T := j_in 23 (by decide +kernel) (by decide +kernel)
theorem jqc_M_way : Cond.code jy_M_way jb_M_way 3 (some .int) ∈ j_T := j_in 1228 (by decide +kernel) (by decide +kernel)
theorem jqi_M_way : Cond.instanceMethod jy_M_way ∈ j_T := j_in 1226 (by decide +kernel) (by decide +kernel)
theorem jqv_M_way : Cond.selects "PleasureGardenModel" jy_M_way jy_M_way ∈ j_T := j_in 1227 (by decide +kernel) (by decide +kernel)
theorem jqc_M_rain : Cond.code jy_M_rain jb_M_rain 3 (some .int) ∈ j_T := j_in 1237 (by decide +kernel) (by decide +kernel)
theorem jqi_M_rain : Cond.instanceMethod jy_M_rain ∈ j_T := j_in 1235 (by decide +kernel) (by decide +kernel)
theorem jqv_M_rain : Cond.selects "PleasureGardenModel" jy_M_rain jy_M_rain ∈ j_T := j_in 1236 (by decide +kernel) (by decide +kernel)
theorem jqc_M_rainsIn : Cond.code jy_M_rainsIn jb_M_rainsIn 3 (some .boolean) ∈ j_T := j_in 1264 (by decide +kernel) (by decide +kernel)
theorem jqi_M_rainsIn : Cond.instanceMethod jy_M_rainsIn ∈ j_T := j_in 1263 (by decide +kernel) (by decide +kernel)
theorem jqv_M_rainsIn : Cond.selects "PleasureGardenModel" jy_M_rainsIn jy_M_rainsIn ∈ j_T := j_in 27 (by decide +kernel) (by decide +kernel)
theorem jqc_M_rainSince : Cond.code jy_M_rainSince jb_M_rainSince 4 (some .int) ∈ j_T := j_in 1268 (by decide +kernel) (by decide +kernel)
theorem jqi_M_rainSince : Cond.instanceMethod jy_M_rainSince ∈ j_T := j_in 1267 (by decide +kernel) (by decide +kernel)
theorem jqv_M_rainSince : Cond.selects "PleasureGardenModel" jy_M_rainSince jy_M_rainSince ∈ j_T := j_in 28 (by decide +kernel) (by decide +kernel)
theorem jqc_M_isParty : Cond.code jy_M_isParty jb_M_isParty 2 (some .boolean) ∈ j_T := j_in 1288 (by decide +kernel) (by decide +kernel)
theorem jqi_M_isParty : Cond.instanceMethod jy_M_isParty ∈ j_T := j_in 1287 (by decide +kernel) (by decide +kernel)
theorem jqv_M_isParty : Cond.selects "PleasureGardenModel" jy_M_isParty jy_M_isParty ∈ j_T := j_in 31 (by decide +kernel) (by decide +kernel)
theorem jqc_M_isTicket : Cond.code jy_M_isTicket jb_M_isTicket 1 (some .boolean) ∈ j_T := j_in 1244 (by decide +kernel) (by decide +kernel)
theorem jqs_M_isTicket : Cond.static jy_M_isTicket ∈ j_T := j_in 1243 (by decide +kernel) (by decide +kernel)
theorem jqc_M_sell : Cond.code jy_M_sell jb_M_sell 5 (some .int) ∈ j_T := j_in 1241 (by decide +kernel) (by decide +kernel)
theorem jqi_M_sell : Cond.instanceMethod jy_M_sell ∈ j_T := j_in 1239 (by decide +kernel) (by decide +kernel)
theorem jqv_M_sell : Cond.selects "PleasureGardenModel" jy_M_sell jy_M_sell ∈ j_T := j_in 1240 (by decide +kernel) (by decide +kernel)
theorem jqc_M_enter : Cond.code jy_M_enter jb_M_enter 4 (some .int) ∈ j_T := j_in 1248 (by decide +kernel) (by decide +kernel)
theorem jqi_M_enter : Cond.instanceMethod jy_M_enter ∈ j_T := j_in 1246 (by decide +kernel) (by decide +kernel)
theorem jqv_M_enter : Cond.selects "PleasureGardenModel" jy_M_enter jy_M_enter ∈ j_T := j_in 1247 (by decide +kernel) (by decide +kernel)
theorem jqc_M_getsUp : Cond.code jy_M_getsUp jb_M_getsUp 4 none ∈ j_T := j_in 1296 (by decide +kernel) (by decide +kernel)
theorem jqi_M_getsUp : Cond.instanceMethod jy_M_getsUp ∈ j_T := j_in 1295 (by decide +kernel) (by decide +kernel)
theorem jqv_M_getsUp : Cond.selects "PleasureGardenModel" jy_M_getsUp jy_M_getsUp ∈ j_T := j_in 33 (by decide +kernel) (by decide +kernel)
theorem jqc_M_goes : Cond.code jy_M_goes jb_M_goes 4 none ∈ j_T := j_in 1292 (by decide +kernel) (by decide +kernel)
theorem jqi_M_goes : Cond.instanceMethod jy_M_goes ∈ j_T := j_in 1291 (by decide +kernel) (by decide +kernel)
theorem jqv_M_goes : Cond.selects "PleasureGardenModel" jy_M_goes jy_M_goes ∈ j_T := j_in 32 (by decide +kernel) (by decide +kernel)
theorem jqc_M_go : Cond.code jy_M_go jb_M_go 4 (some .int) ∈ j_T := j_in 1284 (by decide +kernel) (by decide +kernel)
theorem jqi_M_go : Cond.instanceMethod jy_M_go ∈ j_T := j_in 1282 (by decide +kernel) (by decide +kernel)
theorem jqv_M_go : Cond.selects "PleasureGardenModel" jy_M_go jy_M_go ∈ j_T := j_in 1283 (by decide +kernel) (by decide +kernel)
theorem jqc_M_goesOut : Cond.code jy_M_goesOut jb_M_goesOut 2 none ∈ j_T := j_in 1308 (by decide +kernel) (by decide +kernel)
theorem jqi_M_goesOut : Cond.instanceMethod jy_M_goesOut ∈ j_T := j_in 1307 (by decide +kernel) (by decide +kernel)
theorem jqv_M_goesOut : Cond.selects "PleasureGardenModel" jy_M_goesOut jy_M_goesOut ∈ j_T := j_in 35 (by decide +kernel) (by decide +kernel)
theorem jqc_M_leave : Cond.code jy_M_leave jb_M_leave 2 (some .int) ∈ j_T := j_in 1304 (by decide +kernel) (by decide +kernel)
theorem jqi_M_leave : Cond.instanceMethod jy_M_leave ∈ j_T := j_in 1302 (by decide +kernel) (by decide +kernel)
theorem jqv_M_leave : Cond.selects "PleasureGardenModel" jy_M_leave jy_M_leave ∈ j_T := j_in 1303 (by decide +kernel) (by decide +kernel)
theorem jqc_M_party : Cond.code jy_M_party jb_M_party 3 (some .int) ∈ j_T := j_in 1312 (by decide +kernel) (by decide +kernel)
theorem jqi_M_party : Cond.instanceMethod jy_M_party ∈ j_T := j_in 1310 (by decide +kernel) (by decide +kernel)
theorem jqv_M_party : Cond.selects "PleasureGardenModel" jy_M_party jy_M_party ∈ j_T := j_in 1311 (by decide +kernel) (by decide +kernel)
theorem jqc_M_headsAt : Cond.code jy_M_headsAt jb_M_headsAt 4 (some .int) ∈ j_T := j_in 1320 (by decide +kernel) (by decide +kernel)
theorem jqi_M_headsAt : Cond.instanceMethod jy_M_headsAt ∈ j_T := j_in 1319 (by decide +kernel) (by decide +kernel)
theorem jqv_M_headsAt : Cond.selects "PleasureGardenModel" jy_M_headsAt jy_M_headsAt ∈ j_T := j_in 36 (by decide +kernel) (by decide +kernel)
theorem jqc_M_heads : Cond.code jy_M_heads jb_M_heads 2 (some .int) ∈ j_T := j_in 1316 (by decide +kernel) (by decide +kernel)
theorem jqi_M_heads : Cond.instanceMethod jy_M_heads ∈ j_T := j_in 1314 (by decide +kernel) (by decide +kernel)
theorem jqv_M_heads : Cond.selects "PleasureGardenModel" jy_M_heads jy_M_heads ∈ j_T := j_in 1315 (by decide +kernel) (by decide +kernel)
theorem jqc_M_headsIn : Cond.code jy_M_headsIn jb_M_headsIn 3 (some .int) ∈ j_T := j_in 1272 (by decide +kernel) (by decide +kernel)
theorem jqi_M_headsIn : Cond.instanceMethod jy_M_headsIn ∈ j_T := j_in 1271 (by decide +kernel) (by decide +kernel)
theorem jqv_M_headsIn : Cond.selects "PleasureGardenModel" jy_M_headsIn jy_M_headsIn ∈ j_T := j_in 29 (by decide +kernel) (by decide +kernel)
theorem jqc_M_flee : Cond.code jy_M_flee jb_M_flee 4 none ∈ j_T := j_in 1332 (by decide +kernel) (by decide +kernel)
theorem jqi_M_flee : Cond.instanceMethod jy_M_flee ∈ j_T := j_in 1331 (by decide +kernel) (by decide +kernel)
theorem jqv_M_flee : Cond.selects "PleasureGardenModel" jy_M_flee jy_M_flee ∈ j_T := j_in 38 (by decide +kernel) (by decide +kernel)
theorem jqc_M_keep : Cond.code jy_M_keep jb_M_keep 2 none ∈ j_T := j_in 1328 (by decide +kernel) (by decide +kernel)
theorem jqi_M_keep : Cond.instanceMethod jy_M_keep ∈ j_T := j_in 1327 (by decide +kernel) (by decide +kernel)
theorem jqv_M_keep : Cond.selects "PleasureGardenModel" jy_M_keep jy_M_keep ∈ j_T := j_in 37 (by decide +kernel) (by decide +kernel)
theorem jqc_M_minutes : Cond.code jy_M_minutes jb_M_minutes 4 (some .int) ∈ j_T := j_in 1324 (by decide +kernel) (by decide +kernel)
theorem jqi_M_minutes : Cond.instanceMethod jy_M_minutes ∈ j_T := j_in 1322 (by decide +kernel) (by decide +kernel)
theorem jqv_M_minutes : Cond.selects "PleasureGardenModel" jy_M_minutes jy_M_minutes ∈ j_T := j_in 1323 (by decide +kernel) (by decide +kernel)
theorem jqc_M_isLamp : Cond.code jy_M_isLamp jb_M_isLamp 2 (some .boolean) ∈ j_T := j_in 1348 (by decide +kernel) (by decide +kernel)
theorem jqi_M_isLamp : Cond.instanceMethod jy_M_isLamp ∈ j_T := j_in 1347 (by decide +kernel) (by decide +kernel)
theorem jqv_M_isLamp : Cond.selects "PleasureGardenModel" jy_M_isLamp jy_M_isLamp ∈ j_T := j_in 40 (by decide +kernel) (by decide +kernel)
theorem jqc_M_lamp : Cond.code jy_M_lamp jb_M_lamp 2 (some .int) ∈ j_T := j_in 1340 (by decide +kernel) (by decide +kernel)
theorem jqi_M_lamp : Cond.instanceMethod jy_M_lamp ∈ j_T := j_in 1338 (by decide +kernel) (by decide +kernel)
theorem jqv_M_lamp : Cond.selects "PleasureGardenModel" jy_M_lamp jy_M_lamp ∈ j_T := j_in 1339 (by decide +kernel) (by decide +kernel)
theorem jqc_M_fuse : Cond.code jy_M_fuse jb_M_fuse 4 (some .int) ∈ j_T := j_in 1344 (by decide +kernel) (by decide +kernel)
theorem jqi_M_fuse : Cond.instanceMethod jy_M_fuse ∈ j_T := j_in 1342 (by decide +kernel) (by decide +kernel)
theorem jqv_M_fuse : Cond.selects "PleasureGardenModel" jy_M_fuse jy_M_fuse ∈ j_T := j_in 1343 (by decide +kernel) (by decide +kernel)
theorem jqc_M_find : Cond.code jy_M_find jb_M_find 7 none ∈ j_T := j_in 1356 (by decide +kernel) (by decide +kernel)
theorem jqi_M_find : Cond.instanceMethod jy_M_find ∈ j_T := j_in 1355 (by decide +kernel) (by decide +kernel)
theorem jqv_M_find : Cond.selects "PleasureGardenModel" jy_M_find jy_M_find ∈ j_T := j_in 41 (by decide +kernel) (by decide +kernel)
theorem jqc_M_light : Cond.code jy_M_light jb_M_light 4 (some .int) ∈ j_T := j_in 1352 (by decide +kernel) (by decide +kernel)
theorem jqi_M_light : Cond.instanceMethod jy_M_light ∈ j_T := j_in 1350 (by decide +kernel) (by decide +kernel)
theorem jqv_M_light : Cond.selects "PleasureGardenModel" jy_M_light jy_M_light ∈ j_T := j_in 1351 (by decide +kernel) (by decide +kernel)
theorem jqc_M_burns : Cond.code jy_M_burns jb_M_burns 2 (some .int) ∈ j_T := j_in 1360 (by decide +kernel) (by decide +kernel)
theorem jqi_M_burns : Cond.instanceMethod jy_M_burns ∈ j_T := j_in 1358 (by decide +kernel) (by decide +kernel)
theorem jqv_M_burns : Cond.selects "PleasureGardenModel" jy_M_burns jy_M_burns ∈ j_T := j_in 1359 (by decide +kernel) (by decide +kernel)
theorem jqc_M_dark : Cond.code jy_M_dark jb_M_dark 3 (some .int) ∈ j_T := j_in 1364 (by decide +kernel) (by decide +kernel)
theorem jqi_M_dark : Cond.instanceMethod jy_M_dark ∈ j_T := j_in 1362 (by decide +kernel) (by decide +kernel)
theorem jqv_M_dark : Cond.selects "PleasureGardenModel" jy_M_dark jy_M_dark ∈ j_T := j_in 1363 (by decide +kernel) (by decide +kernel)
theorem jqc_M_spent : Cond.code jy_M_spent jb_M_spent 3 (some .int) ∈ j_T := j_in 1368 (by decide +kernel) (by decide +kernel)
theorem jqi_M_spent : Cond.instanceMethod jy_M_spent ∈ j_T := j_in 1366 (by decide +kernel) (by decide +kernel)
theorem jqv_M_spent : Cond.selects "PleasureGardenModel" jy_M_spent jy_M_spent ∈ j_T := j_in 1367 (by decide +kernel) (by decide +kernel)
theorem jqc_M_best : Cond.code jy_M_best jb_M_best 7 (some .int) ∈ j_T := j_in 1372 (by decide +kernel) (by decide +kernel)
theorem jqi_M_best : Cond.instanceMethod jy_M_best ∈ j_T := j_in 1370 (by decide +kernel) (by decide +kernel)
theorem jqv_M_best : Cond.selects "PleasureGardenModel" jy_M_best jy_M_best ∈ j_T := j_in 1371 (by decide +kernel) (by decide +kernel)
theorem jqc_M_isBox : Cond.code jy_M_isBox jb_M_isBox 2 (some .boolean) ∈ j_T := j_in 1384 (by decide +kernel) (by decide +kernel)
theorem jqi_M_isBox : Cond.instanceMethod jy_M_isBox ∈ j_T := j_in 1383 (by decide +kernel) (by decide +kernel)
theorem jqv_M_isBox : Cond.selects "PleasureGardenModel" jy_M_isBox jy_M_isBox ∈ j_T := j_in 42 (by decide +kernel) (by decide +kernel)
theorem jqc_M_box : Cond.code jy_M_box jb_M_box 3 (some .int) ∈ j_T := j_in 1376 (by decide +kernel) (by decide +kernel)
theorem jqi_M_box : Cond.instanceMethod jy_M_box ∈ j_T := j_in 1374 (by decide +kernel) (by decide +kernel)
theorem jqv_M_box : Cond.selects "PleasureGardenModel" jy_M_box jy_M_box ∈ j_T := j_in 1375 (by decide +kernel) (by decide +kernel)
theorem jqc_M_whoIn : Cond.code jy_M_whoIn jb_M_whoIn 3 (some .int) ∈ j_T := j_in 1388 (by decide +kernel) (by decide +kernel)
theorem jqi_M_whoIn : Cond.instanceMethod jy_M_whoIn ∈ j_T := j_in 1387 (by decide +kernel) (by decide +kernel)
theorem jqv_M_whoIn : Cond.selects "PleasureGardenModel" jy_M_whoIn jy_M_whoIn ∈ j_T := j_in 43 (by decide +kernel) (by decide +kernel)
theorem jqc_M_let : Cond.code jy_M_let jb_M_let 3 (some .int) ∈ j_T := j_in 1380 (by decide +kernel) (by decide +kernel)
theorem jqi_M_let : Cond.instanceMethod jy_M_let ∈ j_T := j_in 1378 (by decide +kernel) (by decide +kernel)
theorem jqv_M_let : Cond.selects "PleasureGardenModel" jy_M_let jy_M_let ∈ j_T := j_in 1379 (by decide +kernel) (by decide +kernel)
theorem jqc_M_rise : Cond.code jy_M_rise jb_M_rise 3 (some .int) ∈ j_T := j_in 1392 (by decide +kernel) (by decide +kernel)
theorem jqi_M_rise : Cond.instanceMethod jy_M_rise ∈ j_T := j_in 1390 (by decide +kernel) (by decide +kernel)
theorem jqv_M_rise : Cond.selects "PleasureGardenModel" jy_M_rise jy_M_rise ∈ j_T := j_in 1391 (by decide +kernel) (by decide +kernel)
theorem jqc_M_in : Cond.code jy_M_in jb_M_in 2 (some .int) ∈ j_T := j_in 1396 (by decide +kernel) (by decide +kernel)
theorem jqi_M_in : Cond.instanceMethod jy_M_in ∈ j_T := j_in 1394 (by decide +kernel) (by decide +kernel)
theorem jqv_M_in : Cond.selects "PleasureGardenModel" jy_M_in jy_M_in ∈ j_T := j_in 1395 (by decide +kernel) (by decide +kernel)
theorem jqc_M_ham : Cond.code jy_M_ham jb_M_ham 2 (some .int) ∈ j_T := j_in 1400 (by decide +kernel) (by decide +kernel)
theorem jqi_M_ham : Cond.instanceMethod jy_M_ham ∈ j_T := j_in 1398 (by decide +kernel) (by decide +kernel)
theorem jqv_M_ham : Cond.selects "PleasureGardenModel" jy_M_ham jy_M_ham ∈ j_T := j_in 1399 (by decide +kernel) (by decide +kernel)
theorem jqc_M_rule : Cond.code jy_M_rule jb_M_rule 4 (some .int) ∈ j_T := j_in 1405 (by decide +kernel) (by decide +kernel)
theorem jqi_M_rule : Cond.instanceMethod jy_M_rule ∈ j_T := j_in 1403 (by decide +kernel) (by decide +kernel)
theorem jqv_M_rule : Cond.selects "PleasureGardenModel" jy_M_rule jy_M_rule ∈ j_T := j_in 1404 (by decide +kernel) (by decide +kernel)
theorem jqc_M_order : Cond.code jy_M_order jb_M_order 3 (some .int) ∈ j_T := j_in 1409 (by decide +kernel) (by decide +kernel)
theorem jqi_M_order : Cond.instanceMethod jy_M_order ∈ j_T := j_in 1407 (by decide +kernel) (by decide +kernel)
theorem jqv_M_order : Cond.selects "PleasureGardenModel" jy_M_order jy_M_order ∈ j_T := j_in 1408 (by decide +kernel) (by decide +kernel)
theorem jqc_M_shift : Cond.code jy_M_shift jb_M_shift 3 none ∈ j_T := j_in 1300 (by decide +kernel) (by decide +kernel)
theorem jqi_M_shift : Cond.instanceMethod jy_M_shift ∈ j_T := j_in 1299 (by decide +kernel) (by decide +kernel)
theorem jqv_M_shift : Cond.selects "PleasureGardenModel" jy_M_shift jy_M_shift ∈ j_T := j_in 34 (by decide +kernel) (by decide +kernel)
theorem jqc_M_serve : Cond.code jy_M_serve jb_M_serve 7 none ∈ j_T := j_in 1336 (by decide +kernel) (by decide +kernel)
theorem jqi_M_serve : Cond.instanceMethod jy_M_serve ∈ j_T := j_in 1335 (by decide +kernel) (by decide +kernel)
theorem jqv_M_serve : Cond.selects "PleasureGardenModel" jy_M_serve jy_M_serve ∈ j_T := j_in 39 (by decide +kernel) (by decide +kernel)
theorem jqc_M_feed : Cond.code jy_M_feed jb_M_feed 4 (some .int) ∈ j_T := j_in 1413 (by decide +kernel) (by decide +kernel)
theorem jqi_M_feed : Cond.instanceMethod jy_M_feed ∈ j_T := j_in 1411 (by decide +kernel) (by decide +kernel)
theorem jqv_M_feed : Cond.selects "PleasureGardenModel" jy_M_feed jy_M_feed ∈ j_T := j_in 1412 (by decide +kernel) (by decide +kernel)
theorem jqc_M_isName : Cond.code jy_M_isName jb_M_isName 1 (some .boolean) ∈ j_T := j_in 1435 (by decide +kernel) (by decide +kernel)
theorem jqs_M_isName : Cond.static jy_M_isName ∈ j_T := j_in 1434 (by decide +kernel) (by decide +kernel)
theorem jqc_M_signOf : Cond.code jy_M_signOf jb_M_signOf 1 (some .int) ∈ j_T := j_in 1442 (by decide +kernel) (by decide +kernel)
theorem jqs_M_signOf : Cond.static jy_M_signOf ∈ j_T := j_in 1441 (by decide +kernel) (by decide +kernel)
theorem jqc_M_tight : Cond.code jy_M_tight jb_M_tight 1 (some .int) ∈ j_T := j_in 1445 (by decide +kernel) (by decide +kernel)
theorem jqs_M_tight : Cond.static jy_M_tight ∈ j_T := j_in 1444 (by decide +kernel) (by decide +kernel)
theorem jqc_M_lay : Cond.code jy_M_lay jb_M_lay 4 none ∈ j_T := j_in 1439 (by decide +kernel) (by decide +kernel)
theorem jqi_M_lay : Cond.instanceMethod jy_M_lay ∈ j_T := j_in 1438 (by decide +kernel) (by decide +kernel)
theorem jqv_M_lay : Cond.selects "PleasureGardenModel" jy_M_lay jy_M_lay ∈ j_T := j_in 47 (by decide +kernel) (by decide +kernel)
theorem jqc_M_done : Cond.code jy_M_done jb_M_done 3 none ∈ j_T := j_in 1449 (by decide +kernel) (by decide +kernel)
theorem jqi_M_done : Cond.instanceMethod jy_M_done ∈ j_T := j_in 1448 (by decide +kernel) (by decide +kernel)
theorem jqv_M_done : Cond.selects "PleasureGardenModel" jy_M_done jy_M_done ∈ j_T := j_in 48 (by decide +kernel) (by decide +kernel)
theorem jqc_M_opened : Cond.code jy_M_opened jb_M_opened 3 (some .int) ∈ j_T := j_in 1432 (by decide +kernel) (by decide +kernel)
theorem jqi_M_opened : Cond.instanceMethod jy_M_opened ∈ j_T := j_in 1431 (by decide +kernel) (by decide +kernel)
theorem jqv_M_opened : Cond.selects "PleasureGardenModel" jy_M_opened jy_M_opened ∈ j_T := j_in 46 (by decide +kernel) (by decide +kernel)
theorem jqc_M_operand : Cond.code jy_M_operand jb_M_operand 5 (some .boolean) ∈ j_T := j_in 1428 (by decide +kernel) (by decide +kernel)
theorem jqi_M_operand : Cond.instanceMethod jy_M_operand ∈ j_T := j_in 1427 (by decide +kernel) (by decide +kernel)
theorem jqv_M_operand : Cond.selects "PleasureGardenModel" jy_M_operand jy_M_operand ∈ j_T := j_in 45 (by decide +kernel) (by decide +kernel)
theorem jqc_M_parse : Cond.code jy_M_parse jb_M_parse 7 (some .int) ∈ j_T := j_in 1424 (by decide +kernel) (by decide +kernel)
theorem jqi_M_parse : Cond.instanceMethod jy_M_parse ∈ j_T := j_in 1423 (by decide +kernel) (by decide +kernel)
theorem jqv_M_parse : Cond.selects "PleasureGardenModel" jy_M_parse jy_M_parse ∈ j_T := j_in 44 (by decide +kernel) (by decide +kernel)
theorem jqc_M_isNight : Cond.code jy_M_isNight jb_M_isNight 1 (some .boolean) ∈ j_T := j_in 1420 (by decide +kernel) (by decide +kernel)
theorem jqs_M_isNight : Cond.static jy_M_isNight ∈ j_T := j_in 1419 (by decide +kernel) (by decide +kernel)
theorem jqc_M_price : Cond.code jy_M_price jb_M_price 4 (some .int) ∈ j_T := j_in 1417 (by decide +kernel) (by decide +kernel)
theorem jqi_M_price : Cond.instanceMethod jy_M_price ∈ j_T := j_in 1415 (by decide +kernel) (by decide +kernel)
theorem jqv_M_price : Cond.selects "PleasureGardenModel" jy_M_price jy_M_price ∈ j_T := j_in 1416 (by decide +kernel) (by decide +kernel)
theorem jqc_M_forceOn : Cond.code jy_M_forceOn jb_M_forceOn 5 (some .int) ∈ j_T := j_in 1256 (by decide +kernel) (by decide +kernel)
theorem jqi_M_forceOn : Cond.instanceMethod jy_M_forceOn ∈ j_T := j_in 1255 (by decide +kernel) (by decide +kernel)
theorem jqv_M_forceOn : Cond.selects "PleasureGardenModel" jy_M_forceOn jy_M_forceOn ∈ j_T := j_in 25 (by decide +kernel) (by decide +kernel)
theorem jqc_M_inForce : Cond.code jy_M_inForce jb_M_inForce 4 (some .int) ∈ j_T := j_in 1453 (by decide +kernel) (by decide +kernel)
theorem jqi_M_inForce : Cond.instanceMethod jy_M_inForce ∈ j_T := j_in 1451 (by decide +kernel) (by decide +kernel)
theorem jqv_M_inForce : Cond.selects "PleasureGardenModel" jy_M_inForce jy_M_inForce ∈ j_T := j_in 1452 (by decide +kernel) (by decide +kernel)
theorem jqc_M_both : Cond.code jy_M_both jb_M_both 3 (some .int) ∈ j_T := j_in 1279 (by decide +kernel) (by decide +kernel)
theorem jqs_M_both : Cond.static jy_M_both ∈ j_T := j_in 1278 (by decide +kernel) (by decide +kernel)
theorem jqc_M_says : Cond.code jy_M_says jb_M_says 6 (some .int) ∈ j_T := j_in 1276 (by decide +kernel) (by decide +kernel)
theorem jqi_M_says : Cond.instanceMethod jy_M_says ∈ j_T := j_in 1275 (by decide +kernel) (by decide +kernel)
theorem jqv_M_says : Cond.selects "PleasureGardenModel" jy_M_says jy_M_says ∈ j_T := j_in 30 (by decide +kernel) (by decide +kernel)
theorem jqc_M_coinsBy : Cond.code jy_M_coinsBy jb_M_coinsBy 5 (some .int) ∈ j_T := j_in 1260 (by decide +kernel) (by decide +kernel)
theorem jqi_M_coinsBy : Cond.instanceMethod jy_M_coinsBy ∈ j_T := j_in 1259 (by decide +kernel) (by decide +kernel)
theorem jqv_M_coinsBy : Cond.selects "PleasureGardenModel" jy_M_coinsBy jy_M_coinsBy ∈ j_T := j_in 26 (by decide +kernel) (by decide +kernel)
theorem jqc_M_tonight : Cond.code jy_M_tonight jb_M_tonight 5 (some .int) ∈ j_T := j_in 1252 (by decide +kernel) (by decide +kernel)
theorem jqi_M_tonight : Cond.instanceMethod jy_M_tonight ∈ j_T := j_in 1251 (by decide +kernel) (by decide +kernel)
theorem jqv_M_tonight : Cond.selects "PleasureGardenModel" jy_M_tonight jy_M_tonight ∈ j_T := j_in 24 (by decide +kernel) (by decide +kernel)
theorem jqc_M_gives : Cond.code jy_M_gives jb_M_gives 4 (some .int) ∈ j_T := j_in 1457 (by decide +kernel) (by decide +kernel)
theorem jqi_M_gives : Cond.instanceMethod jy_M_gives ∈ j_T := j_in 1455 (by decide +kernel) (by decide +kernel)
theorem jqv_M_gives : Cond.selects "PleasureGardenModel" jy_M_gives jy_M_gives ∈ j_T := j_in 1456 (by decide +kernel) (by decide +kernel)
theorem jqc_M_close : Cond.code jy_M_close jb_M_close 3 (some .int) ∈ j_T := j_in 1462 (by decide +kernel) (by decide +kernel)
theorem jqi_M_close : Cond.instanceMethod jy_M_close ∈ j_T := j_in 1460 (by decide +kernel) (by decide +kernel)
theorem jqv_M_close : Cond.selects "PleasureGardenModel" jy_M_close jy_M_close ∈ j_T := j_in 1461 (by decide +kernel) (by decide +kernel)
theorem jqc_M_night : Cond.code jy_M_night jb_M_night 3 (some .int) ∈ j_T := j_in 1466 (by decide +kernel) (by decide +kernel)
theorem jqi_M_night : Cond.instanceMethod jy_M_night ∈ j_T := j_in 1464 (by decide +kernel) (by decide +kernel)
theorem jqv_M_night : Cond.selects "PleasureGardenModel" jy_M_night jy_M_night ∈ j_T := j_in 1465 (by decide +kernel) (by decide +kernel)
theorem jqc_M_off : Cond.code jy_M_off jb_M_off 2 (some .int) ∈ j_T := j_in 1473 (by decide +kernel) (by decide +kernel)
theorem jqs_M_off : Cond.static jy_M_off ∈ j_T := j_in 1472 (by decide +kernel) (by decide +kernel)
theorem jqc_M_foretold : Cond.code jy_M_foretold jb_M_foretold 9 (some .int) ∈ j_T := j_in 1470 (by decide +kernel) (by decide +kernel)
theorem jqi_M_foretold : Cond.instanceMethod jy_M_foretold ∈ j_T := j_in 1468 (by decide +kernel) (by decide +kernel)
theorem jqv_M_foretold : Cond.selects "PleasureGardenModel" jy_M_foretold jy_M_foretold ∈ j_T := j_in 1469 (by decide +kernel) (by decide +kernel)
theorem jqc_M_stolen : Cond.code jy_M_stolen jb_M_stolen 3 (some .int) ∈ j_T := j_in 1477 (by decide +kernel) (by decide +kernel)
theorem jqi_M_stolen : Cond.instanceMethod jy_M_stolen ∈ j_T := j_in 1475 (by decide +kernel) (by decide +kernel)
theorem jqv_M_stolen : Cond.selects "PleasureGardenModel" jy_M_stolen jy_M_stolen ∈ j_T := j_in 1476 (by decide +kernel) (by decide +kernel)
theorem jqc_M_isNear : Cond.code jy_M_isNear jb_M_isNear 3 (some .boolean) ∈ j_T := j_in 1485 (by decide +kernel) (by decide +kernel)
theorem jqi_M_isNear : Cond.instanceMethod jy_M_isNear ∈ j_T := j_in 1484 (by decide +kernel) (by decide +kernel)
theorem jqv_M_isNear : Cond.selects "PleasureGardenModel" jy_M_isNear jy_M_isNear ∈ j_T := j_in 49 (by decide +kernel) (by decide +kernel)
theorem jqc_M_near : Cond.code jy_M_near jb_M_near 4 (some .int) ∈ j_T := j_in 1481 (by decide +kernel) (by decide +kernel)
theorem jqi_M_near : Cond.instanceMethod jy_M_near ∈ j_T := j_in 1479 (by decide +kernel) (by decide +kernel)
theorem jqv_M_near : Cond.selects "PleasureGardenModel" jy_M_near jy_M_near ∈ j_T := j_in 1480 (by decide +kernel) (by decide +kernel)
theorem jqc_M_doubt : Cond.code jy_M_doubt jb_M_doubt 4 (some .int) ∈ j_T := j_in 1489 (by decide +kernel) (by decide +kernel)
theorem jqi_M_doubt : Cond.instanceMethod jy_M_doubt ∈ j_T := j_in 1487 (by decide +kernel) (by decide +kernel)
theorem jqv_M_doubt : Cond.selects "PleasureGardenModel" jy_M_doubt jy_M_doubt ∈ j_T := j_in 1488 (by decide +kernel) (by decide +kernel)
theorem jqc_M_count : Cond.code jy_M_count jb_M_count 2 (some .int) ∈ j_T := j_in 1493 (by decide +kernel) (by decide +kernel)
theorem jqi_M_count : Cond.instanceMethod jy_M_count ∈ j_T := j_in 1491 (by decide +kernel) (by decide +kernel)
theorem jqv_M_count : Cond.selects "PleasureGardenModel" jy_M_count jy_M_count ∈ j_T := j_in 1492 (by decide +kernel) (by decide +kernel)
theorem jqn_G : Cond.initialized "PleasureGarden" ∈ j_T := j_in 51 (by decide +kernel) (by decide +kernel)
theorem jqn_Gr : Cond.initialized "PleasureGarden$Grounds" ∈ j_T := j_in 52 (by decide +kernel) (by decide +kernel)
theorem jqn_Sk : Cond.initialized "PleasureGarden$Sky" ∈ j_T := j_in 54 (by decide +kernel) (by decide +kernel)
theorem jqn_Gu : Cond.initialized "PleasureGarden$Guests" ∈ j_T := j_in 55 (by decide +kernel) (by decide +kernel)
theorem jqn_Pa : Cond.initialized "PleasureGarden$Party" ∈ j_T := j_in 56 (by decide +kernel) (by decide +kernel)
theorem jqn_Wa : Cond.initialized "PleasureGarden$Watch" ∈ j_T := j_in 57 (by decide +kernel) (by decide +kernel)
theorem jqn_La : Cond.initialized "PleasureGarden$Lamps" ∈ j_T := j_in 58 (by decide +kernel) (by decide +kernel)
theorem jqn_Bo : Cond.initialized "PleasureGarden$Boxes" ∈ j_T := j_in 59 (by decide +kernel) (by decide +kernel)
theorem jqn_Ki : Cond.initialized "PleasureGarden$Kitchen" ∈ j_T := j_in 60 (by decide +kernel) (by decide +kernel)
theorem jqn_Pr : Cond.initialized "PleasureGarden$Prices" ∈ j_T := j_in 61 (by decide +kernel) (by decide +kernel)
theorem jqn_Re : Cond.initialized "PleasureGarden$Reader" ∈ j_T := j_in 62 (by decide +kernel) (by decide +kernel)
theorem jqn_Le : Cond.initialized "PleasureGarden$Ledger" ∈ j_T := j_in 63 (by decide +kernel) (by decide +kernel)
theorem jqn_M : Cond.initialized "PleasureGardenModel" ∈ j_T := j_in 64 (by decide +kernel) (by decide +kernel)
theorem jqn_Ma : Cond.initialized "java/lang/Math" ∈ j_T := j_in 53 (by decide +kernel) (by decide +kernel)
theorem jlm_G_1 : Cond.methodLink "PleasureGarden" 1 objectInit ∈ j_T := j_in 75 (by decide +kernel) (by decide +kernel)
theorem jlk_G_7 : Cond.classLink "PleasureGarden" 7 "PleasureGarden$Grounds" ∈ j_T := j_in 78 (by decide +kernel) (by decide +kernel)
theorem jlm_G_9 : Cond.methodLink "PleasureGarden" 9 jy_Gr_init ∈ j_T := j_in 80 (by decide +kernel) (by decide +kernel)
theorem jlf_G_10 : Cond.fieldLink "PleasureGarden" 10 "PleasureGarden" "grounds" "LPleasureGarden$Grounds;" ∈ j_T := j_in 416 (by decide +kernel) (by decide +kernel)
theorem jlk_G_16 : Cond.classLink "PleasureGarden" 16 "PleasureGarden$Sky" ∈ j_T := j_in 116 (by decide +kernel) (by decide +kernel)
theorem jlf_G_19 : Cond.fieldLink "PleasureGarden" 19 "PleasureGarden" "sky" "LPleasureGarden$Sky;" ∈ j_T := j_in 417 (by decide +kernel) (by decide +kernel)
theorem jlf_G_23 : Cond.fieldLink "PleasureGarden" 23 "PleasureGarden" "sold" "[Z" ∈ j_T := j_in 418 (by decide +kernel) (by decide +kernel)
theorem jlk_G_27 : Cond.classLink "PleasureGarden" 27 "PleasureGarden$Guests" ∈ j_T := j_in 130 (by decide +kernel) (by decide +kernel)
theorem jlm_G_29 : Cond.methodLink "PleasureGarden" 29 jy_Gu_init ∈ j_T := j_in 132 (by decide +kernel) (by decide +kernel)
theorem jlf_G_30 : Cond.fieldLink "PleasureGarden" 30 "PleasureGarden" "guests" "LPleasureGarden$Guests;" ∈ j_T := j_in 419 (by decide +kernel) (by decide +kernel)
theorem jlk_G_34 : Cond.classLink "PleasureGarden" 34 "PleasureGarden$Watch" ∈ j_T := j_in 204 (by decide +kernel) (by decide +kernel)
theorem jlf_G_37 : Cond.fieldLink "PleasureGarden" 37 "PleasureGarden" "watch" "LPleasureGarden$Watch;" ∈ j_T := j_in 420 (by decide +kernel) (by decide +kernel)
theorem jlk_G_41 : Cond.classLink "PleasureGarden" 41 "PleasureGarden$Lamps" ∈ j_T := j_in 240 (by decide +kernel) (by decide +kernel)
theorem jlm_G_43 : Cond.methodLink "PleasureGarden" 43 jy_La_init ∈ j_T := j_in 242 (by decide +kernel) (by decide +kernel)
theorem jlf_G_44 : Cond.fieldLink "PleasureGarden" 44 "PleasureGarden" "lamps" "LPleasureGarden$Lamps;" ∈ j_T := j_in 421 (by decide +kernel) (by decide +kernel)
theorem jlk_G_48 : Cond.classLink "PleasureGarden" 48 "PleasureGarden$Boxes" ∈ j_T := j_in 270 (by decide +kernel) (by decide +kernel)
theorem jlf_G_51 : Cond.fieldLink "PleasureGarden" 51 "PleasureGarden" "boxes" "LPleasureGarden$Boxes;" ∈ j_T := j_in 422 (by decide +kernel) (by decide +kernel)
theorem jlk_G_55 : Cond.classLink "PleasureGarden" 55 "PleasureGarden$Kitchen" ∈ j_T := j_in 293 (by decide +kernel) (by decide +kernel)
theorem jlf_G_58 : Cond.fieldLink "PleasureGarden" 58 "PleasureGarden" "kitchen" "LPleasureGarden$Kitchen;" ∈ j_T := j_in 423 (by decide +kernel) (by decide +kernel)
theorem jlk_G_62 : Cond.classLink "PleasureGarden" 62 "PleasureGarden$Prices" ∈ j_T := j_in 331 (by decide +kernel) (by decide +kernel)
theorem jlf_G_65 : Cond.fieldLink "PleasureGarden" 65 "PleasureGarden" "prices" "LPleasureGarden$Prices;" ∈ j_T := j_in 424 (by decide +kernel) (by decide +kernel)
theorem jlk_G_69 : Cond.classLink "PleasureGarden" 69 "PleasureGarden$Ledger" ∈ j_T := j_in 393 (by decide +kernel) (by decide +kernel)
theorem jlf_G_72 : Cond.fieldLink "PleasureGarden" 72 "PleasureGarden" "ledger" "LPleasureGarden$Ledger;" ∈ j_T := j_in 425 (by decide +kernel) (by decide +kernel)
theorem jlf_G_76 : Cond.fieldLink "PleasureGarden" 76 "PleasureGarden" "night" "I" ∈ j_T := j_in 426 (by decide +kernel) (by decide +kernel)
theorem jlf_G_80 : Cond.fieldLink "PleasureGarden" 80 "PleasureGarden" "minute" "I" ∈ j_T := j_in 427 (by decide +kernel) (by decide +kernel)
theorem jlf_G_83 : Cond.fieldLink "PleasureGarden" 83 "PleasureGarden" "forged" "I" ∈ j_T := j_in 428 (by decide +kernel) (by decide +kernel)
theorem jlf_G_86 : Cond.fieldLink "PleasureGarden" 86 "PleasureGarden" "crush" "I" ∈ j_T := j_in 429 (by decide +kernel) (by decide +kernel)
theorem jlf_G_89 : Cond.fieldLink "PleasureGarden" 89 "PleasureGarden" "takings" "I" ∈ j_T := j_in 430 (by decide +kernel) (by decide +kernel)
theorem jlm_G_92 : Cond.methodLink "PleasureGarden" 92 jy_G_within ∈ j_T := j_in 466 (by decide +kernel) (by decide +kernel)
theorem jlf_G_96 : Cond.fieldLink "PleasureGarden" 96 "PleasureGarden$Grounds" "count" "I" ∈ j_T := j_in 95 (by decide +kernel) (by decide +kernel)
theorem jlm_G_99 : Cond.methodLink "PleasureGarden" 99 jy_Gr_add ∈ j_T := j_in 469 (by decide +kernel) (by decide +kernel)
theorem jlm_G_103 : Cond.methodLink "PleasureGarden" 103 jy_Gr_has ∈ j_T := j_in 477 (by decide +kernel) (by decide +kernel)
theorem jlm_G_107 : Cond.methodLink "PleasureGarden" 107 jy_Gr_setWalk ∈ j_T := j_in 481 (by decide +kernel) (by decide +kernel)
theorem jlf_G_111 : Cond.fieldLink "PleasureGarden" 111 "PleasureGarden$Grounds" "ways" "[[I" ∈ j_T := j_in 102 (by decide +kernel) (by decide +kernel)
theorem jlc_G_115 : Cond.constant "PleasureGarden" 115 (1000000) ∈ j_T := j_in 489 (by decide +kernel) (by decide +kernel)
theorem jlf_G_116 : Cond.fieldLink "PleasureGarden" 116 "PleasureGarden$Sky" "spans" "I" ∈ j_T := j_in 123 (by decide +kernel) (by decide +kernel)
theorem jlm_G_119 : Cond.methodLink "PleasureGarden" 119 jy_Sk_add ∈ j_T := j_in 494 (by decide +kernel) (by decide +kernel)
theorem jlm_G_122 : Cond.methodLink "PleasureGarden" 122 jy_Gu_showsTwice ∈ j_T := j_in 506 (by decide +kernel) (by decide +kernel)
theorem jlf_G_125 : Cond.fieldLink "PleasureGarden" 125 "PleasureGarden$Guests" "count" "I" ∈ j_T := j_in 196 (by decide +kernel) (by decide +kernel)
theorem jlm_G_126 : Cond.methodLink "PleasureGarden" 126 jy_Gu_add ∈ j_T := j_in 514 (by decide +kernel) (by decide +kernel)
theorem jlm_G_129 : Cond.methodLink "PleasureGarden" 129 jy_G_settle ∈ j_T := j_in 522 (by decide +kernel) (by decide +kernel)
theorem jlm_G_133 : Cond.methodLink "PleasureGarden" 133 jy_Pr_latest ∈ j_T := j_in 530 (by decide +kernel) (by decide +kernel)
theorem jlm_G_136 : Cond.methodLink "PleasureGarden" 136 jy_G_worth ∈ j_T := j_in 534 (by decide +kernel) (by decide +kernel)
theorem jlf_G_140 : Cond.fieldLink "PleasureGarden" 140 "PleasureGarden$Party" "paid" "I" ∈ j_T := j_in 161 (by decide +kernel) (by decide +kernel)
theorem jlf_G_145 : Cond.fieldLink "PleasureGarden" 145 "PleasureGarden$Party" "number" "I" ∈ j_T := j_in 144 (by decide +kernel) (by decide +kernel)
theorem jlm_G_148 : Cond.methodLink "PleasureGarden" 148 jy_Gu_has ∈ j_T := j_in 690 (by decide +kernel) (by decide +kernel)
theorem jlf_G_149 : Cond.fieldLink "PleasureGarden" 149 "PleasureGarden$Guests" "all" "[LPleasureGarden$Party;" ∈ j_T := j_in 198 (by decide +kernel) (by decide +kernel)
theorem jlf_G_153 : Cond.fieldLink "PleasureGarden" 153 "PleasureGarden$Party" "state" "I" ∈ j_T := j_in 152 (by decide +kernel) (by decide +kernel)
theorem jlf_G_156 : Cond.fieldLink "PleasureGarden" 156 "PleasureGarden$Party" "place" "I" ∈ j_T := j_in 155 (by decide +kernel) (by decide +kernel)
theorem jlm_G_159 : Cond.methodLink "PleasureGarden" 159 jy_G_setOff ∈ j_T := j_in 694 (by decide +kernel) (by decide +kernel)
theorem jlm_G_163 : Cond.methodLink "PleasureGarden" 163 jy_G_showOut ∈ j_T := j_in 722 (by decide +kernel) (by decide +kernel)
theorem jlm_G_167 : Cond.methodLink "PleasureGarden" 167 jy_Pa_tell ∈ j_T := j_in 730 (by decide +kernel) (by decide +kernel)
theorem jlm_G_171 : Cond.methodLink "PleasureGarden" 171 jy_Gu_headsAt ∈ j_T := j_in 738 (by decide +kernel) (by decide +kernel)
theorem jlm_G_174 : Cond.methodLink "PleasureGarden" 174 jy_Sk_rains ∈ j_T := j_in 542 (by decide +kernel) (by decide +kernel)
theorem jlf_G_177 : Cond.fieldLink "PleasureGarden" 177 "PleasureGarden$Watch" "shot" "I" ∈ j_T := j_in 211 (by decide +kernel) (by decide +kernel)
theorem jlm_G_180 : Cond.methodLink "PleasureGarden" 180 jy_G_seatArrivals ∈ j_T := j_in 746 (by decide +kernel) (by decide +kernel)
theorem jlm_G_183 : Cond.methodLink "PleasureGarden" 183 jy_G_seekShelter ∈ j_T := j_in 750 (by decide +kernel) (by decide +kernel)
theorem jlm_G_186 : Cond.methodLink "PleasureGarden" 186 jy_G_serveOrders ∈ j_T := j_in 758 (by decide +kernel) (by decide +kernel)
theorem jlm_G_189 : Cond.methodLink "PleasureGarden" 189 jy_G_overcrowding ∈ j_T := j_in 775 (by decide +kernel) (by decide +kernel)
theorem jlf_G_193 : Cond.fieldLink "PleasureGarden" 193 "PleasureGarden$Lamps" "count" "I" ∈ j_T := j_in 249 (by decide +kernel) (by decide +kernel)
theorem jlm_G_194 : Cond.methodLink "PleasureGarden" 194 jy_La_hang ∈ j_T := j_in 784 (by decide +kernel) (by decide +kernel)
theorem jlm_G_197 : Cond.methodLink "PleasureGarden" 197 jy_La_has ∈ j_T := j_in 792 (by decide +kernel) (by decide +kernel)
theorem jlf_G_198 : Cond.fieldLink "PleasureGarden" 198 "PleasureGarden$Lamps" "fuses" "I" ∈ j_T := j_in 251 (by decide +kernel) (by decide +kernel)
theorem jlm_G_201 : Cond.methodLink "PleasureGarden" 201 jy_La_join ∈ j_T := j_in 796 (by decide +kernel) (by decide +kernel)
theorem jlm_G_204 : Cond.methodLink "PleasureGarden" 204 jy_La_kindle ∈ j_T := j_in 805 (by decide +kernel) (by decide +kernel)
theorem jlm_G_207 : Cond.methodLink "PleasureGarden" 207 jy_La_isLit ∈ j_T := j_in 818 (by decide +kernel) (by decide +kernel)
theorem jlf_G_210 : Cond.fieldLink "PleasureGarden" 210 "PleasureGarden$Lamps" "second" "[I" ∈ j_T := j_in 255 (by decide +kernel) (by decide +kernel)
theorem jlm_G_214 : Cond.methodLink "PleasureGarden" 214 jy_La_unlit ∈ j_T := j_in 826 (by decide +kernel) (by decide +kernel)
theorem jlm_G_217 : Cond.methodLink "PleasureGarden" 217 jy_La_burntOut ∈ j_T := j_in 835 (by decide +kernel) (by decide +kernel)
theorem jlm_G_220 : Cond.methodLink "PleasureGarden" 220 jy_La_bestStart ∈ j_T := j_in 843 (by decide +kernel) (by decide +kernel)
theorem jlf_G_223 : Cond.fieldLink "PleasureGarden" 223 "PleasureGarden$Boxes" "count" "I" ∈ j_T := j_in 277 (by decide +kernel) (by decide +kernel)
theorem jlm_G_224 : Cond.methodLink "PleasureGarden" 224 jy_Bo_add ∈ j_T := j_in 855 (by decide +kernel) (by decide +kernel)
theorem jlm_G_225 : Cond.methodLink "PleasureGarden" 225 jy_Bo_has ∈ j_T := j_in 702 (by decide +kernel) (by decide +kernel)
theorem jlf_G_226 : Cond.fieldLink "PleasureGarden" 226 "PleasureGarden$Boxes" "place" "[I" ∈ j_T := j_in 279 (by decide +kernel) (by decide +kernel)
theorem jlf_G_228 : Cond.fieldLink "PleasureGarden" 228 "PleasureGarden$Party" "box" "I" ∈ j_T := j_in 159 (by decide +kernel) (by decide +kernel)
theorem jlf_G_231 : Cond.fieldLink "PleasureGarden" 231 "PleasureGarden$Party" "heads" "I" ∈ j_T := j_in 147 (by decide +kernel) (by decide +kernel)
theorem jlf_G_234 : Cond.fieldLink "PleasureGarden" 234 "PleasureGarden$Boxes" "seats" "[I" ∈ j_T := j_in 281 (by decide +kernel) (by decide +kernel)
theorem jlf_G_237 : Cond.fieldLink "PleasureGarden" 237 "PleasureGarden$Boxes" "guest" "[I" ∈ j_T := j_in 283 (by decide +kernel) (by decide +kernel)
theorem jlm_G_240 : Cond.methodLink "PleasureGarden" 240 jy_G_quitBox ∈ j_T := j_in 698 (by decide +kernel) (by decide +kernel)
theorem jlf_G_244 : Cond.fieldLink "PleasureGarden" 244 "PleasureGarden$Kitchen" "grams" "I" ∈ j_T := j_in 300 (by decide +kernel) (by decide +kernel)
theorem jlc_G_247 : Cond.constant "PleasureGarden" 247 (99999) ∈ j_T := j_in 875 (by decide +kernel) (by decide +kernel)
theorem jlf_G_248 : Cond.fieldLink "PleasureGarden" 248 "PleasureGarden$Kitchen" "slice" "I" ∈ j_T := j_in 302 (by decide +kernel) (by decide +kernel)
theorem jlf_G_251 : Cond.fieldLink "PleasureGarden" 251 "PleasureGarden$Kitchen" "waiters" "I" ∈ j_T := j_in 304 (by decide +kernel) (by decide +kernel)
theorem jlf_G_254 : Cond.fieldLink "PleasureGarden" 254 "PleasureGarden$Kitchen" "orders" "I" ∈ j_T := j_in 308 (by decide +kernel) (by decide +kernel)
theorem jlm_G_257 : Cond.methodLink "PleasureGarden" 257 jy_Ki_append ∈ j_T := j_in 884 (by decide +kernel) (by decide +kernel)
theorem jlf_G_261 : Cond.fieldLink "PleasureGarden" 261 "PleasureGarden$Prices" "tape" "I" ∈ j_T := j_in 368 (by decide +kernel) (by decide +kernel)
theorem jlm_G_264 : Cond.methodLink "PleasureGarden" 264 jy_Pr_write ∈ j_T := j_in 889 (by decide +kernel) (by decide +kernel)
theorem jlf_G_267 : Cond.fieldLink "PleasureGarden" 267 "PleasureGarden$Prices" "count" "I" ∈ j_T := j_in 366 (by decide +kernel) (by decide +kernel)
theorem jlm_G_268 : Cond.methodLink "PleasureGarden" 268 jy_Pr_make ∈ j_T := j_in 897 (by decide +kernel) (by decide +kernel)
theorem jlm_G_271 : Cond.methodLink "PleasureGarden" 271 jy_Pr_has ∈ j_T := j_in 538 (by decide +kernel) (by decide +kernel)
theorem jlc_G_272 : Cond.constant "PleasureGarden" 272 (-2000000000) ∈ j_T := j_in 909 (by decide +kernel) (by decide +kernel)
theorem jlm_G_273 : Cond.methodLink "PleasureGarden" 273 jy_Pa_isIn ∈ j_T := j_in 914 (by decide +kernel) (by decide +kernel)
theorem jlm_G_277 : Cond.methodLink "PleasureGarden" 277 jy_Sk_wetMinutes ∈ j_T := j_in 547 (by decide +kernel) (by decide +kernel)
theorem jlm_G_280 : Cond.methodLink "PleasureGarden" 280 jy_Gu_headsThatCame ∈ j_T := j_in 915 (by decide +kernel) (by decide +kernel)
theorem jlm_G_283 : Cond.methodLink "PleasureGarden" 283 jy_Le_keep ∈ j_T := j_in 919 (by decide +kernel) (by decide +kernel)
theorem jlm_G_287 : Cond.methodLink "PleasureGarden" 287 jy_G_beginNight ∈ j_T := j_in 923 (by decide +kernel) (by decide +kernel)
theorem jlf_G_290 : Cond.fieldLink "PleasureGarden" 290 "PleasureGarden$Ledger" "count" "I" ∈ j_T := j_in 400 (by decide +kernel) (by decide +kernel)
theorem jlf_G_291 : Cond.fieldLink "PleasureGarden" 291 "PleasureGarden$Ledger" "takings" "[I" ∈ j_T := j_in 402 (by decide +kernel) (by decide +kernel)
theorem jlf_G_293 : Cond.fieldLink "PleasureGarden" 293 "PleasureGarden$Ledger" "rain" "[I" ∈ j_T := j_in 404 (by decide +kernel) (by decide +kernel)
theorem jlf_G_296 : Cond.fieldLink "PleasureGarden" 296 "PleasureGarden$Ledger" "heads" "[I" ∈ j_T := j_in 406 (by decide +kernel) (by decide +kernel)
theorem jlm_G_298 : Cond.methodLink "PleasureGarden" 298 jy_Le_meanNearest ∈ j_T := j_in 947 (by decide +kernel) (by decide +kernel)
theorem jlf_G_301 : Cond.fieldLink "PleasureGarden" 301 "PleasureGarden$Watch" "thefts" "I" ∈ j_T := j_in 218 (by decide +kernel) (by decide +kernel)
theorem jlm_G_304 : Cond.methodLink "PleasureGarden" 304 jy_Wa_tell ∈ j_T := j_in 962 (by decide +kernel) (by decide +kernel)
theorem jlm_G_306 : Cond.methodLink "PleasureGarden" 306 jy_Wa_witnesses ∈ j_T := j_in 970 (by decide +kernel) (by decide +kernel)
theorem jlm_G_309 : Cond.methodLink "PleasureGarden" 309 jy_Wa_suspicion ∈ j_T := j_in 982 (by decide +kernel) (by decide +kernel)
theorem jlm_G_312 : Cond.methodLink "PleasureGarden" 312 jy_Gu_headsIn ∈ j_T := j_in 552 (by decide +kernel) (by decide +kernel)
theorem jlf_G_315 : Cond.fieldLink "PleasureGarden" 315 "PleasureGarden$Kitchen" "served" "I" ∈ j_T := j_in 306 (by decide +kernel) (by decide +kernel)
theorem jlf_G_318 : Cond.fieldLink "PleasureGarden" 318 "PleasureGarden$Party" "due" "I" ∈ j_T := j_in 157 (by decide +kernel) (by decide +kernel)
theorem jlm_G_321 : Cond.methodLink "PleasureGarden" 321 jy_Wa_openStay ∈ j_T := j_in 526 (by decide +kernel) (by decide +kernel)
theorem jlf_G_324 : Cond.fieldLink "PleasureGarden" 324 "PleasureGarden$Party" "stay" "I" ∈ j_T := j_in 169 (by decide +kernel) (by decide +kernel)
theorem jlm_G_327 : Cond.methodLink "PleasureGarden" 327 jy_Wa_endStay ∈ j_T := j_in 714 (by decide +kernel) (by decide +kernel)
theorem jlf_G_331 : Cond.fieldLink "PleasureGarden" 331 "PleasureGarden$Party" "refund" "I" ∈ j_T := j_in 163 (by decide +kernel) (by decide +kernel)
theorem jlm_G_334 : Cond.methodLink "PleasureGarden" 334 jy_Ki_dropOrdersOf ∈ j_T := j_in 706 (by decide +kernel) (by decide +kernel)
theorem jlf_G_337 : Cond.fieldLink "PleasureGarden" 337 "PleasureGarden$Grounds" "covered" "[Z" ∈ j_T := j_in 99 (by decide +kernel) (by decide +kernel)
theorem jlm_G_340 : Cond.methodLink "PleasureGarden" 340 jy_Gr_nearestShelter ∈ j_T := j_in 754 (by decide +kernel) (by decide +kernel)
theorem jlm_G_343 : Cond.methodLink "PleasureGarden" 343 Lib.Math.min.name ∈ j_T := j_in 762 (by decide +kernel) (by decide +kernel)
theorem jlf_G_348 : Cond.fieldLink "PleasureGarden" 348 "PleasureGarden$Kitchen" "party" "[I" ∈ j_T := j_in 310 (by decide +kernel) (by decide +kernel)
theorem jlf_G_351 : Cond.fieldLink "PleasureGarden" 351 "PleasureGarden$Kitchen" "slices" "[I" ∈ j_T := j_in 312 (by decide +kernel) (by decide +kernel)
theorem jlm_G_354 : Cond.methodLink "PleasureGarden" 354 jy_Ki_serveFirst ∈ j_T := j_in 763 (by decide +kernel) (by decide +kernel)
theorem jlf_G_357 : Cond.fieldLink "PleasureGarden" 357 "PleasureGarden$Party" "slices" "I" ∈ j_T := j_in 165 (by decide +kernel) (by decide +kernel)
theorem jlf_G_359 : Cond.fieldLink "PleasureGarden" 359 "PleasureGarden$Grounds" "room" "[I" ∈ j_T := j_in 97 (by decide +kernel) (by decide +kernel)
theorem jlm_G_362 : Cond.methodLink "PleasureGarden" 362 Lib.Math.max.name ∈ j_T := j_in 779 (by decide +kernel) (by decide +kernel)
theorem jlf_G_365 : Cond.fieldLink "PleasureGarden" 365 "PleasureGarden$Prices" "reader" "LPleasureGarden$Reader;" ∈ j_T := j_in 375 (by decide +kernel) (by decide +kernel)
theorem jlf_G_369 : Cond.fieldLink "PleasureGarden" 369 "PleasureGarden$Reader" "names" "[I" ∈ j_T := j_in 344 (by decide +kernel) (by decide +kernel)
theorem jlf_G_374 : Cond.fieldLink "PleasureGarden" 374 "PleasureGarden$Party" "came" "I" ∈ j_T := j_in 167 (by decide +kernel) (by decide +kernel)
theorem jlm_G_377 : Cond.methodLink "PleasureGarden" 377 jy_Pr_read ∈ j_T := j_in 556 (by decide +kernel) (by decide +kernel)
theorem jlm_G_380 : Cond.methodLink "PleasureGarden" 380 jy_Sk_clear ∈ j_T := j_in 927 (by decide +kernel) (by decide +kernel)
theorem jlm_G_383 : Cond.methodLink "PleasureGarden" 383 jy_La_putOut ∈ j_T := j_in 931 (by decide +kernel) (by decide +kernel)
theorem jlm_G_386 : Cond.methodLink "PleasureGarden" 386 jy_Wa_clear ∈ j_T := j_in 935 (by decide +kernel) (by decide +kernel)
theorem jlm_Gr_3 : Cond.methodLink "PleasureGarden$Grounds" 3 objectInit ∈ j_T := j_in 83 (by decide +kernel) (by decide +kernel)
theorem jlf_Gr_9 : Cond.fieldLink "PleasureGarden$Grounds" 9 "PleasureGarden$Grounds" "count" "I" ∈ j_T := j_in 94 (by decide +kernel) (by decide +kernel)
theorem jlf_Gr_15 : Cond.fieldLink "PleasureGarden$Grounds" 15 "PleasureGarden$Grounds" "room" "[I" ∈ j_T := j_in 96 (by decide +kernel) (by decide +kernel)
theorem jlf_Gr_19 : Cond.fieldLink "PleasureGarden$Grounds" 19 "PleasureGarden$Grounds" "covered" "[Z" ∈ j_T := j_in 98 (by decide +kernel) (by decide +kernel)
theorem jlk_Gr_23 : Cond.classLink "PleasureGarden$Grounds" 23 "[[I" ∈ j_T := j_in 84 (by decide +kernel) (by decide +kernel)
theorem jlf_Gr_25 : Cond.fieldLink "PleasureGarden$Grounds" 25 "PleasureGarden$Grounds" "walks" "[[I" ∈ j_T := j_in 100 (by decide +kernel) (by decide +kernel)
theorem jlf_Gr_28 : Cond.fieldLink "PleasureGarden$Grounds" 28 "PleasureGarden$Grounds" "ways" "[[I" ∈ j_T := j_in 101 (by decide +kernel) (by decide +kernel)
theorem jlm_Gr_31 : Cond.methodLink "PleasureGarden$Grounds" 31 jy_Gr_measure ∈ j_T := j_in 86 (by decide +kernel) (by decide +kernel)
theorem jlc_Gr_34 : Cond.constant "PleasureGarden$Grounds" 34 (1000000) ∈ j_T := j_in 90 (by decide +kernel) (by decide +kernel)
theorem jlm_Gr_35 : Cond.methodLink "PleasureGarden$Grounds" 35 Lib.Math.min.name ∈ j_T := j_in 91 (by decide +kernel) (by decide +kernel)
theorem jlm_Sk_3 : Cond.methodLink "PleasureGarden$Sky" 3 objectInit ∈ j_T := j_in 121 (by decide +kernel) (by decide +kernel)
theorem jlf_Sk_9 : Cond.fieldLink "PleasureGarden$Sky" 9 "PleasureGarden$Sky" "spans" "I" ∈ j_T := j_in 122 (by decide +kernel) (by decide +kernel)
theorem jlf_Sk_15 : Cond.fieldLink "PleasureGarden$Sky" 15 "PleasureGarden$Sky" "wet" "[Z" ∈ j_T := j_in 124 (by decide +kernel) (by decide +kernel)
theorem jlm_Sk_23 : Cond.methodLink "PleasureGarden$Sky" 23 jy_Sk_rains ∈ j_T := j_in 551 (by decide +kernel) (by decide +kernel)
theorem jlm_Gu_1 : Cond.methodLink "PleasureGarden$Guests" 1 objectInit ∈ j_T := j_in 135 (by decide +kernel) (by decide +kernel)
theorem jlf_Gu_7 : Cond.fieldLink "PleasureGarden$Guests" 7 "PleasureGarden$Guests" "count" "I" ∈ j_T := j_in 195 (by decide +kernel) (by decide +kernel)
theorem jlk_Gu_13 : Cond.classLink "PleasureGarden$Guests" 13 "PleasureGarden$Party" ∈ j_T := j_in 136 (by decide +kernel) (by decide +kernel)
theorem jlf_Gu_15 : Cond.fieldLink "PleasureGarden$Guests" 15 "PleasureGarden$Guests" "all" "[LPleasureGarden$Party;" ∈ j_T := j_in 197 (by decide +kernel) (by decide +kernel)
theorem jlm_Gu_19 : Cond.methodLink "PleasureGarden$Guests" 19 jy_Pa_init ∈ j_T := j_in 139 (by decide +kernel) (by decide +kernel)
theorem jlm_Gu_22 : Cond.methodLink "PleasureGarden$Guests" 22 jy_Pa_begin ∈ j_T := j_in 518 (by decide +kernel) (by decide +kernel)
theorem jlm_Gu_26 : Cond.methodLink "PleasureGarden$Guests" 26 jy_Pa_isIn ∈ j_T := j_in 510 (by decide +kernel) (by decide +kernel)
theorem jlf_Gu_30 : Cond.fieldLink "PleasureGarden$Guests" 30 "PleasureGarden$Party" "ticket" "I" ∈ j_T := j_in 149 (by decide +kernel) (by decide +kernel)
theorem jlf_Gu_33 : Cond.fieldLink "PleasureGarden$Guests" 33 "PleasureGarden$Party" "state" "I" ∈ j_T := j_in 151 (by decide +kernel) (by decide +kernel)
theorem jlf_Gu_36 : Cond.fieldLink "PleasureGarden$Guests" 36 "PleasureGarden$Party" "place" "I" ∈ j_T := j_in 154 (by decide +kernel) (by decide +kernel)
theorem jlf_Gu_39 : Cond.fieldLink "PleasureGarden$Guests" 39 "PleasureGarden$Party" "heads" "I" ∈ j_T := j_in 146 (by decide +kernel) (by decide +kernel)
theorem jlm_Pa_3 : Cond.methodLink "PleasureGarden$Party" 3 objectInit ∈ j_T := j_in 142 (by decide +kernel) (by decide +kernel)
theorem jlf_Pa_9 : Cond.fieldLink "PleasureGarden$Party" 9 "PleasureGarden$Party" "heads" "I" ∈ j_T := j_in 145 (by decide +kernel) (by decide +kernel)
theorem jlf_Pa_15 : Cond.fieldLink "PleasureGarden$Party" 15 "PleasureGarden$Party" "ticket" "I" ∈ j_T := j_in 148 (by decide +kernel) (by decide +kernel)
theorem jlf_Pa_18 : Cond.fieldLink "PleasureGarden$Party" 18 "PleasureGarden$Party" "state" "I" ∈ j_T := j_in 150 (by decide +kernel) (by decide +kernel)
theorem jlf_Pa_21 : Cond.fieldLink "PleasureGarden$Party" 21 "PleasureGarden$Party" "place" "I" ∈ j_T := j_in 153 (by decide +kernel) (by decide +kernel)
theorem jlf_Pa_24 : Cond.fieldLink "PleasureGarden$Party" 24 "PleasureGarden$Party" "due" "I" ∈ j_T := j_in 156 (by decide +kernel) (by decide +kernel)
theorem jlf_Pa_29 : Cond.fieldLink "PleasureGarden$Party" 29 "PleasureGarden$Party" "box" "I" ∈ j_T := j_in 158 (by decide +kernel) (by decide +kernel)
theorem jlf_Pa_32 : Cond.fieldLink "PleasureGarden$Party" 32 "PleasureGarden$Party" "paid" "I" ∈ j_T := j_in 160 (by decide +kernel) (by decide +kernel)
theorem jlf_Pa_35 : Cond.fieldLink "PleasureGarden$Party" 35 "PleasureGarden$Party" "refund" "I" ∈ j_T := j_in 162 (by decide +kernel) (by decide +kernel)
theorem jlf_Pa_38 : Cond.fieldLink "PleasureGarden$Party" 38 "PleasureGarden$Party" "slices" "I" ∈ j_T := j_in 164 (by decide +kernel) (by decide +kernel)
theorem jlf_Pa_41 : Cond.fieldLink "PleasureGarden$Party" 41 "PleasureGarden$Party" "came" "I" ∈ j_T := j_in 166 (by decide +kernel) (by decide +kernel)
theorem jlf_Pa_46 : Cond.fieldLink "PleasureGarden$Party" 46 "PleasureGarden$Party" "stay" "I" ∈ j_T := j_in 168 (by decide +kernel) (by decide +kernel)
theorem jlf_Pa_49 : Cond.fieldLink "PleasureGarden$Party" 49 "PleasureGarden$Party" "number" "I" ∈ j_T := j_in 143 (by decide +kernel) (by decide +kernel)
theorem jlm_Wa_3 : Cond.methodLink "PleasureGarden$Watch" 3 objectInit ∈ j_T := j_in 209 (by decide +kernel) (by decide +kernel)
theorem jlf_Wa_9 : Cond.fieldLink "PleasureGarden$Watch" 9 "PleasureGarden$Watch" "shot" "I" ∈ j_T := j_in 210 (by decide +kernel) (by decide +kernel)
theorem jlf_Wa_15 : Cond.fieldLink "PleasureGarden$Watch" 15 "PleasureGarden$Watch" "stays" "I" ∈ j_T := j_in 212 (by decide +kernel) (by decide +kernel)
theorem jlf_Wa_18 : Cond.fieldLink "PleasureGarden$Watch" 18 "PleasureGarden$Watch" "who" "[I" ∈ j_T := j_in 213 (by decide +kernel) (by decide +kernel)
theorem jlf_Wa_22 : Cond.fieldLink "PleasureGarden$Watch" 22 "PleasureGarden$Watch" "where" "[I" ∈ j_T := j_in 214 (by decide +kernel) (by decide +kernel)
theorem jlf_Wa_25 : Cond.fieldLink "PleasureGarden$Watch" 25 "PleasureGarden$Watch" "from" "[I" ∈ j_T := j_in 215 (by decide +kernel) (by decide +kernel)
theorem jlf_Wa_28 : Cond.fieldLink "PleasureGarden$Watch" 28 "PleasureGarden$Watch" "until" "[I" ∈ j_T := j_in 216 (by decide +kernel) (by decide +kernel)
theorem jlf_Wa_31 : Cond.fieldLink "PleasureGarden$Watch" 31 "PleasureGarden$Watch" "thefts" "I" ∈ j_T := j_in 217 (by decide +kernel) (by decide +kernel)
theorem jlf_Wa_34 : Cond.fieldLink "PleasureGarden$Watch" 34 "PleasureGarden$Watch" "theftMinute" "[I" ∈ j_T := j_in 219 (by decide +kernel) (by decide +kernel)
theorem jlf_Wa_37 : Cond.fieldLink "PleasureGarden$Watch" 37 "PleasureGarden$Watch" "theftPlace" "[I" ∈ j_T := j_in 220 (by decide +kernel) (by decide +kernel)
theorem jlm_Wa_40 : Cond.methodLink "PleasureGarden$Watch" 40 jy_Wa_saw ∈ j_T := j_in 974 (by decide +kernel) (by decide +kernel)
theorem jlm_La_1 : Cond.methodLink "PleasureGarden$Lamps" 1 objectInit ∈ j_T := j_in 245 (by decide +kernel) (by decide +kernel)
theorem jlf_La_7 : Cond.fieldLink "PleasureGarden$Lamps" 7 "PleasureGarden$Lamps" "count" "I" ∈ j_T := j_in 248 (by decide +kernel) (by decide +kernel)
theorem jlf_La_13 : Cond.fieldLink "PleasureGarden$Lamps" 13 "PleasureGarden$Lamps" "fuses" "I" ∈ j_T := j_in 250 (by decide +kernel) (by decide +kernel)
theorem jlf_La_16 : Cond.fieldLink "PleasureGarden$Lamps" 16 "PleasureGarden$Lamps" "litAt" "I" ∈ j_T := j_in 252 (by decide +kernel) (by decide +kernel)
theorem jlf_La_19 : Cond.fieldLink "PleasureGarden$Lamps" 19 "PleasureGarden$Lamps" "oil" "[I" ∈ j_T := j_in 253 (by decide +kernel) (by decide +kernel)
theorem jlf_La_23 : Cond.fieldLink "PleasureGarden$Lamps" 23 "PleasureGarden$Lamps" "second" "[I" ∈ j_T := j_in 254 (by decide +kernel) (by decide +kernel)
theorem jlk_La_26 : Cond.classLink "PleasureGarden$Lamps" 26 "[[I" ∈ j_T := j_in 246 (by decide +kernel) (by decide +kernel)
theorem jlf_La_28 : Cond.fieldLink "PleasureGarden$Lamps" 28 "PleasureGarden$Lamps" "rows" "[[I" ∈ j_T := j_in 256 (by decide +kernel) (by decide +kernel)
theorem jlc_La_31 : Cond.constant "PleasureGarden$Lamps" 31 (10000000) ∈ j_T := j_in 247 (by decide +kernel) (by decide +kernel)
theorem jlm_La_32 : Cond.methodLink "PleasureGarden$Lamps" 32 Lib.Math.min.name ∈ j_T := j_in 800 (by decide +kernel) (by decide +kernel)
theorem jlm_La_38 : Cond.methodLink "PleasureGarden$Lamps" 38 jy_La_secondOf ∈ j_T := j_in 809 (by decide +kernel) (by decide +kernel)
theorem jlm_La_42 : Cond.methodLink "PleasureGarden$Lamps" 42 Lib.Math.max.name ∈ j_T := j_in 813 (by decide +kernel) (by decide +kernel)
theorem jlm_La_45 : Cond.methodLink "PleasureGarden$Lamps" 45 jy_La_isLit ∈ j_T := j_in 830 (by decide +kernel) (by decide +kernel)
theorem jlm_La_49 : Cond.methodLink "PleasureGarden$Lamps" 49 jy_La_costOf ∈ j_T := j_in 847 (by decide +kernel) (by decide +kernel)
theorem jlm_Bo_1 : Cond.methodLink "PleasureGarden$Boxes" 1 objectInit ∈ j_T := j_in 275 (by decide +kernel) (by decide +kernel)
theorem jlf_Bo_7 : Cond.fieldLink "PleasureGarden$Boxes" 7 "PleasureGarden$Boxes" "count" "I" ∈ j_T := j_in 276 (by decide +kernel) (by decide +kernel)
theorem jlf_Bo_13 : Cond.fieldLink "PleasureGarden$Boxes" 13 "PleasureGarden$Boxes" "place" "[I" ∈ j_T := j_in 278 (by decide +kernel) (by decide +kernel)
theorem jlf_Bo_17 : Cond.fieldLink "PleasureGarden$Boxes" 17 "PleasureGarden$Boxes" "seats" "[I" ∈ j_T := j_in 280 (by decide +kernel) (by decide +kernel)
theorem jlf_Bo_20 : Cond.fieldLink "PleasureGarden$Boxes" 20 "PleasureGarden$Boxes" "guest" "[I" ∈ j_T := j_in 282 (by decide +kernel) (by decide +kernel)
theorem jlm_Ki_1 : Cond.methodLink "PleasureGarden$Kitchen" 1 objectInit ∈ j_T := j_in 298 (by decide +kernel) (by decide +kernel)
theorem jlf_Ki_7 : Cond.fieldLink "PleasureGarden$Kitchen" 7 "PleasureGarden$Kitchen" "grams" "I" ∈ j_T := j_in 299 (by decide +kernel) (by decide +kernel)
theorem jlf_Ki_13 : Cond.fieldLink "PleasureGarden$Kitchen" 13 "PleasureGarden$Kitchen" "slice" "I" ∈ j_T := j_in 301 (by decide +kernel) (by decide +kernel)
theorem jlf_Ki_16 : Cond.fieldLink "PleasureGarden$Kitchen" 16 "PleasureGarden$Kitchen" "waiters" "I" ∈ j_T := j_in 303 (by decide +kernel) (by decide +kernel)
theorem jlf_Ki_19 : Cond.fieldLink "PleasureGarden$Kitchen" 19 "PleasureGarden$Kitchen" "served" "I" ∈ j_T := j_in 305 (by decide +kernel) (by decide +kernel)
theorem jlf_Ki_22 : Cond.fieldLink "PleasureGarden$Kitchen" 22 "PleasureGarden$Kitchen" "orders" "I" ∈ j_T := j_in 307 (by decide +kernel) (by decide +kernel)
theorem jlf_Ki_25 : Cond.fieldLink "PleasureGarden$Kitchen" 25 "PleasureGarden$Kitchen" "party" "[I" ∈ j_T := j_in 309 (by decide +kernel) (by decide +kernel)
theorem jlf_Ki_29 : Cond.fieldLink "PleasureGarden$Kitchen" 29 "PleasureGarden$Kitchen" "slices" "[I" ∈ j_T := j_in 311 (by decide +kernel) (by decide +kernel)
theorem jlf_Ki_32 : Cond.fieldLink "PleasureGarden$Kitchen" 32 "PleasureGarden$Kitchen" "lacking" "[Z" ∈ j_T := j_in 313 (by decide +kernel) (by decide +kernel)
theorem jlm_Ki_36 : Cond.methodLink "PleasureGarden$Kitchen" 36 jy_Ki_removeFirst ∈ j_T := j_in 767 (by decide +kernel) (by decide +kernel)
theorem jlm_Ki_39 : Cond.methodLink "PleasureGarden$Kitchen" 39 jy_Ki_append ∈ j_T := j_in 771 (by decide +kernel) (by decide +kernel)
theorem jlm_Ki_43 : Cond.methodLink "PleasureGarden$Kitchen" 43 jy_Ki_move ∈ j_T := j_in 710 (by decide +kernel) (by decide +kernel)
theorem jlm_Pr_1 : Cond.methodLink "PleasureGarden$Prices" 1 objectInit ∈ j_T := j_in 336 (by decide +kernel) (by decide +kernel)
theorem jlf_Pr_7 : Cond.fieldLink "PleasureGarden$Prices" 7 "PleasureGarden$Prices" "count" "I" ∈ j_T := j_in 365 (by decide +kernel) (by decide +kernel)
theorem jlf_Pr_13 : Cond.fieldLink "PleasureGarden$Prices" 13 "PleasureGarden$Prices" "tape" "I" ∈ j_T := j_in 367 (by decide +kernel) (by decide +kernel)
theorem jlf_Pr_16 : Cond.fieldLink "PleasureGarden$Prices" 16 "PleasureGarden$Prices" "bytes" "[B" ∈ j_T := j_in 369 (by decide +kernel) (by decide +kernel)
theorem jlf_Pr_20 : Cond.fieldLink "PleasureGarden$Prices" 20 "PleasureGarden$Prices" "length" "[I" ∈ j_T := j_in 370 (by decide +kernel) (by decide +kernel)
theorem jlf_Pr_24 : Cond.fieldLink "PleasureGarden$Prices" 24 "PleasureGarden$Prices" "kind" "[I" ∈ j_T := j_in 371 (by decide +kernel) (by decide +kernel)
theorem jlf_Pr_27 : Cond.fieldLink "PleasureGarden$Prices" 27 "PleasureGarden$Prices" "from" "[I" ∈ j_T := j_in 372 (by decide +kernel) (by decide +kernel)
theorem jlf_Pr_30 : Cond.fieldLink "PleasureGarden$Prices" 30 "PleasureGarden$Prices" "made" "[I" ∈ j_T := j_in 373 (by decide +kernel) (by decide +kernel)
theorem jlk_Pr_33 : Cond.classLink "PleasureGarden$Prices" 33 "PleasureGarden$Reader" ∈ j_T := j_in 337 (by decide +kernel) (by decide +kernel)
theorem jlf_Pr_36 : Cond.fieldLink "PleasureGarden$Prices" 36 "PleasureGarden$Prices" "reader" "LPleasureGarden$Reader;" ∈ j_T := j_in 374 (by decide +kernel) (by decide +kernel)
theorem jlm_Pr_40 : Cond.methodLink "PleasureGarden$Prices" 40 jy_Re_valueOf ∈ j_T := j_in 560 (by decide +kernel) (by decide +kernel)
theorem jlf_Pr_44 : Cond.fieldLink "PleasureGarden$Prices" 44 "PleasureGarden$Reader" "fault" "I" ∈ j_T := j_in 346 (by decide +kernel) (by decide +kernel)
theorem jlc_Pr_47 : Cond.constant "PleasureGarden$Prices" 47 (100000) ∈ j_T := j_in 683 (by decide +kernel) (by decide +kernel)
theorem jlm_Pr_48 : Cond.methodLink "PleasureGarden$Prices" 48 Lib.Math.min.name ∈ j_T := j_in 684 (by decide +kernel) (by decide +kernel)
theorem jlm_Pr_54 : Cond.methodLink "PleasureGarden$Prices" 54 Lib.Math.max.name ∈ j_T := j_in 685 (by decide +kernel) (by decide +kernel)
theorem jlm_Re_1 : Cond.methodLink "PleasureGarden$Reader" 1 objectInit ∈ j_T := j_in 342 (by decide +kernel) (by decide +kernel)
theorem jlf_Re_7 : Cond.fieldLink "PleasureGarden$Reader" 7 "PleasureGarden$Reader" "names" "[I" ∈ j_T := j_in 343 (by decide +kernel) (by decide +kernel)
theorem jlf_Re_13 : Cond.fieldLink "PleasureGarden$Reader" 13 "PleasureGarden$Reader" "fault" "I" ∈ j_T := j_in 345 (by decide +kernel) (by decide +kernel)
theorem jlf_Re_17 : Cond.fieldLink "PleasureGarden$Reader" 17 "PleasureGarden$Reader" "text" "[B" ∈ j_T := j_in 347 (by decide +kernel) (by decide +kernel)
theorem jlf_Re_21 : Cond.fieldLink "PleasureGarden$Reader" 21 "PleasureGarden$Reader" "start" "I" ∈ j_T := j_in 348 (by decide +kernel) (by decide +kernel)
theorem jlf_Re_24 : Cond.fieldLink "PleasureGarden$Reader" 24 "PleasureGarden$Reader" "end" "I" ∈ j_T := j_in 349 (by decide +kernel) (by decide +kernel)
theorem jlf_Re_27 : Cond.fieldLink "PleasureGarden$Reader" 27 "PleasureGarden$Reader" "at" "I" ∈ j_T := j_in 350 (by decide +kernel) (by decide +kernel)
theorem jlm_Re_30 : Cond.methodLink "PleasureGarden$Reader" 30 Lib.Math.min.name ∈ j_T := j_in 564 (by decide +kernel) (by decide +kernel)
theorem jlm_Re_38 : Cond.methodLink "PleasureGarden$Reader" 38 jy_Re_expression ∈ j_T := j_in 565 (by decide +kernel) (by decide +kernel)
theorem jlm_Re_41 : Cond.methodLink "PleasureGarden$Reader" 41 jy_Re_take ∈ j_T := j_in 573 (by decide +kernel) (by decide +kernel)
theorem jlm_Re_45 : Cond.methodLink "PleasureGarden$Reader" 45 jy_Re_fail ∈ j_T := j_in 581 (by decide +kernel) (by decide +kernel)
theorem jlm_Re_48 : Cond.methodLink "PleasureGarden$Reader" 48 jy_Re_next ∈ j_T := j_in 577 (by decide +kernel) (by decide +kernel)
theorem jlm_Re_52 : Cond.methodLink "PleasureGarden$Reader" 52 jy_Re_operand ∈ j_T := j_in 569 (by decide +kernel) (by decide +kernel)
theorem jlm_Re_56 : Cond.methodLink "PleasureGarden$Reader" 56 jy_Re_levelOf ∈ j_T := j_in 677 (by decide +kernel) (by decide +kernel)
theorem jlm_Re_59 : Cond.methodLink "PleasureGarden$Reader" 59 jy_Re_joined ∈ j_T := j_in 680 (by decide +kernel) (by decide +kernel)
theorem jlm_Re_63 : Cond.methodLink "PleasureGarden$Reader" 63 jy_Re_isDigit ∈ j_T := j_in 585 (by decide +kernel) (by decide +kernel)
theorem jlm_Re_67 : Cond.methodLink "PleasureGarden$Reader" 67 jy_Re_number ∈ j_T := j_in 588 (by decide +kernel) (by decide +kernel)
theorem jlm_Re_72 : Cond.methodLink "PleasureGarden$Reader" 72 ⟨"java/lang/String", "indexOf", "(I)I"⟩ ∈ j_T := j_in 593 (by decide +kernel) (by decide +kernel)
theorem jlm_Le_3 : Cond.methodLink "PleasureGarden$Ledger" 3 objectInit ∈ j_T := j_in 398 (by decide +kernel) (by decide +kernel)
theorem jlf_Le_9 : Cond.fieldLink "PleasureGarden$Ledger" 9 "PleasureGarden$Ledger" "count" "I" ∈ j_T := j_in 399 (by decide +kernel) (by decide +kernel)
theorem jlf_Le_15 : Cond.fieldLink "PleasureGarden$Ledger" 15 "PleasureGarden$Ledger" "takings" "[I" ∈ j_T := j_in 401 (by decide +kernel) (by decide +kernel)
theorem jlf_Le_19 : Cond.fieldLink "PleasureGarden$Ledger" 19 "PleasureGarden$Ledger" "rain" "[I" ∈ j_T := j_in 403 (by decide +kernel) (by decide +kernel)
theorem jlf_Le_22 : Cond.fieldLink "PleasureGarden$Ledger" 22 "PleasureGarden$Ledger" "heads" "[I" ∈ j_T := j_in 405 (by decide +kernel) (by decide +kernel)
theorem jlm_Le_25 : Cond.methodLink "PleasureGarden$Ledger" 25 Lib.Math.abs.name ∈ j_T := j_in 951 (by decide +kernel) (by decide +kernel)
theorem jlc_Le_31 : Cond.constant "PleasureGarden$Ledger" 31 (-2000000000) ∈ j_T := j_in 954 (by decide +kernel) (by decide +kernel)
theorem jlm_Le_32 : Cond.methodLink "PleasureGarden$Ledger" 32 ⟨"java/lang/Math", "floorDiv", "(JJ)J"⟩ ∈ j_T := j_in 955 (by decide +kernel) (by decide +kernel)
theorem jlm_M_1 : Cond.methodLink "PleasureGardenModel" 1 objectInit ∈ j_T := j_in 995 (by decide +kernel) (by decide +kernel)
theorem jlf_M_7 : Cond.fieldLink "PleasureGardenModel" 7 "PleasureGardenModel" "room" "[I" ∈ j_T := j_in 1000 (by decide +kernel) (by decide +kernel)
theorem jlf_M_13 : Cond.fieldLink "PleasureGardenModel" 13 "PleasureGardenModel" "covered" "[Z" ∈ j_T := j_in 1001 (by decide +kernel) (by decide +kernel)
theorem jlf_M_17 : Cond.fieldLink "PleasureGardenModel" 17 "PleasureGardenModel" "walks" "[I" ∈ j_T := j_in 1002 (by decide +kernel) (by decide +kernel)
theorem jlf_M_20 : Cond.fieldLink "PleasureGardenModel" 20 "PleasureGardenModel" "rainFrom" "[I" ∈ j_T := j_in 1004 (by decide +kernel) (by decide +kernel)
theorem jlf_M_23 : Cond.fieldLink "PleasureGardenModel" 23 "PleasureGardenModel" "rainTo" "[I" ∈ j_T := j_in 1005 (by decide +kernel) (by decide +kernel)
theorem jlf_M_26 : Cond.fieldLink "PleasureGardenModel" 26 "PleasureGardenModel" "far" "[I" ∈ j_T := j_in 1006 (by decide +kernel) (by decide +kernel)
theorem jlf_M_29 : Cond.fieldLink "PleasureGardenModel" 29 "PleasureGardenModel" "isSold" "[Z" ∈ j_T := j_in 1007 (by decide +kernel) (by decide +kernel)
theorem jlf_M_32 : Cond.fieldLink "PleasureGardenModel" 32 "PleasureGardenModel" "headsOf" "[I" ∈ j_T := j_in 1009 (by decide +kernel) (by decide +kernel)
theorem jlf_M_35 : Cond.fieldLink "PleasureGardenModel" 35 "PleasureGardenModel" "ticketOf" "[I" ∈ j_T := j_in 1010 (by decide +kernel) (by decide +kernel)
theorem jlf_M_38 : Cond.fieldLink "PleasureGardenModel" 38 "PleasureGardenModel" "state" "[I" ∈ j_T := j_in 1011 (by decide +kernel) (by decide +kernel)
theorem jlf_M_41 : Cond.fieldLink "PleasureGardenModel" 41 "PleasureGardenModel" "placeOf" "[I" ∈ j_T := j_in 1012 (by decide +kernel) (by decide +kernel)
theorem jlf_M_44 : Cond.fieldLink "PleasureGardenModel" 44 "PleasureGardenModel" "till" "[I" ∈ j_T := j_in 1013 (by decide +kernel) (by decide +kernel)
theorem jlf_M_47 : Cond.fieldLink "PleasureGardenModel" 47 "PleasureGardenModel" "boxOf" "[I" ∈ j_T := j_in 1014 (by decide +kernel) (by decide +kernel)
theorem jlf_M_50 : Cond.fieldLink "PleasureGardenModel" 50 "PleasureGardenModel" "paid" "[I" ∈ j_T := j_in 1015 (by decide +kernel) (by decide +kernel)
theorem jlf_M_53 : Cond.fieldLink "PleasureGardenModel" 53 "PleasureGardenModel" "refund" "[I" ∈ j_T := j_in 1016 (by decide +kernel) (by decide +kernel)
theorem jlf_M_56 : Cond.fieldLink "PleasureGardenModel" 56 "PleasureGardenModel" "served" "[I" ∈ j_T := j_in 1017 (by decide +kernel) (by decide +kernel)
theorem jlf_M_59 : Cond.fieldLink "PleasureGardenModel" 59 "PleasureGardenModel" "came" "[I" ∈ j_T := j_in 1018 (by decide +kernel) (by decide +kernel)
theorem jlc_M_62 : Cond.constant "PleasureGardenModel" 62 (48000) ∈ j_T := j_in 996 (by decide +kernel) (by decide +kernel)
theorem jlf_M_63 : Cond.fieldLink "PleasureGardenModel" 63 "PleasureGardenModel" "was" "[B" ∈ j_T := j_in 1019 (by decide +kernel) (by decide +kernel)
theorem jlf_M_67 : Cond.fieldLink "PleasureGardenModel" 67 "PleasureGardenModel" "oil" "[I" ∈ j_T := j_in 1025 (by decide +kernel) (by decide +kernel)
theorem jlf_M_70 : Cond.fieldLink "PleasureGardenModel" 70 "PleasureGardenModel" "fuseA" "[I" ∈ j_T := j_in 1027 (by decide +kernel) (by decide +kernel)
theorem jlf_M_73 : Cond.fieldLink "PleasureGardenModel" 73 "PleasureGardenModel" "fuseB" "[I" ∈ j_T := j_in 1028 (by decide +kernel) (by decide +kernel)
theorem jlf_M_76 : Cond.fieldLink "PleasureGardenModel" 76 "PleasureGardenModel" "fuseLong" "[I" ∈ j_T := j_in 1029 (by decide +kernel) (by decide +kernel)
theorem jlf_M_79 : Cond.fieldLink "PleasureGardenModel" 79 "PleasureGardenModel" "burnt" "[I" ∈ j_T := j_in 1030 (by decide +kernel) (by decide +kernel)
theorem jlf_M_82 : Cond.fieldLink "PleasureGardenModel" 82 "PleasureGardenModel" "lit" "[I" ∈ j_T := j_in 1031 (by decide +kernel) (by decide +kernel)
theorem jlf_M_85 : Cond.fieldLink "PleasureGardenModel" 85 "PleasureGardenModel" "boxPlace" "[I" ∈ j_T := j_in 1037 (by decide +kernel) (by decide +kernel)
theorem jlf_M_88 : Cond.fieldLink "PleasureGardenModel" 88 "PleasureGardenModel" "seats" "[I" ∈ j_T := j_in 1038 (by decide +kernel) (by decide +kernel)
theorem jlf_M_91 : Cond.fieldLink "PleasureGardenModel" 91 "PleasureGardenModel" "slice" "I" ∈ j_T := j_in 1040 (by decide +kernel) (by decide +kernel)
theorem jlf_M_95 : Cond.fieldLink "PleasureGardenModel" 95 "PleasureGardenModel" "waiters" "I" ∈ j_T := j_in 1041 (by decide +kernel) (by decide +kernel)
theorem jlf_M_98 : Cond.fieldLink "PleasureGardenModel" 98 "PleasureGardenModel" "orderOf" "[I" ∈ j_T := j_in 1043 (by decide +kernel) (by decide +kernel)
theorem jlf_M_101 : Cond.fieldLink "PleasureGardenModel" 101 "PleasureGardenModel" "orderSlices" "[I" ∈ j_T := j_in 1044 (by decide +kernel) (by decide +kernel)
theorem jlf_M_104 : Cond.fieldLink "PleasureGardenModel" 104 "PleasureGardenModel" "isLacking" "[Z" ∈ j_T := j_in 1045 (by decide +kernel) (by decide +kernel)
theorem jlf_M_107 : Cond.fieldLink "PleasureGardenModel" 107 "PleasureGardenModel" "tape" "[B" ∈ j_T := j_in 1046 (by decide +kernel) (by decide +kernel)
theorem jlf_M_110 : Cond.fieldLink "PleasureGardenModel" 110 "PleasureGardenModel" "priceKind" "[I" ∈ j_T := j_in 1049 (by decide +kernel) (by decide +kernel)
theorem jlf_M_113 : Cond.fieldLink "PleasureGardenModel" 113 "PleasureGardenModel" "priceNight" "[I" ∈ j_T := j_in 1050 (by decide +kernel) (by decide +kernel)
theorem jlf_M_116 : Cond.fieldLink "PleasureGardenModel" 116 "PleasureGardenModel" "priceFrom" "[I" ∈ j_T := j_in 1051 (by decide +kernel) (by decide +kernel)
theorem jlf_M_119 : Cond.fieldLink "PleasureGardenModel" 119 "PleasureGardenModel" "priceSize" "[I" ∈ j_T := j_in 1052 (by decide +kernel) (by decide +kernel)
theorem jlf_M_122 : Cond.fieldLink "PleasureGardenModel" 122 "PleasureGardenModel" "step" "[I" ∈ j_T := j_in 1053 (by decide +kernel) (by decide +kernel)
theorem jlf_M_125 : Cond.fieldLink "PleasureGardenModel" 125 "PleasureGardenModel" "number" "[I" ∈ j_T := j_in 1054 (by decide +kernel) (by decide +kernel)
theorem jlf_M_128 : Cond.fieldLink "PleasureGardenModel" 128 "PleasureGardenModel" "wait" "[I" ∈ j_T := j_in 1055 (by decide +kernel) (by decide +kernel)
theorem jlf_M_131 : Cond.fieldLink "PleasureGardenModel" 131 "PleasureGardenModel" "named" "[I" ∈ j_T := j_in 1059 (by decide +kernel) (by decide +kernel)
theorem jlf_M_134 : Cond.fieldLink "PleasureGardenModel" 134 "PleasureGardenModel" "pile" "[I" ∈ j_T := j_in 1060 (by decide +kernel) (by decide +kernel)
theorem jlf_M_137 : Cond.fieldLink "PleasureGardenModel" 137 "PleasureGardenModel" "nightTakings" "[I" ∈ j_T := j_in 1061 (by decide +kernel) (by decide +kernel)
theorem jlf_M_140 : Cond.fieldLink "PleasureGardenModel" 140 "PleasureGardenModel" "nightRain" "[I" ∈ j_T := j_in 1062 (by decide +kernel) (by decide +kernel)
theorem jlf_M_143 : Cond.fieldLink "PleasureGardenModel" 143 "PleasureGardenModel" "nightHeads" "[I" ∈ j_T := j_in 1063 (by decide +kernel) (by decide +kernel)
theorem jlf_M_146 : Cond.fieldLink "PleasureGardenModel" 146 "PleasureGardenModel" "theftMinute" "[I" ∈ j_T := j_in 1065 (by decide +kernel) (by decide +kernel)
theorem jlf_M_149 : Cond.fieldLink "PleasureGardenModel" 149 "PleasureGardenModel" "theftPlace" "[I" ∈ j_T := j_in 1066 (by decide +kernel) (by decide +kernel)
theorem jlf_M_155 : Cond.fieldLink "PleasureGardenModel" 155 "PleasureGardenModel" "places" "I" ∈ j_T := j_in 999 (by decide +kernel) (by decide +kernel)
theorem jlm_M_158 : Cond.methodLink "PleasureGardenModel" 158 jy_M_among ∈ j_T := j_in 1214 (by decide +kernel) (by decide +kernel)
theorem jlm_M_162 : Cond.methodLink "PleasureGardenModel" 162 jy_M_isPlace ∈ j_T := j_in 1221 (by decide +kernel) (by decide +kernel)
theorem jlc_M_166 : Cond.constant "PleasureGardenModel" 166 (1000000) ∈ j_T := j_in 1233 (by decide +kernel) (by decide +kernel)
theorem jlm_M_167 : Cond.methodLink "PleasureGardenModel" 167 jy_M_findFar ∈ j_T := j_in 1229 (by decide +kernel) (by decide +kernel)
theorem jlf_M_171 : Cond.fieldLink "PleasureGardenModel" 171 "PleasureGardenModel" "minute" "I" ∈ j_T := j_in 998 (by decide +kernel) (by decide +kernel)
theorem jlf_M_174 : Cond.fieldLink "PleasureGardenModel" 174 "PleasureGardenModel" "rains" "I" ∈ j_T := j_in 1003 (by decide +kernel) (by decide +kernel)
theorem jlm_M_177 : Cond.methodLink "PleasureGardenModel" 177 jy_M_rainsIn ∈ j_T := j_in 1261 (by decide +kernel) (by decide +kernel)
theorem jlf_M_180 : Cond.fieldLink "PleasureGardenModel" 180 "PleasureGardenModel" "parties" "I" ∈ j_T := j_in 1008 (by decide +kernel) (by decide +kernel)
theorem jlm_M_183 : Cond.methodLink "PleasureGardenModel" 183 jy_M_isTicket ∈ j_T := j_in 1242 (by decide +kernel) (by decide +kernel)
theorem jlf_M_186 : Cond.fieldLink "PleasureGardenModel" 186 "PleasureGardenModel" "forged" "I" ∈ j_T := j_in 1020 (by decide +kernel) (by decide +kernel)
theorem jlm_M_189 : Cond.methodLink "PleasureGardenModel" 189 jy_M_tonight ∈ j_T := j_in 1249 (by decide +kernel) (by decide +kernel)
theorem jlf_M_193 : Cond.fieldLink "PleasureGardenModel" 193 "PleasureGardenModel" "takings" "I" ∈ j_T := j_in 1022 (by decide +kernel) (by decide +kernel)
theorem jlf_M_196 : Cond.fieldLink "PleasureGardenModel" 196 "PleasureGardenModel" "orders" "I" ∈ j_T := j_in 1042 (by decide +kernel) (by decide +kernel)
theorem jlm_M_199 : Cond.methodLink "PleasureGardenModel" 199 jy_M_shift ∈ j_T := j_in 1297 (by decide +kernel) (by decide +kernel)
theorem jlm_M_203 : Cond.methodLink "PleasureGardenModel" 203 jy_M_getsUp ∈ j_T := j_in 1293 (by decide +kernel) (by decide +kernel)
theorem jlm_M_206 : Cond.methodLink "PleasureGardenModel" 206 jy_M_isParty ∈ j_T := j_in 1285 (by decide +kernel) (by decide +kernel)
theorem jlm_M_209 : Cond.methodLink "PleasureGardenModel" 209 jy_M_goes ∈ j_T := j_in 1289 (by decide +kernel) (by decide +kernel)
theorem jlm_M_213 : Cond.methodLink "PleasureGardenModel" 213 jy_M_goesOut ∈ j_T := j_in 1305 (by decide +kernel) (by decide +kernel)
theorem jlm_M_216 : Cond.methodLink "PleasureGardenModel" 216 jy_M_headsAt ∈ j_T := j_in 1317 (by decide +kernel) (by decide +kernel)
theorem jlm_M_220 : Cond.methodLink "PleasureGardenModel" 220 jy_M_keep ∈ j_T := j_in 1325 (by decide +kernel) (by decide +kernel)
theorem jlm_M_223 : Cond.methodLink "PleasureGardenModel" 223 jy_M_flee ∈ j_T := j_in 1329 (by decide +kernel) (by decide +kernel)
theorem jlm_M_226 : Cond.methodLink "PleasureGardenModel" 226 jy_M_serve ∈ j_T := j_in 1333 (by decide +kernel) (by decide +kernel)
theorem jlf_M_229 : Cond.fieldLink "PleasureGardenModel" 229 "PleasureGardenModel" "crush" "I" ∈ j_T := j_in 1021 (by decide +kernel) (by decide +kernel)
theorem jlf_M_232 : Cond.fieldLink "PleasureGardenModel" 232 "PleasureGardenModel" "lamps" "I" ∈ j_T := j_in 1024 (by decide +kernel) (by decide +kernel)
theorem jlm_M_235 : Cond.methodLink "PleasureGardenModel" 235 jy_M_isLamp ∈ j_T := j_in 1345 (by decide +kernel) (by decide +kernel)
theorem jlf_M_238 : Cond.fieldLink "PleasureGardenModel" 238 "PleasureGardenModel" "fuses" "I" ∈ j_T := j_in 1026 (by decide +kernel) (by decide +kernel)
theorem jlf_M_241 : Cond.fieldLink "PleasureGardenModel" 241 "PleasureGardenModel" "last" "I" ∈ j_T := j_in 1034 (by decide +kernel) (by decide +kernel)
theorem jlf_M_244 : Cond.fieldLink "PleasureGardenModel" 244 "PleasureGardenModel" "darks" "I" ∈ j_T := j_in 1035 (by decide +kernel) (by decide +kernel)
theorem jlm_M_247 : Cond.methodLink "PleasureGardenModel" 247 jy_M_find ∈ j_T := j_in 1353 (by decide +kernel) (by decide +kernel)
theorem jlf_M_250 : Cond.fieldLink "PleasureGardenModel" 250 "PleasureGardenModel" "hasLight" "Z" ∈ j_T := j_in 1032 (by decide +kernel) (by decide +kernel)
theorem jlf_M_254 : Cond.fieldLink "PleasureGardenModel" 254 "PleasureGardenModel" "litIn" "I" ∈ j_T := j_in 1033 (by decide +kernel) (by decide +kernel)
theorem jlf_M_257 : Cond.fieldLink "PleasureGardenModel" 257 "PleasureGardenModel" "boxes" "I" ∈ j_T := j_in 1036 (by decide +kernel) (by decide +kernel)
theorem jlm_M_260 : Cond.methodLink "PleasureGardenModel" 260 jy_M_isBox ∈ j_T := j_in 1381 (by decide +kernel) (by decide +kernel)
theorem jlm_M_263 : Cond.methodLink "PleasureGardenModel" 263 jy_M_whoIn ∈ j_T := j_in 1385 (by decide +kernel) (by decide +kernel)
theorem jlf_M_266 : Cond.fieldLink "PleasureGardenModel" 266 "PleasureGardenModel" "kitchen" "I" ∈ j_T := j_in 1039 (by decide +kernel) (by decide +kernel)
theorem jlc_M_269 : Cond.constant "PleasureGardenModel" 269 (99999) ∈ j_T := j_in 1401 (by decide +kernel) (by decide +kernel)
theorem jlf_M_270 : Cond.fieldLink "PleasureGardenModel" 270 "PleasureGardenModel" "servedAll" "I" ∈ j_T := j_in 1023 (by decide +kernel) (by decide +kernel)
theorem jlf_M_273 : Cond.fieldLink "PleasureGardenModel" 273 "PleasureGardenModel" "taped" "I" ∈ j_T := j_in 1047 (by decide +kernel) (by decide +kernel)
theorem jlf_M_276 : Cond.fieldLink "PleasureGardenModel" 276 "PleasureGardenModel" "laid" "I" ∈ j_T := j_in 1057 (by decide +kernel) (by decide +kernel)
theorem jlf_M_279 : Cond.fieldLink "PleasureGardenModel" 279 "PleasureGardenModel" "waits" "I" ∈ j_T := j_in 1056 (by decide +kernel) (by decide +kernel)
theorem jlm_M_282 : Cond.methodLink "PleasureGardenModel" 282 jy_M_tight ∈ j_T := j_in 1443 (by decide +kernel) (by decide +kernel)
theorem jlm_M_285 : Cond.methodLink "PleasureGardenModel" 285 jy_M_lay ∈ j_T := j_in 1436 (by decide +kernel) (by decide +kernel)
theorem jlf_M_288 : Cond.fieldLink "PleasureGardenModel" 288 "PleasureGardenModel" "at" "I" ∈ j_T := j_in 1058 (by decide +kernel) (by decide +kernel)
theorem jlm_M_291 : Cond.methodLink "PleasureGardenModel" 291 jy_M_opened ∈ j_T := j_in 1429 (by decide +kernel) (by decide +kernel)
theorem jlm_M_295 : Cond.methodLink "PleasureGardenModel" 295 jy_M_isName ∈ j_T := j_in 1433 (by decide +kernel) (by decide +kernel)
theorem jlm_M_298 : Cond.methodLink "PleasureGardenModel" 298 jy_M_operand ∈ j_T := j_in 1425 (by decide +kernel) (by decide +kernel)
theorem jlm_M_301 : Cond.methodLink "PleasureGardenModel" 301 jy_M_signOf ∈ j_T := j_in 1440 (by decide +kernel) (by decide +kernel)
theorem jlm_M_304 : Cond.methodLink "PleasureGardenModel" 304 jy_M_done ∈ j_T := j_in 1446 (by decide +kernel) (by decide +kernel)
theorem jlm_M_307 : Cond.methodLink "PleasureGardenModel" 307 jy_M_isNight ∈ j_T := j_in 1418 (by decide +kernel) (by decide +kernel)
theorem jlf_M_310 : Cond.fieldLink "PleasureGardenModel" 310 "PleasureGardenModel" "prices" "I" ∈ j_T := j_in 1048 (by decide +kernel) (by decide +kernel)
theorem jlm_M_313 : Cond.methodLink "PleasureGardenModel" 313 jy_M_parse ∈ j_T := j_in 1421 (by decide +kernel) (by decide +kernel)
theorem jlf_M_316 : Cond.fieldLink "PleasureGardenModel" 316 "PleasureGardenModel" "night" "I" ∈ j_T := j_in 997 (by decide +kernel) (by decide +kernel)
theorem jlm_M_319 : Cond.methodLink "PleasureGardenModel" 319 jy_M_forceOn ∈ j_T := j_in 1253 (by decide +kernel) (by decide +kernel)
theorem jlm_M_322 : Cond.methodLink "PleasureGardenModel" 322 jy_M_both ∈ j_T := j_in 1277 (by decide +kernel) (by decide +kernel)
theorem jlm_M_325 : Cond.methodLink "PleasureGardenModel" 325 jy_M_rainSince ∈ j_T := j_in 1265 (by decide +kernel) (by decide +kernel)
theorem jlm_M_328 : Cond.methodLink "PleasureGardenModel" 328 jy_M_headsIn ∈ j_T := j_in 1269 (by decide +kernel) (by decide +kernel)
theorem jlm_M_331 : Cond.methodLink "PleasureGardenModel" 331 jy_M_says ∈ j_T := j_in 1273 (by decide +kernel) (by decide +kernel)
theorem jlc_M_334 : Cond.constant "PleasureGardenModel" 334 (100000) ∈ j_T := j_in 1280 (by decide +kernel) (by decide +kernel)
theorem jlm_M_335 : Cond.methodLink "PleasureGardenModel" 335 jy_M_coinsBy ∈ j_T := j_in 1257 (by decide +kernel) (by decide +kernel)
theorem jlc_M_338 : Cond.constant "PleasureGardenModel" 338 (-2000000000) ∈ j_T := j_in 1458 (by decide +kernel) (by decide +kernel)
theorem jlf_M_339 : Cond.fieldLink "PleasureGardenModel" 339 "PleasureGardenModel" "thefts" "I" ∈ j_T := j_in 1064 (by decide +kernel) (by decide +kernel)
theorem jlm_M_342 : Cond.methodLink "PleasureGardenModel" 342 jy_M_off ∈ j_T := j_in 1471 (by decide +kernel) (by decide +kernel)
theorem jlm_M_346 : Cond.methodLink "PleasureGardenModel" 346 jy_M_isNear ∈ j_T := j_in 1482 (by decide +kernel) (by decide +kernel)
theorem jqk_G : Cond.instantiable "PleasureGarden" 15 ∈ j_T := j_in 71 (by decide +kernel) (by decide +kernel)
theorem jqk_Gr : Cond.instantiable "PleasureGarden$Grounds" 5 ∈ j_T := j_in 79 (by decide +kernel) (by decide +kernel)
theorem jqk_Sk : Cond.instantiable "PleasureGarden$Sky" 2 ∈ j_T := j_in 117 (by decide +kernel) (by decide +kernel)
theorem jqk_Gu : Cond.instantiable "PleasureGarden$Guests" 2 ∈ j_T := j_in 131 (by decide +kernel) (by decide +kernel)
theorem jqk_Pa : Cond.instantiable "PleasureGarden$Party" 12 ∈ j_T := j_in 138 (by decide +kernel) (by decide +kernel)
theorem jqk_Wa : Cond.instantiable "PleasureGarden$Watch" 9 ∈ j_T := j_in 205 (by decide +kernel) (by decide +kernel)
theorem jqk_La : Cond.instantiable "PleasureGarden$Lamps" 6 ∈ j_T := j_in 241 (by decide +kernel) (by decide +kernel)
theorem jqk_Bo : Cond.instantiable "PleasureGarden$Boxes" 4 ∈ j_T := j_in 271 (by decide +kernel) (by decide +kernel)
theorem jqk_Ki : Cond.instantiable "PleasureGarden$Kitchen" 8 ∈ j_T := j_in 294 (by decide +kernel) (by decide +kernel)
theorem jqk_Pr : Cond.instantiable "PleasureGarden$Prices" 8 ∈ j_T := j_in 332 (by decide +kernel) (by decide +kernel)
theorem jqk_Re : Cond.instantiable "PleasureGarden$Reader" 6 ∈ j_T := j_in 338 (by decide +kernel) (by decide +kernel)
theorem jqk_Le : Cond.instantiable "PleasureGarden$Ledger" 4 ∈ j_T := j_in 394 (by decide +kernel) (by decide +kernel)
theorem jqk_M : Cond.instantiable "PleasureGardenModel" 71 ∈ j_T := j_in 991 (by decide +kernel) (by decide +kernel)
theorem jqa_int : Cond.arrayClass .int ∈ j_T := j_in 114 (by decide +kernel) (by decide +kernel)
theorem jqa_boolean : Cond.arrayClass .boolean ∈ j_T := j_in 115 (by decide +kernel) (by decide +kernel)
theorem jqa_byte : Cond.arrayClass .byte ∈ j_T := j_in 364 (by decide +kernel) (by decide +kernel)
theorem jqo_ints : Cond.arrayOver (.array .int) ∈ lw_tbl := List.mem_of_getElem? (i := 85) (by decide +kernel)
theorem jqo_Pa : Cond.arrayOver (.object "PleasureGarden$Party") ∈ lw_tbl := List.mem_of_getElem? (i := 137) (by decide +kernel)
def j_nest : List (String × Nat × MethodName) := [("PleasureGarden", 18, jy_Sk_init), ("PleasureGarden", 36, jy_Wa_init), ("PleasureGarden", 50, jy_Bo_init), ("PleasureGarden", 57, jy_Ki_init), ("PleasureGarden", 64, jy_Pr_init), ("PleasureGarden", 71, jy_Le_init), ("PleasureGarden$Sky", 19, jy_G_within), ("PleasureGarden$Prices", 35, jy_Re_init)]
theorem j_nest_in : ∀ q ∈ j_nest, Cond.methodLinkNest q.1 q.2.1 q.2.2 "PleasureGarden" ∈ lw_tbl := by
  intro q hq
  have e : j_nest.map (fun q => Cond.methodLinkNest q.1 q.2.1 q.2.2 "PleasureGarden") = [118, 206, 272, 295, 333, 395, 546, 339].filterMap (fun i => lw_tbl[i]?) := by decide +kernel
  have h : Cond.methodLinkNest q.1 q.2.1 q.2.2 "PleasureGarden" ∈ j_nest.map (fun q => Cond.methodLinkNest q.1 q.2.1 q.2.2 "PleasureGarden") := List.mem_map.mpr ⟨q, hq, rfl⟩
  rw [e] at h
  obtain ⟨i, -, hi⟩ := List.mem_filterMap.mp h
  exact List.mem_of_getElem? hi
theorem jqms_min : Cond.static Lib.Math.min.name ∈ j_T := j_in 92 (by decide +kernel) (by decide +kernel)
theorem jqmc_min : Cond.code Lib.Math.min.name Lib.Math.min.code 2 (some .int) ∈ j_T := j_in 93 (by decide +kernel) (by decide +kernel)
theorem jqms_max : Cond.static Lib.Math.max.name ∈ j_T := j_in 622 (by decide +kernel) (by decide +kernel)
theorem jqmc_max : Cond.code Lib.Math.max.name Lib.Math.max.code 2 (some .int) ∈ j_T := j_in 623 (by decide +kernel) (by decide +kernel)
theorem jqms_abs : Cond.static Lib.Math.abs.name ∈ j_T := j_in 952 (by decide +kernel) (by decide +kernel)
theorem jqmc_abs : Cond.code Lib.Math.abs.name Lib.Math.abs.code 1 (some .int) ∈ j_T := j_in 953 (by decide +kernel) (by decide +kernel)
theorem jqob_i : Cond.instanceMethod objectInit ∈ j_T := j_in 76 (by decide +kernel) (by decide +kernel)
theorem jqob_c : Cond.code objectInit ⟨#[0xb1]⟩ 1 none ∈ j_T := j_in 77 (by decide +kernel) (by decide +kernel)
end
section
/-! the core: a memory of numbers I and of references P over cells that lie one behind another; the machine at a pc with listed locals -/
abbrev j_M : Type := Nat → Nat → Int32
abbrev j_R : Type := Nat → Nat → Option Nat
def j_wr (I : j_M) (c k : Nat) (v : Int32) : j_M := fun x y => if x = c ∧ y = k then v else I x y
def j_wp (P : j_R) (c k : Nat) (v : Option Nat) : j_R := fun x y => if x = c ∧ y = k then v else P x y
def j_ix (i : Int32) : Nat := i.toNatClampNeg
def j_ok (i : Int32) (n : Nat) : Bool := decide (0 ≤ i ∧ i.toNatClampNeg < n)
theorem j_ok_in {i : Int32} {n : Nat} (h : j_ok i n = true) : vp_in i n := by
  have h2 := of_decide_eq_true h
  intro q
  rcases q with q | q
  · exact absurd h2.1 (by rw [Int32.le_iff_toInt_le]; rw [Int32.lt_iff_toInt_lt] at q; omega)
  · omega
theorem j_ok_lt {i : Int32} {n : Nat} (h : j_ok i n = true) : j_ix i < n := (of_decide_eq_true h).2
theorem j_wr_same (I : j_M) (c k : Nat) (v : Int32) : j_wr I c k v c k = v := by simp [j_wr]
theorem j_wr_cell (I : j_M) {c c' : Nat} (k : Nat) (v : Int32) (h : c' ≠ c) : j_wr I c k v c' = I c' := by
  funext y; simp [j_wr, h]
theorem j_wr_row (I : j_M) (c k : Nat) (v : Int32) : j_wr I c k v c = upd (I c) k v := by
  funext y; simp [j_wr, upd]
theorem j_wr_idx (I : j_M) (c : Nat) {k k' : Nat} (v : Int32) (h : k' ≠ k) : j_wr I c k v c k' = I c k' := by simp [j_wr, h]
/-- what a field holds -/
def j_fv (b : Nat) (I : j_M) (P : j_R) (ci c k : Nat) : Value :=
  if j_fk ci k = 0 then .int (I c k) else if j_fk ci k = 1 then va_rf ((P c k).map (fun q => b + q)) else if I c k < 0 then .null else .ref (b + j_ix (I c k))
def j_en (aC : Nat → ClassId) (b : Nat) (I : j_M) (P : j_R) (c : Nat) : va_E :=
  if (j_sh c).1 = 0 then .inr ((j_sh c).2.1, (List.range (j_sh c).2.2).map (j_fv b I P (j_sh c).2.1 c))
  else if (j_sh c).1 = 1 then .inl (aC (j_sh c).2.1, (j_sh c).2.2, .inl (I c))
  else .inl (aC (j_sh c).2.1, (j_sh c).2.2, .inr (.inr (.inr (.inr (fun i => (P c i).map (fun q => b + q))))))
def j_ws (aC : Nat → ClassId) (b n : Nat) (I : j_M) (P : j_R) : va_W := (List.range n).map (fun c => (b + c, j_en aC b I P c))
theorem j_ws_at {aC : Nat → ClassId} {b n : Nat} {I : j_M} {P : j_R} {c : Nat} (h : c < n) : (j_ws aC b n I P)[c]? = some (b + c, j_en aC b I P c) := by
  simp [j_ws, h]
theorem j_ws_D {aC : Nat → ClassId} {b n : Nat} {I : j_M} {P : j_R} : va_D (fun q => b ≤ q) (j_ws aC b n I P) := by
  have key : ∀ (i : Nat) (q : Nat × va_E), (j_ws aC b n I P)[i]? = some q → q.1 = b + i := by
    intro i q h
    have hl : i < n := by
      have := (List.getElem?_eq_some_iff.mp h).1
      simpa [j_ws] using this
    rw [j_ws_at hl] at h
    cases h; rfl
  refine ⟨fun i j p q hi hj hpq => ?_, fun k q hk => ?_⟩
  · have h1 := key i p hi
    have h2 := key j q hj
    omega
  · rw [key k q hk]; exact Nat.le_add_right b k
theorem j_ws_set {aC : Nat → ClassId} {b n : Nat} {I I' : j_M} {P P' : j_R} {c : Nat} {e : va_E} (he : e = j_en aC b I' P' c) (ho : ∀ x, x ≠ c → j_en aC b I P x = j_en aC b I' P' x) :
    (j_ws aC b n I P).set c (b + c, e) = j_ws aC b n I' P' := by
  apply List.ext_getElem?
  intro i
  by_cases hi : i < n
  · rw [j_ws_at hi]
    by_cases hc : i = c
    · subst hc
      rw [List.getElem?_set_self (by simp [j_ws, hi]), he]
    · rw [List.getElem?_set_ne (Ne.symm hc), j_ws_at hi, ho i hc]
  · rw [List.getElem?_eq_none (by simp [j_ws]; omega), List.getElem?_eq_none (by simp [j_ws]; omega)]
theorem j_en_ne {aC : Nat → ClassId} {b : Nat} {I : j_M} {P : j_R} {c k : Nat} {v : Int32} (x : Nat) (h : x ≠ c) : j_en aC b I P x = j_en aC b (j_wr I c k v) P x := by
  unfold j_en j_fv
  rw [j_wr_cell I k v h]
theorem j_wp_cell (P : j_R) {c c' : Nat} (k : Nat) (v : Option Nat) (h : c' ≠ c) : j_wp P c k v c' = P c' := by
  funext y; simp [j_wp, h]
theorem j_en_neP {aC : Nat → ClassId} {b : Nat} {I : j_M} {P : j_R} {c k : Nat} {v : Option Nat} (x : Nat) (h : x ≠ c) : j_en aC b I P x = j_en aC b I (j_wp P c k v) x := by
  unfold j_en j_fv
  rw [j_wp_cell P k v h]
theorem j_en_obj {aC : Nat → ClassId} {b : Nat} {I : j_M} {P : j_R} {c ci nf : Nat} (h : j_sh c = (0, ci, nf)) : j_en aC b I P c = .inr (ci, (List.range nf).map (j_fv b I P ci c)) := by
  simp [j_en, h]
theorem j_en_arr {aC : Nat → ClassId} {b : Nat} {I : j_M} {P : j_R} {c t nf : Nat} (h : j_sh c = (1, t, nf)) : j_en aC b I P c = .inl (aC t, nf, .inl (I c)) := by
  simp [j_en, h]
theorem j_en_ref {aC : Nat → ClassId} {b : Nat} {I : j_M} {P : j_R} {c t nf : Nat} (h : j_sh c = (2, t, nf)) : j_en aC b I P c = .inl (aC t, nf, .inr (.inr (.inr (.inr (fun i => (P c i).map (fun q => b + q)))))) := by
  simp [j_en, h]
theorem j_set_fs {f f' : Nat → Value} {n k : Nat} {v : Value} (hk : f' k = v) (ho : ∀ j, j ≠ k → f' j = f j) : ((List.range n).map f).set k v = (List.range n).map f' := by
  apply List.ext_getElem?
  intro i
  by_cases hi : i < n
  · by_cases hik : i = k
    · subst hik
      rw [List.getElem?_set_self (by simp [hi])]
      simp [hi, hk]
    · rw [List.getElem?_set_ne (Ne.symm hik)]
      simp [hi, ho i hik]
  · rw [List.getElem?_eq_none (by simp; omega), List.getElem?_eq_none (by simp; omega)]
/-- tables: the array classes; the nest mates' words; the one text constant -/
def j_ty (aC : Nat → ClassId) : List (ClassId × FieldType) := [(aC 0, .int), (aC 1, .boolean), (aC 2, .byte), (aC 3, .object "PleasureGarden$Party"), (aC 4, .array .int)]
abbrev j_G : Type := va_G × (Nat → ClassId) × Nat × Nat × Heap
def j_K (g : j_G) (b : Nat) (U : State) : Prop := va_K g.1 j_cl (j_ty g.2.1) U ∧ (∀ q ∈ j_nest, va_Nw (.methodLinkNest q.1 q.2.1 q.2.2 "PleasureGarden") U) ∧ vk_R "PleasureGarden$Reader" 70 "pmrngsct" g.2.2.1 U ∧ vk_S 1 [8] [[112, 109, 114, 110, 103, 115, 99, 116]] (fun _ => g.2.2.1) (fun _ => g.2.2.2.1) (fun q => b ≤ q) U g.2.2.2.2 ∧ va_Z "java/lang/String" "COMPACT_STRINGS" "Z" (.int 1) (fun q => b ≤ q) U g.2.2.2.2
theorem j_K.warm {g : j_G} {b : Nat} {s U : State} (hW : s.WarmedH U.vm) (h : j_K g b s) : j_K g b U :=
  ⟨h.1.moved hW.alike, fun q hq => va_Nw.warmM hW (h.2.1 q hq), h.2.2.1.warm hW, h.2.2.2.1.moved hW.alike, h.2.2.2.2.moved hW.alike⟩
theorem j_K.same {g : j_G} {b : Nat} {u U : State} (hv : u.vm = U.vm) (h : j_K g b u) : j_K g b U :=
  ⟨h.1.moved (by rw [hv]; exact Vm.Alike.refl _), fun q hq => va_Nw.same rfl hv (h.2.1 q hq), h.2.2.1.same hv.symm, h.2.2.2.1.moved (by rw [hv]; exact Vm.Alike.refl _), h.2.2.2.2.moved (by rw [hv]; exact Vm.Alike.refl _)⟩
def j_Rep (g : j_G) (b n : Nat) (I : j_M) (P : j_R) (H : Heap) : Prop := H.size = b + n ∧ (∀ q, q < b → H[q]? = g.2.2.2.2[q]?) ∧ va_P g.1 j_cl (j_ws g.2.1 b n I P) H
def j_Pre (g : j_G) (b n : Nat) (I : j_M) (P : j_R) (av : List Value) : Array Value → State → Prop := va_Pc av (fun U => j_Rep g b n I P U.heap ∧ j_K g b U)
def j_Post (g : j_G) (b n : Nat) (I : j_M) (P : j_R) (r : Option Value) : Array Value → State → Outcome → State → Prop := fun _ st oc t => oc = .returned r ∧ j_Rep g b n I P t.heap ∧ va_F (fun q => b ≤ q) st t
theorem j_Pre_blind {g : j_G} {b n : Nat} {I : j_M} {P : j_R} {av : List Value} : FrameBlind (j_Pre g b n I P av) := by
  intro a U f mk h
  obtain ⟨h1, h2, h3⟩ := h
  exact ⟨h1, h2, h3.same (U := U.calling f mk a) rfl⟩
def j_rm (d mc ms : Nat) : Room := { frames := d, cells := mc, slots := ms, locals := 40 * d }
def j_X (p : Program) (R : Room) (s : State) (m : MethodId) (args : Array Value) (meth : Method) (c : Code) (g : j_G) (b d : Nat) (cc : ByteArray) (nL : Nat) (own : String) (ret : Option FieldType) : Prop :=
  CallFix p m c cc nL s args j_T own ∧ meth.locks = false ∧ meth.sig.returnType = ret ∧ j_K g b s ∧ d ≤ R.frames ∧ 40 * d ≤ R.locals
/-- the locals: a list of what is known of each -/
def j_ls (ls : Array Slot) (nL : Nat) (lv : List (Option Value)) : Prop := ls.size = nL ∧ lv_wf ls ∧ ∀ (i : Nat) (v : Value), lv[i]? = some (some v) → ls[i]? = some (.val v)
def j_al (lv : List (Option Value)) : List (Nat × Value) := (List.range lv.length).filterMap (fun k => (lv[k]?.join).map (fun v => (k, v)))
theorem j_al_mem {lv : List (Option Value)} {k : Nat} {v : Value} : (k, v) ∈ j_al lv ↔ lv[k]? = some (some v) := by
  unfold j_al
  rw [List.mem_filterMap]
  constructor
  · rintro ⟨i, -, h⟩
    cases hx : lv[i]? with
    | none => rw [hx] at h; simp at h
    | some o =>
      rw [hx] at h
      cases o with
      | none => simp at h
      | some w =>
        simp at h
        obtain ⟨rfl, rfl⟩ := h
        exact hx
  · intro h
    exact ⟨k, List.mem_range.mpr (List.getElem?_eq_some_iff.mp h).1, by rw [h]; rfl⟩
theorem j_ls_has {ls : Array Slot} {nL : Nat} {lv : List (Option Value)} (h : j_ls ls nL lv) : lv_has ls nL (j_al lv) := ⟨h.1, h.2.1, fun q hq => h.2.2 q.1 q.2 (j_al_mem.mp hq)⟩
def j_cut (o : Option Value) : Option Value := match o with
  | some (.long _) => none
  | some (.double _) => none
  | o => o
theorem j_cut_some {o : Option Value} {v : Value} (h : j_cut o = some v) : o = some v ∧ ¬ v.category = 2 := by
  cases o with
  | none => cases h
  | some w => cases w <;> simp [j_cut] at h <;> subst h <;> exact ⟨rfl, by simp [Value.category]⟩
def j_s1 (lv : List (Option Value)) (i : Nat) (v : Value) : List (Option Value) := ((match i with | 0 => lv | k + 1 => lv.modify k j_cut) : List (Option Value)).set i (some v)
theorem j_s1_ok {ls' : Array Slot} {nL i : Nat} {lv : List (Option Value)} {v : Value} (h : lv_has ls' nL ((i, v) :: (j_al lv).filter (fun q => !(q.1 == i) && !(q.1 + 1 == i && q.2.category == 2)))) : j_ls ls' nL (j_s1 lv i v) := by
  refine ⟨h.1, h.2.1, fun j w hj => ?_⟩
  by_cases e : j = i
  · subst e
    have hw : w = v := by
      unfold j_s1 at hj
      rw [List.getElem?_set] at hj
      simp at hj
      exact hj.2.symm
    subst hw
    exact h.2.2 (j, w) List.mem_cons_self
  · unfold j_s1 at hj
    rw [List.getElem?_set_ne (Ne.symm e)] at hj
    have key : lv[j]? = some (some w) ∧ ¬ (j + 1 = i ∧ w.category = 2) := by
      cases i with
      | zero => exact ⟨hj, by omega⟩
      | succ k =>
        simp only [List.getElem?_modify] at hj
        by_cases hk : k = j
        · subst hk
          cases hx : lv[k]? with
          | none => rw [hx] at hj; simp at hj
          | some o =>
            rw [hx] at hj
            simp at hj
            obtain ⟨h1, h2⟩ := j_cut_some hj
            exact ⟨by rw [h1], fun q => h2 q.2⟩
        · simp [hk] at hj
          exact ⟨hj, by omega⟩
    refine h.2.2 (j, w) (List.mem_cons_of_mem _ (List.mem_filter.mpr ⟨j_al_mem.mpr key.1, ?_⟩))
    have h2 := key.2
    simp [e]
    by_cases h3 : j + 1 = i
    · exact Or.inr (fun h4 => h2 ⟨h3, h4⟩)
    · exact Or.inl h3
def j_s2 (lv : List (Option Value)) (i : Nat) (v : Value) : List (Option Value) := (j_s1 lv i v).set (i + 1) none
theorem j_s2_ok {ls' : Array Slot} {nL i : Nat} {lv : List (Option Value)} {v : Value} (h : lv_has ls' nL ((i, v) :: (j_al lv).filter (fun q => !(q.1 == i) && (!(q.1 == i + 1) && !(q.1 + 1 == i && q.2.category == 2))))) : j_ls ls' nL (j_s2 lv i v) := by
  have h1 : lv_has ls' nL ((i, v) :: (j_al (lv.set (i + 1) none)).filter (fun q => !(q.1 == i) && !(q.1 + 1 == i && q.2.category == 2))) := by
    refine ⟨h.1, h.2.1, fun q hq => ?_⟩
    rcases List.mem_cons.mp hq with rfl | hq
    · exact h.2.2 _ List.mem_cons_self
    · obtain ⟨h2, h3⟩ := List.mem_filter.mp hq
      have h4 := j_al_mem.mp h2
      have h5 : q.1 ≠ i + 1 := by
        intro e
        rw [e, List.getElem?_set] at h4
        simp at h4
      rw [List.getElem?_set_ne (Ne.symm h5)] at h4
      refine h.2.2 q (List.mem_cons_of_mem _ (List.mem_filter.mpr ⟨j_al_mem.mpr h4, ?_⟩))
      simp only [Bool.and_eq_true] at h3 ⊢
      refine ⟨h3.1, by simp [h5], h3.2⟩
  have h2 := j_s1_ok h1
  refine ⟨h2.1, h2.2.1, fun j w hj => h2.2.2 j w ?_⟩
  unfold j_s2 at hj
  by_cases e : j = i + 1
  · subst e
    rw [List.getElem?_set] at hj
    simp at hj
  · rw [List.getElem?_set_ne (Ne.symm e)] at hj
    unfold j_s1 at hj ⊢
    by_cases e2 : j = i
    · subst e2
      rw [List.getElem?_set] at hj ⊢
      cases j <;> simp at hj ⊢ <;> exact hj
    · rw [List.getElem?_set_ne (Ne.symm e2)] at hj ⊢
      cases i with
      | zero => rw [List.getElem?_set_ne (Ne.symm e)]; exact hj
      | succ k =>
        simp only [List.getElem?_modify] at hj ⊢
        rw [List.getElem?_set_ne (Ne.symm e)]
        exact hj
end
section
def j_W (p : Program) (l : Launch) (e : Env) (R : Room) (s : State) (m : MethodId) (args : Array Value) (below : List Frame) (meth : Method) (c : Code) (nL : Nat) (g : j_G) (b n cells slots : Nat) (Q : State → Prop) (I : j_M) (P : j_R) (pc : Nat) (lv : List (Option Value)) (st : List Value) : Prop :=
  ∀ (H : Heap) (locs : List Loc) (ls : Array Slot), j_Rep g b n I P H → va_S (fun q => b ≤ q) s.heap H locs → j_ls ls nL lv → W p l e R s m args below meth c H locs cells slots Q (F0 m pc ls st)
section JW
variable {p : Program} {l : Launch} {e : Env} {R : Room} {s : State} {m : MethodId} {args : Array Value} {below : List Frame} {meth : Method} {c : Code} {nL : Nat} {g : j_G} {b n cells slots d : Nat} {Q : State → Prop} {I : j_M} {P : j_R} {pc : Nat} {lv lv' : List (Option Value)} {st : List Value} {cc : ByteArray} {own : String} {ret : Option FieldType}
theorem j_lv {lv0 : List (Option Value)} (h : lv0 = lv) (k : j_W p l e R s m args below meth c nL g b n cells slots Q I P pc lv st) : j_W p l e R s m args below meth c nL g b n cells slots Q I P pc lv0 st := h ▸ k
def j_mask (ms : List Bool) (lv : List (Option Value)) : List (Option Value) := List.zipWith (fun x v => if x then v else none) ms lv
theorem j_sub (ms : List Bool) (h : j_mask ms lv = lv') (k : j_W p l e R s m args below meth c nL g b n cells slots Q I P pc lv' st) : j_W p l e R s m args below meth c nL g b n cells slots Q I P pc lv st := by
  intro H locs ls h1 h2 h3
  refine k H locs ls h1 h2 ⟨h3.1, h3.2.1, fun i v hv => h3.2.2 i v ?_⟩
  rw [← h] at hv
  unfold j_mask at hv
  rw [List.getElem?_zipWith] at hv
  cases h4 : ms[i]? with
  | none => rw [h4] at hv; cases hv
  | some x =>
    cases h5 : lv[i]? with
    | none => rw [h4, h5] at hv; cases hv
    | some w =>
      rw [h4, h5] at hv
      cases x with
      | false => simp at hv
      | true => simpa using hv
theorem j_iconst (X : j_X p R s m args meth c g b d cc nL own ret) {z : Int} {v : Int32} (hd : decode cc pc = .ok (.iconst z, 1)) (hv : Int32.ofInt z = v) (k : j_W p l e R s m args below meth c nL g b n cells slots Q I P (pc + 1) lv (.int v :: st)) : j_W p l e R s m args below meth c nL g b n cells slots Q I P pc lv st := fun H locs ls h1 h2 h3 => lv_iconst X.1.1 X.1.2.1 hd hv (k H locs ls h1 h2 h3)
theorem j_bipush (X : j_X p R s m args meth c g b d cc nL own ret) {z : Int} {v : Int32} (hd : decode cc pc = .ok (.bipush z, 2)) (hv : (Int8.ofInt z).toInt32 = v) (k : j_W p l e R s m args below meth c nL g b n cells slots Q I P (pc + 2) lv (.int v :: st)) : j_W p l e R s m args below meth c nL g b n cells slots Q I P pc lv st := fun H locs ls h1 h2 h3 => lv_bipush X.1.1 X.1.2.1 hd hv (k H locs ls h1 h2 h3)
theorem j_sipush (X : j_X p R s m args meth c g b d cc nL own ret) {z : Int} {v : Int32} (hd : decode cc pc = .ok (.sipush z, 3)) (hv : (Int16.ofInt z).toInt32 = v) (k : j_W p l e R s m args below meth c nL g b n cells slots Q I P (pc + 3) lv (.int v :: st)) : j_W p l e R s m args below meth c nL g b n cells slots Q I P pc lv st := fun H locs ls h1 h2 h3 => lv_sipush X.1.1 X.1.2.1 hd hv (k H locs ls h1 h2 h3)
theorem j_lconst (X : j_X p R s m args meth c g b d cc nL own ret) {z : Fin 2} {v : Int64} (hd : decode cc pc = .ok (.lconst z, 1)) (hv : Int64.ofNat (z : Nat) = v) (k : j_W p l e R s m args below meth c nL g b n cells slots Q I P (pc + 1) lv (.long v :: st)) : j_W p l e R s m args below meth c nL g b n cells slots Q I P pc lv st := fun H locs ls h1 h2 h3 => lv_lconst X.1.1 X.1.2.1 hd hv (k H locs ls h1 h2 h3)
theorem j_ldc (X : j_X p R s m args meth c g b d cc nL own ret) {i : Nat} {v : Int32} (hw : Cond.constant own i v ∈ j_T) (hd : decode cc pc = .ok (.ldc i, 2)) (k : j_W p l e R s m args below meth c nL g b n cells slots Q I P (pc + 2) lv (.int v :: st)) : j_W p l e R s m args below meth c nL g b n cells slots Q I P pc lv st := fun H locs ls h1 h2 h3 => lv_ldc X.1.1 X.1.2.1 X.1.2.2.2.1 (X.1.2.2.2.2 _ hw) hd (k H locs ls h1 h2 h3)
theorem j_ldcw (X : j_X p R s m args meth c g b d cc nL own ret) {i : Nat} {v : Int32} (hw : Cond.constant own i v ∈ j_T) (hd : decode cc pc = .ok (.ldc_w i, 3)) (k : j_W p l e R s m args below meth c nL g b n cells slots Q I P (pc + 3) lv (.int v :: st)) : j_W p l e R s m args below meth c nL g b n cells slots Q I P pc lv st := fun H locs ls h1 h2 h3 => lv_ldcw X.1.1 X.1.2.1 X.1.2.2.2.1 (X.1.2.2.2.2 _ hw) hd (k H locs ls h1 h2 h3)
theorem j_iload_n (X : j_X p R s m args meth c g b d cc nL own ret) {k0 : Fin 4} {i : Nat} {x : Int32} (hd : decode cc pc = .ok (.iload_n k0, 1)) (hi : (k0 : Nat) = i) (hl : lv[i]? = some (some (.int x))) (k : j_W p l e R s m args below meth c nL g b n cells slots Q I P (pc + 1) lv (.int x :: st)) : j_W p l e R s m args below meth c nL g b n cells slots Q I P pc lv st := fun H locs ls h1 h2 h3 => lv_iload_n X.1.1 X.1.2.1 hd hi (h3.2.2 _ _ hl) (k H locs ls h1 h2 h3)
theorem j_iload (X : j_X p R s m args meth c g b d cc nL own ret) {i : Nat} {x : Int32} (hd : decode cc pc = .ok (.iload i, 2)) (hl : lv[i]? = some (some (.int x))) (k : j_W p l e R s m args below meth c nL g b n cells slots Q I P (pc + 2) lv (.int x :: st)) : j_W p l e R s m args below meth c nL g b n cells slots Q I P pc lv st := fun H locs ls h1 h2 h3 => lv_iload X.1.1 X.1.2.1 hd (h3.2.2 _ _ hl) (k H locs ls h1 h2 h3)
theorem j_istore_n (X : j_X p R s m args meth c g b d cc nL own ret) {k0 : Fin 4} {i : Nat} {x : Int32} (hd : decode cc pc = .ok (.istore_n k0, 1)) (hi : (k0 : Nat) = i) (hn : i < nL) (hl : j_s1 lv i (.int x) = lv') (k : j_W p l e R s m args below meth c nL g b n cells slots Q I P (pc + 1) lv' st) : j_W p l e R s m args below meth c nL g b n cells slots Q I P pc lv (.int x :: st) := fun H locs ls h1 h2 h3 => lv_istore_n X.1.1 X.1.2.1 hd hi (j_ls_has h3) hn rfl (fun ls1 h4 => k H locs ls1 h1 h2 (hl ▸ j_s1_ok h4))
theorem j_istore (X : j_X p R s m args meth c g b d cc nL own ret) {i : Nat} {x : Int32} (hd : decode cc pc = .ok (.istore i, 2)) (hn : i < nL) (hl : j_s1 lv i (.int x) = lv') (k : j_W p l e R s m args below meth c nL g b n cells slots Q I P (pc + 2) lv' st) : j_W p l e R s m args below meth c nL g b n cells slots Q I P pc lv (.int x :: st) := fun H locs ls h1 h2 h3 => lv_istore X.1.1 X.1.2.1 hd (j_ls_has h3) hn rfl (fun ls1 h4 => k H locs ls1 h1 h2 (hl ▸ j_s1_ok h4))
theorem j_lload_n (X : j_X p R s m args meth c g b d cc nL own ret) {k0 : Fin 4} {i : Nat} {x : Int64} (hd : decode cc pc = .ok (.lload_n k0, 1)) (hi : (k0 : Nat) = i) (hl : lv[i]? = some (some (.long x))) (k : j_W p l e R s m args below meth c nL g b n cells slots Q I P (pc + 1) lv (.long x :: st)) : j_W p l e R s m args below meth c nL g b n cells slots Q I P pc lv st := fun H locs ls h1 h2 h3 => lv_lload_n X.1.1 X.1.2.1 hd hi (h3.2.2 _ _ hl) (k H locs ls h1 h2 h3)
theorem j_lload (X : j_X p R s m args meth c g b d cc nL own ret) {i : Nat} {x : Int64} (hd : decode cc pc = .ok (.lload i, 2)) (hl : lv[i]? = some (some (.long x))) (k : j_W p l e R s m args below meth c nL g b n cells slots Q I P (pc + 2) lv (.long x :: st)) : j_W p l e R s m args below meth c nL g b n cells slots Q I P pc lv st := fun H locs ls h1 h2 h3 => lv_lload X.1.1 X.1.2.1 hd (h3.2.2 _ _ hl) (k H locs ls h1 h2 h3)
theorem j_lstore_n (X : j_X p R s m args meth c g b d cc nL own ret) {k0 : Fin 4} {i : Nat} {x : Int64} (hd : decode cc pc = .ok (.lstore_n k0, 1)) (hi : (k0 : Nat) = i) (hn : i + 1 < nL) (hl : j_s2 lv i (.long x) = lv') (k : j_W p l e R s m args below meth c nL g b n cells slots Q I P (pc + 1) lv' st) : j_W p l e R s m args below meth c nL g b n cells slots Q I P pc lv (.long x :: st) := fun H locs ls h1 h2 h3 => lv_lstore_n X.1.1 X.1.2.1 hd hi (j_ls_has h3) hn rfl (fun ls1 h4 => k H locs ls1 h1 h2 (hl ▸ j_s2_ok h4))
theorem j_lstore (X : j_X p R s m args meth c g b d cc nL own ret) {i : Nat} {x : Int64} (hd : decode cc pc = .ok (.lstore i, 2)) (hn : i + 1 < nL) (hl : j_s2 lv i (.long x) = lv') (k : j_W p l e R s m args below meth c nL g b n cells slots Q I P (pc + 2) lv' st) : j_W p l e R s m args below meth c nL g b n cells slots Q I P pc lv (.long x :: st) := fun H locs ls h1 h2 h3 => lv_lstore X.1.1 X.1.2.1 hd (j_ls_has h3) hn rfl (fun ls1 h4 => k H locs ls1 h1 h2 (hl ▸ j_s2_ok h4))
theorem j_aload_n (X : j_X p R s m args meth c g b d cc nL own ret) {k0 : Fin 4} {i : Nat} {x : Nat} (hd : decode cc pc = .ok (.aload_n k0, 1)) (hi : (k0 : Nat) = i) (hl : lv[i]? = some (some (.ref x))) (k : j_W p l e R s m args below meth c nL g b n cells slots Q I P (pc + 1) lv (.ref x :: st)) : j_W p l e R s m args below meth c nL g b n cells slots Q I P pc lv st := fun H locs ls h1 h2 h3 => lv_aload_n X.1.1 X.1.2.1 hd hi (h3.2.2 _ _ hl) (k H locs ls h1 h2 h3)
theorem j_aload (X : j_X p R s m args meth c g b d cc nL own ret) {i : Nat} {x : Nat} (hd : decode cc pc = .ok (.aload i, 2)) (hl : lv[i]? = some (some (.ref x))) (k : j_W p l e R s m args below meth c nL g b n cells slots Q I P (pc + 2) lv (.ref x :: st)) : j_W p l e R s m args below meth c nL g b n cells slots Q I P pc lv st := fun H locs ls h1 h2 h3 => lv_aload X.1.1 X.1.2.1 hd (h3.2.2 _ _ hl) (k H locs ls h1 h2 h3)
theorem j_astore_n (X : j_X p R s m args meth c g b d cc nL own ret) {k0 : Fin 4} {i : Nat} {x : Nat} (hd : decode cc pc = .ok (.astore_n k0, 1)) (hi : (k0 : Nat) = i) (hn : i < nL) (hl : j_s1 lv i (.ref x) = lv') (k : j_W p l e R s m args below meth c nL g b n cells slots Q I P (pc + 1) lv' st) : j_W p l e R s m args below meth c nL g b n cells slots Q I P pc lv (.ref x :: st) := fun H locs ls h1 h2 h3 => lv_astore_n X.1.1 X.1.2.1 hd hi (j_ls_has h3) hn rfl (fun ls1 h4 => k H locs ls1 h1 h2 (hl ▸ j_s1_ok h4))
theorem j_astore (X : j_X p R s m args meth c g b d cc nL own ret) {i : Nat} {x : Nat} (hd : decode cc pc = .ok (.astore i, 2)) (hn : i < nL) (hl : j_s1 lv i (.ref x) = lv') (k : j_W p l e R s m args below meth c nL g b n cells slots Q I P (pc + 2) lv' st) : j_W p l e R s m args below meth c nL g b n cells slots Q I P pc lv (.ref x :: st) := fun H locs ls h1 h2 h3 => lv_astore X.1.1 X.1.2.1 hd (j_ls_has h3) hn rfl (fun ls1 h4 => k H locs ls1 h1 h2 (hl ▸ j_s1_ok h4))
theorem j_iinc (X : j_X p R s m args meth c g b d cc nL own ret) {i : Nat} {z : Int} {x v : Int32} (hd : decode cc pc = .ok (.iinc i z, 3)) (h0 : lv[i]? = some (some (.int x))) (hv : x + Int32.ofInt z = v) (hn : i < nL) (hl : j_s1 lv i (.int v) = lv') (k : j_W p l e R s m args below meth c nL g b n cells slots Q I P (pc + 3) lv' st) : j_W p l e R s m args below meth c nL g b n cells slots Q I P pc lv st := by
  intro H locs ls h1 h2 h3
  obtain ⟨q, hq⟩ := List.getElem?_of_mem (j_al_mem.mpr h0)
  exact lv_iinc X.1.1 X.1.2.1 hd (j_ls_has h3) hq hv hn rfl (fun ls1 h4 => k H locs ls1 h1 h2 (hl ▸ j_s1_ok h4))
theorem j_iadd (X : j_X p R s m args meth c g b d cc nL own ret) {x y : Int32} (hd : decode cc pc = .ok (.iadd, 1)) (k : j_W p l e R s m args below meth c nL g b n cells slots Q I P (pc + 1) lv (.int (x + y) :: st)) : j_W p l e R s m args below meth c nL g b n cells slots Q I P pc lv (.int y :: .int x :: st) := fun H locs ls h1 h2 h3 => lv_iadd X.1.1 X.1.2.1 hd (k H locs ls h1 h2 h3)
theorem j_isub (X : j_X p R s m args meth c g b d cc nL own ret) {x y : Int32} (hd : decode cc pc = .ok (.isub, 1)) (k : j_W p l e R s m args below meth c nL g b n cells slots Q I P (pc + 1) lv (.int (x - y) :: st)) : j_W p l e R s m args below meth c nL g b n cells slots Q I P pc lv (.int y :: .int x :: st) := fun H locs ls h1 h2 h3 => lv_isub X.1.1 X.1.2.1 hd (k H locs ls h1 h2 h3)
theorem j_imul (X : j_X p R s m args meth c g b d cc nL own ret) {x y : Int32} (hd : decode cc pc = .ok (.imul, 1)) (k : j_W p l e R s m args below meth c nL g b n cells slots Q I P (pc + 1) lv (.int (x * y) :: st)) : j_W p l e R s m args below meth c nL g b n cells slots Q I P pc lv (.int y :: .int x :: st) := fun H locs ls h1 h2 h3 => lv_imul X.1.1 X.1.2.1 hd (k H locs ls h1 h2 h3)
theorem j_iand (X : j_X p R s m args meth c g b d cc nL own ret) {x y : Int32} (hd : decode cc pc = .ok (.iand, 1)) (k : j_W p l e R s m args below meth c nL g b n cells slots Q I P (pc + 1) lv (.int (x &&& y) :: st)) : j_W p l e R s m args below meth c nL g b n cells slots Q I P pc lv (.int y :: .int x :: st) := fun H locs ls h1 h2 h3 => lv_iand X.1.1 X.1.2.1 hd (k H locs ls h1 h2 h3)
theorem j_ior (X : j_X p R s m args meth c g b d cc nL own ret) {x y : Int32} (hd : decode cc pc = .ok (.ior, 1)) (k : j_W p l e R s m args below meth c nL g b n cells slots Q I P (pc + 1) lv (.int (x ||| y) :: st)) : j_W p l e R s m args below meth c nL g b n cells slots Q I P pc lv (.int y :: .int x :: st) := fun H locs ls h1 h2 h3 => lv_ior X.1.1 X.1.2.1 hd (k H locs ls h1 h2 h3)
theorem j_ishr (X : j_X p R s m args meth c g b d cc nL own ret) {x y : Int32} (hd : decode cc pc = .ok (.ishr, 1)) (k : j_W p l e R s m args below meth c nL g b n cells slots Q I P (pc + 1) lv (.int (x >>> (y &&& 31)) :: st)) : j_W p l e R s m args below meth c nL g b n cells slots Q I P pc lv (.int y :: .int x :: st) := fun H locs ls h1 h2 h3 => lv_ishr X.1.1 X.1.2.1 hd (k H locs ls h1 h2 h3)
theorem j_ishl (X : j_X p R s m args meth c g b d cc nL own ret) {x y : Int32} (hd : decode cc pc = .ok (.ishl, 1)) (k : j_W p l e R s m args below meth c nL g b n cells slots Q I P (pc + 1) lv (.int (x <<< (y &&& 31)) :: st)) : j_W p l e R s m args below meth c nL g b n cells slots Q I P pc lv (.int y :: .int x :: st) := fun H locs ls h1 h2 h3 => lv_ishl X.1.1 X.1.2.1 hd (k H locs ls h1 h2 h3)
theorem j_ineg (X : j_X p R s m args meth c g b d cc nL own ret) {x : Int32} (hd : decode cc pc = .ok (.ineg, 1)) (k : j_W p l e R s m args below meth c nL g b n cells slots Q I P (pc + 1) lv (.int (-x) :: st)) : j_W p l e R s m args below meth c nL g b n cells slots Q I P pc lv (.int x :: st) := fun H locs ls h1 h2 h3 => lv_ineg X.1.1 X.1.2.1 hd (k H locs ls h1 h2 h3)
theorem j_ladd (X : j_X p R s m args meth c g b d cc nL own ret) {x y : Int64} (hd : decode cc pc = .ok (.ladd, 1)) (k : j_W p l e R s m args below meth c nL g b n cells slots Q I P (pc + 1) lv (.long (x + y) :: st)) : j_W p l e R s m args below meth c nL g b n cells slots Q I P pc lv (.long y :: .long x :: st) := fun H locs ls h1 h2 h3 => lv_ladd X.1.1 X.1.2.1 hd (k H locs ls h1 h2 h3)
theorem j_lsub (X : j_X p R s m args meth c g b d cc nL own ret) {x y : Int64} (hd : decode cc pc = .ok (.lsub, 1)) (k : j_W p l e R s m args below meth c nL g b n cells slots Q I P (pc + 1) lv (.long (x - y) :: st)) : j_W p l e R s m args below meth c nL g b n cells slots Q I P pc lv (.long y :: .long x :: st) := fun H locs ls h1 h2 h3 => lv_lsub X.1.1 X.1.2.1 hd (k H locs ls h1 h2 h3)
theorem j_lmul (X : j_X p R s m args meth c g b d cc nL own ret) {x y : Int64} (hd : decode cc pc = .ok (.lmul, 1)) (k : j_W p l e R s m args below meth c nL g b n cells slots Q I P (pc + 1) lv (.long (x * y) :: st)) : j_W p l e R s m args below meth c nL g b n cells slots Q I P pc lv (.long y :: .long x :: st) := fun H locs ls h1 h2 h3 => lv_lmul X.1.1 X.1.2.1 hd (k H locs ls h1 h2 h3)
theorem j_lcmp (X : j_X p R s m args meth c g b d cc nL own ret) {x y : Int64} (hd : decode cc pc = .ok (.lcmp, 1)) (k : j_W p l e R s m args below meth c nL g b n cells slots Q I P (pc + 1) lv (.int (lg_cmp x y) :: st)) : j_W p l e R s m args below meth c nL g b n cells slots Q I P pc lv (.long y :: .long x :: st) := fun H locs ls h1 h2 h3 => W.lcmp X.1.1 X.1.2.1 hd (k H locs ls h1 h2 h3)
theorem j_i2l (X : j_X p R s m args meth c g b d cc nL own ret) {x : Int32} (hd : decode cc pc = .ok (.i2l, 1)) (k : j_W p l e R s m args below meth c nL g b n cells slots Q I P (pc + 1) lv (.long x.toInt64 :: st)) : j_W p l e R s m args below meth c nL g b n cells slots Q I P pc lv (.int x :: st) := fun H locs ls h1 h2 h3 => lv_i2l X.1.1 X.1.2.1 hd rfl (k H locs ls h1 h2 h3)
theorem j_l2i (X : j_X p R s m args meth c g b d cc nL own ret) {x : Int64} (hd : decode cc pc = .ok (.l2i, 1)) (k : j_W p l e R s m args below meth c nL g b n cells slots Q I P (pc + 1) lv (.int x.toInt32 :: st)) : j_W p l e R s m args below meth c nL g b n cells slots Q I P pc lv (.long x :: st) := fun H locs ls h1 h2 h3 => lv_l2i X.1.1 X.1.2.1 hd rfl (k H locs ls h1 h2 h3)
theorem j_i2b (X : j_X p R s m args meth c g b d cc nL own ret) {x : Int32} (hd : decode cc pc = .ok (.i2b, 1)) (k : j_W p l e R s m args below meth c nL g b n cells slots Q I P (pc + 1) lv (.int x.toInt8.toInt32 :: st)) : j_W p l e R s m args below meth c nL g b n cells slots Q I P pc lv (.int x :: st) := fun H locs ls h1 h2 h3 => lv_i2b X.1.1 X.1.2.1 hd rfl (k H locs ls h1 h2 h3)
theorem j_i2c (X : j_X p R s m args meth c g b d cc nL own ret) {x : Int32} (hd : decode cc pc = .ok (.i2c, 1)) (k : j_W p l e R s m args below meth c nL g b n cells slots Q I P (pc + 1) lv (.int (x.toUInt32 % 65536).toInt32 :: st)) : j_W p l e R s m args below meth c nL g b n cells slots Q I P pc lv (.int x :: st) := fun H locs ls h1 h2 h3 => lv_i2c X.1.1 X.1.2.1 hd rfl (k H locs ls h1 h2 h3)
theorem j_dup (X : j_X p R s m args meth c g b d cc nL own ret) {v : Value} (hd : decode cc pc = .ok (.dup, 1)) (hc : v.category = 1) (k : j_W p l e R s m args below meth c nL g b n cells slots Q I P (pc + 1) lv (v :: v :: st)) : j_W p l e R s m args below meth c nL g b n cells slots Q I P pc lv (v :: st) := fun H locs ls h1 h2 h3 => lv_dup X.1.1 X.1.2.1 hd hc (k H locs ls h1 h2 h3)
theorem j_pop (X : j_X p R s m args meth c g b d cc nL own ret) {v : Value} (hd : decode cc pc = .ok (.pop, 1)) (hc : v.category = 1) (k : j_W p l e R s m args below meth c nL g b n cells slots Q I P (pc + 1) lv st) : j_W p l e R s m args below meth c nL g b n cells slots Q I P pc lv (v :: st) := fun H locs ls h1 h2 h3 => lv_pop X.1.1 X.1.2.1 hd hc (k H locs ls h1 h2 h3)
theorem j_dup2 (X : j_X p R s m args meth c g b d cc nL own ret) {v w : Value} (hd : decode cc pc = .ok (.dup2, 1)) (hv : v.category = 1) (hw : w.category = 1) (k : j_W p l e R s m args below meth c nL g b n cells slots Q I P (pc + 1) lv (v :: w :: v :: w :: st)) : j_W p l e R s m args below meth c nL g b n cells slots Q I P pc lv (v :: w :: st) := fun H locs ls h1 h2 h3 => lv_dup2_11 X.1.1 X.1.2.1 hd hv hw (k H locs ls h1 h2 h3)
theorem j_goto (X : j_X p R s m args meth c g b d cc nL own ret) {off : Int} {tgt : Nat} (hd : decode cc pc = .ok (.goto off, 3)) (ht : (pc : Int) + off = (tgt : Int)) (k : j_W p l e R s m args below meth c nL g b n cells slots Q I P tgt lv st) : j_W p l e R s m args below meth c nL g b n cells slots Q I P pc lv st := fun H locs ls h1 h2 h3 => lv_goto X.1.1 X.1.2.1 hd ht (k H locs ls h1 h2 h3)
theorem j_idiv (X : j_X p R s m args meth c g b d cc nL own ret) {x y : Int32} (hd : decode cc pc = .ok (.idiv, 1)) {α : Type} {A : Option α} {r : α} (h : (if y = 0 then none else A) = some r) (k : A = some r → j_W p l e R s m args below meth c nL g b n cells slots Q I P (pc + 1) lv (.int (x / y) :: st)) : j_W p l e R s m args below meth c nL g b n cells slots Q I P pc lv (.int y :: .int x :: st) := by
  by_cases h0 : y = 0
  · rw [if_pos h0] at h; cases h
  · rw [if_neg h0] at h
    exact fun H locs ls h1 h2 h3 => lv_idiv X.1.1 X.1.2.1 hd h0 (k h H locs ls h1 h2 h3)
theorem j_ldiv (X : j_X p R s m args meth c g b d cc nL own ret) {x y : Int64} (hd : decode cc pc = .ok (.ldiv, 1)) {α : Type} {A : Option α} {r : α} (h : (if y = 0 then none else A) = some r) (k : A = some r → j_W p l e R s m args below meth c nL g b n cells slots Q I P (pc + 1) lv (.long (x / y) :: st)) : j_W p l e R s m args below meth c nL g b n cells slots Q I P pc lv (.long y :: .long x :: st) := by
  by_cases h0 : y = 0
  · rw [if_pos h0] at h; cases h
  · rw [if_neg h0] at h
    exact fun H locs ls h1 h2 h3 => lv_ldiv X.1.1 X.1.2.1 hd h0 (k h H locs ls h1 h2 h3)
theorem j_lrem (X : j_X p R s m args meth c g b d cc nL own ret) {x y : Int64} (hd : decode cc pc = .ok (.lrem, 1)) {α : Type} {A : Option α} {r : α} (h : (if y = 0 then none else A) = some r) (k : A = some r → j_W p l e R s m args below meth c nL g b n cells slots Q I P (pc + 1) lv (.long (x - x / y * y) :: st)) : j_W p l e R s m args below meth c nL g b n cells slots Q I P pc lv (.long y :: .long x :: st) := by
  by_cases h0 : y = 0
  · rw [if_pos h0] at h; cases h
  · rw [if_neg h0] at h
    exact fun H locs ls h1 h2 h3 => lv_lrem X.1.1 X.1.2.1 hd h0 (k h H locs ls h1 h2 h3)
theorem j_icmp_eq (X : j_X p R s m args meth c g b d cc nL own ret) {x y : Int32} {off : Int} {tgt : Nat} (hd : decode cc pc = .ok (.if_icmp .eq off, 3)) (ht : (pc : Int) + off = (tgt : Int)) {α : Type} {A B : Option α} {r : α} (h : (if x = y then A else B) = some r) (kt : A = some r → j_W p l e R s m args below meth c nL g b n cells slots Q I P tgt lv st) (kf : B = some r → j_W p l e R s m args below meth c nL g b n cells slots Q I P (pc + 3) lv st) : j_W p l e R s m args below meth c nL g b n cells slots Q I P pc lv (.int y :: .int x :: st) := fun H locs ls h1 h2 h3 => lv_icmp_eq X.1.1 X.1.2.1 hd ht (fun hc => kt (by rw [if_pos hc] at h; exact h) H locs ls h1 h2 h3) (fun hc => kf (by rw [if_neg hc] at h; exact h) H locs ls h1 h2 h3)
theorem j_if_eq (X : j_X p R s m args meth c g b d cc nL own ret) {x : Int32} {off : Int} {tgt : Nat} (hd : decode cc pc = .ok (.ifCond .eq off, 3)) (ht : (pc : Int) + off = (tgt : Int)) {α : Type} {A B : Option α} {r : α} (h : (if x = 0 then A else B) = some r) (kt : A = some r → j_W p l e R s m args below meth c nL g b n cells slots Q I P tgt lv st) (kf : B = some r → j_W p l e R s m args below meth c nL g b n cells slots Q I P (pc + 3) lv st) : j_W p l e R s m args below meth c nL g b n cells slots Q I P pc lv (.int x :: st) := fun H locs ls h1 h2 h3 => lv_if_eq X.1.1 X.1.2.1 hd ht (fun hc => kt (by rw [if_pos hc] at h; exact h) H locs ls h1 h2 h3) (fun hc => kf (by rw [if_neg hc] at h; exact h) H locs ls h1 h2 h3)
theorem j_icmp_ne (X : j_X p R s m args meth c g b d cc nL own ret) {x y : Int32} {off : Int} {tgt : Nat} (hd : decode cc pc = .ok (.if_icmp .ne off, 3)) (ht : (pc : Int) + off = (tgt : Int)) {α : Type} {A B : Option α} {r : α} (h : (if x = y then A else B) = some r) (kt : A = some r → j_W p l e R s m args below meth c nL g b n cells slots Q I P (pc + 3) lv st) (kf : B = some r → j_W p l e R s m args below meth c nL g b n cells slots Q I P tgt lv st) : j_W p l e R s m args below meth c nL g b n cells slots Q I P pc lv (.int y :: .int x :: st) := fun H locs ls h1 h2 h3 => lv_icmp_ne X.1.1 X.1.2.1 hd ht (fun hc => kf (by rw [if_neg hc] at h; exact h) H locs ls h1 h2 h3) (fun hc => kt (by rw [if_pos hc] at h; exact h) H locs ls h1 h2 h3)
theorem j_if_ne (X : j_X p R s m args meth c g b d cc nL own ret) {x : Int32} {off : Int} {tgt : Nat} (hd : decode cc pc = .ok (.ifCond .ne off, 3)) (ht : (pc : Int) + off = (tgt : Int)) {α : Type} {A B : Option α} {r : α} (h : (if x = 0 then A else B) = some r) (kt : A = some r → j_W p l e R s m args below meth c nL g b n cells slots Q I P (pc + 3) lv st) (kf : B = some r → j_W p l e R s m args below meth c nL g b n cells slots Q I P tgt lv st) : j_W p l e R s m args below meth c nL g b n cells slots Q I P pc lv (.int x :: st) := fun H locs ls h1 h2 h3 => lv_if_ne X.1.1 X.1.2.1 hd ht (fun hc => kf (by rw [if_neg hc] at h; exact h) H locs ls h1 h2 h3) (fun hc => kt (by rw [if_pos hc] at h; exact h) H locs ls h1 h2 h3)
theorem j_icmp_lt (X : j_X p R s m args meth c g b d cc nL own ret) {x y : Int32} {off : Int} {tgt : Nat} (hd : decode cc pc = .ok (.if_icmp .lt off, 3)) (ht : (pc : Int) + off = (tgt : Int)) {α : Type} {A B : Option α} {r : α} (h : (if x < y then A else B) = some r) (kt : A = some r → j_W p l e R s m args below meth c nL g b n cells slots Q I P tgt lv st) (kf : B = some r → j_W p l e R s m args below meth c nL g b n cells slots Q I P (pc + 3) lv st) : j_W p l e R s m args below meth c nL g b n cells slots Q I P pc lv (.int y :: .int x :: st) := fun H locs ls h1 h2 h3 => lv_icmp_lt X.1.1 X.1.2.1 hd ht (fun hc => kt (by rw [if_pos hc] at h; exact h) H locs ls h1 h2 h3) (fun hc => kf (by rw [if_neg hc] at h; exact h) H locs ls h1 h2 h3)
theorem j_if_lt (X : j_X p R s m args meth c g b d cc nL own ret) {x : Int32} {off : Int} {tgt : Nat} (hd : decode cc pc = .ok (.ifCond .lt off, 3)) (ht : (pc : Int) + off = (tgt : Int)) {α : Type} {A B : Option α} {r : α} (h : (if x < 0 then A else B) = some r) (kt : A = some r → j_W p l e R s m args below meth c nL g b n cells slots Q I P tgt lv st) (kf : B = some r → j_W p l e R s m args below meth c nL g b n cells slots Q I P (pc + 3) lv st) : j_W p l e R s m args below meth c nL g b n cells slots Q I P pc lv (.int x :: st) := fun H locs ls h1 h2 h3 => lv_if_lt X.1.1 X.1.2.1 hd ht (fun hc => kt (by rw [if_pos hc] at h; exact h) H locs ls h1 h2 h3) (fun hc => kf (by rw [if_neg hc] at h; exact h) H locs ls h1 h2 h3)
theorem j_icmp_ge (X : j_X p R s m args meth c g b d cc nL own ret) {x y : Int32} {off : Int} {tgt : Nat} (hd : decode cc pc = .ok (.if_icmp .ge off, 3)) (ht : (pc : Int) + off = (tgt : Int)) {α : Type} {A B : Option α} {r : α} (h : (if y ≤ x then A else B) = some r) (kt : A = some r → j_W p l e R s m args below meth c nL g b n cells slots Q I P tgt lv st) (kf : B = some r → j_W p l e R s m args below meth c nL g b n cells slots Q I P (pc + 3) lv st) : j_W p l e R s m args below meth c nL g b n cells slots Q I P pc lv (.int y :: .int x :: st) := fun H locs ls h1 h2 h3 => lv_icmp_ge X.1.1 X.1.2.1 hd ht (fun hc => kt (by rw [if_pos hc] at h; exact h) H locs ls h1 h2 h3) (fun hc => kf (by rw [if_neg hc] at h; exact h) H locs ls h1 h2 h3)
theorem j_if_ge (X : j_X p R s m args meth c g b d cc nL own ret) {x : Int32} {off : Int} {tgt : Nat} (hd : decode cc pc = .ok (.ifCond .ge off, 3)) (ht : (pc : Int) + off = (tgt : Int)) {α : Type} {A B : Option α} {r : α} (h : (if 0 ≤ x then A else B) = some r) (kt : A = some r → j_W p l e R s m args below meth c nL g b n cells slots Q I P tgt lv st) (kf : B = some r → j_W p l e R s m args below meth c nL g b n cells slots Q I P (pc + 3) lv st) : j_W p l e R s m args below meth c nL g b n cells slots Q I P pc lv (.int x :: st) := fun H locs ls h1 h2 h3 => lv_if_ge X.1.1 X.1.2.1 hd ht (fun hc => kt (by rw [if_pos hc] at h; exact h) H locs ls h1 h2 h3) (fun hc => kf (by rw [if_neg hc] at h; exact h) H locs ls h1 h2 h3)
theorem j_icmp_gt (X : j_X p R s m args meth c g b d cc nL own ret) {x y : Int32} {off : Int} {tgt : Nat} (hd : decode cc pc = .ok (.if_icmp .gt off, 3)) (ht : (pc : Int) + off = (tgt : Int)) {α : Type} {A B : Option α} {r : α} (h : (if y < x then A else B) = some r) (kt : A = some r → j_W p l e R s m args below meth c nL g b n cells slots Q I P tgt lv st) (kf : B = some r → j_W p l e R s m args below meth c nL g b n cells slots Q I P (pc + 3) lv st) : j_W p l e R s m args below meth c nL g b n cells slots Q I P pc lv (.int y :: .int x :: st) := fun H locs ls h1 h2 h3 => lv_icmp_gt X.1.1 X.1.2.1 hd ht (fun hc => kt (by rw [if_pos hc] at h; exact h) H locs ls h1 h2 h3) (fun hc => kf (by rw [if_neg hc] at h; exact h) H locs ls h1 h2 h3)
theorem j_if_gt (X : j_X p R s m args meth c g b d cc nL own ret) {x : Int32} {off : Int} {tgt : Nat} (hd : decode cc pc = .ok (.ifCond .gt off, 3)) (ht : (pc : Int) + off = (tgt : Int)) {α : Type} {A B : Option α} {r : α} (h : (if 0 < x then A else B) = some r) (kt : A = some r → j_W p l e R s m args below meth c nL g b n cells slots Q I P tgt lv st) (kf : B = some r → j_W p l e R s m args below meth c nL g b n cells slots Q I P (pc + 3) lv st) : j_W p l e R s m args below meth c nL g b n cells slots Q I P pc lv (.int x :: st) := fun H locs ls h1 h2 h3 => lv_if_gt X.1.1 X.1.2.1 hd ht (fun hc => kt (by rw [if_pos hc] at h; exact h) H locs ls h1 h2 h3) (fun hc => kf (by rw [if_neg hc] at h; exact h) H locs ls h1 h2 h3)
theorem j_icmp_le (X : j_X p R s m args meth c g b d cc nL own ret) {x y : Int32} {off : Int} {tgt : Nat} (hd : decode cc pc = .ok (.if_icmp .le off, 3)) (ht : (pc : Int) + off = (tgt : Int)) {α : Type} {A B : Option α} {r : α} (h : (if x ≤ y then A else B) = some r) (kt : A = some r → j_W p l e R s m args below meth c nL g b n cells slots Q I P tgt lv st) (kf : B = some r → j_W p l e R s m args below meth c nL g b n cells slots Q I P (pc + 3) lv st) : j_W p l e R s m args below meth c nL g b n cells slots Q I P pc lv (.int y :: .int x :: st) := fun H locs ls h1 h2 h3 => lv_icmp_le X.1.1 X.1.2.1 hd ht (fun hc => kt (by rw [if_pos hc] at h; exact h) H locs ls h1 h2 h3) (fun hc => kf (by rw [if_neg hc] at h; exact h) H locs ls h1 h2 h3)
theorem j_if_le (X : j_X p R s m args meth c g b d cc nL own ret) {x : Int32} {off : Int} {tgt : Nat} (hd : decode cc pc = .ok (.ifCond .le off, 3)) (ht : (pc : Int) + off = (tgt : Int)) {α : Type} {A B : Option α} {r : α} (h : (if x ≤ 0 then A else B) = some r) (kt : A = some r → j_W p l e R s m args below meth c nL g b n cells slots Q I P tgt lv st) (kf : B = some r → j_W p l e R s m args below meth c nL g b n cells slots Q I P (pc + 3) lv st) : j_W p l e R s m args below meth c nL g b n cells slots Q I P pc lv (.int x :: st) := fun H locs ls h1 h2 h3 => lv_if_le X.1.1 X.1.2.1 hd ht (fun hc => kt (by rw [if_pos hc] at h; exact h) H locs ls h1 h2 h3) (fun hc => kf (by rw [if_neg hc] at h; exact h) H locs ls h1 h2 h3)
theorem j_cell {H : Heap} {c0 : Nat} (h : j_Rep g b n I P H) (hc : c0 < n) : va_P g.1 j_cl [(b + c0, j_en g.2.1 b I P c0)] H := by
  intro k q hk
  have h0 : k < 1 := (List.getElem?_eq_some_iff.mp hk).1
  rw [show k = 0 by omega] at hk
  cases hk
  exact h.2.2 c0 _ (j_ws_at hc)
/-- what a class's tables give, and a field of it as the class's own table has it -/
def j_F (own C : String) (T : u_T) (N ci i k : Nat) : Prop := (∀ w ∈ u_ws C T N, w ∈ j_T) ∧ j_cl[ci]? = some (C, T, N) ∧ k < N ∧ (T k).1 = C ∧ Cond.fieldLink own i C (T k).2.1 (T k).2.2.1 ∈ j_T
theorem j_gfv (X : j_X p R s m args meth c g b d cc nL own ret) {C : String} {T : u_T} {N ci i k c0 : Nat} {v : Value} (hF : j_F own C T N ci i k) (hs : j_sh c0 = (0, ci, N)) (hc : c0 < n) (hd : decode cc pc = .ok (.getfield i, 3)) (hv : j_fv b I P ci c0 k = v) (kk : j_W p l e R s m args below meth c nL g b n cells slots Q I P (pc + 3) lv (v :: st)) : j_W p l e R s m args below meth c nL g b n cells slots Q I P pc lv (.ref (b + c0) :: st) := by
  intro H locs ls h1 h2 h3
  obtain ⟨f1, f2, f3, f4, f5⟩ := hF
  have hP := j_cell h1 hc
  rw [j_en_obj hs] at hP
  refine va_get (D := g.1) (C := C) (T := T) (N := N) (ref := C) X.1.1 X.1.2.1 X.1.2.2.2.2 f1 X.1.2.2.2.1 X.2.2.2.1.1 hP 0 rfl f2 k f3 (X.1.2.2.2.2 _ f5) (fun x hx => by rw [f4] at hx; exact hx) (v := v) (by simp [f3, hv]) hd (kk H locs ls h1 h2 h3)
theorem j_get (X : j_X p R s m args meth c g b d cc nL own ret) {C : String} {T : u_T} {N ci i k c0 : Nat} (hF : j_F own C T N ci i k) (hk : j_fk ci k = 0) (hs : j_sh c0 = (0, ci, N)) (hc : c0 < n) (hd : decode cc pc = .ok (.getfield i, 3)) (kk : j_W p l e R s m args below meth c nL g b n cells slots Q I P (pc + 3) lv (.int (I c0 k) :: st)) : j_W p l e R s m args below meth c nL g b n cells slots Q I P pc lv (.ref (b + c0) :: st) :=
  j_gfv X hF hs hc hd (by simp [j_fv, hk]) kk
theorem j_getr (X : j_X p R s m args meth c g b d cc nL own ret) {C : String} {T : u_T} {N ci i k c0 q : Nat} (hF : j_F own C T N ci i k) (hk : j_fk ci k = 1) (hs : j_sh c0 = (0, ci, N)) (hc : c0 < n) (hp : P c0 k = some q) (hd : decode cc pc = .ok (.getfield i, 3)) (kk : j_W p l e R s m args below meth c nL g b n cells slots Q I P (pc + 3) lv (.ref (b + q) :: st)) : j_W p l e R s m args below meth c nL g b n cells slots Q I P pc lv (.ref (b + c0) :: st) :=
  j_gfv X hF hs hc hd (by simp [j_fv, hk, hp, va_rf]) kk
/-- a reference that is kept as a number; the pure text tests which -/
theorem j_gett (X : j_X p R s m args meth c g b d cc nL own ret) {C : String} {T : u_T} {N ci i k c0 : Nat} (q : Nat) (hq : q < 1000) (hF : j_F own C T N ci i k) (hk : j_fk ci k = 2) (hs : j_sh c0 = (0, ci, N)) (hc : c0 < n) (hd : decode cc pc = .ok (.getfield i, 3)) {α : Type} {A : Option α} {r : α} (h : (if I c0 k = nI q then A else none) = some r) (kk : A = some r → j_W p l e R s m args below meth c nL g b n cells slots Q I P (pc + 3) lv (.ref (b + q) :: st)) : j_W p l e R s m args below meth c nL g b n cells slots Q I P pc lv (.ref (b + c0) :: st) := by
  by_cases h0 : I c0 k = nI q
  · rw [if_pos h0] at h
    refine j_gfv X hF hs hc hd ?_ (kk h)
    have hn : ¬ nI q < 0 := nI_pos (by omega)
    simp [j_fv, hk, h0, hn, j_ix, nI_clamp (show q < 2 ^ 31 by omega)]
  · rw [if_neg h0] at h; cases h

end JW
end
section
section JW2
variable {p : Program} {l : Launch} {e : Env} {R : Room} {s : State} {m : MethodId} {args : Array Value} {below : List Frame} {meth : Method} {c : Code} {nL : Nat} {g : j_G} {b n cells slots d : Nat} {Q : State → Prop} {I : j_M} {P : j_R} {pc : Nat} {lv lv' : List (Option Value)} {st : List Value} {cc : ByteArray} {own : String} {ret : Option FieldType}
theorem j_S_put {H0 H H1 : Heap} {locs : List Loc} {a i : Nat} (h : va_S (fun q => b ≤ q) H0 H locs) (z : H1.size = H.size) (o : ∀ q : Nat, q ≠ a → H1[q]? = H[q]?) (ha : b ≤ a) : va_S (fun q => b ≤ q) H0 H1 (locs ++ [⟨a, i⟩]) :=
  ⟨by rw [z]; exact h.1, fun q h1 h2 => by rw [o q (fun e => h2 (by rw [e]; exact ha))]; exact h.2.1 q h1 h2, fun x hx => by
    rcases List.mem_append.mp hx with q | q
    · exact h.2.2 x q
    · rw [List.mem_singleton.mp q]; exact ha⟩
theorem j_Rep_of {H : Heap} {I' : j_M} {P' : j_R} {H1 : Heap} {ws : va_W} (h : j_Rep g b n I P H) (z : H1.size = H.size) (o : ∀ q, q < b → H1[q]? = H[q]?) (hP : va_P g.1 j_cl ws H1) (hw : ws = j_ws g.2.1 b n I' P') : j_Rep g b n I' P' H1 :=
  ⟨z.trans h.1, fun q hq => (o q hq).trans (h.2.1 q hq), hw ▸ hP⟩
theorem j_pfv (X : j_X p R s m args meth c g b d cc nL own ret) {C : String} {T : u_T} {N ci i k c0 : Nat} {v : Value} {ty : FieldType} (ty0 : Nat → FieldType) (hto : ∀ k, k < N → parseFieldDescriptor (T k).2.2.1 = some (ty0 k)) (hnm : ∀ a, a < N → ∀ b, b < N → a ≠ b → (T a).2.1 ≠ (T b).2.1) (hF : j_F own C T N ci i k) (hs : j_sh c0 = (0, ci, N)) (hc : c0 < n)
    (hfin : (T k).2.2.2 = false ∨ ((T k).2.2.2 = true ∧ meth.name = "<init>" ∧ C = own)) (hty : ty0 k = ty) (hn : narrow ty v = v) (hfit : fits ty v = true) (hd : decode cc pc = .ok (.putfield i, 3)) {I' : j_M} {P' : j_R} (hv : j_fv b I' P' ci c0 k = v) (ho : ∀ x, x ≠ c0 → j_en g.2.1 b I P x = j_en g.2.1 b I' P' x) (ho2 : ∀ j, j ≠ k → j_fv b I' P' ci c0 j = j_fv b I P ci c0 j) (kk : j_W p l e R s m args below meth c nL g b n cells slots Q I' P' (pc + 3) lv st) : j_W p l e R s m args below meth c nL g b n cells slots Q I P pc lv (v :: .ref (b + c0) :: st) := by
  intro H locs ls h1 h2 h3
  obtain ⟨f1, f2, f3, f4, f5⟩ := hF
  have he : (j_ws g.2.1 b n I P)[c0]? = some (b + c0, .inr (ci, (List.range N).map (j_fv b I P ci c0))) := by rw [j_ws_at hc, j_en_obj hs]
  have key : (j_ws g.2.1 b n I P).set c0 (b + c0, .inr (ci, ((List.range N).map (j_fv b I P ci c0)).set k v)) = j_ws g.2.1 b n I' P' := by
    refine j_ws_set ?_ ho
    rw [j_en_obj hs, j_set_fs hv ho2]
  have hd9 : parseFieldDescriptor (T k).2.2.1 = some ty := by rw [hto k f3, hty]
  have hS0 : va_S (fun q => b ≤ q) H H [] := va_S.rf
  have hw : va_P g.1 j_cl (j_ws g.2.1 b n I P) H := h1.2.2
  have fin : ∀ (H1 : Heap) (locs1 : List Loc), H1.size = H.size → va_P g.1 j_cl ((j_ws g.2.1 b n I P).set c0 (b + c0, .inr (ci, ((List.range N).map (j_fv b I P ci c0)).set k v))) H1 → (∀ q, q < b → H1[q]? = H[q]?) → va_S (fun q => b ≤ q) s.heap H1 locs1 → W p l e R s m args below meth c H1 locs1 cells slots Q (F0 m (pc + 3) ls st) := fun H1 locs1 z hP1 o hS => kk H1 locs1 ls (j_Rep_of h1 z o hP1 key) hS h3
  have hap := va_apart (own := own) X.1.2.2.2.2 f1 ty0 hto hnm X.2.2.2.1.1 f2
  obtain ⟨r, g1, cell, q1, q2, q3, q4⟩ := hw c0 _ he
  have hr : r = (C, T, N) := Option.some.inj (g1.symm.trans f2)
  subst hr
  obtain ⟨hS, hfc, kC, hkC, hkind⟩ := X.2.2.2.1.1.1 ci _ f2
  obtain ⟨cf, kf, fi, f, hi, hsl⟩ := hS k f3
  have hi2 : s.fieldFound? C (T k).2.1 (T k).2.2.1 = some (cf, kf, fi, f) := by rw [← f4]; exact hi
  have hlay := u_lays X.1.2.2.2.2 f1 f3
  have hff := u_fits hfc hkC hkind hlay hi hd9 hn hfit
  have hlt : f.slot < cell.slots.size := by
    have := q4 k f3
    rw [← hsl] at this
    exact (Array.getElem?_eq_some_iff.mp this).1
  have ha : b + c0 < H.size := (Array.getElem?_eq_some_iff.mp q1).1
  refine W.putf X.1.1 X.1.2.1 X.1.2.2.2.1 (X.1.2.2.2.2 _ f5) hi2 (u_facts hfc hkC hlay hi).1 ?_ q1 (by rw [q3]; exact fun h => by cases h) hlt hff.1 (by rw [q2, q3]; exact hff.2) rfl rfl hd ?_
  · rcases hfin with hfin | ⟨hfin, hin, hC⟩
    · left
      have hl := X.1.2.2.2.2 _ (f1 _ (u_in_lay f3))
      unfold u_lay at hl
      rw [hfin] at hl
      exact (u_store hfc hkC hkind (by simpa using hl) hi hd9 hn hfit).1
    · right
      refine ⟨?_, hin⟩
      have hl := X.1.2.2.2.2 _ (f1 _ (u_in_lay f3))
      unfold u_lay at hl
      rw [if_pos hfin] at hl
      obtain ⟨_, _, c', _, _, _, -, -, hf', -, -, -, hown2, -⟩ := Cond.laysFinal_spec hl
      have e1 : c' = cf := by have := hi.symm.trans hf'; simp at this; exact this.1.symm
      rw [f4, hC] at hown2
      rw [← e1]
      exact Option.some.inj (X.1.2.2.2.1.symm.trans hown2)
  · refine fin _ _ (by simp) ?_ (fun q hq => ?_) ?_
    · refine va_P.set hw (j_ws_D (b := b)) he ?_ (fun q hq => by simp [Array.getElem?_setIfInBounds, Ne.symm hq])
      refine ⟨_, f2, cell.setSlot f.slot v, by simp [Array.getElem?_setIfInBounds, ha], by simp [Cell.setSlot, q2], by simp [Cell.setSlot, q3], fun j hj => ?_⟩
      by_cases e : j = k
      · subst e
        show (cell.setSlot f.slot v).slots[_]? = _
        rw [← hsl]
        simp [Cell.setSlot, hlt, vp_V, hj]
      · have hne : f.slot ≠ g.1.2 ci j := by rw [hsl]; exact hap k j f3 hj (Ne.symm e)
        have h9 := q4 j hj
        show (cell.setSlot f.slot v).slots[_]? = _
        simp [Cell.setSlot, hne, h9, vp_V, hj, Ne.symm e]
    · have h8 : q ≠ b + c0 := by omega
      simp [Array.getElem?_setIfInBounds, Ne.symm h8]
    · exact j_S_put h2 (by simp) (fun q hq => by simp [Array.getElem?_setIfInBounds, Ne.symm hq]) (Nat.le_add_right b c0)
theorem j_fv_wr {ci c0 k j : Nat} {v : Int32} (h : j ≠ k) : j_fv b (j_wr I c0 k v) P ci c0 j = j_fv b I P ci c0 j := by
  unfold j_fv
  rw [j_wr_idx I c0 v h]
theorem j_put (X : j_X p R s m args meth c g b d cc nL own ret) {C : String} {T : u_T} {N ci i k c0 : Nat} {x : Int32} {ty : FieldType} (ty0 : Nat → FieldType) (hto : ∀ k, k < N → parseFieldDescriptor (T k).2.2.1 = some (ty0 k)) (hnm : ∀ a, a < N → ∀ b, b < N → a ≠ b → (T a).2.1 ≠ (T b).2.1) (hF : j_F own C T N ci i k) (hk : j_fk ci k = 0) (hs : j_sh c0 = (0, ci, N)) (hc : c0 < n)
    (hfin : (T k).2.2.2 = false ∨ ((T k).2.2.2 = true ∧ meth.name = "<init>" ∧ C = own)) (hty : ty0 k = ty) (hn : narrow ty (.int x) = .int x) (hfit : fits ty (.int x) = true) (hd : decode cc pc = .ok (.putfield i, 3)) (kk : j_W p l e R s m args below meth c nL g b n cells slots Q (j_wr I c0 k x) P (pc + 3) lv st) : j_W p l e R s m args below meth c nL g b n cells slots Q I P pc lv (.int x :: .ref (b + c0) :: st) :=
  j_pfv X ty0 hto hnm hF hs hc hfin hty hn hfit hd (by simp [j_fv, hk, j_wr_same]) (fun x hx => j_en_ne x hx) (fun j hj => j_fv_wr hj) kk
theorem j_puti (X : j_X p R s m args meth c g b d cc nL own ret) {C : String} {T : u_T} {N ci i k c0 : Nat} {x : Int32} (ty0 : Nat → FieldType) (hto : ∀ k, k < N → parseFieldDescriptor (T k).2.2.1 = some (ty0 k)) (hnm : ∀ a, a < N → ∀ b, b < N → a ≠ b → (T a).2.1 ≠ (T b).2.1) (hF : j_F own C T N ci i k) (hk : j_fk ci k = 0) (hs : j_sh c0 = (0, ci, N)) (hc : c0 < n)
    (hfin : (T k).2.2.2 = false ∨ ((T k).2.2.2 = true ∧ meth.name = "<init>" ∧ C = own)) (hty : ty0 k = .int) (hd : decode cc pc = .ok (.putfield i, 3)) (kk : j_W p l e R s m args below meth c nL g b n cells slots Q (j_wr I c0 k x) P (pc + 3) lv st) : j_W p l e R s m args below meth c nL g b n cells slots Q I P pc lv (.int x :: .ref (b + c0) :: st) :=
  j_put X ty0 hto hnm hF hk hs hc hfin hty rfl rfl hd kk
/-- a reference that is kept as a number -/
theorem j_putt (X : j_X p R s m args meth c g b d cc nL own ret) {C : String} {T : u_T} {N ci i k c0 : Nat} (q : Nat) (hq : q < 1000) (ty0 : Nat → FieldType) (hto : ∀ k, k < N → parseFieldDescriptor (T k).2.2.1 = some (ty0 k)) (hnm : ∀ a, a < N → ∀ b, b < N → a ≠ b → (T a).2.1 ≠ (T b).2.1) (hF : j_F own C T N ci i k) (hk : j_fk ci k = 2) (hs : j_sh c0 = (0, ci, N)) (hc : c0 < n)
    (hfin : (T k).2.2.2 = false ∨ ((T k).2.2.2 = true ∧ meth.name = "<init>" ∧ C = own)) {t : FieldType} (hty : ty0 k = .array t) (hd : decode cc pc = .ok (.putfield i, 3)) (kk : j_W p l e R s m args below meth c nL g b n cells slots Q (j_wr I c0 k (nI q)) P (pc + 3) lv st) : j_W p l e R s m args below meth c nL g b n cells slots Q I P pc lv (.ref (b + q) :: .ref (b + c0) :: st) :=
  j_pfv X ty0 hto hnm hF hs hc hfin hty rfl rfl hd (by
    have hn : ¬ nI q < 0 := nI_pos (by omega)
    simp [j_fv, hk, j_wr_same, hn, j_ix, nI_clamp (show q < 2 ^ 31 by omega)]) (fun x hx => j_en_ne x hx) (fun j hj => j_fv_wr hj) kk
theorem j_fv_wp {ci c0 k j : Nat} {v : Option Nat} (h : j ≠ k) : j_fv b I (j_wp P c0 k v) ci c0 j = j_fv b I P ci c0 j := by
  unfold j_fv
  rw [show j_wp P c0 k v c0 j = P c0 j by simp [j_wp, h]]
theorem j_putr (X : j_X p R s m args meth c g b d cc nL own ret) {C : String} {T : u_T} {N ci i k c0 q : Nat} {ty : FieldType} (ty0 : Nat → FieldType) (hto : ∀ k, k < N → parseFieldDescriptor (T k).2.2.1 = some (ty0 k)) (hnm : ∀ a, a < N → ∀ b, b < N → a ≠ b → (T a).2.1 ≠ (T b).2.1) (hF : j_F own C T N ci i k) (hk : j_fk ci k = 1) (hs : j_sh c0 = (0, ci, N)) (hc : c0 < n)
    (hfin : (T k).2.2.2 = false ∨ ((T k).2.2.2 = true ∧ meth.name = "<init>" ∧ C = own)) (hty : ty0 k = ty) (hn : narrow ty (.ref (b + q)) = .ref (b + q)) (hfit : fits ty (.ref (b + q)) = true) (hd : decode cc pc = .ok (.putfield i, 3)) (kk : j_W p l e R s m args below meth c nL g b n cells slots Q I (j_wp P c0 k (some q)) (pc + 3) lv st) : j_W p l e R s m args below meth c nL g b n cells slots Q I P pc lv (.ref (b + q) :: .ref (b + c0) :: st) :=
  j_pfv X ty0 hto hnm hF hs hc hfin hty hn hfit hd (by simp [j_fv, hk, j_wp, va_rf]) (fun x hx => j_en_neP x hx) (fun j hj => j_fv_wp hj) kk
theorem j_iald (X : j_X p R s m args meth c g b d cc nL own ret) {c0 N : Nat} {i : Int32} (hs : j_sh c0 = (1, 0, N)) (hc : c0 < n) (hd : decode cc pc = .ok (.iaload, 1)) {α : Type} {A : Option α} {r : α} (h : (if j_ok i N = true then A else none) = some r) (kk : j_ok i N = true → A = some r → j_W p l e R s m args below meth c nL g b n cells slots Q I P (pc + 1) lv (.int (I c0 (j_ix i)) :: st)) : j_W p l e R s m args below meth c nL g b n cells slots Q I P pc lv (.int i :: .ref (b + c0) :: st) := by
  intro H locs ls h1 h2 h3
  by_cases h0 : j_ok i N = true
  · rw [if_pos h0] at h
    have hP := j_cell h1 hc
    rw [j_en_arr hs] at hP
    exact va_iald X.1.1 X.1.2.1 X.2.2.2.1.1 hP 0 0 rfl rfl (j_ok_in h0) hd (kk h0 h H locs ls h1 h2 h3)
  · rw [if_neg h0] at h; cases h
theorem j_zald (X : j_X p R s m args meth c g b d cc nL own ret) {c0 N : Nat} {i : Int32} (hs : j_sh c0 = (1, 1, N)) (hc : c0 < n) (hd : decode cc pc = .ok (.baload, 1)) {α : Type} {A : Option α} {r : α} (h : (if j_ok i N = true then A else none) = some r) (kk : j_ok i N = true → A = some r → j_W p l e R s m args below meth c nL g b n cells slots Q I P (pc + 1) lv (.int (I c0 (j_ix i)) :: st)) : j_W p l e R s m args below meth c nL g b n cells slots Q I P pc lv (.int i :: .ref (b + c0) :: st) := by
  intro H locs ls h1 h2 h3
  by_cases h0 : j_ok i N = true
  · rw [if_pos h0] at h
    have hP := j_cell h1 hc
    rw [j_en_arr hs] at hP
    exact va_zald X.1.1 X.1.2.1 X.2.2.2.1.1 hP 0 1 rfl rfl (j_ok_in h0) hd (kk h0 h H locs ls h1 h2 h3)
  · rw [if_neg h0] at h; cases h
theorem j_bald (X : j_X p R s m args meth c g b d cc nL own ret) {c0 N : Nat} {i : Int32} (hs : j_sh c0 = (1, 2, N)) (hc : c0 < n) (hd : decode cc pc = .ok (.baload, 1)) {α : Type} {A : Option α} {r : α} (h : (if j_ok i N = true then A else none) = some r) (kk : j_ok i N = true → A = some r → j_W p l e R s m args below meth c nL g b n cells slots Q I P (pc + 1) lv (.int (I c0 (j_ix i)) :: st)) : j_W p l e R s m args below meth c nL g b n cells slots Q I P pc lv (.int i :: .ref (b + c0) :: st) := by
  intro H locs ls h1 h2 h3
  by_cases h0 : j_ok i N = true
  · rw [if_pos h0] at h
    have hP := j_cell h1 hc
    rw [j_en_arr hs] at hP
    exact va_bald X.1.1 X.1.2.1 X.2.2.2.1.1 hP 0 2 rfl rfl (j_ok_in h0) hd (kk h0 h H locs ls h1 h2 h3)
  · rw [if_neg h0] at h; cases h
theorem j_iast (X : j_X p R s m args meth c g b d cc nL own ret) {c0 N : Nat} {i x : Int32} (hs : j_sh c0 = (1, 0, N)) (hc : c0 < n) (hd : decode cc pc = .ok (.iastore, 1)) {α : Type} {A : Option α} {r : α} (h : (if j_ok i N = true then A else none) = some r) (kk : A = some r → j_W p l e R s m args below meth c nL g b n cells slots Q (j_wr I c0 (j_ix i) x) P (pc + 1) lv st) : j_W p l e R s m args below meth c nL g b n cells slots Q I P pc lv (.int x :: .int i :: .ref (b + c0) :: st) := by
  intro H locs ls h1 h2 h3
  by_cases h0 : j_ok i N = true
  · rw [if_pos h0] at h
    have he : (j_ws g.2.1 b n I P)[c0]? = some (b + c0, .inl (g.2.1 0, N, .inl (I c0))) := by rw [j_ws_at hc, j_en_arr hs]
    have hw : va_P g.1 j_cl (j_ws g.2.1 b n I P) H := h1.2.2
    have key : (j_ws g.2.1 b n I P).set c0 (b + c0, .inl (g.2.1 0, N, .inl (upd (I c0) (j_ix i) x))) = j_ws g.2.1 b n (j_wr I c0 (j_ix i) x) P := by
      refine j_ws_set ?_ (fun x hx => j_en_ne x hx)
      rw [j_en_arr hs, j_wr_row]
    refine W.iast X.1.1 X.1.2.1 (hw c0 _ he) ((X.2.2.2.1.1.2 0 _ rfl).1 N (fun j => .int (I c0 j))) (fun q => by cases q) (by show ¬ (i < 0 ∨ (arrV _ _ _).slots.size ≤ _); rw [arrV_size]; exact j_ok_in h0) rfl rfl hd fun H1 e z oq => ?_
    refine kk h H1 _ ls (j_Rep_of h1 z (fun q hq => oq q (show q ≠ b + c0 by omega)) (hw.set (j_ws_D (b := b)) he ?_ oq) key) (j_S_put h2 z oq (Nat.le_add_right b c0)) h3
    show H1[b + c0]? = some (vp_cell _ _)
    rw [e, vp_cell_i]
    show some ((arrV _ _ _).setSlot _ _) = _
    rw [arrV_store]
    show some (arrV (g.2.1 0) N _) = some (arrV (g.2.1 0) N (fun j => .int (upd (I c0) (j_ix i) x j)))
    refine congrArg some (congrArg (arrV (g.2.1 0) N) (funext fun j => ?_))
    by_cases hj : j = j_ix i
    · subst hj; simp [updV, upd, j_ix, narrow]
    · simp [updV, upd, hj, show j ≠ i.toNatClampNeg from hj]
  · rw [if_neg h0] at h; cases h
theorem j_zast (X : j_X p R s m args meth c g b d cc nL own ret) {c0 N : Nat} {i x : Int32} (hs : j_sh c0 = (1, 1, N)) (hc : c0 < n) (hd : decode cc pc = .ok (.bastore, 1)) {α : Type} {A : Option α} {r : α} (h : (if j_ok i N = true then A else none) = some r) (kk : A = some r → j_W p l e R s m args below meth c nL g b n cells slots Q (j_wr I c0 (j_ix i) (x &&& 1)) P (pc + 1) lv st) : j_W p l e R s m args below meth c nL g b n cells slots Q I P pc lv (.int x :: .int i :: .ref (b + c0) :: st) := by
  intro H locs ls h1 h2 h3
  by_cases h0 : j_ok i N = true
  · rw [if_pos h0] at h
    have he : (j_ws g.2.1 b n I P)[c0]? = some (b + c0, .inl (g.2.1 1, N, .inl (I c0))) := by rw [j_ws_at hc, j_en_arr hs]
    have hw : va_P g.1 j_cl (j_ws g.2.1 b n I P) H := h1.2.2
    have key : (j_ws g.2.1 b n I P).set c0 (b + c0, .inl (g.2.1 1, N, .inl (upd (I c0) (j_ix i) (x &&& 1)))) = j_ws g.2.1 b n (j_wr I c0 (j_ix i) (x &&& 1)) P := by
      refine j_ws_set ?_ (fun x hx => j_en_ne x hx)
      rw [j_en_arr hs, j_wr_row]
    refine W.zast X.1.1 X.1.2.1 (hw c0 _ he) ((X.2.2.2.1.1.2 1 _ rfl).1 N (fun j => .int (I c0 j))) (fun q => by cases q) (by show ¬ (i < 0 ∨ (arrV _ _ _).slots.size ≤ _); rw [arrV_size]; exact j_ok_in h0) rfl rfl hd fun H1 e z oq => ?_
    refine kk h H1 _ ls (j_Rep_of h1 z (fun q hq => oq q (show q ≠ b + c0 by omega)) (hw.set (j_ws_D (b := b)) he ?_ oq) key) (j_S_put h2 z oq (Nat.le_add_right b c0)) h3
    show H1[b + c0]? = some (vp_cell _ _)
    rw [e, vp_cell_i]
    show some ((arrV _ _ _).setSlot _ _) = _
    rw [arrV_store]
    show some (arrV (g.2.1 1) N _) = some (arrV (g.2.1 1) N (fun j => .int (upd (I c0) (j_ix i) (x &&& 1) j)))
    refine congrArg some (congrArg (arrV (g.2.1 1) N) (funext fun j => ?_))
    by_cases hj : j = j_ix i
    · subst hj; simp [updV, upd, j_ix, narrow]
    · simp [updV, upd, hj, show j ≠ i.toNatClampNeg from hj]
  · rw [if_neg h0] at h; cases h
theorem j_bast (X : j_X p R s m args meth c g b d cc nL own ret) {c0 N : Nat} {i x : Int32} (hs : j_sh c0 = (1, 2, N)) (hc : c0 < n) (hd : decode cc pc = .ok (.bastore, 1)) {α : Type} {A : Option α} {r : α} (h : (if j_ok i N = true then A else none) = some r) (kk : A = some r → j_W p l e R s m args below meth c nL g b n cells slots Q (j_wr I c0 (j_ix i) x.toInt8.toInt32) P (pc + 1) lv st) : j_W p l e R s m args below meth c nL g b n cells slots Q I P pc lv (.int x :: .int i :: .ref (b + c0) :: st) := by
  intro H locs ls h1 h2 h3
  by_cases h0 : j_ok i N = true
  · rw [if_pos h0] at h
    have he : (j_ws g.2.1 b n I P)[c0]? = some (b + c0, .inl (g.2.1 2, N, .inl (I c0))) := by rw [j_ws_at hc, j_en_arr hs]
    have hw : va_P g.1 j_cl (j_ws g.2.1 b n I P) H := h1.2.2
    have key : (j_ws g.2.1 b n I P).set c0 (b + c0, .inl (g.2.1 2, N, .inl (upd (I c0) (j_ix i) x.toInt8.toInt32))) = j_ws g.2.1 b n (j_wr I c0 (j_ix i) x.toInt8.toInt32) P := by
      refine j_ws_set ?_ (fun x hx => j_en_ne x hx)
      rw [j_en_arr hs, j_wr_row]
    refine W.bast X.1.1 X.1.2.1 (hw c0 _ he) ((X.2.2.2.1.1.2 2 _ rfl).1 N (fun j => .int (I c0 j))) (fun q => by cases q) (by show ¬ (i < 0 ∨ (arrV _ _ _).slots.size ≤ _); rw [arrV_size]; exact j_ok_in h0) rfl rfl hd fun H1 e z oq => ?_
    refine kk h H1 _ ls (j_Rep_of h1 z (fun q hq => oq q (show q ≠ b + c0 by omega)) (hw.set (j_ws_D (b := b)) he ?_ oq) key) (j_S_put h2 z oq (Nat.le_add_right b c0)) h3
    show H1[b + c0]? = some (vp_cell _ _)
    rw [e, vp_cell_i]
    show some ((arrV _ _ _).setSlot _ _) = _
    rw [arrV_store]
    show some (arrV (g.2.1 2) N _) = some (arrV (g.2.1 2) N (fun j => .int (upd (I c0) (j_ix i) x.toInt8.toInt32 j)))
    refine congrArg some (congrArg (arrV (g.2.1 2) N) (funext fun j => ?_))
    by_cases hj : j = j_ix i
    · subst hj; simp [updV, upd, j_ix, narrow]
    · simp [updV, upd, hj, show j ≠ i.toNatClampNeg from hj]
  · rw [if_neg h0] at h; cases h
theorem j_aald (X : j_X p R s m args meth c g b d cc nL own ret) {c0 N t q : Nat} {i : Int32} {ty : FieldType} (ht : (j_ty g.2.1)[t]? = some (g.2.1 t, ty)) (hr : ty.isReference = true) (hs : j_sh c0 = (2, t, N)) (hc : c0 < n) (hd : decode cc pc = .ok (.aaload, 1)) (hp : j_ok i N = true → P c0 (j_ix i) = some q) {α : Type} {A : Option α} {r : α} (h : (if j_ok i N = true then A else none) = some r) (kk : j_ok i N = true → A = some r → j_W p l e R s m args below meth c nL g b n cells slots Q I P (pc + 1) lv (.ref (b + q) :: st)) : j_W p l e R s m args below meth c nL g b n cells slots Q I P pc lv (.int i :: .ref (b + c0) :: st) := by
  intro H locs ls h1 h2 h3
  by_cases h0 : j_ok i N = true
  · rw [if_pos h0] at h
    have hP := j_cell h1 hc
    rw [j_en_ref hs] at hP
    have hcell := hP 0 _ rfl
    refine W.aald (v := .ref (b + q)) (ty := ty) X.1.1 X.1.2.1 hcell ((X.2.2.2.1.1.2 t _ ht).1 N (fun j => va_rf ((P c0 j).map (fun q => b + q)))) hr (fun q => by cases q) (by show ¬ (i < 0 ∨ (arrV _ _ _).slots.size ≤ _); rw [arrV_size]; exact j_ok_in h0) ?_ rfl rfl hd (kk h0 h H locs ls h1 h2 h3)
    show (arrV (g.2.1 t) N (fun j => va_rf ((P c0 j).map (fun q => b + q)))).slots[i.toNatClampNeg]? = _
    rw [arrV_read _ _ (show i.toNatClampNeg < N from j_ok_lt h0)]
    have h9 := hp h0
    unfold j_ix at h9
    simp [h9, va_rf]
  · rw [if_neg h0] at h; cases h
theorem j_alen (X : j_X p R s m args meth c g b d cc nL own ret) {c0 N t : Nat} {v : Int32} {ty : FieldType} (ht : (j_ty g.2.1)[t]? = some (g.2.1 t, ty)) (hs : j_sh c0 = (1, t, N)) (hc : c0 < n) (hd : decode cc pc = .ok (.arraylength, 1)) (hv : Int32.ofNat N = v) (kk : j_W p l e R s m args below meth c nL g b n cells slots Q I P (pc + 1) lv (.int v :: st)) : j_W p l e R s m args below meth c nL g b n cells slots Q I P pc lv (.ref (b + c0) :: st) := by
  intro H locs ls h1 h2 h3
  have hP := j_cell h1 hc
  rw [j_en_arr hs] at hP
  have hcell := hP 0 _ rfl
  exact W.alen (ty := ty) X.1.1 X.1.2.1 hcell ((X.2.2.2.1.1.2 t _ ht).1 N (fun j => .int (I c0 j))) (by show (arrV _ _ _).slots.size.toInt32 = v; rw [arrV_size]; exact hv) rfl rfl hd (kk H locs ls h1 h2 h3)
theorem j_mmax (X : j_X p R s m args meth c g b d cc nL own ret) {x y : Int32} {i : Nat} (hl : Cond.methodLink own i Lib.Math.max.name ∈ j_T) (hq : 1 ≤ d) (hr : (st.map fun v => v.category).sum ≤ 8) (hf : cells ≤ R.cells ∧ slots ≤ R.slots) (hd : decode cc pc = .ok (.invokestatic i, 3)) (kk : j_W p l e R s m args below meth c nL g b n cells slots Q I P (pc + 3) lv (.int (if x < y then y else x) :: st)) : j_W p l e R s m args below meth c nL g b n cells slots Q I P pc lv (.int y :: .int x :: st) := fun H locs ls h1 h2 h3 => va_mmax X.1.1 X.1.2.1 (X.1.2.2.1.trans h3.1.symm) X.1.2.2.2.1 (X.1.2.2.2.2 _ hl) (X.1.2.2.2.2 _ jqms_max) (X.1.2.2.2.2 _ jqn_Ma) (X.1.2.2.2.2 _ jqmc_max) (Nat.le_trans hq X.2.2.2.2.1) (by have := X.2.2.2.2.2; omega) hf.1 hf.2 hd (kk H locs ls h1 h2 h3)
theorem j_mmin (X : j_X p R s m args meth c g b d cc nL own ret) {x y : Int32} {i : Nat} (hl : Cond.methodLink own i Lib.Math.min.name ∈ j_T) (hq : 1 ≤ d) (hr : (st.map fun v => v.category).sum ≤ 8) (hf : cells ≤ R.cells ∧ slots ≤ R.slots) (hd : decode cc pc = .ok (.invokestatic i, 3)) (kk : j_W p l e R s m args below meth c nL g b n cells slots Q I P (pc + 3) lv (.int (if y < x then y else x) :: st)) : j_W p l e R s m args below meth c nL g b n cells slots Q I P pc lv (.int y :: .int x :: st) := fun H locs ls h1 h2 h3 => va_mmin X.1.1 X.1.2.1 (X.1.2.2.1.trans h3.1.symm) X.1.2.2.2.1 (X.1.2.2.2.2 _ hl) (X.1.2.2.2.2 _ jqms_min) (X.1.2.2.2.2 _ jqn_Ma) (X.1.2.2.2.2 _ jqmc_min) (Nat.le_trans hq X.2.2.2.2.1) (by have := X.2.2.2.2.2; omega) hf.1 hf.2 hd (kk H locs ls h1 h2 h3)
theorem j_mabs (X : j_X p R s m args meth c g b d cc nL own ret) {x : Int32} {i : Nat} (hl : Cond.methodLink own i Lib.Math.abs.name ∈ j_T) (hq : 1 ≤ d) (hr : (st.map fun v => v.category).sum ≤ 8) (hf : cells ≤ R.cells ∧ slots ≤ R.slots) (hd : decode cc pc = .ok (.invokestatic i, 3)) (kk : j_W p l e R s m args below meth c nL g b n cells slots Q I P (pc + 3) lv (.int (if 0 ≤ x then x else 0 - x) :: st)) : j_W p l e R s m args below meth c nL g b n cells slots Q I P pc lv (.int x :: st) := fun H locs ls h1 h2 h3 => va_mabs X.1.1 X.1.2.1 (X.1.2.2.1.trans h3.1.symm) X.1.2.2.2.1 (X.1.2.2.2.2 _ hl) (X.1.2.2.2.2 _ jqms_abs) (X.1.2.2.2.2 _ jqn_Ma) (X.1.2.2.2.2 _ jqmc_abs) (Nat.le_trans hq X.2.2.2.2.1) (by have := X.2.2.2.2.2; omega) hf.1 hf.2 hd (kk H locs ls h1 h2 h3)
theorem j_iret (X : j_X p R s m args meth c g b d cc nL own ret) {v : Int32} {r : Int32 × j_M} (hr : ret = some .int) (hd : decode cc pc = .ok (.ireturn, 1)) (h : some (v, I) = some r) : j_W p l e R s m args below meth c nL g b n cells slots (MQ below (j_Post g b n r.2 P (some (.int r.1))) args s cells slots (fun q => b ≤ q)) I P pc lv [.int v] := by
  cases h
  intro H locs ls h1 h2 h3
  have hlocks := X.2.1
  exact W.iret (v := v) X.1.1 X.1.2.1 (X.2.2.1.trans hr) (fun t ht hW => ⟨rfl, by rw [ht]; exact h1, h2.F ht⟩) h2.2.2 hd
theorem j_zret (X : j_X p R s m args meth c g b d cc nL own ret) {v : Int32} {r : Int32 × j_M} (hr : ret = some .boolean) (hn : v &&& 1 = v) (hd : decode cc pc = .ok (.ireturn, 1)) (h : some (v, I) = some r) : j_W p l e R s m args below meth c nL g b n cells slots (MQ below (j_Post g b n r.2 P (some (.int r.1))) args s cells slots (fun q => b ≤ q)) I P pc lv [.int v] := by
  cases h
  intro H locs ls h1 h2 h3
  have hlocks := X.2.1
  exact W.zret (v := v) (ty := .boolean) X.1.1 X.1.2.1 (X.2.2.1.trans hr) (by simp [narrow, hn]) (fun t ht hW => ⟨rfl, by rw [ht]; exact h1, h2.F ht⟩) h2.2.2 hd
theorem j_vret (X : j_X p R s m args meth c g b d cc nL own ret) {r : Int32 × j_M} (hr : ret = none) (hd : decode cc pc = .ok (.return_, 1)) (h : some ((0 : Int32), I) = some r) : j_W p l e R s m args below meth c nL g b n cells slots (MQ below (j_Post g b n r.2 P none) args s cells slots (fun q => b ≤ q)) I P pc lv [] := by
  cases h
  intro H locs ls h1 h2 h3
  have hlocks := X.2.1
  exact W.vret X.1.1 X.1.2.1 (X.2.2.1.trans hr) (fun t ht hW => ⟨rfl, by rw [ht]; exact h1, h2.F ht⟩) h2.2.2 hd
theorem j_lret (X : j_X p R s m args meth c g b d cc nL own ret) {v : Int64} {r : Int64 × j_M} (hr : ret = some .long) (hd : decode cc pc = .ok (.lreturn, 1)) (h : some (v, I) = some r) : j_W p l e R s m args below meth c nL g b n cells slots (MQ below (j_Post g b n r.2 P (some (.long r.1))) args s cells slots (fun q => b ≤ q)) I P pc lv [.long v] := by
  cases h
  intro H locs ls h1 h2 h3
  have hlocks := X.2.1
  exact W.lret (v := v) X.1.1 X.1.2.1 (X.2.2.1.trans hr) (fun t ht hW => ⟨rfl, by rw [ht]; exact h1, h2.F ht⟩) h2.2.2 hd
/-- a reference to the cell q0 + k, answered by the number k -/
theorem j_aret (X : j_X p R s m args meth c g b d cc nL own ret) {v : Nat} {r : Nat × j_M} (q0 : Nat) {C : String} (hr : ret = some (.object C)) (hd : decode cc pc = .ok (.areturn, 1)) (h : some (v, I) = some r) : j_W p l e R s m args below meth c nL g b n cells slots (MQ below (j_Post g b n r.2 P (some (.ref (b + (q0 + r.1))))) args s cells slots (fun q => b ≤ q)) I P pc lv [.ref (b + (q0 + v))] := by
  cases h
  intro H locs ls h1 h2 h3
  have hlocks := X.2.1
  exact W.aret (v := .ref (b + (q0 + v))) X.1.1 X.1.2.1 (X.2.2.1.trans hr) (Or.inl ⟨C, rfl⟩) (Or.inr ⟨_, rfl⟩) (fun t ht hW => ⟨rfl, by rw [ht]; exact h1, h2.F ht⟩) h2.2.2 hd
/-- a method of this kind: its contract, over the memory before and behind it -/
def j_Met (l : Launch) (g : j_G) (b n : Nat) (P : j_R) (d : Nat) (y : MethodName) (cc : ByteArray) (nL : Nat) (ret : Option FieldType) (av : List Value) (I I' : j_M) (r : Option Value) : Prop :=
  Met l y (.code y cc nL ret :: j_T) (j_rm d 0 0) (j_Pre g b n I P av) (j_Post g b n I' P r) 0 0 (fun q => b ≤ q)
theorem j_good {y : MethodName} {cc2 : ByteArray} {n2 : Nat} {r2 : Option FieldType} (hq : Cond.code y cc2 n2 r2 ∈ j_T) : GoodIn j_T (.code y cc2 n2 r2 :: j_T) := fun w hw => by
  rcases List.mem_cons.mp hw with rfl | h
  · exact ⟨hq, j_T_good _ hq⟩
  · exact ⟨h, j_T_good _ h⟩
theorem j_run {v : Option Value} {I' : j_M} {P' : j_R} {n' mc ms : Nat} {pc' : Nat} {st0 rest : List Value} {a : Array Value} (hpc : pc' = pc + 3)
    (hr : ∀ (H : Heap) (locs : List Loc) (ls : Array Slot), j_Rep g b n I P H → va_S (fun q => b ≤ q) s.heap H locs → j_ls ls nL lv → va_Run p l e R s m args below meth c H locs cells slots mc ms (F0 m pc ls st0) rest (j_Post g b n' I' P' v a) (fun q => b ≤ q))
    (kk : j_W p l e R s m args below meth c nL g b n' (cells + mc) (slots + ms) Q I' P' pc' lv (v.toList ++ rest)) : j_W p l e R s m args below meth c nL g b n cells slots Q I P pc lv st0 := by
  subst hpc
  intro H locs ls h1 h2 h3 T hT X
  obtain ⟨v2, st₀, t, T', L, h0, X', hL, e1, e2, ⟨hv, hp, hz, hk⟩, stp⟩ := hr H locs ls h1 h2 h3 T hT X
  have hv2 : v2 = v := Outcome.returned.inj hv
  subst hv2
  rw [h0] at hz hk
  obtain ⟨t2, a1, b1⟩ := kk T'.heap (locs ++ L) ls (by rw [e1]; exact hp)
    ⟨Nat.le_trans h2.1 (by rw [e1]; exact hz), fun q q1 q2 => by rw [e1, hk q (Nat.lt_of_lt_of_le q1 h2.1) q2]; exact h2.2.1 q q1 q2, fun q hq => by
      rcases List.mem_append.mp hq with h | h
      · exact h2.2.2 q h
      · exact hL q h⟩ h3 T' rfl X'
  exact ⟨t2, stp t2 a1, b1⟩
theorem j_pre {I P} {H : Heap} {av : List Value} (hK : j_K g b s) (h : j_Rep g b n I P H) : ∀ U : State, U.heap = H → s.WarmedH U.vm → j_Pre g b n I P av av.toArray U := fun U hU hW => ⟨rfl, by rw [hU]; exact h, hK.warm hW⟩
theorem j_callV (X : j_X p R s m args meth c g b d cc nL own ret) {C : String} {i d2 n2 ci N np c0 : Nat} {y : MethodName} {cc2 : ByteArray} {r2 : Option FieldType} {T : u_T} {As : List Value} {v : Option Value} {I' : j_M} (hC : j_cl[ci]? = some (C, T, N)) (hs : j_sh c0 = (0, ci, N)) (hc : c0 < n) (hq : Cond.code y cc2 n2 r2 ∈ j_T ∧ Cond.instanceMethod y ∈ j_T ∧ Cond.selects C y y ∈ j_T ∧ Cond.initialized C ∈ j_T) (hl : Cond.methodLink own i y ∈ j_T)
    (hy : y.cls = C ∧ y.cls ≠ "java/lang/invoke/MethodHandle" ∧ y.cls ≠ "java/lang/invoke/VarHandle" ∧ (parseMethodDescriptor y.desc).map (fun d => d.parameters.length) = some np) (hnp : As.length = np) (hd2 : d2 + 1 ≤ d) (hn2 : n2 ≤ 21) (hrm : (st.map fun v => v.category).sum ≤ 8) (hf : cells ≤ R.cells ∧ slots ≤ R.slots)
    (hM : j_Met l g b n P d2 y cc2 n2 r2 (.ref (b + c0) :: As) I I' v) (hd : decode cc pc = .ok (.invokevirtual i, 3)) {st0 : List Value} (h0 : st0 = As.reverse ++ .ref (b + c0) :: st) (kk : j_W p l e R s m args below meth c nL g b n cells slots Q I' P (pc + 3) lv (v.toList ++ st)) : j_W p l e R s m args below meth c nL g b n cells slots Q I P pc lv st0 := by
  subst h0
  refine j_run (a := (Value.ref (b + c0) :: As).toArray) (mc := 0) (ms := 0) rfl ?_ kk
  intro H locs ls h1 h2 h3
  have hP := j_cell h1 hc
  rw [j_en_obj hs] at hP
  have hfr := X.2.2.2.2.1
  have hlo := X.2.2.2.2.2
  refine va_runV (C := C) X.1 hM (cwV np X.1.2.2.2.2 ?_ rfl rfl rfl hy ⟨by show d2 + 1 ≤ _; omega, by show 8 + (n2 + 11) + 40 * d2 ≤ _; omega⟩) ⟨j_Pre_blind, va_recv X.2.2.2.1.1 hP (ci := ci) (q0 := 0) hC rfl, j_pre X.2.2.2.1 h1⟩ rfl hnp h3.1 rfl (lv_room hrm) hd hf
  intro w hw
  unfold wsV at hw
  rcases List.mem_append.mp hw with h | h
  · have hm : w ∈ j_T := by
      rcases List.mem_cons.mp h with rfl | h
      · exact hl
      rcases List.mem_cons.mp h with rfl | h
      · exact hq.2.1
      rcases List.mem_cons.mp h with rfl | h
      · exact hq.2.2.1
      rcases List.mem_cons.mp h with rfl | h
      · exact hq.2.2.2
      cases h
    exact ⟨hm, j_T_good _ hm⟩
  · exact j_good hq.1 w h
theorem j_callS (X : j_X p R s m args meth c g b d cc nL own ret) {i d2 n2 np : Nat} {y : MethodName} {cc2 : ByteArray} {r2 : Option FieldType} {As : List Value} {v : Option Value} {I' : j_M} (hq : Cond.code y cc2 n2 r2 ∈ j_T ∧ Cond.static y ∈ j_T ∧ Cond.initialized y.cls ∈ j_T) (hl : Cond.methodLink own i y ∈ j_T)
    (hy : y.cls ≠ "java/lang/invoke/MethodHandle" ∧ y.cls ≠ "java/lang/invoke/VarHandle" ∧ (parseMethodDescriptor y.desc).map (fun d => d.parameters.length) = some np) (hnp : As.length = np) (hd2 : d2 + 1 ≤ d) (hn2 : n2 ≤ 21) (hrm : (st.map fun v => v.category).sum ≤ 8) (hf : cells ≤ R.cells ∧ slots ≤ R.slots)
    (hM : j_Met l g b n P d2 y cc2 n2 r2 As I I' v) (hd : decode cc pc = .ok (.invokestatic i, 3)) {st0 : List Value} (h0 : st0 = As.reverse ++ st) (kk : j_W p l e R s m args below meth c nL g b n cells slots Q I' P (pc + 3) lv (v.toList ++ st)) : j_W p l e R s m args below meth c nL g b n cells slots Q I P pc lv st0 := by
  subst h0
  refine j_run (a := As.toArray) (mc := 0) (ms := 0) rfl ?_ kk
  intro H locs ls h1 h2 h3
  have hfr := X.2.2.2.2.1
  have hlo := X.2.2.2.2.2
  exact va_runS X.1 hM ⟨callB_of np X.1.2.2.2.2 (j_good hq.1) rfl rfl rfl (X.1.2.2.2.2 _ hq.2.2) (X.1.2.2.2.2 _ hl) hy ⟨by show d2 + 1 ≤ _; omega, by show 8 + (n2 + 11) + 40 * d2 ≤ _; omega⟩, X.1.2.2.2.2 _ hq.2.1⟩ ⟨j_Pre_blind, j_pre X.2.2.2.1 h1⟩ rfl hnp h3.1 rfl (lv_room hrm) hd hf
theorem j_callSN (X : j_X p R s m args meth c g b d cc nL own ret) {i d2 n2 np : Nat} {y : MethodName} {cc2 : ByteArray} {r2 : Option FieldType} {As : List Value} {v : Option Value} {I' : j_M} (hq : Cond.code y cc2 n2 r2 ∈ j_T ∧ Cond.static y ∈ j_T ∧ Cond.initialized y.cls ∈ j_T) (hl : (own, i, y) ∈ j_nest)
    (hy : y.cls ≠ "java/lang/invoke/MethodHandle" ∧ y.cls ≠ "java/lang/invoke/VarHandle" ∧ (parseMethodDescriptor y.desc).map (fun d => d.parameters.length) = some np) (hnp : As.length = np) (hd2 : d2 + 1 ≤ d) (hn2 : n2 ≤ 21) (hrm : (st.map fun v => v.category).sum ≤ 8) (hf : cells ≤ R.cells ∧ slots ≤ R.slots)
    (hM : j_Met l g b n P d2 y cc2 n2 r2 As I I' v) (hd : decode cc pc = .ok (.invokestatic i, 3)) {st0 : List Value} (h0 : st0 = As.reverse ++ st) (kk : j_W p l e R s m args below meth c nL g b n cells slots Q I' P (pc + 3) lv (v.toList ++ st)) : j_W p l e R s m args below meth c nL g b n cells slots Q I P pc lv st0 := by
  subst h0
  refine j_run (a := As.toArray) (mc := 0) (ms := 0) rfl ?_ kk
  intro H locs ls h1 h2 h3
  have hfr := X.2.2.2.2.1
  have hlo := X.2.2.2.2.2
  exact va_runSN X.1 hM ⟨va_cnB (host := "PleasureGarden") np X.1.2.2.2.2 (j_good hq.1) rfl rfl rfl (X.2.2.2.1.2.1 (own, i, y) hl) (X.1.2.2.2.2 _ hq.2.2) hy ⟨by show d2 + 1 ≤ _; omega, by show 8 + (n2 + 11) + 40 * d2 ≤ _; omega⟩, X.1.2.2.2.2 _ hq.2.1, trivial⟩ ⟨j_Pre_blind, j_pre X.2.2.2.1 h1⟩ rfl hnp h3.1 rfl (lv_room hrm) hd hf

/-- the locals at a method's entry -/
def j_av (nL : Nat) (av : List Value) : List (Option Value) := (av.flatMap (fun v => if v.category = 2 then [some v, none] else [some v])) ++ List.replicate (nL - (lg_sl av).length) none
theorem j_av_at : ∀ (av : List Value) (k : Nat) (pre : Nat) (v : Value), (av.flatMap (fun v => if v.category = 2 then [some v, none] else [some v]))[k]? = some (some v) → (pre + k, v) ∈ lv_args pre av
  | [], k, pre, v, h => by simp at h
  | w :: av, k, pre, v, h => by
    by_cases hc : w.category = 2
    · simp only [List.flatMap_cons, hc, if_true] at h
      rw [lv_args]
      match k, h with
      | 0, h => simp at h; subst h; exact List.mem_cons_self
      | 1, h => simp at h
      | k + 2, h =>
        refine List.mem_cons_of_mem _ ?_
        rw [if_pos hc]
        have := j_av_at av k (pre + 2) v (by simpa using h)
        rw [show pre + (k + 2) = pre + 2 + k by omega]
        exact this
    · simp only [List.flatMap_cons, hc, if_false] at h
      rw [lv_args]
      match k, h with
      | 0, h => simp at h; subst h; exact List.mem_cons_self
      | k + 1, h =>
        refine List.mem_cons_of_mem _ ?_
        rw [if_neg hc]
        have := j_av_at av k (pre + 1) v (by simpa using h)
        rw [show pre + (k + 1) = pre + 1 + k by omega]
        exact this
theorem j_enter {y : MethodName} {cc : ByteArray} {nL d mc ms : Nat} {ret : Option FieldType} {av : List Value} {Qc : Array Value → State → Outcome → State → Prop} (hy : plainName y.cls = true) (hlen : (lg_sl av).length ≤ nL) (lv : List (Option Value)) (hlv : j_av nL av = lv)
    (body : ∀ (p : Program) (e : Env) (R : Room) (s : State) (m : MethodId) (args : Array Value) (below : List Frame) (meth : Method) (c : Code), j_X p R s m args meth c g b d cc nL y.cls ret → meth.name = y.name → R.cells = mc → R.slots = ms → j_W p l e R s m args below meth c nL g b n 0 0 (MQ below Qc args s mc ms (fun q => b ≤ q)) I P 0 lv []) :
    Met l y (.code y cc nL ret :: j_T) (j_rm d mc ms) (j_Pre g b n I P av) Qc mc ms (fun q => b ≤ q) := by
  refine Met.ofW (cc := cc) (maxL := nL) (ret := ret) hy rfl ?_
  intro p e s m args below meth c s₁ B hml hv
  obtain ⟨rfl, hR, hK⟩ := hv
  have hts := atoms_spec (ws := .code y cc nL ret :: j_T) B.pre
  have hown : s.vm.findClass y.cls = some m.cls := findClass_of_methodNamed B.named
  have hl := lv_entry av (n := nL) hlen
  rw [lg_entry_eq]
  refine body p e _ s m av.toArray below meth c ⟨⟨B.exec, B.bytes, hml, hown, fun w hw => hts w (List.mem_cons_of_mem _ hw)⟩, B.notSynchronized, B.returns, hK, Nat.le_refl _, Nat.le_refl _⟩ (name_of_methodNamed B.named B.method).1 rfl rfl s.heap [] _ hR va_S.rf ?_
  refine ⟨hl.1, hl.2.1, fun i v hi => ?_⟩
  rw [← hlv] at hi
  unfold j_av at hi
  by_cases hk : i < (av.flatMap (fun v => if v.category = 2 then [some v, none] else [some v])).length
  · rw [List.getElem?_append_left hk] at hi
    have := j_av_at av i 0 v hi
    rw [Nat.zero_add] at this
    exact hl.2.2 (i, v) this
  · rw [List.getElem?_append_right (by omega)] at hi
    have h9 := List.eq_of_mem_replicate (List.mem_of_getElem? hi)
    cases h9
end JW2
end
