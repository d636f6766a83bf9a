section
-- ===== PART A: goes FIRST, ahead of the names: the tables' words, and 'selects' of the private methods out of them =====
/-- a private method of a class that the tables say can be made, by its rows of tables_1 -/
def lw_okq (q : MethodName × Nat) : Prop := (q.1.cls ≠ "java/lang/invoke/MethodHandle" ∧ q.1.cls ≠ "java/lang/invoke/VarHandle") ∧ Cond.instantiable q.1.cls q.2 ∈ tables_1 ∧ Cond.privateMethod q.1 ∈ tables_1 ∧ Cond.instanceMethod q.1 ∈ tables_1
theorem lw_p0 : lw_okq (⟨"RivetedSisters", "refuse", "(I)I"⟩, 12) := ⟨⟨by decide +kernel, by decide +kernel⟩, List.mem_of_getElem? (i := 19) (by decide +kernel), List.mem_of_getElem? (i := 359) (by decide +kernel), List.mem_of_getElem? (i := 360) (by decide +kernel)⟩
theorem lw_p1 : lw_okq (⟨"RivetedSisters$Valley", "refusalOf", "(I)I"⟩, 4) := ⟨⟨by decide +kernel, by decide +kernel⟩, List.mem_of_getElem? (i := 112) (by decide +kernel), List.mem_of_getElem? (i := 392) (by decide +kernel), List.mem_of_getElem? (i := 393) (by decide +kernel)⟩
theorem lw_p2 : lw_okq (⟨"RivetedSisters$Valley", "digit", "(I)I"⟩, 4) := ⟨⟨by decide +kernel, by decide +kernel⟩, List.mem_of_getElem? (i := 112) (by decide +kernel), List.mem_of_getElem? (i := 396) (by decide +kernel), List.mem_of_getElem? (i := 397) (by decide +kernel)⟩
theorem lw_p3 : lw_okq (⟨"RivetedSisters$Valley", "blowIn", "(I)I"⟩, 4) := ⟨⟨by decide +kernel, by decide +kernel⟩, List.mem_of_getElem? (i := 112) (by decide +kernel), List.mem_of_getElem? (i := 410) (by decide +kernel), List.mem_of_getElem? (i := 411) (by decide +kernel)⟩
theorem lw_p4 : lw_okq (⟨"RivetedSisters$Valley", "act", "(I)V"⟩, 4) := ⟨⟨by decide +kernel, by decide +kernel⟩, List.mem_of_getElem? (i := 112) (by decide +kernel), List.mem_of_getElem? (i := 441) (by decide +kernel), List.mem_of_getElem? (i := 442) (by decide +kernel)⟩
theorem lw_p5 : lw_okq (⟨"RivetedSisters$Wave", "spread", "(LRivetedSisters$Wire;III)V"⟩, 3) := ⟨⟨by decide +kernel, by decide +kernel⟩, List.mem_of_getElem? (i := 120) (by decide +kernel), List.mem_of_getElem? (i := 457) (by decide +kernel), List.mem_of_getElem? (i := 458) (by decide +kernel)⟩
theorem lw_p6 : lw_okq (⟨"RivetedSisters", "rowTooLong", "()I"⟩, 12) := ⟨⟨by decide +kernel, by decide +kernel⟩, List.mem_of_getElem? (i := 19) (by decide +kernel), List.mem_of_getElem? (i := 653) (by decide +kernel), List.mem_of_getElem? (i := 654) (by decide +kernel)⟩
theorem lw_p7 : lw_okq (⟨"RivetedSisters$Echoes", "countDropping", "(II)V"⟩, 6) := ⟨⟨by decide +kernel, by decide +kernel⟩, List.mem_of_getElem? (i := 175) (by decide +kernel), List.mem_of_getElem? (i := 668) (by decide +kernel), List.mem_of_getElem? (i := 669) (by decide +kernel)⟩
theorem lw_p8 : lw_okq (⟨"RivetedSisters$Plans", "mostBroken", "(LRivetedSisters$Wire;I)I"⟩, 5) := ⟨⟨by decide +kernel, by decide +kernel⟩, List.mem_of_getElem? (i := 222) (by decide +kernel), List.mem_of_getElem? (i := 711) (by decide +kernel), List.mem_of_getElem? (i := 712) (by decide +kernel)⟩
theorem lw_p9 : lw_okq (⟨"RivetedSisters$Orders", "mostBrokenBut", "(II)I"⟩, 4) := ⟨⟨by decide +kernel, by decide +kernel⟩, List.mem_of_getElem? (i := 250) (by decide +kernel), List.mem_of_getElem? (i := 732) (by decide +kernel), List.mem_of_getElem? (i := 733) (by decide +kernel)⟩
theorem lw_p10 : lw_okq (⟨"RivetedSisters$Plans", "othersInSpite", "(II)I"⟩, 5) := ⟨⟨by decide +kernel, by decide +kernel⟩, List.mem_of_getElem? (i := 222) (by decide +kernel), List.mem_of_getElem? (i := 782) (by decide +kernel), List.mem_of_getElem? (i := 783) (by decide +kernel)⟩
theorem lw_p11 : lw_okq (⟨"RivetedSisters$Plans", "addUnlike", "(I)V"⟩, 5) := ⟨⟨by decide +kernel, by decide +kernel⟩, List.mem_of_getElem? (i := 222) (by decide +kernel), List.mem_of_getElem? (i := 846) (by decide +kernel), List.mem_of_getElem? (i := 847) (by decide +kernel)⟩
theorem lw_p12 : lw_okq (⟨"RivetedSisters$Plans", "hearAll", "(LRivetedSisters$Wire;I)V"⟩, 5) := ⟨⟨by decide +kernel, by decide +kernel⟩, List.mem_of_getElem? (i := 222) (by decide +kernel), List.mem_of_getElem? (i := 859) (by decide +kernel), List.mem_of_getElem? (i := 860) (by decide +kernel)⟩
theorem lw_p13 : lw_okq (⟨"RivetedSisters$Futures", "draw", "(I)I"⟩, 7) := ⟨⟨by decide +kernel, by decide +kernel⟩, List.mem_of_getElem? (i := 273) (by decide +kernel), List.mem_of_getElem? (i := 996) (by decide +kernel), List.mem_of_getElem? (i := 997) (by decide +kernel)⟩
theorem lw_p14 : lw_okq (⟨"RivetedSistersModel", "no", "(I)I"⟩, 28) := ⟨⟨by decide +kernel, by decide +kernel⟩, List.mem_of_getElem? (i := 1023) (by decide +kernel), List.mem_of_getElem? (i := 1121) (by decide +kernel), List.mem_of_getElem? (i := 1122) (by decide +kernel)⟩
theorem lw_p15 : lw_okq (⟨"RivetedSistersModel", "statement", "()Z"⟩, 28) := ⟨⟨by decide +kernel, by decide +kernel⟩, List.mem_of_getElem? (i := 1023) (by decide +kernel), List.mem_of_getElem? (i := 1129) (by decide +kernel), List.mem_of_getElem? (i := 1130) (by decide +kernel)⟩
def lw_privs_1 : List (MethodName × Nat) := [(⟨"RivetedSisters", "refuse", "(I)I"⟩, 12), (⟨"RivetedSisters$Valley", "refusalOf", "(I)I"⟩, 4), (⟨"RivetedSisters$Valley", "digit", "(I)I"⟩, 4), (⟨"RivetedSisters$Valley", "blowIn", "(I)I"⟩, 4), (⟨"RivetedSisters$Valley", "act", "(I)V"⟩, 4), (⟨"RivetedSisters$Wave", "spread", "(LRivetedSisters$Wire;III)V"⟩, 3), (⟨"RivetedSisters", "rowTooLong", "()I"⟩, 12), (⟨"RivetedSisters$Echoes", "countDropping", "(II)V"⟩, 6), (⟨"RivetedSisters$Plans", "mostBroken", "(LRivetedSisters$Wire;I)I"⟩, 5), (⟨"RivetedSisters$Orders", "mostBrokenBut", "(II)I"⟩, 4), (⟨"RivetedSisters$Plans", "othersInSpite", "(II)I"⟩, 5), (⟨"RivetedSisters$Plans", "addUnlike", "(I)V"⟩, 5), (⟨"RivetedSisters$Plans", "hearAll", "(LRivetedSisters$Wire;I)V"⟩, 5), (⟨"RivetedSisters$Futures", "draw", "(I)I"⟩, 7), (⟨"RivetedSistersModel", "no", "(I)I"⟩, 28), (⟨"RivetedSistersModel", "statement", "()Z"⟩, 28)]
theorem lw_r1 : ∀ q ∈ lw_privs_1, lw_okq q := List.forall_mem_cons.mpr ⟨lw_p0, List.forall_mem_cons.mpr ⟨lw_p1, List.forall_mem_cons.mpr ⟨lw_p2, List.forall_mem_cons.mpr ⟨lw_p3, List.forall_mem_cons.mpr ⟨lw_p4, List.forall_mem_cons.mpr ⟨lw_p5, List.forall_mem_cons.mpr ⟨lw_p6, List.forall_mem_cons.mpr ⟨lw_p7, List.forall_mem_cons.mpr ⟨lw_p8, List.forall_mem_cons.mpr ⟨lw_p9, List.forall_mem_cons.mpr ⟨lw_p10, List.forall_mem_cons.mpr ⟨lw_p11, List.forall_mem_cons.mpr ⟨lw_p12, List.forall_mem_cons.mpr ⟨lw_p13, List.forall_mem_cons.mpr ⟨lw_p14, List.forall_mem_cons.mpr ⟨lw_p15, fun _ h => absurd h List.not_mem_nil⟩⟩⟩⟩⟩⟩⟩⟩⟩⟩⟩⟩⟩⟩⟩⟩
theorem lw_p16 : lw_okq (⟨"RivetedSistersModel", "next", "()I"⟩, 28) := ⟨⟨by decide +kernel, by decide +kernel⟩, List.mem_of_getElem? (i := 1023) (by decide +kernel), List.mem_of_getElem? (i := 1133) (by decide +kernel), List.mem_of_getElem? (i := 1134) (by decide +kernel)⟩
theorem lw_p17 : lw_okq (⟨"RivetedSistersModel", "readsAll", "(II)Z"⟩, 28) := ⟨⟨by decide +kernel, by decide +kernel⟩, List.mem_of_getElem? (i := 1023) (by decide +kernel), List.mem_of_getElem? (i := 1137) (by decide +kernel), List.mem_of_getElem? (i := 1138) (by decide +kernel)⟩
theorem lw_p18 : lw_okq (⟨"RivetedSistersModel", "readsDigits", "(II)Z"⟩, 28) := ⟨⟨by decide +kernel, by decide +kernel⟩, List.mem_of_getElem? (i := 1023) (by decide +kernel), List.mem_of_getElem? (i := 1141) (by decide +kernel), List.mem_of_getElem? (i := 1142) (by decide +kernel)⟩
theorem lw_p19 : lw_okq (⟨"RivetedSistersModel", "passesAll", "(IZ)V"⟩, 28) := ⟨⟨by decide +kernel, by decide +kernel⟩, List.mem_of_getElem? (i := 1023) (by decide +kernel), List.mem_of_getElem? (i := 1148) (by decide +kernel), List.mem_of_getElem? (i := 1149) (by decide +kernel)⟩
theorem lw_p20 : lw_okq (⟨"RivetedSistersModel", "passes", "([I)V"⟩, 28) := ⟨⟨by decide +kernel, by decide +kernel⟩, List.mem_of_getElem? (i := 1023) (by decide +kernel), List.mem_of_getElem? (i := 1152) (by decide +kernel), List.mem_of_getElem? (i := 1153) (by decide +kernel)⟩
theorem lw_p21 : lw_okq (⟨"RivetedSistersModel", "passOne", "(I)I"⟩, 28) := ⟨⟨by decide +kernel, by decide +kernel⟩, List.mem_of_getElem? (i := 1023) (by decide +kernel), List.mem_of_getElem? (i := 1156) (by decide +kernel), List.mem_of_getElem? (i := 1157) (by decide +kernel)⟩
theorem lw_p22 : lw_okq (⟨"RivetedSistersModel", "comes", "(I)Z"⟩, 28) := ⟨⟨by decide +kernel, by decide +kernel⟩, List.mem_of_getElem? (i := 1023) (by decide +kernel), List.mem_of_getElem? (i := 1160) (by decide +kernel), List.mem_of_getElem? (i := 1161) (by decide +kernel)⟩
theorem lw_p23 : lw_okq (⟨"RivetedSistersModel", "comesDrop", "(II)Z"⟩, 28) := ⟨⟨by decide +kernel, by decide +kernel⟩, List.mem_of_getElem? (i := 1023) (by decide +kernel), List.mem_of_getElem? (i := 1164) (by decide +kernel), List.mem_of_getElem? (i := 1165) (by decide +kernel)⟩
theorem lw_p24 : lw_okq (⟨"RivetedSistersModel", "isThing", "(I)Z"⟩, 28) := ⟨⟨by decide +kernel, by decide +kernel⟩, List.mem_of_getElem? (i := 1023) (by decide +kernel), List.mem_of_getElem? (i := 1168) (by decide +kernel), List.mem_of_getElem? (i := 1169) (by decide +kernel)⟩
theorem lw_p25 : lw_okq (⟨"RivetedSistersModel", "breaksBy", "(II)I"⟩, 28) := ⟨⟨by decide +kernel, by decide +kernel⟩, List.mem_of_getElem? (i := 1023) (by decide +kernel), List.mem_of_getElem? (i := 1175) (by decide +kernel), List.mem_of_getElem? (i := 1176) (by decide +kernel)⟩
theorem lw_p26 : lw_okq (⟨"RivetedSistersModel", "findBlow", "(II)V"⟩, 28) := ⟨⟨by decide +kernel, by decide +kernel⟩, List.mem_of_getElem? (i := 1023) (by decide +kernel), List.mem_of_getElem? (i := 1179) (by decide +kernel), List.mem_of_getElem? (i := 1180) (by decide +kernel)⟩
theorem lw_p27 : lw_okq (⟨"RivetedSistersModel", "placeOf", "(I)I"⟩, 28) := ⟨⟨by decide +kernel, by decide +kernel⟩, List.mem_of_getElem? (i := 1023) (by decide +kernel), List.mem_of_getElem? (i := 1183) (by decide +kernel), List.mem_of_getElem? (i := 1184) (by decide +kernel)⟩
theorem lw_p28 : lw_okq (⟨"RivetedSistersModel", "lands", "(II)I"⟩, 28) := ⟨⟨by decide +kernel, by decide +kernel⟩, List.mem_of_getElem? (i := 1023) (by decide +kernel), List.mem_of_getElem? (i := 1187) (by decide +kernel), List.mem_of_getElem? (i := 1188) (by decide +kernel)⟩
theorem lw_p29 : lw_okq (⟨"RivetedSistersModel", "standsOf", "(I)I"⟩, 28) := ⟨⟨by decide +kernel, by decide +kernel⟩, List.mem_of_getElem? (i := 1023) (by decide +kernel), List.mem_of_getElem? (i := 1191) (by decide +kernel), List.mem_of_getElem? (i := 1192) (by decide +kernel)⟩
theorem lw_p30 : lw_okq (⟨"RivetedSistersModel", "lossOf", "(I)I"⟩, 28) := ⟨⟨by decide +kernel, by decide +kernel⟩, List.mem_of_getElem? (i := 1023) (by decide +kernel), List.mem_of_getElem? (i := 1195) (by decide +kernel), List.mem_of_getElem? (i := 1196) (by decide +kernel)⟩
theorem lw_p31 : lw_okq (⟨"RivetedSistersModel", "goesAlong", "(III)V"⟩, 28) := ⟨⟨by decide +kernel, by decide +kernel⟩, List.mem_of_getElem? (i := 1023) (by decide +kernel), List.mem_of_getElem? (i := 1199) (by decide +kernel), List.mem_of_getElem? (i := 1200) (by decide +kernel)⟩
def lw_privs_2 : List (MethodName × Nat) := [(⟨"RivetedSistersModel", "next", "()I"⟩, 28), (⟨"RivetedSistersModel", "readsAll", "(II)Z"⟩, 28), (⟨"RivetedSistersModel", "readsDigits", "(II)Z"⟩, 28), (⟨"RivetedSistersModel", "passesAll", "(IZ)V"⟩, 28), (⟨"RivetedSistersModel", "passes", "([I)V"⟩, 28), (⟨"RivetedSistersModel", "passOne", "(I)I"⟩, 28), (⟨"RivetedSistersModel", "comes", "(I)Z"⟩, 28), (⟨"RivetedSistersModel", "comesDrop", "(II)Z"⟩, 28), (⟨"RivetedSistersModel", "isThing", "(I)Z"⟩, 28), (⟨"RivetedSistersModel", "breaksBy", "(II)I"⟩, 28), (⟨"RivetedSistersModel", "findBlow", "(II)V"⟩, 28), (⟨"RivetedSistersModel", "placeOf", "(I)I"⟩, 28), (⟨"RivetedSistersModel", "lands", "(II)I"⟩, 28), (⟨"RivetedSistersModel", "standsOf", "(I)I"⟩, 28), (⟨"RivetedSistersModel", "lossOf", "(I)I"⟩, 28), (⟨"RivetedSistersModel", "goesAlong", "(III)V"⟩, 28)]
theorem lw_r2 : ∀ q ∈ lw_privs_2, lw_okq q := List.forall_mem_cons.mpr ⟨lw_p16, List.forall_mem_cons.mpr ⟨lw_p17, List.forall_mem_cons.mpr ⟨lw_p18, List.forall_mem_cons.mpr ⟨lw_p19, List.forall_mem_cons.mpr ⟨lw_p20, List.forall_mem_cons.mpr ⟨lw_p21, List.forall_mem_cons.mpr ⟨lw_p22, List.forall_mem_cons.mpr ⟨lw_p23, List.forall_mem_cons.mpr ⟨lw_p24, List.forall_mem_cons.mpr ⟨lw_p25, List.forall_mem_cons.mpr ⟨lw_p26, List.forall_mem_cons.mpr ⟨lw_p27, List.forall_mem_cons.mpr ⟨lw_p28, List.forall_mem_cons.mpr ⟨lw_p29, List.forall_mem_cons.mpr ⟨lw_p30, List.forall_mem_cons.mpr ⟨lw_p31, fun _ h => absurd h List.not_mem_nil⟩⟩⟩⟩⟩⟩⟩⟩⟩⟩⟩⟩⟩⟩⟩⟩
theorem lw_p32 : lw_okq (⟨"RivetedSistersModel", "comesOther", "(III)Z"⟩, 28) := ⟨⟨by decide +kernel, by decide +kernel⟩, List.mem_of_getElem? (i := 1023) (by decide +kernel), List.mem_of_getElem? (i := 1206) (by decide +kernel), List.mem_of_getElem? (i := 1207) (by decide +kernel)⟩
theorem lw_p33 : lw_okq (⟨"RivetedSistersModel", "isLink", "(I)Z"⟩, 28) := ⟨⟨by decide +kernel, by decide +kernel⟩, List.mem_of_getElem? (i := 1023) (by decide +kernel), List.mem_of_getElem? (i := 1210) (by decide +kernel), List.mem_of_getElem? (i := 1211) (by decide +kernel)⟩
theorem lw_p34 : lw_okq (⟨"RivetedSistersModel", "exchanges", "(II)V"⟩, 28) := ⟨⟨by decide +kernel, by decide +kernel⟩, List.mem_of_getElem? (i := 1023) (by decide +kernel), List.mem_of_getElem? (i := 1214) (by decide +kernel), List.mem_of_getElem? (i := 1215) (by decide +kernel)⟩
theorem lw_p35 : lw_okq (⟨"RivetedSistersModel", "adds", "(III)V"⟩, 28) := ⟨⟨by decide +kernel, by decide +kernel⟩, List.mem_of_getElem? (i := 1023) (by decide +kernel), List.mem_of_getElem? (i := 1218) (by decide +kernel), List.mem_of_getElem? (i := 1219) (by decide +kernel)⟩
theorem lw_p36 : lw_okq (⟨"RivetedSistersModel", "keepsBack", "()V"⟩, 28) := ⟨⟨by decide +kernel, by decide +kernel⟩, List.mem_of_getElem? (i := 1023) (by decide +kernel), List.mem_of_getElem? (i := 1253) (by decide +kernel), List.mem_of_getElem? (i := 1254) (by decide +kernel)⟩
theorem lw_p37 : lw_okq (⟨"RivetedSistersModel", "notTwo", "(II)I"⟩, 28) := ⟨⟨by decide +kernel, by decide +kernel⟩, List.mem_of_getElem? (i := 1023) (by decide +kernel), List.mem_of_getElem? (i := 1273) (by decide +kernel), List.mem_of_getElem? (i := 1274) (by decide +kernel)⟩
theorem lw_p38 : lw_okq (⟨"RivetedSistersModel", "jumpOf", "(II)I"⟩, 28) := ⟨⟨by decide +kernel, by decide +kernel⟩, List.mem_of_getElem? (i := 1023) (by decide +kernel), List.mem_of_getElem? (i := 1277) (by decide +kernel), List.mem_of_getElem? (i := 1278) (by decide +kernel)⟩
theorem lw_p39 : lw_okq (⟨"RivetedSistersModel", "whoGet", "()I"⟩, 28) := ⟨⟨by decide +kernel, by decide +kernel⟩, List.mem_of_getElem? (i := 1023) (by decide +kernel), List.mem_of_getElem? (i := 1285) (by decide +kernel), List.mem_of_getElem? (i := 1286) (by decide +kernel)⟩
theorem lw_p40 : lw_okq (⟨"RivetedSistersModel", "manyGet", "()I"⟩, 28) := ⟨⟨by decide +kernel, by decide +kernel⟩, List.mem_of_getElem? (i := 1023) (by decide +kernel), List.mem_of_getElem? (i := 1289) (by decide +kernel), List.mem_of_getElem? (i := 1290) (by decide +kernel)⟩
theorem lw_p41 : lw_okq (⟨"RivetedSistersModel", "allJumps", "()I"⟩, 28) := ⟨⟨by decide +kernel, by decide +kernel⟩, List.mem_of_getElem? (i := 1023) (by decide +kernel), List.mem_of_getElem? (i := 1293) (by decide +kernel), List.mem_of_getElem? (i := 1294) (by decide +kernel)⟩
theorem lw_p42 : lw_okq (⟨"RivetedSistersModel", "farthestFrom", "(I)I"⟩, 28) := ⟨⟨by decide +kernel, by decide +kernel⟩, List.mem_of_getElem? (i := 1023) (by decide +kernel), List.mem_of_getElem? (i := 1297) (by decide +kernel), List.mem_of_getElem? (i := 1298) (by decide +kernel)⟩
theorem lw_p43 : lw_okq (⟨"RivetedSistersModel", "isSo", "()Z"⟩, 28) := ⟨⟨by decide +kernel, by decide +kernel⟩, List.mem_of_getElem? (i := 1023) (by decide +kernel), List.mem_of_getElem? (i := 1324) (by decide +kernel), List.mem_of_getElem? (i := 1325) (by decide +kernel)⟩
theorem lw_p44 : lw_okq (⟨"RivetedSistersModel", "bitsFor", "([IIIII)I"⟩, 28) := ⟨⟨by decide +kernel, by decide +kernel⟩, List.mem_of_getElem? (i := 1023) (by decide +kernel), List.mem_of_getElem? (i := 1332) (by decide +kernel), List.mem_of_getElem? (i := 1333) (by decide +kernel)⟩
theorem lw_p45 : lw_okq (⟨"RivetedSistersModel", "worstOf", "(I)I"⟩, 28) := ⟨⟨by decide +kernel, by decide +kernel⟩, List.mem_of_getElem? (i := 1023) (by decide +kernel), List.mem_of_getElem? (i := 1340) (by decide +kernel), List.mem_of_getElem? (i := 1341) (by decide +kernel)⟩
theorem lw_p46 : lw_okq (⟨"RivetedSistersModel", "mostBroken", "(I)I"⟩, 28) := ⟨⟨by decide +kernel, by decide +kernel⟩, List.mem_of_getElem? (i := 1023) (by decide +kernel), List.mem_of_getElem? (i := 1344) (by decide +kernel), List.mem_of_getElem? (i := 1345) (by decide +kernel)⟩
theorem lw_p47 : lw_okq (⟨"RivetedSistersModel", "findOrder", "(I)I"⟩, 28) := ⟨⟨by decide +kernel, by decide +kernel⟩, List.mem_of_getElem? (i := 1023) (by decide +kernel), List.mem_of_getElem? (i := 1356) (by decide +kernel), List.mem_of_getElem? (i := 1357) (by decide +kernel)⟩
def lw_privs_3 : List (MethodName × Nat) := [(⟨"RivetedSistersModel", "comesOther", "(III)Z"⟩, 28), (⟨"RivetedSistersModel", "isLink", "(I)Z"⟩, 28), (⟨"RivetedSistersModel", "exchanges", "(II)V"⟩, 28), (⟨"RivetedSistersModel", "adds", "(III)V"⟩, 28), (⟨"RivetedSistersModel", "keepsBack", "()V"⟩, 28), (⟨"RivetedSistersModel", "notTwo", "(II)I"⟩, 28), (⟨"RivetedSistersModel", "jumpOf", "(II)I"⟩, 28), (⟨"RivetedSistersModel", "whoGet", "()I"⟩, 28), (⟨"RivetedSistersModel", "manyGet", "()I"⟩, 28), (⟨"RivetedSistersModel", "allJumps", "()I"⟩, 28), (⟨"RivetedSistersModel", "farthestFrom", "(I)I"⟩, 28), (⟨"RivetedSistersModel", "isSo", "()Z"⟩, 28), (⟨"RivetedSistersModel", "bitsFor", "([IIIII)I"⟩, 28), (⟨"RivetedSistersModel", "worstOf", "(I)I"⟩, 28), (⟨"RivetedSistersModel", "mostBroken", "(I)I"⟩, 28), (⟨"RivetedSistersModel", "findOrder", "(I)I"⟩, 28)]
theorem lw_r3 : ∀ q ∈ lw_privs_3, lw_okq q := List.forall_mem_cons.mpr ⟨lw_p32, List.forall_mem_cons.mpr ⟨lw_p33, List.forall_mem_cons.mpr ⟨lw_p34, List.forall_mem_cons.mpr ⟨lw_p35, List.forall_mem_cons.mpr ⟨lw_p36, List.forall_mem_cons.mpr ⟨lw_p37, List.forall_mem_cons.mpr ⟨lw_p38, List.forall_mem_cons.mpr ⟨lw_p39, List.forall_mem_cons.mpr ⟨lw_p40, List.forall_mem_cons.mpr ⟨lw_p41, List.forall_mem_cons.mpr ⟨lw_p42, List.forall_mem_cons.mpr ⟨lw_p43, List.forall_mem_cons.mpr ⟨lw_p44, List.forall_mem_cons.mpr ⟨lw_p45, List.forall_mem_cons.mpr ⟨lw_p46, List.forall_mem_cons.mpr ⟨lw_p47, fun _ h => absurd h List.not_mem_nil⟩⟩⟩⟩⟩⟩⟩⟩⟩⟩⟩⟩⟩⟩⟩⟩
theorem lw_p48 : lw_okq (⟨"RivetedSistersModel", "thinks", "()V"⟩, 28) := ⟨⟨by decide +kernel, by decide +kernel⟩, List.mem_of_getElem? (i := 1023) (by decide +kernel), List.mem_of_getElem? (i := 1360) (by decide +kernel), List.mem_of_getElem? (i := 1361) (by decide +kernel)⟩
theorem lw_p49 : lw_okq (⟨"RivetedSistersModel", "sorts", "()V"⟩, 28) := ⟨⟨by decide +kernel, by decide +kernel⟩, List.mem_of_getElem? (i := 1023) (by decide +kernel), List.mem_of_getElem? (i := 1364) (by decide +kernel), List.mem_of_getElem? (i := 1365) (by decide +kernel)⟩
theorem lw_p50 : lw_okq (⟨"RivetedSistersModel", "nextOrder", "()Z"⟩, 28) := ⟨⟨by decide +kernel, by decide +kernel⟩, List.mem_of_getElem? (i := 1023) (by decide +kernel), List.mem_of_getElem? (i := 1368) (by decide +kernel), List.mem_of_getElem? (i := 1369) (by decide +kernel)⟩
theorem lw_p51 : lw_okq (⟨"RivetedSistersModel", "forgets", "()V"⟩, 28) := ⟨⟨by decide +kernel, by decide +kernel⟩, List.mem_of_getElem? (i := 1023) (by decide +kernel), List.mem_of_getElem? (i := 1372) (by decide +kernel), List.mem_of_getElem? (i := 1373) (by decide +kernel)⟩
theorem lw_p52 : lw_okq (⟨"RivetedSistersModel", "findShortest", "()V"⟩, 28) := ⟨⟨by decide +kernel, by decide +kernel⟩, List.mem_of_getElem? (i := 1023) (by decide +kernel), List.mem_of_getElem? (i := 1380) (by decide +kernel), List.mem_of_getElem? (i := 1381) (by decide +kernel)⟩
theorem lw_p53 : lw_okq (⟨"RivetedSistersModel", "shortestOf", "(I)I"⟩, 28) := ⟨⟨by decide +kernel, by decide +kernel⟩, List.mem_of_getElem? (i := 1023) (by decide +kernel), List.mem_of_getElem? (i := 1385) (by decide +kernel), List.mem_of_getElem? (i := 1386) (by decide +kernel)⟩
theorem lw_p54 : lw_okq (⟨"RivetedSistersModel", "walkOf", "(II)I"⟩, 28) := ⟨⟨by decide +kernel, by decide +kernel⟩, List.mem_of_getElem? (i := 1023) (by decide +kernel), List.mem_of_getElem? (i := 1389) (by decide +kernel), List.mem_of_getElem? (i := 1390) (by decide +kernel)⟩
theorem lw_p55 : lw_okq (⟨"RivetedSistersModel", "walked", "(I)I"⟩, 28) := ⟨⟨by decide +kernel, by decide +kernel⟩, List.mem_of_getElem? (i := 1023) (by decide +kernel), List.mem_of_getElem? (i := 1393) (by decide +kernel), List.mem_of_getElem? (i := 1394) (by decide +kernel)⟩
theorem lw_p56 : lw_okq (⟨"RivetedSistersModel", "leftToHer", "(II)I"⟩, 28) := ⟨⟨by decide +kernel, by decide +kernel⟩, List.mem_of_getElem? (i := 1023) (by decide +kernel), List.mem_of_getElem? (i := 1401) (by decide +kernel), List.mem_of_getElem? (i := 1402) (by decide +kernel)⟩
theorem lw_p57 : lw_okq (⟨"RivetedSistersModel", "others", "(II)I"⟩, 28) := ⟨⟨by decide +kernel, by decide +kernel⟩, List.mem_of_getElem? (i := 1023) (by decide +kernel), List.mem_of_getElem? (i := 1405) (by decide +kernel), List.mem_of_getElem? (i := 1406) (by decide +kernel)⟩
theorem lw_p58 : lw_okq (⟨"RivetedSistersModel", "nextWhole", "(I)I"⟩, 28) := ⟨⟨by decide +kernel, by decide +kernel⟩, List.mem_of_getElem? (i := 1023) (by decide +kernel), List.mem_of_getElem? (i := 1413) (by decide +kernel), List.mem_of_getElem? (i := 1414) (by decide +kernel)⟩
theorem lw_p59 : lw_okq (⟨"RivetedSistersModel", "lowest", "(I)J"⟩, 28) := ⟨⟨by decide +kernel, by decide +kernel⟩, List.mem_of_getElem? (i := 1023) (by decide +kernel), List.mem_of_getElem? (i := 1425) (by decide +kernel), List.mem_of_getElem? (i := 1426) (by decide +kernel)⟩
theorem lw_p60 : lw_okq (⟨"RivetedSistersModel", "apartBy", "(III)I"⟩, 28) := ⟨⟨by decide +kernel, by decide +kernel⟩, List.mem_of_getElem? (i := 1023) (by decide +kernel), List.mem_of_getElem? (i := 1443) (by decide +kernel), List.mem_of_getElem? (i := 1444) (by decide +kernel)⟩
theorem lw_p61 : lw_okq (⟨"RivetedSistersModel", "heardBy", "(II)I"⟩, 28) := ⟨⟨by decide +kernel, by decide +kernel⟩, List.mem_of_getElem? (i := 1023) (by decide +kernel), List.mem_of_getElem? (i := 1451) (by decide +kernel), List.mem_of_getElem? (i := 1452) (by decide +kernel)⟩
theorem lw_p62 : lw_okq (⟨"RivetedSistersModel", "codesOf", "(III)I"⟩, 28) := ⟨⟨by decide +kernel, by decide +kernel⟩, List.mem_of_getElem? (i := 1023) (by decide +kernel), List.mem_of_getElem? (i := 1467) (by decide +kernel), List.mem_of_getElem? (i := 1468) (by decide +kernel)⟩
theorem lw_p63 : lw_okq (⟨"RivetedSistersModel", "manyBy", "(II)I"⟩, 28) := ⟨⟨by decide +kernel, by decide +kernel⟩, List.mem_of_getElem? (i := 1023) (by decide +kernel), List.mem_of_getElem? (i := 1487) (by decide +kernel), List.mem_of_getElem? (i := 1488) (by decide +kernel)⟩
def lw_privs_4 : List (MethodName × Nat) := [(⟨"RivetedSistersModel", "thinks", "()V"⟩, 28), (⟨"RivetedSistersModel", "sorts", "()V"⟩, 28), (⟨"RivetedSistersModel", "nextOrder", "()Z"⟩, 28), (⟨"RivetedSistersModel", "forgets", "()V"⟩, 28), (⟨"RivetedSistersModel", "findShortest", "()V"⟩, 28), (⟨"RivetedSistersModel", "shortestOf", "(I)I"⟩, 28), (⟨"RivetedSistersModel", "walkOf", "(II)I"⟩, 28), (⟨"RivetedSistersModel", "walked", "(I)I"⟩, 28), (⟨"RivetedSistersModel", "leftToHer", "(II)I"⟩, 28), (⟨"RivetedSistersModel", "others", "(II)I"⟩, 28), (⟨"RivetedSistersModel", "nextWhole", "(I)I"⟩, 28), (⟨"RivetedSistersModel", "lowest", "(I)J"⟩, 28), (⟨"RivetedSistersModel", "apartBy", "(III)I"⟩, 28), (⟨"RivetedSistersModel", "heardBy", "(II)I"⟩, 28), (⟨"RivetedSistersModel", "codesOf", "(III)I"⟩, 28), (⟨"RivetedSistersModel", "manyBy", "(II)I"⟩, 28)]
theorem lw_r4 : ∀ q ∈ lw_privs_4, lw_okq q := List.forall_mem_cons.mpr ⟨lw_p48, List.forall_mem_cons.mpr ⟨lw_p49, List.forall_mem_cons.mpr ⟨lw_p50, List.forall_mem_cons.mpr ⟨lw_p51, List.forall_mem_cons.mpr ⟨lw_p52, List.forall_mem_cons.mpr ⟨lw_p53, List.forall_mem_cons.mpr ⟨lw_p54, List.forall_mem_cons.mpr ⟨lw_p55, List.forall_mem_cons.mpr ⟨lw_p56, List.forall_mem_cons.mpr ⟨lw_p57, List.forall_mem_cons.mpr ⟨lw_p58, List.forall_mem_cons.mpr ⟨lw_p59, List.forall_mem_cons.mpr ⟨lw_p60, List.forall_mem_cons.mpr ⟨lw_p61, List.forall_mem_cons.mpr ⟨lw_p62, List.forall_mem_cons.mpr ⟨lw_p63, fun _ h => absurd h List.not_mem_nil⟩⟩⟩⟩⟩⟩⟩⟩⟩⟩⟩⟩⟩⟩⟩⟩
theorem lw_p64 : lw_okq (⟨"RivetedSistersModel", "linkOf", "(I)I"⟩, 28) := ⟨⟨by decide +kernel, by decide +kernel⟩, List.mem_of_getElem? (i := 1023) (by decide +kernel), List.mem_of_getElem? (i := 1503) (by decide +kernel), List.mem_of_getElem? (i := 1504) (by decide +kernel)⟩
theorem lw_p65 : lw_okq (⟨"RivetedSistersModel", "hears", "(III)Z"⟩, 28) := ⟨⟨by decide +kernel, by decide +kernel⟩, List.mem_of_getElem? (i := 1023) (by decide +kernel), List.mem_of_getElem? (i := 1515) (by decide +kernel), List.mem_of_getElem? (i := 1516) (by decide +kernel)⟩
theorem lw_p66 : lw_okq (⟨"RivetedSistersModel", "draw", "(I)I"⟩, 28) := ⟨⟨by decide +kernel, by decide +kernel⟩, List.mem_of_getElem? (i := 1023) (by decide +kernel), List.mem_of_getElem? (i := 1535) (by decide +kernel), List.mem_of_getElem? (i := 1536) (by decide +kernel)⟩
def lw_privs_5 : List (MethodName × Nat) := [(⟨"RivetedSistersModel", "linkOf", "(I)I"⟩, 28), (⟨"RivetedSistersModel", "hears", "(III)Z"⟩, 28), (⟨"RivetedSistersModel", "draw", "(I)I"⟩, 28)]
theorem lw_r5 : ∀ q ∈ lw_privs_5, lw_okq q := List.forall_mem_cons.mpr ⟨lw_p64, List.forall_mem_cons.mpr ⟨lw_p65, List.forall_mem_cons.mpr ⟨lw_p66, fun _ h => absurd h List.not_mem_nil⟩⟩⟩
def lw_privs : List (MethodName × Nat) := lw_privs_1 ++ (lw_privs_2 ++ (lw_privs_3 ++ (lw_privs_4 ++ (lw_privs_5))))
def lw_tbl : List Cond := k2_sels lw_privs ++ tables_1
theorem lw_privs_ok : ∀ q ∈ lw_privs, lw_okq q := by
  show ∀ q ∈ lw_privs_1 ++ (lw_privs_2 ++ (lw_privs_3 ++ (lw_privs_4 ++ (lw_privs_5)))), lw_okq q
  exact List.forall_mem_append.mpr ⟨lw_r1, List.forall_mem_append.mpr ⟨lw_r2, List.forall_mem_append.mpr ⟨lw_r3, List.forall_mem_append.mpr ⟨lw_r4, lw_r5⟩⟩⟩⟩
-- ===== end of PART A; then your names; then what follows =====
/-! the program as tables: names, fields, codes (made by a program of mine out of the listing) -/
abbrev AC : Type := (Nat × (Nat → Int32)) ⊕ ((Nat × (Nat → Option Nat)) ⊕ (Nat × List Value))
abbrev AH : Type := List AC
abbrev AL : Type := List (Option Value)
abbrev AE : Type := Nat × Instr × Nat × Instr
abbrev ME : Type := MethodName × ByteArray × Nat × Option FieldType × Bool × Nat × Nat × Nat × List AE
def am_cn : Nat → String := fun k => match k with
  | 0 => "RivetedSisters$Best"
  | 1 => "RivetedSisters$Echoes"
  | 2 => "RivetedSisters$Futures"
  | 3 => "RivetedSisters$Kinds"
  | 4 => "RivetedSisters$Orders"
  | 5 => "RivetedSisters$Past"
  | 6 => "RivetedSisters$Plans"
  | 7 => "RivetedSisters$Row"
  | 8 => "RivetedSisters$Valley"
  | 9 => "RivetedSisters$Wave"
  | 10 => "RivetedSisters$Wire"
  | 11 => "RivetedSisters"
  | 12 => "RivetedSistersModel"
  | 13 => "RivetedSistersLaw"
  | 14 => "java/lang/Integer"
  | 15 => "java/lang/Long"
  | 16 => "java/lang/Math"
  | _ => "java/lang/System"
def am_F0 : u_T := fun k => match k with
  | 0 => ("RivetedSisters$Best", "which", "I", false)
  | _ => ("RivetedSisters$Best", "value", "I", false)
def am_Y0 : Nat → FieldType := fun k => match k with
  | 0 => .int
  | _ => .int
def am_F1 : u_T := fun k => match k with
  | 0 => ("RivetedSisters$Echoes", "wave", "LRivetedSisters$Wave;", true)
  | 1 => ("RivetedSisters$Echoes", "mind", "LRivetedSisters$Wire;", true)
  | 2 => ("RivetedSisters$Echoes", "best", "LRivetedSisters$Best;", true)
  | 3 => ("RivetedSisters$Echoes", "droppings", "I", false)
  | 4 => ("RivetedSisters$Echoes", "leastDropping", "I", false)
  | _ => ("RivetedSisters$Echoes", "droppers", "I", false)
def am_Y1 : Nat → FieldType := fun k => match k with
  | 0 => .object "RivetedSisters$Wave"
  | 1 => .object "RivetedSisters$Wire"
  | 2 => .object "RivetedSisters$Best"
  | 3 => .int
  | 4 => .int
  | _ => .int
def am_F2 : u_T := fun k => match k with
  | 0 => ("RivetedSisters$Futures", "wave", "LRivetedSisters$Wave;", true)
  | 1 => ("RivetedSisters$Futures", "mind", "LRivetedSisters$Wire;", true)
  | 2 => ("RivetedSisters$Futures", "seed", "I", false)
  | 3 => ("RivetedSisters$Futures", "oddsAbove", "J", false)
  | 4 => ("RivetedSisters$Futures", "oddsBelow", "J", false)
  | 5 => ("RivetedSisters$Futures", "brokenByLot", "I", false)
  | _ => ("RivetedSisters$Futures", "jumpsByLot", "I", false)
def am_Y2 : Nat → FieldType := fun k => match k with
  | 0 => .object "RivetedSisters$Wave"
  | 1 => .object "RivetedSisters$Wire"
  | 2 => .int
  | 3 => .long
  | 4 => .long
  | 5 => .int
  | _ => .int
def am_F3 : u_T := fun k => match k with
  | 0 => ("RivetedSisters$Orders", "wave", "LRivetedSisters$Wave;", true)
  | 1 => ("RivetedSisters$Orders", "mind", "LRivetedSisters$Wire;", true)
  | 2 => ("RivetedSisters$Orders", "found", "[I", true)
  | _ => ("RivetedSisters$Orders", "rising", "[I", true)
def am_Y3 : Nat → FieldType := fun k => match k with
  | 0 => .object "RivetedSisters$Wave"
  | 1 => .object "RivetedSisters$Wire"
  | 2 => .array .int
  | _ => .array .int
def am_F4 : u_T := fun k => match k with
  | 0 => ("RivetedSisters$Past", "kept", "[LRivetedSisters$Wire;", true)
  | 1 => ("RivetedSisters$Past", "next", "I", false)
  | _ => ("RivetedSisters$Past", "size", "I", false)
def am_Y4 : Nat → FieldType := fun k => match k with
  | 0 => .array (.object "RivetedSisters$Wire")
  | 1 => .int
  | _ => .int
def am_F5 : u_T := fun k => match k with
  | 0 => ("RivetedSisters$Plans", "wave", "LRivetedSisters$Wave;", true)
  | 1 => ("RivetedSisters$Plans", "mind", "LRivetedSisters$Wire;", true)
  | 2 => ("RivetedSisters$Plans", "best", "LRivetedSisters$Best;", true)
  | 3 => ("RivetedSisters$Plans", "heard", "[I", true)
  | _ => ("RivetedSisters$Plans", "unlike", "[I", true)
def am_Y5 : Nat → FieldType := fun k => match k with
  | 0 => .object "RivetedSisters$Wave"
  | 1 => .object "RivetedSisters$Wire"
  | 2 => .object "RivetedSisters$Best"
  | 3 => .array .int
  | _ => .array .int
def am_F6 : u_T := fun k => match k with
  | 0 => ("RivetedSisters$Row", "numbers", "[I", true)
  | _ => ("RivetedSisters$Row", "told", "I", false)
def am_Y6 : Nat → FieldType := fun k => match k with
  | 0 => .array .int
  | _ => .int
def am_F7 : u_T := fun k => match k with
  | 0 => ("RivetedSisters$Valley", "letters", "[I", true)
  | 1 => ("RivetedSisters$Valley", "trial", "LRivetedSisters$Wire;", true)
  | 2 => ("RivetedSisters$Valley", "wave", "LRivetedSisters$Wave;", true)
  | _ => ("RivetedSisters$Valley", "told", "I", false)
def am_Y7 : Nat → FieldType := fun k => match k with
  | 0 => .array .int
  | 1 => .object "RivetedSisters$Wire"
  | 2 => .object "RivetedSisters$Wave"
  | _ => .int
def am_F8 : u_T := fun k => match k with
  | 0 => ("RivetedSisters$Wave", "got", "[I", true)
  | 1 => ("RivetedSisters$Wave", "hearers", "I", false)
  | _ => ("RivetedSisters$Wave", "victims", "I", false)
def am_Y8 : Nat → FieldType := fun k => match k with
  | 0 => .array .int
  | 1 => .int
  | _ => .int
def am_F9 : u_T := fun k => match k with
  | 0 => ("RivetedSisters$Wire", "things", "I", false)
  | 1 => ("RivetedSisters$Wire", "broken", "I", false)
  | 2 => ("RivetedSisters$Wire", "cut", "I", false)
  | 3 => ("RivetedSisters$Wire", "day", "I", false)
  | 4 => ("RivetedSisters$Wire", "kinds", "[I", true)
  | 5 => ("RivetedSisters$Wire", "figures", "[I", true)
  | 6 => ("RivetedSisters$Wire", "farms", "[I", true)
  | 7 => ("RivetedSisters$Wire", "at", "[I", true)
  | _ => ("RivetedSisters$Wire", "placeOf", "[I", true)
def am_Y9 : Nat → FieldType := fun k => match k with
  | 0 => .int
  | 1 => .int
  | 2 => .int
  | 3 => .int
  | 4 => .array .int
  | 5 => .array .int
  | 6 => .array .int
  | 7 => .array .int
  | _ => .array .int
def am_F10 : u_T := fun k => match k with
  | 0 => ("RivetedSisters", "now", "LRivetedSisters$Wire;", true)
  | 1 => ("RivetedSisters", "imaged", "LRivetedSisters$Wire;", true)
  | 2 => ("RivetedSisters", "hasImage", "Z", false)
  | 3 => ("RivetedSisters", "past", "LRivetedSisters$Past;", true)
  | 4 => ("RivetedSisters", "valley", "LRivetedSisters$Valley;", true)
  | 5 => ("RivetedSisters", "row", "LRivetedSisters$Row;", true)
  | 6 => ("RivetedSisters", "wave", "LRivetedSisters$Wave;", true)
  | 7 => ("RivetedSisters", "echoes", "LRivetedSisters$Echoes;", true)
  | 8 => ("RivetedSisters", "plans", "LRivetedSisters$Plans;", true)
  | 9 => ("RivetedSisters", "orders", "LRivetedSisters$Orders;", true)
  | 10 => ("RivetedSisters", "futures", "LRivetedSisters$Futures;", true)
  | _ => ("RivetedSisters", "refusals", "[I", true)
def am_Y10 : Nat → FieldType := fun k => match k with
  | 0 => .object "RivetedSisters$Wire"
  | 1 => .object "RivetedSisters$Wire"
  | 2 => .boolean
  | 3 => .object "RivetedSisters$Past"
  | 4 => .object "RivetedSisters$Valley"
  | 5 => .object "RivetedSisters$Row"
  | 6 => .object "RivetedSisters$Wave"
  | 7 => .object "RivetedSisters$Echoes"
  | 8 => .object "RivetedSisters$Plans"
  | 9 => .object "RivetedSisters$Orders"
  | 10 => .object "RivetedSisters$Futures"
  | _ => .array .int
def am_F11 : u_T := fun k => match k with
  | 0 => ("RivetedSistersModel", "refused", "[I", true)
  | 1 => ("RivetedSistersModel", "kind", "[I", true)
  | 2 => ("RivetedSistersModel", "figure", "[I", true)
  | 3 => ("RivetedSistersModel", "farm", "[I", true)
  | 4 => ("RivetedSistersModel", "wire", "[I", true)
  | 5 => ("RivetedSistersModel", "things", "I", false)
  | 6 => ("RivetedSistersModel", "broken", "I", false)
  | 7 => ("RivetedSistersModel", "cutLinks", "I", false)
  | 8 => ("RivetedSistersModel", "day", "I", false)
  | 9 => ("RivetedSistersModel", "tape", "[I", true)
  | 10 => ("RivetedSistersModel", "letter", "[I", true)
  | 11 => ("RivetedSistersModel", "letterAt", "[I", true)
  | 12 => ("RivetedSistersModel", "told", "[I", true)
  | 13 => ("RivetedSistersModel", "taped", "I", false)
  | 14 => ("RivetedSistersModel", "at", "I", false)
  | 15 => ("RivetedSistersModel", "statements", "I", false)
  | 16 => ("RivetedSistersModel", "kept", "[I", true)
  | 17 => ("RivetedSistersModel", "hasImage", "Z", false)
  | 18 => ("RivetedSistersModel", "isKeeping", "Z", false)
  | 19 => ("RivetedSistersModel", "cursor", "I", false)
  | 20 => ("RivetedSistersModel", "backs", "I", false)
  | 21 => ("RivetedSistersModel", "got", "[I", true)
  | 22 => ("RivetedSistersModel", "breaking", "I", false)
  | 23 => ("RivetedSistersModel", "row", "[I", true)
  | 24 => ("RivetedSistersModel", "rowMany", "I", false)
  | 25 => ("RivetedSistersModel", "bestWire", "[I", true)
  | 26 => ("RivetedSistersModel", "shortest", "[I", true)
  | _ => ("RivetedSistersModel", "lots", "I", false)
def am_Y11 : Nat → FieldType := fun k => match k with
  | 0 => .array .int
  | 1 => .array .int
  | 2 => .array .int
  | 3 => .array .int
  | 4 => .array .int
  | 5 => .int
  | 6 => .int
  | 7 => .int
  | 8 => .int
  | 9 => .array .int
  | 10 => .array .int
  | 11 => .array .int
  | 12 => .array .int
  | 13 => .int
  | 14 => .int
  | 15 => .int
  | 16 => .array .int
  | 17 => .boolean
  | 18 => .boolean
  | 19 => .int
  | 20 => .int
  | 21 => .array .int
  | 22 => .int
  | 23 => .array .int
  | 24 => .int
  | 25 => .array .int
  | 26 => .array .int
  | _ => .int
def am_cl : List vw_C := [("RivetedSisters$Best", am_F0, 2), ("RivetedSisters$Echoes", am_F1, 6), ("RivetedSisters$Futures", am_F2, 7), ("RivetedSisters$Orders", am_F3, 4), ("RivetedSisters$Past", am_F4, 3), ("RivetedSisters$Plans", am_F5, 5), ("RivetedSisters$Row", am_F6, 2), ("RivetedSisters$Valley", am_F7, 4), ("RivetedSisters$Wave", am_F8, 3), ("RivetedSisters$Wire", am_F9, 9), ("RivetedSisters", am_F10, 12), ("RivetedSistersModel", am_F11, 28)]
def cd_X0_none : List AE := [(0, .aload 0, 1, .aload_n 0), (1, .iconst (-9), 2, .bipush (-9)), (3, .putfield 0, 3, .putfield 9), (6, .aload 0, 1, .aload_n 0), (7, .iconst (-9), 2, .bipush (-9)), (9, .putfield 1, 3, .putfield 15), (12, .return_, 1, .return_)]
def cd_X0_offerLeast : List AE := [(0, .aload 0, 1, .aload_n 0), (1, .getfield 0, 3, .getfield 9), (4, .iconst (-9), 2, .bipush (-9)), (6, .if_icmp .eq 17, 3, .if_icmp .eq 11), (9, .iload 2, 1, .iload_n 2), (10, .aload 0, 1, .aload_n 0), (11, .getfield 1, 3, .getfield 15), (14, .if_icmp .ge 27, 3, .if_icmp .ge 13), (17, .aload 0, 1, .aload_n 0), (18, .iload 1, 1, .iload_n 1), (19, .putfield 0, 3, .putfield 9), (22, .aload 0, 1, .aload_n 0), (23, .iload 2, 1, .iload_n 2), (24, .putfield 1, 3, .putfield 15), (27, .return_, 1, .return_)]
def cd_X0_offerMost : List AE := [(0, .aload 0, 1, .aload_n 0), (1, .getfield 0, 3, .getfield 9), (4, .iconst (-9), 2, .bipush (-9)), (6, .if_icmp .eq 17, 3, .if_icmp .eq 11), (9, .iload 2, 1, .iload_n 2), (10, .aload 0, 1, .aload_n 0), (11, .getfield 1, 3, .getfield 15), (14, .if_icmp .le 27, 3, .if_icmp .le 13), (17, .aload 0, 1, .aload_n 0), (18, .iload 1, 1, .iload_n 1), (19, .putfield 0, 3, .putfield 9), (22, .aload 0, 1, .aload_n 0), (23, .iload 2, 1, .iload_n 2), (24, .putfield 1, 3, .putfield 15), (27, .return_, 1, .return_)]
def cd_X0_answer : List AE := [(0, .iload 1, 1, .iload_n 1), (1, .ifCond .ne 11, 3, .ifCond .ne 10), (4, .aload 0, 1, .aload_n 0), (5, .getfield 0, 3, .getfield 9), (8, .goto 15, 3, .goto 7), (11, .aload 0, 1, .aload_n 0), (12, .getfield 1, 3, .getfield 15), (15, .ireturn, 1, .ireturn)]
def cd_X1_leastHeard : List AE := [(0, .anewarray 1, 1, .iconst 1), (1, .istore 4, 2, .istore 4), (3, .iload 4, 2, .iload 4), (5, .anewarray 60, 2, .bipush 60), (7, .if_icmp .gt 41, 3, .if_icmp .gt 34), (10, .aload 0, 1, .aload_n 0), (11, .getfield 100, 3, .getfield 12), (14, .aload 1, 1, .aload_n 1), (15, .iload 2, 1, .iload_n 2), (16, .iload 4, 2, .iload 4), (18, .invokeinterface 6209 4, 3, .invokevirtual 42), (21, .aload 0, 1, .aload_n 0), (22, .getfield 100, 3, .getfield 12), (25, .iload 3, 1, .iload_n 3), (26, .invokeinterface 6509 2, 3, .invokevirtual 46), (29, .ifCond .eq 35, 3, .ifCond .eq 6), (32, .iload 4, 2, .iload 4), (34, .ireturn, 1, .ireturn), (35, .iinc 4 1, 3, .iinc 4 1), (38, .goto 3, 3, .goto (-35)), (41, .iconst (-9), 2, .bipush (-9)), (43, .ireturn, 1, .ireturn)]
def cd_X1_leastBreaking : List AE := [(0, .anewarray 1, 1, .iconst 1), (1, .istore 4, 2, .istore 4), (3, .iload 4, 2, .iload 4), (5, .anewarray 60, 2, .bipush 60), (7, .if_icmp .gt 41, 3, .if_icmp .gt 34), (10, .aload 0, 1, .aload_n 0), (11, .getfield 100, 3, .getfield 12), (14, .aload 1, 1, .aload_n 1), (15, .iload 2, 1, .iload_n 2), (16, .iload 4, 2, .iload 4), (18, .invokeinterface 6209 4, 3, .invokevirtual 42), (21, .aload 0, 1, .aload_n 0), (22, .getfield 100, 3, .getfield 12), (25, .iload 3, 1, .iload_n 3), (26, .invokeinterface 6609 2, 3, .invokevirtual 50), (29, .ifCond .eq 35, 3, .ifCond .eq 6), (32, .iload 4, 2, .iload 4), (34, .ireturn, 1, .ireturn), (35, .iinc 4 1, 3, .iinc 4 1), (38, .goto 3, 3, .goto (-35)), (41, .iconst (-9), 2, .bipush (-9)), (43, .ireturn, 1, .ireturn)]
def cd_X1_greatestHarmless : List AE := [(0, .anewarray 1, 1, .iconst 1), (1, .istore 3, 1, .istore_n 3), (2, .iload 3, 1, .iload_n 3), (3, .anewarray 60, 2, .bipush 60), (5, .if_icmp .gt 38, 3, .if_icmp .gt 33), (8, .aload 0, 1, .aload_n 0), (9, .getfield 100, 3, .getfield 12), (12, .aload 1, 1, .aload_n 1), (13, .iload 2, 1, .iload_n 2), (14, .iload 3, 1, .iload_n 3), (15, .invokeinterface 6209 4, 3, .invokevirtual 42), (18, .aload 0, 1, .aload_n 0), (19, .getfield 100, 3, .getfield 12), (22, .getfield 802, 3, .getfield 53), (25, .ifCond .eq 32, 3, .ifCond .eq 7), (28, .iload 3, 1, .iload_n 3), (29, .anewarray 1, 1, .iconst 1), (30, .isub, 1, .isub), (31, .ireturn, 1, .ireturn), (32, .iinc 3 1, 3, .iinc 3 1), (35, .goto 2, 3, .goto (-33)), (38, .anewarray 60, 2, .bipush 60), (40, .ireturn, 1, .ireturn)]
def cd_X1_leastHarm : List AE := [(0, .aload 0, 1, .aload_n 0), (1, .getfield 102, 3, .getfield 28), (4, .invokeinterface 1 1, 3, .invokevirtual 56), (7, .anewarray 0, 1, .iconst 0), (8, .istore 3, 1, .istore_n 3), (9, .iload 3, 1, .iload_n 3), (10, .aload 1, 1, .aload_n 1), (11, .getfield 900, 3, .getfield 59), (14, .if_icmp .ge 84, 3, .if_icmp .ge 70), (17, .anewarray 1, 1, .iconst 1), (18, .istore 4, 2, .istore 4), (20, .iload 4, 2, .iload 4), (22, .anewarray 60, 2, .bipush 60), (24, .if_icmp .gt 78, 3, .if_icmp .gt 54), (27, .aload 0, 1, .aload_n 0), (28, .getfield 100, 3, .getfield 12), (31, .aload 1, 1, .aload_n 1), (32, .iload 3, 1, .iload_n 3), (33, .iload 4, 2, .iload 4), (35, .invokeinterface 6209 4, 3, .invokevirtual 42), (38, .aload 0, 1, .aload_n 0), (39, .getfield 100, 3, .getfield 12), (42, .iload 2, 1, .iload_n 2), (43, .invokeinterface 6609 2, 3, .invokevirtual 50), (46, .ifCond .eq 72, 3, .ifCond .eq 26), (49, .aload 0, 1, .aload_n 0), (50, .getfield 102, 3, .getfield 28), (53, .anewarray 100, 2, .bipush 100), (55, .iload 3, 1, .iload_n 3), (56, .imul, 1, .imul), (57, .iload 4, 2, .iload 4), (59, .iadd, 1, .iadd), (60, .aload 0, 1, .aload_n 0), (61, .getfield 100, 3, .getfield 12), (64, .invokeinterface 6809 1, 3, .invokevirtual 62), (67, .anewarray 1, 1, .iconst 1), (68, .isub, 1, .isub), (69, .invokeinterface 101 3, 3, .invokevirtual 66), (72, .iinc 4 1, 3, .iinc 4 1), (75, .goto 20, 3, .goto (-55)), (78, .iinc 3 1, 3, .iinc 3 1), (81, .goto 9, 3, .goto (-72)), (84, .aload 0, 1, .aload_n 0), (85, .getfield 102, 3, .getfield 28), (88, .areturn, 1, .areturn)]
def cd_X1_quietestTap : List AE := [(0, .aload 0, 1, .aload_n 0), (1, .getfield 102, 3, .getfield 28), (4, .invokeinterface 1 1, 3, .invokevirtual 56), (7, .anewarray 0, 1, .iconst 0), (8, .istore 3, 1, .istore_n 3), (9, .iload 3, 1, .iload_n 3), (10, .aload 1, 1, .aload_n 1), (11, .getfield 900, 3, .getfield 59), (14, .if_icmp .ge 102, 3, .if_icmp .ge 88), (17, .iload 3, 1, .iload_n 3), (18, .iload 2, 1, .iload_n 2), (19, .if_icmp .ne 25, 3, .if_icmp .ne 6), (22, .goto 96, 3, .goto 74), (25, .anewarray 1, 1, .iconst 1), (26, .istore 4, 2, .istore 4), (28, .iload 4, 2, .iload 4), (30, .anewarray 60, 2, .bipush 60), (32, .if_icmp .gt 96, 3, .if_icmp .gt 64), (35, .aload 0, 1, .aload_n 0), (36, .getfield 100, 3, .getfield 12), (39, .aload 1, 1, .aload_n 1), (40, .iload 3, 1, .iload_n 3), (41, .iload 4, 2, .iload 4), (43, .invokeinterface 6209 4, 3, .invokevirtual 42), (46, .aload 0, 1, .aload_n 0), (47, .getfield 100, 3, .getfield 12), (50, .iload 2, 1, .iload_n 2), (51, .invokeinterface 6509 2, 3, .invokevirtual 46), (54, .ifCond .eq 90, 3, .ifCond .eq 36), (57, .aload 0, 1, .aload_n 0), (58, .getfield 100, 3, .getfield 12), (61, .getfield 802, 3, .getfield 53), (64, .ifCond .ne 90, 3, .ifCond .ne 26), (67, .aload 0, 1, .aload_n 0), (68, .getfield 102, 3, .getfield 28), (71, .anewarray 100, 2, .bipush 100), (73, .iload 3, 1, .iload_n 3), (74, .imul, 1, .imul), (75, .iload 4, 2, .iload 4), (77, .iadd, 1, .iadd), (78, .aload 0, 1, .aload_n 0), (79, .getfield 100, 3, .getfield 12), (82, .invokeinterface 6709 1, 3, .invokevirtual 70), (85, .anewarray 2, 1, .iconst 2), (86, .isub, 1, .isub), (87, .invokeinterface 101 3, 3, .invokevirtual 66), (90, .iinc 4 1, 3, .iinc 4 1), (93, .goto 28, 3, .goto (-65)), (96, .iinc 3 1, 3, .iinc 3 1), (99, .goto 9, 3, .goto (-90)), (102, .aload 0, 1, .aload_n 0), (103, .getfield 102, 3, .getfield 28), (106, .areturn, 1, .areturn)]
def cd_X1_findDroppers : List AE := [(0, .aload 0, 1, .aload_n 0), (1, .anewarray 0, 1, .iconst 0), (2, .putfield 103, 3, .putfield 32), (5, .aload 0, 1, .aload_n 0), (6, .iconst (-9), 2, .bipush (-9)), (8, .putfield 104, 3, .putfield 36), (11, .aload 0, 1, .aload_n 0), (12, .anewarray 0, 1, .iconst 0), (13, .putfield 105, 3, .putfield 39), (16, .anewarray 0, 1, .iconst 0), (17, .istore 3, 1, .istore_n 3), (18, .iload 3, 1, .iload_n 3), (19, .aload 1, 1, .aload_n 1), (20, .getfield 900, 3, .getfield 59), (23, .if_icmp .ge 89, 3, .if_icmp .ge 66), (26, .aload 1, 1, .aload_n 1), (27, .iload 3, 1, .iload_n 3), (28, .invokeinterface 8410 2, 3, .invokevirtual 73), (31, .ifCond .eq 37, 3, .ifCond .eq 6), (34, .goto 83, 3, .goto 49), (37, .anewarray 1, 1, .iconst 1), (38, .istore 4, 2, .istore 4), (40, .iload 4, 2, .iload 4), (42, .anewarray 60, 2, .bipush 60), (44, .if_icmp .gt 83, 3, .if_icmp .gt 39), (47, .aload 0, 1, .aload_n 0), (48, .getfield 100, 3, .getfield 12), (51, .aload 1, 1, .aload_n 1), (52, .iload 3, 1, .iload_n 3), (53, .iload 4, 2, .iload 4), (55, .invokeinterface 6209 4, 3, .invokevirtual 42), (58, .aload 2, 1, .aload_n 2), (59, .aload 0, 1, .aload_n 0), (60, .getfield 100, 3, .getfield 12), (63, .aload 1, 1, .aload_n 1), (64, .invokeinterface 5107 3, 3, .invokevirtual 76), (67, .ifCond .eq 77, 3, .ifCond .eq 10), (70, .aload 0, 1, .aload_n 0), (71, .iload 3, 1, .iload_n 3), (72, .iload 4, 2, .iload 4), (74, .invokeinterface 1002 3, 3, .invokevirtual 82), (77, .iinc 4 1, 3, .iinc 4 1), (80, .goto 40, 3, .goto (-40)), (83, .iinc 3 1, 3, .iinc 3 1), (86, .goto 18, 3, .goto (-68)), (89, .return_, 1, .return_)]
def cd_X1_countDropping : List AE := [(0, .aload 0, 1, .aload_n 0), (1, .dup, 1, .dup), (2, .getfield 103, 3, .getfield 32), (5, .anewarray 1, 1, .iconst 1), (6, .iadd, 1, .iadd), (7, .putfield 103, 3, .putfield 32), (10, .aload 0, 1, .aload_n 0), (11, .dup, 1, .dup), (12, .getfield 105, 3, .getfield 39), (15, .anewarray 1, 1, .iconst 1), (16, .iload 1, 1, .iload_n 1), (17, .ishl, 1, .ishl), (18, .ior, 1, .ior), (19, .putfield 105, 3, .putfield 39), (22, .aload 0, 1, .aload_n 0), (23, .getfield 104, 3, .getfield 36), (26, .iconst (-9), 2, .bipush (-9)), (28, .if_icmp .ne 41, 3, .if_icmp .ne 13), (31, .aload 0, 1, .aload_n 0), (32, .anewarray 100, 2, .bipush 100), (34, .iload 1, 1, .iload_n 1), (35, .imul, 1, .imul), (36, .iload 2, 1, .iload_n 2), (37, .iadd, 1, .iadd), (38, .putfield 104, 3, .putfield 36), (41, .return_, 1, .return_)]
def cd_X1_kindsBy : List AE := [(0, .aload 0, 1, .aload_n 0), (1, .getfield 101, 3, .getfield 21), (4, .aload 1, 1, .aload_n 1), (5, .invokeinterface 7310 2, 3, .invokevirtual 85), (8, .anewarray 0, 1, .iconst 0), (9, .istore 6, 2, .istore 6), (11, .anewarray 0, 1, .iconst 0), (12, .istore 7, 2, .istore 7), (14, .iload 7, 2, .iload 7), (16, .anewarray 6, 2, .bipush 6), (18, .if_icmp .ge 77, 3, .if_icmp .ge 59), (21, .aload 0, 1, .aload_n 0), (22, .getfield 101, 3, .getfield 21), (25, .getfield 904, 3, .getfield 89), (28, .iload 5, 2, .iload 5), (30, .iload 7, 2, .iload 7), (32, .iastore, 1, .iastore), (33, .aload 0, 1, .aload_n 0), (34, .getfield 100, 3, .getfield 12), (37, .aload 0, 1, .aload_n 0), (38, .getfield 101, 3, .getfield 21), (41, .iload 3, 1, .iload_n 3), (42, .iload 4, 2, .iload 4), (44, .invokeinterface 6209 4, 3, .invokevirtual 42), (47, .aload 2, 1, .aload_n 2), (48, .aload 0, 1, .aload_n 0), (49, .getfield 100, 3, .getfield 12), (52, .aload 0, 1, .aload_n 0), (53, .getfield 101, 3, .getfield 21), (56, .invokeinterface 5107 3, 3, .invokevirtual 76), (59, .ifCond .eq 71, 3, .ifCond .eq 12), (62, .iload 6, 2, .iload 6), (64, .anewarray 1, 1, .iconst 1), (65, .iload 7, 2, .iload 7), (67, .ishl, 1, .ishl), (68, .ior, 1, .ior), (69, .istore 6, 2, .istore 6), (71, .iinc 7 1, 3, .iinc 7 1), (74, .goto 14, 3, .goto (-60)), (77, .iload 6, 2, .iload 6), (79, .ireturn, 1, .ireturn)]
def cd_X1_figuresBy : List AE := [(0, .aload 0, 1, .aload_n 0), (1, .getfield 101, 3, .getfield 21), (4, .aload 1, 1, .aload_n 1), (5, .invokeinterface 7310 2, 3, .invokevirtual 85), (8, .anewarray 0, 1, .iconst 0), (9, .istore 6, 2, .istore 6), (11, .anewarray 0, 1, .iconst 0), (12, .istore 7, 2, .istore 7), (14, .iload 7, 2, .iload 7), (16, .anewarray 10, 2, .bipush 10), (18, .if_icmp .ge 77, 3, .if_icmp .ge 59), (21, .aload 0, 1, .aload_n 0), (22, .getfield 101, 3, .getfield 21), (25, .getfield 905, 3, .getfield 93), (28, .iload 5, 2, .iload 5), (30, .iload 7, 2, .iload 7), (32, .iastore, 1, .iastore), (33, .aload 0, 1, .aload_n 0), (34, .getfield 100, 3, .getfield 12), (37, .aload 0, 1, .aload_n 0), (38, .getfield 101, 3, .getfield 21), (41, .iload 3, 1, .iload_n 3), (42, .iload 4, 2, .iload 4), (44, .invokeinterface 6209 4, 3, .invokevirtual 42), (47, .aload 2, 1, .aload_n 2), (48, .aload 0, 1, .aload_n 0), (49, .getfield 100, 3, .getfield 12), (52, .aload 0, 1, .aload_n 0), (53, .getfield 101, 3, .getfield 21), (56, .invokeinterface 5107 3, 3, .invokevirtual 76), (59, .ifCond .eq 71, 3, .ifCond .eq 12), (62, .iload 6, 2, .iload 6), (64, .anewarray 1, 1, .iconst 1), (65, .iload 7, 2, .iload 7), (67, .ishl, 1, .ishl), (68, .ior, 1, .ior), (69, .istore 6, 2, .istore 6), (71, .iinc 7 1, 3, .iinc 7 1), (74, .goto 14, 3, .goto (-60)), (77, .iload 6, 2, .iload 6), (79, .ireturn, 1, .ireturn)]
def cd_X1_strengths : List AE := [(0, .ldc2_w 0, 1, .lconst 0), (1, .lstore 5, 2, .lstore 5), (3, .anewarray 1, 1, .iconst 1), (4, .istore 7, 2, .istore 7), (6, .iload 7, 2, .iload 7), (8, .anewarray 60, 2, .bipush 60), (10, .if_icmp .gt 79, 3, .if_icmp .gt 69), (13, .aload 0, 1, .aload_n 0), (14, .getfield 100, 3, .getfield 12), (17, .aload 1, 1, .aload_n 1), (18, .iload 2, 1, .iload_n 2), (19, .iload 7, 2, .iload 7), (21, .invokeinterface 6209 4, 3, .invokevirtual 42), (24, .aload 0, 1, .aload_n 0), (25, .getfield 100, 3, .getfield 12), (28, .getfield 802, 3, .getfield 53), (31, .ifCond .ne 73, 3, .ifCond .ne 42), (34, .aload 0, 1, .aload_n 0), (35, .getfield 100, 3, .getfield 12), (38, .iload 3, 1, .iload_n 3), (39, .invokeinterface 6509 2, 3, .invokevirtual 46), (42, .ifCond .eq 73, 3, .ifCond .eq 31), (45, .aload 0, 1, .aload_n 0), (46, .getfield 100, 3, .getfield 12), (49, .iload 4, 2, .iload 4), (51, .invokeinterface 6509 2, 3, .invokevirtual 46), (54, .ifCond .ne 73, 3, .ifCond .ne 19), (57, .lload 5, 2, .lload 5), (59, .ldc2_w 1, 1, .lconst 1), (60, .aload 0, 1, .aload_n 0), (61, .getfield 100, 3, .getfield 12), (64, .getfield 800, 3, .getfield 96), (67, .iload 3, 1, .iload_n 3), (68, .iaload, 1, .iaload), (69, .lshl, 1, .lshl), (70, .lor, 1, .lor), (71, .lstore 5, 2, .lstore 5), (73, .iinc 7 1, 3, .iinc 7 1), (76, .goto 6, 3, .goto (-70)), (79, .lload 5, 2, .lload 5), (81, .invokeinterface 25800 1, 3, .invokestatic 99), (84, .ireturn, 1, .ireturn)]
def cd_X2_firstBreakingDay : List AE := [(0, .anewarray 0, 1, .iconst 0), (1, .istore 3, 1, .istore_n 3), (2, .anewarray 0, 1, .iconst 0), (3, .istore 4, 2, .istore 4), (5, .iload 4, 2, .iload 4), (7, .aload 1, 1, .aload_n 1), (8, .getfield 900, 3, .getfield 42), (11, .if_icmp .ge 55, 3, .if_icmp .ge 44), (14, .aload 1, 1, .aload_n 1), (15, .iload 4, 2, .iload 4), (17, .invokeinterface 8410 2, 3, .invokevirtual 45), (20, .ifCond .ne 49, 3, .ifCond .ne 29), (23, .iinc 3 1, 3, .iinc 3 1), (26, .aload 0, 1, .aload_n 0), (27, .getfield 200, 3, .getfield 12), (30, .aload 1, 1, .aload_n 1), (31, .iload 4, 2, .iload 4), (33, .iload 2, 1, .iload_n 2), (34, .invokeinterface 6209 4, 3, .invokevirtual 49), (37, .aload 0, 1, .aload_n 0), (38, .getfield 200, 3, .getfield 12), (41, .getfield 802, 3, .getfield 53), (44, .ifCond .eq 49, 3, .ifCond .eq 5), (47, .iload 3, 1, .iload_n 3), (48, .ireturn, 1, .ireturn), (49, .iinc 4 1, 3, .iinc 4 1), (52, .goto 5, 3, .goto (-47)), (55, .iconst (-9), 2, .bipush (-9)), (57, .ireturn, 1, .ireturn)]
def cd_X2_wholeBehind : List AE := [(0, .aload 0, 1, .aload_n 0), (1, .getfield 201, 3, .getfield 21), (4, .aload 1, 1, .aload_n 1), (5, .invokeinterface 7310 2, 3, .invokevirtual 56), (8, .anewarray 0, 1, .iconst 0), (9, .istore 4, 2, .istore 4), (11, .anewarray 0, 1, .iconst 0), (12, .istore 5, 2, .istore 5), (14, .iload 5, 2, .iload 5), (16, .iload 3, 1, .iload_n 3), (17, .if_icmp .ge 66, 3, .if_icmp .ge 49), (20, .aload 0, 1, .aload_n 0), (21, .getfield 201, 3, .getfield 21), (24, .iload 4, 2, .iload 4), (26, .invokeinterface 8810 2, 3, .invokevirtual 60), (29, .istore 6, 2, .istore 6), (31, .iload 6, 2, .iload 6), (33, .iconst (-9), 2, .bipush (-9)), (35, .if_icmp .ne 40, 3, .if_icmp .ne 5), (38, .anewarray 0, 1, .iconst 0), (39, .ireturn, 1, .ireturn), (40, .aload 0, 1, .aload_n 0), (41, .getfield 200, 3, .getfield 12), (44, .aload 0, 1, .aload_n 0), (45, .getfield 201, 3, .getfield 21), (48, .iload 6, 2, .iload 6), (50, .iload 2, 1, .iload_n 2), (51, .invokeinterface 6309 4, 3, .invokevirtual 64), (54, .iload 6, 2, .iload 6), (56, .anewarray 1, 1, .iconst 1), (57, .iadd, 1, .iadd), (58, .istore 4, 2, .istore 4), (60, .iinc 5 1, 3, .iinc 5 1), (63, .goto 14, 3, .goto (-49)), (66, .aload 0, 1, .aload_n 0), (67, .getfield 201, 3, .getfield 21), (70, .invokeinterface 8610 1, 3, .invokevirtual 67), (73, .invokeinterface 25700 1, 3, .invokestatic 71), (76, .ireturn, 1, .ireturn)]
def cd_X2_brokenBehindAll : List AE := [(0, .aload 0, 1, .aload_n 0), (1, .getfield 201, 3, .getfield 21), (4, .aload 1, 1, .aload_n 1), (5, .invokeinterface 7310 2, 3, .invokevirtual 56), (8, .anewarray 0, 1, .iconst 0), (9, .istore 3, 1, .istore_n 3), (10, .iload 3, 1, .iload_n 3), (11, .aload 0, 1, .aload_n 0), (12, .getfield 201, 3, .getfield 21), (15, .getfield 900, 3, .getfield 42), (18, .if_icmp .ge 48, 3, .if_icmp .ge 30), (21, .aload 0, 1, .aload_n 0), (22, .getfield 200, 3, .getfield 12), (25, .aload 0, 1, .aload_n 0), (26, .getfield 201, 3, .getfield 21), (29, .aload 0, 1, .aload_n 0), (30, .getfield 201, 3, .getfield 21), (33, .getfield 907, 3, .getfield 76), (36, .iload 3, 1, .iload_n 3), (37, .iaload, 1, .iaload), (38, .iload 2, 1, .iload_n 2), (39, .invokeinterface 6309 4, 3, .invokevirtual 64), (42, .iinc 3 1, 3, .iinc 3 1), (45, .goto 10, 3, .goto (-35)), (48, .aload 0, 1, .aload_n 0), (49, .getfield 201, 3, .getfield 21), (52, .getfield 901, 3, .getfield 80), (55, .invokeinterface 25700 1, 3, .invokestatic 71), (58, .ireturn, 1, .ireturn)]
def cd_X2_findOdds : List AE := [(0, .aload 0, 1, .aload_n 0), (1, .getfield 201, 3, .getfield 21), (4, .aload 1, 1, .aload_n 1), (5, .invokeinterface 7310 2, 3, .invokevirtual 56), (8, .ldc2_w 0, 1, .lconst 0), (9, .lstore 7, 2, .lstore 7), (11, .ldc2_w 1, 1, .lconst 1), (12, .lstore 9, 2, .lstore 9), (14, .anewarray 0, 1, .iconst 0), (15, .istore 11, 2, .istore 11), (17, .iload 11, 2, .iload 11), (19, .iload 5, 2, .iload 5), (21, .if_icmp .gt 92, 3, .if_icmp .gt 71), (24, .aload 0, 1, .aload_n 0), (25, .getfield 201, 3, .getfield 21), (28, .iload 3, 1, .iload_n 3), (29, .invokeinterface 8410 2, 3, .invokevirtual 45), (32, .ifCond .ne 92, 3, .ifCond .ne 60), (35, .lload 7, 2, .lload 7), (37, .lload 9, 2, .lload 9), (39, .iload 6, 2, .iload 6), (41, .anewarray 1, 1, .iconst 1), (42, .isub, 1, .isub), (43, .iload 5, 2, .iload 5), (45, .iload 11, 2, .iload 11), (47, .isub, 1, .isub), (48, .invokeinterface 1800 2, 3, .invokestatic 83), (51, .lmul, 1, .lmul), (52, .ladd, 1, .ladd), (53, .lstore 7, 2, .lstore 7), (55, .lload 9, 2, .lload 9), (57, .iload 5, 2, .iload 5), (59, .iload 11, 2, .iload 11), (61, .isub, 1, .isub), (62, .i2l, 1, .i2l), (63, .lmul, 1, .lmul), (64, .iload 11, 2, .iload 11), (66, .anewarray 1, 1, .iconst 1), (67, .iadd, 1, .iadd), (68, .i2l, 1, .i2l), (69, .ldiv, 1, .ldiv), (70, .lstore 9, 2, .lstore 9), (72, .aload 0, 1, .aload_n 0), (73, .getfield 200, 3, .getfield 12), (76, .aload 0, 1, .aload_n 0), (77, .getfield 201, 3, .getfield 21), (80, .iload 2, 1, .iload_n 2), (81, .iload 4, 2, .iload 4), (83, .invokeinterface 6309 4, 3, .invokevirtual 64), (86, .iinc 11 1, 3, .iinc 11 1), (89, .goto 17, 3, .goto (-72)), (92, .iload 6, 2, .iload 6), (94, .iload 5, 2, .iload 5), (96, .invokeinterface 1800 2, 3, .invokestatic 83), (99, .lstore 11, 2, .lstore 11), (101, .lload 11, 2, .lload 11), (103, .lload 7, 2, .lload 7), (105, .invokeinterface 1900 2, 3, .invokestatic 87), (108, .lstore 13, 2, .lstore 13), (110, .aload 0, 1, .aload_n 0), (111, .lload 7, 2, .lload 7), (113, .lload 13, 2, .lload 13), (115, .ldiv, 1, .ldiv), (116, .putfield 10203, 3, .putfield 29), (119, .aload 0, 1, .aload_n 0), (120, .lload 11, 2, .lload 11), (122, .lload 13, 2, .lload 13), (124, .ldiv, 1, .ldiv), (125, .putfield 10204, 3, .putfield 33), (128, .return_, 1, .return_)]
def cd_X2_power : List AE := [(0, .ldc2_w 1, 1, .lconst 1), (1, .lstore 2, 1, .lstore_n 2), (2, .anewarray 0, 1, .iconst 0), (3, .istore 4, 2, .istore 4), (5, .iload 4, 2, .iload 4), (7, .iload 1, 1, .iload_n 1), (8, .if_icmp .ge 22, 3, .if_icmp .ge 14), (11, .lload 2, 1, .lload_n 2), (12, .iload 0, 1, .iload_n 0), (13, .i2l, 1, .i2l), (14, .lmul, 1, .lmul), (15, .lstore 2, 1, .lstore_n 2), (16, .iinc 4 1, 3, .iinc 4 1), (19, .goto 5, 3, .goto (-14)), (22, .lload 2, 1, .lload_n 2), (23, .lreturn, 1, .lreturn)]
def cd_X2_commonDivisor : List AE := [(0, .lload 0, 1, .lload_n 0), (1, .ldc2_w 1, 1, .lconst 1), (2, .invokedynamic 4, 3, .invokestatic 91), (5, .lstore 4, 2, .lstore 4), (7, .lload 2, 1, .lload_n 2), (8, .lstore 6, 2, .lstore 6), (10, .anewarray 0, 1, .iconst 0), (11, .istore 8, 2, .istore 8), (13, .lload 6, 2, .lload 6), (15, .ldc2_w 0, 1, .lconst 0), (16, .lcmp, 1, .lcmp), (17, .ifCond .le 49, 3, .ifCond .le 32), (20, .iload 8, 2, .iload 8), (22, .anewarray 200, 3, .sipush 200), (25, .if_icmp .ge 49, 3, .if_icmp .ge 24), (28, .lload 4, 2, .lload 4), (30, .lload 6, 2, .lload 6), (32, .lrem, 1, .lrem), (33, .lstore 9, 2, .lstore 9), (35, .lload 6, 2, .lload 6), (37, .lstore 4, 2, .lstore 4), (39, .lload 9, 2, .lload 9), (41, .lstore 6, 2, .lstore 6), (43, .iinc 8 1, 3, .iinc 8 1), (46, .goto 13, 3, .goto (-33)), (49, .lload 4, 2, .lload 4), (51, .lreturn, 1, .lreturn)]
def cd_X2_drawYears : List AE := [(0, .aload 0, 1, .aload_n 0), (1, .iload 3, 1, .iload_n 3), (2, .putfield 202, 3, .putfield 25), (5, .aload 0, 1, .aload_n 0), (6, .anewarray 0, 1, .iconst 0), (7, .putfield 205, 3, .putfield 36), (10, .aload 0, 1, .aload_n 0), (11, .anewarray 0, 1, .iconst 0), (12, .putfield 206, 3, .putfield 39), (15, .anewarray 0, 1, .iconst 0), (16, .istore 4, 2, .istore 4), (18, .iload 4, 2, .iload 4), (20, .iload 2, 1, .iload_n 2), (21, .if_icmp .ge 135, 3, .if_icmp .ge 114), (24, .aload 1, 1, .aload_n 1), (25, .getfield 900, 3, .getfield 42), (28, .ifCond .le 135, 3, .ifCond .le 107), (31, .aload 0, 1, .aload_n 0), (32, .getfield 201, 3, .getfield 21), (35, .aload 1, 1, .aload_n 1), (36, .invokeinterface 7310 2, 3, .invokevirtual 56), (39, .anewarray 0, 1, .iconst 0), (40, .istore 5, 2, .istore 5), (42, .iload 5, 2, .iload 5), (44, .anewarray 6, 2, .bipush 6), (46, .if_icmp .ge 129, 3, .if_icmp .ge 83), (49, .aload 0, 1, .aload_n 0), (50, .aload 0, 1, .aload_n 0), (51, .getfield 201, 3, .getfield 21), (54, .getfield 900, 3, .getfield 42), (57, .invokeinterface 2103 2, 3, .invokevirtual 96), (60, .istore 6, 2, .istore 6), (62, .aload 0, 1, .aload_n 0), (63, .anewarray 30, 2, .bipush 30), (65, .invokeinterface 2103 2, 3, .invokevirtual 96), (68, .anewarray 1, 1, .iconst 1), (69, .iadd, 1, .iadd), (70, .istore 7, 2, .istore 7), (72, .aload 0, 1, .aload_n 0), (73, .getfield 200, 3, .getfield 12), (76, .aload 0, 1, .aload_n 0), (77, .getfield 201, 3, .getfield 21), (80, .iload 6, 2, .iload 6), (82, .iload 7, 2, .iload 7), (84, .invokeinterface 6309 4, 3, .invokevirtual 64), (87, .aload 0, 1, .aload_n 0), (88, .dup, 1, .dup), (89, .getfield 205, 3, .getfield 36), (92, .aload 0, 1, .aload_n 0), (93, .getfield 200, 3, .getfield 12), (96, .invokeinterface 6809 1, 3, .invokevirtual 99), (99, .iadd, 1, .iadd), (100, .putfield 205, 3, .putfield 36), (103, .aload 0, 1, .aload_n 0), (104, .dup, 1, .dup), (105, .getfield 206, 3, .getfield 39), (108, .aload 0, 1, .aload_n 0), (109, .getfield 200, 3, .getfield 12), (112, .aload 0, 1, .aload_n 0), (113, .getfield 201, 3, .getfield 21), (116, .invokeinterface 7109 2, 3, .invokevirtual 102), (119, .iadd, 1, .iadd), (120, .putfield 206, 3, .putfield 39), (123, .iinc 5 1, 3, .iinc 5 1), (126, .goto 42, 3, .goto (-84)), (129, .iinc 4 1, 3, .iinc 4 1), (132, .goto 18, 3, .goto (-114)), (135, .return_, 1, .return_)]
def cd_X2_draw : List AE := [(0, .aload 0, 1, .aload_n 0), (1, .aload 0, 1, .aload_n 0), (2, .getfield 202, 3, .getfield 25), (5, .anewarray 1103515245, 2, .ldc 106), (7, .imul, 1, .imul), (8, .anewarray 12345, 3, .sipush 12345), (11, .iadd, 1, .iadd), (12, .putfield 202, 3, .putfield 25), (15, .aload 0, 1, .aload_n 0), (16, .getfield 202, 3, .getfield 25), (19, .anewarray 2147483647, 2, .ldc 107), (21, .iand, 1, .iand), (22, .anewarray 65536, 2, .ldc 108), (24, .idiv, 1, .idiv), (25, .istore 2, 1, .istore_n 2), (26, .iload 1, 1, .iload_n 1), (27, .ifCond .le 36, 3, .ifCond .le 9), (30, .iload 2, 1, .iload_n 2), (31, .iload 1, 1, .iload_n 1), (32, .irem, 1, .irem), (33, .goto 37, 3, .goto 4), (36, .anewarray 0, 1, .iconst 0), (37, .ireturn, 1, .ireturn)]
def cd_X3_lossOf : List AE := [(0, .anewarray 1, 1, .iconst 1), (1, .iload 1, 1, .iload_n 1), (2, .iadd, 1, .iadd), (3, .istore 2, 1, .istore_n 2), (4, .iload 2, 1, .iload_n 2), (5, .anewarray 2, 1, .iconst 2), (6, .idiv, 1, .idiv), (7, .istore 3, 1, .istore_n 3), (8, .iload 2, 1, .iload_n 2), (9, .anewarray 2, 1, .iconst 2), (10, .iadd, 1, .iadd), (11, .istore 4, 2, .istore 4), (13, .iload 0, 1, .iload_n 0), (14, .tableswitch 64 1 5 #[48, 50, 53, 55, 60], 34, .tableswitch 50 1 5 #[34, 36, 39, 41, 46]), (48, .iload 3, 1, .iload_n 3), (49, .ireturn, 1, .ireturn), (50, .iload 4, 2, .iload 4), (52, .ireturn, 1, .ireturn), (53, .anewarray 1, 1, .iconst 1), (54, .ireturn, 1, .ireturn), (55, .iload 4, 2, .iload 4), (57, .anewarray 2, 1, .iconst 2), (58, .idiv, 1, .idiv), (59, .ireturn, 1, .ireturn), (60, .iload 3, 1, .iload_n 3), (61, .anewarray 1, 1, .iconst 1), (62, .iadd, 1, .iadd), (63, .ireturn, 1, .ireturn), (64, .iload 2, 1, .iload_n 2), (65, .ireturn, 1, .ireturn)]
def cd_X3_standsOf : List AE := [(0, .anewarray 10, 2, .bipush 10), (2, .iload 1, 1, .iload_n 1), (3, .iadd, 1, .iadd), (4, .istore 2, 1, .istore_n 2), (5, .iload 2, 1, .iload_n 2), (6, .anewarray 4, 1, .iconst 4), (7, .isub, 1, .isub), (8, .istore 3, 1, .istore_n 3), (9, .iload 0, 1, .iload_n 0), (10, .tableswitch 61 1 5 #[44, 46, 50, 54, 57], 34, .tableswitch 51 1 5 #[34, 36, 40, 44, 47]), (44, .iload 3, 1, .iload_n 3), (45, .ireturn, 1, .ireturn), (46, .iload 2, 1, .iload_n 2), (47, .anewarray 5, 1, .iconst 5), (48, .iadd, 1, .iadd), (49, .ireturn, 1, .ireturn), (50, .iload 3, 1, .iload_n 3), (51, .anewarray 2, 1, .iconst 2), (52, .idiv, 1, .idiv), (53, .ireturn, 1, .ireturn), (54, .anewarray 99, 2, .bipush 99), (56, .ireturn, 1, .ireturn), (57, .iload 3, 1, .iload_n 3), (58, .iload 1, 1, .iload_n 1), (59, .isub, 1, .isub), (60, .ireturn, 1, .ireturn), (61, .iload 2, 1, .iload_n 2), (62, .ireturn, 1, .ireturn)]
def cd_X3_jumpBy : List AE := [(0, .iload 1, 1, .iload_n 1), (1, .ifCond .gt 6, 3, .ifCond .gt 5), (4, .anewarray 0, 1, .iconst 0), (5, .ireturn, 1, .ireturn), (6, .iload 1, 1, .iload_n 1), (7, .anewarray 2, 1, .iconst 2), (8, .idiv, 1, .idiv), (9, .istore 2, 1, .istore_n 2), (10, .iload 2, 1, .iload_n 2), (11, .anewarray 1, 1, .iconst 1), (12, .iadd, 1, .iadd), (13, .istore 3, 1, .istore_n 3), (14, .iload 0, 1, .iload_n 0), (15, .tableswitch 60 1 5 #[48, 50, 54, 58, 48], 33, .tableswitch 45 1 5 #[33, 35, 39, 43, 33]), (48, .iload 3, 1, .iload_n 3), (49, .ireturn, 1, .ireturn), (50, .iload 1, 1, .iload_n 1), (51, .anewarray 3, 1, .iconst 3), (52, .idiv, 1, .idiv), (53, .ireturn, 1, .ireturn), (54, .anewarray 2, 1, .iconst 2), (55, .iload 3, 1, .iload_n 3), (56, .imul, 1, .imul), (57, .ireturn, 1, .ireturn), (58, .anewarray 0, 1, .iconst 0), (59, .ireturn, 1, .ireturn), (60, .iload 2, 1, .iload_n 2), (61, .ireturn, 1, .ireturn)]
def cd_X4_thingAt : List AE := [(0, .iload 2, 1, .iload_n 2), (1, .ifCond .lt 21, 3, .ifCond .lt 20), (4, .iload 2, 1, .iload_n 2), (5, .aload 1, 1, .aload_n 1), (6, .getfield 900, 3, .getfield 32), (9, .if_icmp .ge 21, 3, .if_icmp .ge 12), (12, .aload 0, 1, .aload_n 0), (13, .getfield 302, 3, .getfield 25), (16, .iload 2, 1, .iload_n 2), (17, .iaload, 1, .iaload), (18, .goto 23, 3, .goto 5), (21, .iconst (-9), 2, .bipush (-9)), (23, .ireturn, 1, .ireturn)]
def cd_X4_mildest : List AE := [(0, .aload 0, 1, .aload_n 0), (1, .getfield 301, 3, .getfield 21), (4, .aload 1, 1, .aload_n 1), (5, .invokeinterface 7310 2, 3, .invokevirtual 36), (8, .aload 0, 1, .aload_n 0), (9, .getfield 301, 3, .getfield 21), (12, .invokeinterface 9210 1, 3, .invokevirtual 40), (15, .anewarray 9, 2, .bipush 9), (17, .istore 3, 1, .istore_n 3), (18, .anewarray 0, 1, .iconst 0), (19, .istore 4, 2, .istore 4), (21, .iload 4, 2, .iload 4), (23, .anewarray 720, 3, .sipush 720), (26, .if_icmp .ge 87, 3, .if_icmp .ge 61), (29, .aload 0, 1, .aload_n 0), (30, .iload 2, 1, .iload_n 2), (31, .iload 3, 1, .iload_n 3), (32, .invokeinterface 2704 3, 3, .invokevirtual 43), (35, .istore 5, 2, .istore 5), (37, .iload 5, 2, .iload 5), (39, .iload 3, 1, .iload_n 3), (40, .if_icmp .ge 64, 3, .if_icmp .ge 24), (43, .iload 5, 2, .iload 5), (45, .istore 3, 1, .istore_n 3), (46, .aload 0, 1, .aload_n 0), (47, .getfield 301, 3, .getfield 21), (50, .getfield 907, 3, .getfield 47), (53, .anewarray 0, 1, .iconst 0), (54, .aload 0, 1, .aload_n 0), (55, .getfield 302, 3, .getfield 25), (58, .anewarray 0, 1, .iconst 0), (59, .anewarray 8, 2, .bipush 8), (61, .invokedynamic 0, 3, .invokestatic 50), (64, .iload 3, 1, .iload_n 3), (65, .ifCond .eq 87, 3, .ifCond .eq 22), (68, .aload 0, 1, .aload_n 0), (69, .getfield 301, 3, .getfield 21), (72, .invokeinterface 9310 1, 3, .invokevirtual 56), (75, .ifCond .ne 81, 3, .ifCond .ne 6), (78, .goto 87, 3, .goto 9), (81, .iinc 4 1, 3, .iinc 4 1), (84, .goto 21, 3, .goto (-63)), (87, .iload 3, 1, .iload_n 3), (88, .ireturn, 1, .ireturn)]
def cd_X4_mostBrokenBut : List AE := [(0, .anewarray 0, 1, .iconst 0), (1, .istore 3, 1, .istore_n 3), (2, .anewarray 0, 1, .iconst 0), (3, .istore 4, 2, .istore 4), (5, .iload 4, 2, .iload 4), (7, .aload 0, 1, .aload_n 0), (8, .getfield 301, 3, .getfield 21), (11, .getfield 900, 3, .getfield 32), (14, .if_icmp .ge 54, 3, .if_icmp .ge 40), (17, .iload 3, 1, .iload_n 3), (18, .iload 2, 1, .iload_n 2), (19, .if_icmp .ge 54, 3, .if_icmp .ge 35), (22, .aload 0, 1, .aload_n 0), (23, .getfield 300, 3, .getfield 12), (26, .aload 0, 1, .aload_n 0), (27, .getfield 301, 3, .getfield 21), (30, .iload 4, 2, .iload 4), (32, .iload 1, 1, .iload_n 1), (33, .invokeinterface 6209 4, 3, .invokevirtual 60), (36, .iload 3, 1, .iload_n 3), (37, .aload 0, 1, .aload_n 0), (38, .getfield 300, 3, .getfield 12), (41, .invokeinterface 6809 1, 3, .invokevirtual 64), (44, .invokedynamic 1, 3, .invokestatic 68), (47, .istore 3, 1, .istore_n 3), (48, .iinc 4 1, 3, .iinc 4 1), (51, .goto 5, 3, .goto (-46)), (54, .iload 3, 1, .iload_n 3), (55, .ireturn, 1, .ireturn)]
def cd_X4_shortestWalk : List AE := [(0, .aload 1, 1, .aload_n 1), (1, .anewarray 1, 1, .iconst 1), (2, .aload 0, 1, .aload_n 0), (3, .getfield 303, 3, .getfield 29), (6, .invokeinterface 2900 3, 3, .invokestatic 73), (9, .aload 1, 1, .aload_n 1), (10, .iconst (-1), 1, .iconst (-1)), (11, .aload 0, 1, .aload_n 0), (12, .getfield 302, 3, .getfield 25), (15, .invokeinterface 2900 3, 3, .invokestatic 73), (18, .aload 0, 1, .aload_n 0), (19, .getfield 303, 3, .getfield 29), (22, .aload 0, 1, .aload_n 0), (23, .getfield 302, 3, .getfield 25), (26, .aload 1, 1, .aload_n 1), (27, .getfield 900, 3, .getfield 32), (30, .invokeinterface 3000 3, 3, .invokestatic 77), (33, .ifCond .eq 51, 3, .ifCond .eq 18), (36, .aload 0, 1, .aload_n 0), (37, .getfield 303, 3, .getfield 29), (40, .anewarray 0, 1, .iconst 0), (41, .aload 0, 1, .aload_n 0), (42, .getfield 302, 3, .getfield 25), (45, .anewarray 0, 1, .iconst 0), (46, .anewarray 8, 2, .bipush 8), (48, .invokedynamic 0, 3, .invokestatic 50), (51, .aload 1, 1, .aload_n 1), (52, .getfield 900, 3, .getfield 32), (55, .ifCond .ne 60, 3, .ifCond .ne 5), (58, .anewarray 0, 1, .iconst 0), (59, .ireturn, 1, .ireturn), (60, .aload 1, 1, .aload_n 1), (61, .getfield 906, 3, .getfield 81), (64, .aload 0, 1, .aload_n 0), (65, .getfield 302, 3, .getfield 25), (68, .aload 1, 1, .aload_n 1), (69, .getfield 900, 3, .getfield 32), (72, .anewarray 1, 1, .iconst 1), (73, .isub, 1, .isub), (74, .iaload, 1, .iaload), (75, .iaload, 1, .iaload), (76, .aload 1, 1, .aload_n 1), (77, .getfield 906, 3, .getfield 81), (80, .aload 0, 1, .aload_n 0), (81, .getfield 302, 3, .getfield 25), (84, .anewarray 0, 1, .iconst 0), (85, .iaload, 1, .iaload), (86, .iaload, 1, .iaload), (87, .isub, 1, .isub), (88, .invokedynamic 3, 3, .invokestatic 84), (91, .ireturn, 1, .ireturn)]
def cd_X4_sortByFarm : List AE := [(0, .anewarray 0, 1, .iconst 0), (1, .istore 3, 1, .istore_n 3), (2, .iload 3, 1, .iload_n 3), (3, .aload 0, 1, .aload_n 0), (4, .getfield 900, 3, .getfield 32), (7, .if_icmp .ge 73, 3, .if_icmp .ge 66), (10, .iload 3, 1, .iload_n 3), (11, .istore 4, 2, .istore 4), (13, .iload 1, 1, .iload_n 1), (14, .aload 0, 1, .aload_n 0), (15, .getfield 906, 3, .getfield 81), (18, .iload 3, 1, .iload_n 3), (19, .iaload, 1, .iaload), (20, .imul, 1, .imul), (21, .istore 5, 2, .istore 5), (23, .iload 4, 2, .iload 4), (25, .ifCond .le 62, 3, .ifCond .le 37), (28, .iload 1, 1, .iload_n 1), (29, .aload 0, 1, .aload_n 0), (30, .getfield 906, 3, .getfield 81), (33, .aload 2, 1, .aload_n 2), (34, .iload 4, 2, .iload 4), (36, .anewarray 1, 1, .iconst 1), (37, .isub, 1, .isub), (38, .iaload, 1, .iaload), (39, .iaload, 1, .iaload), (40, .imul, 1, .imul), (41, .iload 5, 2, .iload 5), (43, .if_icmp .le 62, 3, .if_icmp .le 19), (46, .aload 2, 1, .aload_n 2), (47, .iload 4, 2, .iload 4), (49, .aload 2, 1, .aload_n 2), (50, .iload 4, 2, .iload 4), (52, .anewarray 1, 1, .iconst 1), (53, .isub, 1, .isub), (54, .iaload, 1, .iaload), (55, .iastore, 1, .iastore), (56, .iinc 4 (-1), 3, .iinc 4 (-1)), (59, .goto 23, 3, .goto (-36)), (62, .aload 2, 1, .aload_n 2), (63, .iload 4, 2, .iload 4), (65, .iload 3, 1, .iload_n 3), (66, .iastore, 1, .iastore), (67, .iinc 3 1, 3, .iinc 3 1), (70, .goto 2, 3, .goto (-68)), (73, .return_, 1, .return_)]
def cd_X4_isAhead : List AE := [(0, .anewarray 0, 1, .iconst 0), (1, .istore 3, 1, .istore_n 3), (2, .iload 3, 1, .iload_n 3), (3, .iload 2, 1, .iload_n 2), (4, .if_icmp .ge 37, 3, .if_icmp .ge 33), (7, .aload 0, 1, .aload_n 0), (8, .iload 3, 1, .iload_n 3), (9, .iaload, 1, .iaload), (10, .aload 1, 1, .aload_n 1), (11, .iload 3, 1, .iload_n 3), (12, .iaload, 1, .iaload), (13, .if_icmp .eq 31, 3, .if_icmp .eq 18), (16, .aload 0, 1, .aload_n 0), (17, .iload 3, 1, .iload_n 3), (18, .iaload, 1, .iaload), (19, .aload 1, 1, .aload_n 1), (20, .iload 3, 1, .iload_n 3), (21, .iaload, 1, .iaload), (22, .if_icmp .ge 29, 3, .if_icmp .ge 7), (25, .anewarray 1, 1, .iconst 1), (26, .goto 30, 3, .goto 4), (29, .anewarray 0, 1, .iconst 0), (30, .dreturn, 1, .ireturn), (31, .iinc 3 1, 3, .iinc 3 1), (34, .goto 2, 3, .goto (-32)), (37, .anewarray 0, 1, .iconst 0), (38, .dreturn, 1, .ireturn)]
def cd_X5_keep : List AE := [(0, .aload 0, 1, .aload_n 0), (1, .getfield 400, 3, .getfield 11), (4, .aload 0, 1, .aload_n 0), (5, .getfield 401, 3, .getfield 17), (8, .aaload, 1, .aaload), (9, .aload 1, 1, .aload_n 1), (10, .invokeinterface 7310 2, 3, .invokevirtual 25), (13, .aload 0, 1, .aload_n 0), (14, .aload 0, 1, .aload_n 0), (15, .getfield 401, 3, .getfield 17), (18, .anewarray 1, 1, .iconst 1), (19, .iadd, 1, .iadd), (20, .anewarray 8, 2, .bipush 8), (22, .irem, 1, .irem), (23, .putfield 401, 3, .putfield 17), (26, .aload 0, 1, .aload_n 0), (27, .aload 0, 1, .aload_n 0), (28, .getfield 402, 3, .getfield 21), (31, .anewarray 1, 1, .iconst 1), (32, .iadd, 1, .iadd), (33, .anewarray 8, 2, .bipush 8), (35, .invokedynamic 2, 3, .invokestatic 29), (38, .putfield 402, 3, .putfield 21), (41, .return_, 1, .return_)]
def cd_X5_takeBack : List AE := [(0, .aload 0, 1, .aload_n 0), (1, .aload 0, 1, .aload_n 0), (2, .getfield 401, 3, .getfield 17), (5, .anewarray 8, 2, .bipush 8), (7, .iadd, 1, .iadd), (8, .anewarray 1, 1, .iconst 1), (9, .isub, 1, .isub), (10, .anewarray 8, 2, .bipush 8), (12, .irem, 1, .irem), (13, .putfield 401, 3, .putfield 17), (16, .aload 1, 1, .aload_n 1), (17, .aload 0, 1, .aload_n 0), (18, .getfield 400, 3, .getfield 11), (21, .aload 0, 1, .aload_n 0), (22, .getfield 401, 3, .getfield 17), (25, .aaload, 1, .aaload), (26, .invokeinterface 7310 2, 3, .invokevirtual 25), (29, .aload 0, 1, .aload_n 0), (30, .dup, 1, .dup), (31, .getfield 402, 3, .getfield 21), (34, .anewarray 1, 1, .iconst 1), (35, .isub, 1, .isub), (36, .putfield 402, 3, .putfield 21), (39, .aload 0, 1, .aload_n 0), (40, .getfield 402, 3, .getfield 21), (43, .ireturn, 1, .ireturn)]
def cd_X5_forget : List AE := [(0, .aload 0, 1, .aload_n 0), (1, .anewarray 0, 1, .iconst 0), (2, .putfield 402, 3, .putfield 21), (5, .return_, 1, .return_)]
def cd_X6_worstPlace : List AE := [(0, .aload 0, 1, .aload_n 0), (1, .getfield 502, 3, .getfield 28), (4, .invokeinterface 1 1, 3, .invokevirtual 39), (7, .anewarray 0, 1, .iconst 0), (8, .istore 3, 1, .istore_n 3), (9, .iload 3, 1, .iload_n 3), (10, .aload 1, 1, .aload_n 1), (11, .getfield 900, 3, .getfield 42), (14, .if_icmp .ge 58, 3, .if_icmp .ge 44), (17, .aload 0, 1, .aload_n 0), (18, .getfield 500, 3, .getfield 12), (21, .aload 1, 1, .aload_n 1), (22, .iload 3, 1, .iload_n 3), (23, .iload 2, 1, .iload_n 2), (24, .invokeinterface 6209 4, 3, .invokevirtual 46), (27, .aload 0, 1, .aload_n 0), (28, .getfield 500, 3, .getfield 12), (31, .getfield 802, 3, .getfield 50), (34, .ifCond .eq 52, 3, .ifCond .eq 18), (37, .aload 0, 1, .aload_n 0), (38, .getfield 502, 3, .getfield 28), (41, .iload 3, 1, .iload_n 3), (42, .aload 0, 1, .aload_n 0), (43, .getfield 500, 3, .getfield 12), (46, .invokeinterface 6809 1, 3, .invokevirtual 53), (49, .invokeinterface 201 3, 3, .invokevirtual 57), (52, .iinc 3 1, 3, .iinc 3 1), (55, .goto 9, 3, .goto (-46)), (58, .aload 0, 1, .aload_n 0), (59, .getfield 502, 3, .getfield 28), (62, .areturn, 1, .areturn)]
def cd_X6_mildestCut : List AE := [(0, .aload 0, 1, .aload_n 0), (1, .getfield 502, 3, .getfield 28), (4, .invokeinterface 1 1, 3, .invokevirtual 39), (7, .aload 0, 1, .aload_n 0), (8, .getfield 501, 3, .getfield 21), (11, .aload 1, 1, .aload_n 1), (12, .invokeinterface 7310 2, 3, .invokevirtual 61), (15, .anewarray 0, 1, .iconst 0), (16, .istore 3, 1, .istore_n 3), (17, .iload 3, 1, .iload_n 3), (18, .aload 1, 1, .aload_n 1), (19, .getfield 900, 3, .getfield 42), (22, .anewarray 1, 1, .iconst 1), (23, .isub, 1, .isub), (24, .if_icmp .ge 74, 3, .if_icmp .ge 50), (27, .aload 1, 1, .aload_n 1), (28, .iload 3, 1, .iload_n 3), (29, .invokeinterface 8510 2, 3, .invokevirtual 65), (32, .ifCond .ne 68, 3, .ifCond .ne 36), (35, .aload 0, 1, .aload_n 0), (36, .getfield 501, 3, .getfield 21), (39, .iload 3, 1, .iload_n 3), (40, .invokeinterface 8210 2, 3, .invokevirtual 69), (43, .aload 0, 1, .aload_n 0), (44, .getfield 502, 3, .getfield 28), (47, .iload 3, 1, .iload_n 3), (48, .aload 0, 1, .aload_n 0), (49, .aload 0, 1, .aload_n 0), (50, .getfield 501, 3, .getfield 21), (53, .iload 2, 1, .iload_n 2), (54, .invokeinterface 3606 3, 3, .invokevirtual 73), (57, .invokeinterface 101 3, 3, .invokevirtual 77), (60, .aload 0, 1, .aload_n 0), (61, .getfield 501, 3, .getfield 21), (64, .iload 3, 1, .iload_n 3), (65, .invokeinterface 8210 2, 3, .invokevirtual 69), (68, .iinc 3 1, 3, .iinc 3 1), (71, .goto 17, 3, .goto (-54)), (74, .aload 0, 1, .aload_n 0), (75, .getfield 502, 3, .getfield 28), (78, .areturn, 1, .areturn)]
def cd_X6_mostBroken : List AE := [(0, .anewarray 0, 1, .iconst 0), (1, .istore 3, 1, .istore_n 3), (2, .anewarray 0, 1, .iconst 0), (3, .istore 4, 2, .istore 4), (5, .iload 4, 2, .iload 4), (7, .aload 1, 1, .aload_n 1), (8, .getfield 900, 3, .getfield 42), (11, .if_icmp .ge 43, 3, .if_icmp .ge 32), (14, .aload 0, 1, .aload_n 0), (15, .getfield 500, 3, .getfield 12), (18, .aload 1, 1, .aload_n 1), (19, .iload 4, 2, .iload 4), (21, .iload 2, 1, .iload_n 2), (22, .invokeinterface 6209 4, 3, .invokevirtual 46), (25, .iload 3, 1, .iload_n 3), (26, .aload 0, 1, .aload_n 0), (27, .getfield 500, 3, .getfield 12), (30, .invokeinterface 6809 1, 3, .invokevirtual 53), (33, .invokedynamic 1, 3, .invokestatic 80), (36, .istore 3, 1, .istore_n 3), (37, .iinc 4 1, 3, .iinc 4 1), (40, .goto 5, 3, .goto (-35)), (43, .iload 3, 1, .iload_n 3), (44, .ireturn, 1, .ireturn)]
def cd_X6_womansDrop : List AE := [(0, .aload 0, 1, .aload_n 0), (1, .getfield 502, 3, .getfield 28), (4, .invokeinterface 1 1, 3, .invokevirtual 39), (7, .aload 0, 1, .aload_n 0), (8, .getfield 501, 3, .getfield 21), (11, .aload 1, 1, .aload_n 1), (12, .invokeinterface 7310 2, 3, .invokevirtual 61), (15, .anewarray 0, 1, .iconst 0), (16, .istore 3, 1, .istore_n 3), (17, .iload 3, 1, .iload_n 3), (18, .aload 1, 1, .aload_n 1), (19, .getfield 900, 3, .getfield 42), (22, .if_icmp .ge 53, 3, .if_icmp .ge 31), (25, .aload 1, 1, .aload_n 1), (26, .iload 3, 1, .iload_n 3), (27, .invokeinterface 8410 2, 3, .invokevirtual 86), (30, .ifCond .ne 47, 3, .ifCond .ne 17), (33, .aload 0, 1, .aload_n 0), (34, .getfield 502, 3, .getfield 28), (37, .iload 3, 1, .iload_n 3), (38, .aload 0, 1, .aload_n 0), (39, .iload 3, 1, .iload_n 3), (40, .iload 2, 1, .iload_n 2), (41, .invokeinterface 3806 3, 3, .invokevirtual 89), (44, .invokeinterface 201 3, 3, .invokevirtual 57), (47, .iinc 3 1, 3, .iinc 3 1), (50, .goto 17, 3, .goto (-33)), (53, .aload 0, 1, .aload_n 0), (54, .getfield 502, 3, .getfield 28), (57, .areturn, 1, .areturn)]
def cd_X6_othersInSpite : List AE := [(0, .aload 0, 1, .aload_n 0), (1, .getfield 500, 3, .getfield 12), (4, .aload 0, 1, .aload_n 0), (5, .getfield 501, 3, .getfield 21), (8, .iload 1, 1, .iload_n 1), (9, .iload 2, 1, .iload_n 2), (10, .invokeinterface 6209 4, 3, .invokevirtual 46), (13, .aload 0, 1, .aload_n 0), (14, .getfield 500, 3, .getfield 12), (17, .iload 1, 1, .iload_n 1), (18, .invokeinterface 6909 2, 3, .invokevirtual 92), (21, .istore 3, 1, .istore_n 3), (22, .anewarray 0, 1, .iconst 0), (23, .istore 4, 2, .istore 4), (25, .iload 4, 2, .iload 4), (27, .aload 0, 1, .aload_n 0), (28, .getfield 501, 3, .getfield 21), (31, .getfield 900, 3, .getfield 42), (34, .anewarray 1, 1, .iconst 1), (35, .isub, 1, .isub), (36, .if_icmp .ge 101, 3, .if_icmp .ge 65), (39, .aload 0, 1, .aload_n 0), (40, .getfield 501, 3, .getfield 21), (43, .iload 4, 2, .iload 4), (45, .invokeinterface 8510 2, 3, .invokevirtual 65), (48, .ifCond .ne 95, 3, .ifCond .ne 47), (51, .aload 0, 1, .aload_n 0), (52, .getfield 501, 3, .getfield 21), (55, .iload 4, 2, .iload 4), (57, .invokeinterface 8210 2, 3, .invokevirtual 69), (60, .aload 0, 1, .aload_n 0), (61, .getfield 500, 3, .getfield 12), (64, .aload 0, 1, .aload_n 0), (65, .getfield 501, 3, .getfield 21), (68, .iload 1, 1, .iload_n 1), (69, .iload 2, 1, .iload_n 2), (70, .invokeinterface 6209 4, 3, .invokevirtual 46), (73, .iload 3, 1, .iload_n 3), (74, .aload 0, 1, .aload_n 0), (75, .getfield 500, 3, .getfield 12), (78, .iload 1, 1, .iload_n 1), (79, .invokeinterface 6909 2, 3, .invokevirtual 92), (82, .invokedynamic 2, 3, .invokestatic 96), (85, .istore 3, 1, .istore_n 3), (86, .aload 0, 1, .aload_n 0), (87, .getfield 501, 3, .getfield 21), (90, .iload 4, 2, .iload 4), (92, .invokeinterface 8210 2, 3, .invokevirtual 69), (95, .iinc 4 1, 3, .iinc 4 1), (98, .goto 25, 3, .goto (-73)), (101, .iload 3, 1, .iload_n 3), (102, .ireturn, 1, .ireturn)]
def cd_X6_mostAlike : List AE := [(0, .anewarray 0, 1, .iconst 0), (1, .istore 3, 1, .istore_n 3), (2, .iload 3, 1, .iload_n 3), (3, .aload 0, 1, .aload_n 0), (4, .getfield 504, 3, .getfield 36), (7, .arraylength, 1, .arraylength), (8, .if_icmp .ge 24, 3, .if_icmp .ge 16), (11, .aload 0, 1, .aload_n 0), (12, .getfield 504, 3, .getfield 36), (15, .iload 3, 1, .iload_n 3), (16, .anewarray 0, 1, .iconst 0), (17, .iastore, 1, .iastore), (18, .iinc 3 1, 3, .iinc 3 1), (21, .goto 2, 3, .goto (-19)), (24, .anewarray 0, 1, .iconst 0), (25, .istore 3, 1, .istore_n 3), (26, .iload 3, 1, .iload_n 3), (27, .aload 1, 1, .aload_n 1), (28, .getfield 900, 3, .getfield 42), (31, .if_icmp .ge 58, 3, .if_icmp .ge 27), (34, .aload 0, 1, .aload_n 0), (35, .getfield 500, 3, .getfield 12), (38, .aload 1, 1, .aload_n 1), (39, .iload 3, 1, .iload_n 3), (40, .iload 2, 1, .iload_n 2), (41, .invokeinterface 6209 4, 3, .invokevirtual 46), (44, .aload 0, 1, .aload_n 0), (45, .aload 1, 1, .aload_n 1), (46, .getfield 900, 3, .getfield 42), (49, .invokeinterface 4006 2, 3, .invokevirtual 99), (52, .iinc 3 1, 3, .iinc 3 1), (55, .goto 26, 3, .goto (-29)), (58, .aload 0, 1, .aload_n 0), (59, .getfield 502, 3, .getfield 28), (62, .invokeinterface 1 1, 3, .invokevirtual 39), (65, .anewarray 0, 1, .iconst 0), (66, .istore 3, 1, .istore_n 3), (67, .iload 3, 1, .iload_n 3), (68, .aload 1, 1, .aload_n 1), (69, .getfield 900, 3, .getfield 42), (72, .if_icmp .ge 127, 3, .if_icmp .ge 55), (75, .iload 3, 1, .iload_n 3), (76, .anewarray 1, 1, .iconst 1), (77, .iadd, 1, .iadd), (78, .istore 4, 2, .istore 4), (80, .iload 4, 2, .iload 4), (82, .aload 1, 1, .aload_n 1), (83, .getfield 900, 3, .getfield 42), (86, .if_icmp .ge 121, 3, .if_icmp .ge 35), (89, .aload 0, 1, .aload_n 0), (90, .getfield 502, 3, .getfield 28), (93, .anewarray 10, 2, .bipush 10), (95, .iload 3, 1, .iload_n 3), (96, .imul, 1, .imul), (97, .iload 4, 2, .iload 4), (99, .iadd, 1, .iadd), (100, .aload 0, 1, .aload_n 0), (101, .getfield 504, 3, .getfield 36), (104, .anewarray 8, 2, .bipush 8), (106, .iload 3, 1, .iload_n 3), (107, .imul, 1, .imul), (108, .iload 4, 2, .iload 4), (110, .iadd, 1, .iadd), (111, .iaload, 1, .iaload), (112, .invokeinterface 101 3, 3, .invokevirtual 77), (115, .iinc 4 1, 3, .iinc 4 1), (118, .goto 80, 3, .goto (-38)), (121, .iinc 3 1, 3, .iinc 3 1), (124, .goto 67, 3, .goto (-57)), (127, .aload 0, 1, .aload_n 0), (128, .getfield 502, 3, .getfield 28), (131, .areturn, 1, .areturn)]
def cd_X6_addUnlike : List AE := [(0, .anewarray 0, 1, .iconst 0), (1, .istore 2, 1, .istore_n 2), (2, .iload 2, 1, .iload_n 2), (3, .iload 1, 1, .iload_n 1), (4, .if_icmp .ge 68, 3, .if_icmp .ge 64), (7, .iload 2, 1, .iload_n 2), (8, .anewarray 1, 1, .iconst 1), (9, .iadd, 1, .iadd), (10, .istore 3, 1, .istore_n 3), (11, .iload 3, 1, .iload_n 3), (12, .iload 1, 1, .iload_n 1), (13, .if_icmp .ge 62, 3, .if_icmp .ge 49), (16, .aload 0, 1, .aload_n 0), (17, .getfield 500, 3, .getfield 12), (20, .getfield 800, 3, .getfield 102), (23, .iload 2, 1, .iload_n 2), (24, .iaload, 1, .iaload), (25, .aload 0, 1, .aload_n 0), (26, .getfield 500, 3, .getfield 12), (29, .getfield 800, 3, .getfield 102), (32, .iload 3, 1, .iload_n 3), (33, .iaload, 1, .iaload), (34, .isub, 1, .isub), (35, .invokedynamic 3, 3, .invokestatic 105), (38, .istore 4, 2, .istore 4), (40, .aload 0, 1, .aload_n 0), (41, .getfield 504, 3, .getfield 36), (44, .anewarray 8, 2, .bipush 8), (46, .iload 2, 1, .iload_n 2), (47, .imul, 1, .imul), (48, .iload 3, 1, .iload_n 3), (49, .iadd, 1, .iadd), (50, .dup2, 1, .dup2), (51, .iaload, 1, .iaload), (52, .iload 4, 2, .iload 4), (54, .iadd, 1, .iadd), (55, .iastore, 1, .iastore), (56, .iinc 3 1, 3, .iinc 3 1), (59, .goto 11, 3, .goto (-48)), (62, .iinc 2 1, 3, .iinc 2 1), (65, .goto 2, 3, .goto (-63)), (68, .return_, 1, .return_)]
def cd_X6_allHeard : List AE := [(0, .aload 0, 1, .aload_n 0), (1, .aload 1, 1, .aload_n 1), (2, .iload 2, 1, .iload_n 2), (3, .invokeinterface 4306 3, 3, .invokevirtual 108), (6, .anewarray 0, 1, .iconst 0), (7, .istore 3, 1, .istore_n 3), (8, .anewarray 0, 1, .iconst 0), (9, .istore 4, 2, .istore 4), (11, .iload 4, 2, .iload 4), (13, .aload 1, 1, .aload_n 1), (14, .getfield 900, 3, .getfield 42), (17, .if_icmp .ge 36, 3, .if_icmp .ge 19), (20, .iload 3, 1, .iload_n 3), (21, .aload 0, 1, .aload_n 0), (22, .getfield 503, 3, .getfield 32), (25, .iload 4, 2, .iload 4), (27, .iaload, 1, .iaload), (28, .iadd, 1, .iadd), (29, .istore 3, 1, .istore_n 3), (30, .iinc 4 1, 3, .iinc 4 1), (33, .goto 11, 3, .goto (-22)), (36, .iload 3, 1, .iload_n 3), (37, .ireturn, 1, .ireturn)]
def cd_X6_quietest : List AE := [(0, .aload 0, 1, .aload_n 0), (1, .aload 1, 1, .aload_n 1), (2, .iload 2, 1, .iload_n 2), (3, .invokeinterface 4306 3, 3, .invokevirtual 108), (6, .aload 0, 1, .aload_n 0), (7, .getfield 502, 3, .getfield 28), (10, .invokeinterface 1 1, 3, .invokevirtual 39), (13, .anewarray 0, 1, .iconst 0), (14, .istore 3, 1, .istore_n 3), (15, .iload 3, 1, .iload_n 3), (16, .aload 1, 1, .aload_n 1), (17, .getfield 900, 3, .getfield 42), (20, .if_icmp .ge 43, 3, .if_icmp .ge 23), (23, .aload 0, 1, .aload_n 0), (24, .getfield 502, 3, .getfield 28), (27, .iload 3, 1, .iload_n 3), (28, .aload 0, 1, .aload_n 0), (29, .getfield 503, 3, .getfield 32), (32, .iload 3, 1, .iload_n 3), (33, .iaload, 1, .iaload), (34, .invokeinterface 101 3, 3, .invokevirtual 77), (37, .iinc 3 1, 3, .iinc 3 1), (40, .goto 15, 3, .goto (-25)), (43, .aload 0, 1, .aload_n 0), (44, .getfield 502, 3, .getfield 28), (47, .areturn, 1, .areturn)]
def cd_X6_hearAll : List AE := [(0, .anewarray 0, 1, .iconst 0), (1, .istore 3, 1, .istore_n 3), (2, .iload 3, 1, .iload_n 3), (3, .anewarray 8, 2, .bipush 8), (5, .if_icmp .ge 21, 3, .if_icmp .ge 16), (8, .aload 0, 1, .aload_n 0), (9, .getfield 503, 3, .getfield 32), (12, .iload 3, 1, .iload_n 3), (13, .anewarray 0, 1, .iconst 0), (14, .iastore, 1, .iastore), (15, .iinc 3 1, 3, .iinc 3 1), (18, .goto 2, 3, .goto (-16)), (21, .anewarray 0, 1, .iconst 0), (22, .istore 3, 1, .istore_n 3), (23, .iload 3, 1, .iload_n 3), (24, .aload 1, 1, .aload_n 1), (25, .getfield 900, 3, .getfield 42), (28, .if_icmp .ge 85, 3, .if_icmp .ge 57), (31, .aload 0, 1, .aload_n 0), (32, .getfield 500, 3, .getfield 12), (35, .aload 1, 1, .aload_n 1), (36, .iload 3, 1, .iload_n 3), (37, .iload 2, 1, .iload_n 2), (38, .invokeinterface 6209 4, 3, .invokevirtual 46), (41, .anewarray 0, 1, .iconst 0), (42, .istore 4, 2, .istore 4), (44, .iload 4, 2, .iload 4), (46, .aload 1, 1, .aload_n 1), (47, .getfield 900, 3, .getfield 42), (50, .if_icmp .ge 79, 3, .if_icmp .ge 29), (53, .aload 0, 1, .aload_n 0), (54, .getfield 503, 3, .getfield 32), (57, .iload 4, 2, .iload 4), (59, .dup2, 1, .dup2), (60, .iaload, 1, .iaload), (61, .aload 0, 1, .aload_n 0), (62, .getfield 500, 3, .getfield 12), (65, .getfield 800, 3, .getfield 102), (68, .iload 4, 2, .iload 4), (70, .iaload, 1, .iaload), (71, .iadd, 1, .iadd), (72, .iastore, 1, .iastore), (73, .iinc 4 1, 3, .iinc 4 1), (76, .goto 44, 3, .goto (-32)), (79, .iinc 3 1, 3, .iinc 3 1), (82, .goto 23, 3, .goto (-59)), (85, .return_, 1, .return_)]
def cd_X6_mostHeard : List AE := [(0, .aload 0, 1, .aload_n 0), (1, .getfield 502, 3, .getfield 28), (4, .invokeinterface 1 1, 3, .invokevirtual 39), (7, .anewarray 0, 1, .iconst 0), (8, .istore 3, 1, .istore_n 3), (9, .iload 3, 1, .iload_n 3), (10, .aload 1, 1, .aload_n 1), (11, .getfield 900, 3, .getfield 42), (14, .if_icmp .ge 56, 3, .if_icmp .ge 42), (17, .aload 1, 1, .aload_n 1), (18, .iload 3, 1, .iload_n 3), (19, .invokeinterface 8410 2, 3, .invokevirtual 86), (22, .ifCond .ne 50, 3, .ifCond .ne 28), (25, .aload 0, 1, .aload_n 0), (26, .getfield 500, 3, .getfield 12), (29, .aload 1, 1, .aload_n 1), (30, .iload 3, 1, .iload_n 3), (31, .iload 2, 1, .iload_n 2), (32, .invokeinterface 6209 4, 3, .invokevirtual 46), (35, .aload 0, 1, .aload_n 0), (36, .getfield 502, 3, .getfield 28), (39, .iload 3, 1, .iload_n 3), (40, .aload 0, 1, .aload_n 0), (41, .getfield 500, 3, .getfield 12), (44, .invokeinterface 6709 1, 3, .invokevirtual 112), (47, .invokeinterface 201 3, 3, .invokevirtual 57), (50, .iinc 3 1, 3, .iinc 3 1), (53, .goto 9, 3, .goto (-44)), (56, .aload 0, 1, .aload_n 0), (57, .getfield 502, 3, .getfield 28), (60, .areturn, 1, .areturn)]
def cd_X6_mendHeardMost : List AE := [(0, .aload 0, 1, .aload_n 0), (1, .getfield 502, 3, .getfield 28), (4, .invokeinterface 1 1, 3, .invokevirtual 39), (7, .aload 0, 1, .aload_n 0), (8, .getfield 500, 3, .getfield 12), (11, .aload 1, 1, .aload_n 1), (12, .iload 2, 1, .iload_n 2), (13, .iload 3, 1, .iload_n 3), (14, .invokeinterface 6209 4, 3, .invokevirtual 46), (17, .aload 0, 1, .aload_n 0), (18, .getfield 500, 3, .getfield 12), (21, .invokeinterface 6709 1, 3, .invokevirtual 112), (24, .istore 4, 2, .istore 4), (26, .aload 0, 1, .aload_n 0), (27, .getfield 501, 3, .getfield 21), (30, .aload 1, 1, .aload_n 1), (31, .invokeinterface 7310 2, 3, .invokevirtual 61), (34, .anewarray 0, 1, .iconst 0), (35, .istore 5, 2, .istore 5), (37, .iload 5, 2, .iload 5), (39, .aload 1, 1, .aload_n 1), (40, .getfield 900, 3, .getfield 42), (43, .if_icmp .ge 125, 3, .if_icmp .ge 82), (46, .aload 1, 1, .aload_n 1), (47, .iload 5, 2, .iload 5), (49, .invokeinterface 8410 2, 3, .invokevirtual 86), (52, .ifCond .ne 58, 3, .ifCond .ne 6), (55, .goto 119, 3, .goto 64), (58, .aload 0, 1, .aload_n 0), (59, .getfield 501, 3, .getfield 21), (62, .aload 1, 1, .aload_n 1), (63, .getfield 901, 3, .getfield 115), (66, .putfield 901, 3, .putfield 115), (69, .aload 0, 1, .aload_n 0), (70, .getfield 501, 3, .getfield 21), (73, .iload 5, 2, .iload 5), (75, .invokeinterface 8110 2, 3, .invokevirtual 118), (78, .aload 0, 1, .aload_n 0), (79, .getfield 500, 3, .getfield 12), (82, .aload 0, 1, .aload_n 0), (83, .getfield 501, 3, .getfield 21), (86, .iload 2, 1, .iload_n 2), (87, .iload 3, 1, .iload_n 3), (88, .invokeinterface 6209 4, 3, .invokevirtual 46), (91, .aload 0, 1, .aload_n 0), (92, .getfield 500, 3, .getfield 12), (95, .invokeinterface 6709 1, 3, .invokevirtual 112), (98, .iload 4, 2, .iload 4), (100, .if_icmp .le 119, 3, .if_icmp .le 19), (103, .aload 0, 1, .aload_n 0), (104, .getfield 502, 3, .getfield 28), (107, .iload 5, 2, .iload 5), (109, .aload 0, 1, .aload_n 0), (110, .getfield 500, 3, .getfield 12), (113, .invokeinterface 6709 1, 3, .invokevirtual 112), (116, .invokeinterface 201 3, 3, .invokevirtual 57), (119, .iinc 5 1, 3, .iinc 5 1), (122, .goto 37, 3, .goto (-85)), (125, .aload 0, 1, .aload_n 0), (126, .getfield 502, 3, .getfield 28), (129, .areturn, 1, .areturn)]
def cd_X6_figureHeardMost : List AE := [(0, .aload 0, 1, .aload_n 0), (1, .getfield 502, 3, .getfield 28), (4, .invokeinterface 1 1, 3, .invokevirtual 39), (7, .aload 0, 1, .aload_n 0), (8, .getfield 501, 3, .getfield 21), (11, .aload 1, 1, .aload_n 1), (12, .invokeinterface 7310 2, 3, .invokevirtual 61), (15, .anewarray 0, 1, .iconst 0), (16, .istore 5, 2, .istore 5), (18, .iload 5, 2, .iload 5), (20, .anewarray 10, 2, .bipush 10), (22, .if_icmp .ge 72, 3, .if_icmp .ge 50), (25, .aload 0, 1, .aload_n 0), (26, .getfield 501, 3, .getfield 21), (29, .getfield 905, 3, .getfield 121), (32, .iload 2, 1, .iload_n 2), (33, .iload 5, 2, .iload 5), (35, .iastore, 1, .iastore), (36, .aload 0, 1, .aload_n 0), (37, .getfield 500, 3, .getfield 12), (40, .aload 0, 1, .aload_n 0), (41, .getfield 501, 3, .getfield 21), (44, .iload 3, 1, .iload_n 3), (45, .iload 4, 2, .iload 4), (47, .invokeinterface 6209 4, 3, .invokevirtual 46), (50, .aload 0, 1, .aload_n 0), (51, .getfield 502, 3, .getfield 28), (54, .iload 5, 2, .iload 5), (56, .aload 0, 1, .aload_n 0), (57, .getfield 500, 3, .getfield 12), (60, .invokeinterface 6709 1, 3, .invokevirtual 112), (63, .invokeinterface 201 3, 3, .invokevirtual 57), (66, .iinc 5 1, 3, .iinc 5 1), (69, .goto 18, 3, .goto (-51)), (72, .aload 0, 1, .aload_n 0), (73, .getfield 502, 3, .getfield 28), (76, .areturn, 1, .areturn)]
def cd_X6_longestLink : List AE := [(0, .aload 0, 1, .aload_n 0), (1, .getfield 502, 3, .getfield 28), (4, .invokeinterface 1 1, 3, .invokevirtual 39), (7, .anewarray 0, 1, .iconst 0), (8, .istore 2, 1, .istore_n 2), (9, .iload 2, 1, .iload_n 2), (10, .aload 1, 1, .aload_n 1), (11, .getfield 900, 3, .getfield 42), (14, .anewarray 1, 1, .iconst 1), (15, .isub, 1, .isub), (16, .if_icmp .ge 38, 3, .if_icmp .ge 22), (19, .aload 0, 1, .aload_n 0), (20, .getfield 502, 3, .getfield 28), (23, .iload 2, 1, .iload_n 2), (24, .aload 1, 1, .aload_n 1), (25, .iload 2, 1, .iload_n 2), (26, .invokeinterface 8910 2, 3, .invokevirtual 124), (29, .invokeinterface 201 3, 3, .invokevirtual 57), (32, .iinc 2 1, 3, .iinc 2 1), (35, .goto 9, 3, .goto (-26)), (38, .aload 0, 1, .aload_n 0), (39, .getfield 502, 3, .getfield 28), (42, .areturn, 1, .areturn)]
def cd_X6_sparedBits : List AE := [(0, .aload 1, 1, .aload_n 1), (1, .invokeinterface 8610 1, 3, .invokevirtual 127), (4, .istore 3, 1, .istore_n 3), (5, .anewarray 0, 1, .iconst 0), (6, .istore 4, 2, .istore 4), (8, .iload 4, 2, .iload 4), (10, .aload 1, 1, .aload_n 1), (11, .getfield 900, 3, .getfield 42), (14, .if_icmp .ge 53, 3, .if_icmp .ge 39), (17, .aload 0, 1, .aload_n 0), (18, .getfield 500, 3, .getfield 12), (21, .aload 1, 1, .aload_n 1), (22, .iload 4, 2, .iload 4), (24, .iload 2, 1, .iload_n 2), (25, .invokeinterface 6209 4, 3, .invokevirtual 46), (28, .iload 3, 1, .iload_n 3), (29, .aload 0, 1, .aload_n 0), (30, .getfield 500, 3, .getfield 12), (33, .getfield 802, 3, .getfield 50), (36, .anewarray 1, 1, .iconst 1), (37, .iload 4, 2, .iload 4), (39, .ishl, 1, .ishl), (40, .iconst (-1), 1, .iconst (-1)), (41, .ixor, 1, .ixor), (42, .iand, 1, .iand), (43, .iconst (-1), 1, .iconst (-1)), (44, .ixor, 1, .ixor), (45, .iand, 1, .iand), (46, .istore 3, 1, .istore_n 3), (47, .iinc 4 1, 3, .iinc 4 1), (50, .goto 8, 3, .goto (-42)), (53, .iload 3, 1, .iload_n 3), (54, .ireturn, 1, .ireturn)]
def cd_X6_mutualTwos : List AE := [(0, .anewarray 0, 1, .iconst 0), (1, .istore 3, 1, .istore_n 3), (2, .anewarray 0, 1, .iconst 0), (3, .istore 4, 2, .istore 4), (5, .iload 4, 2, .iload 4), (7, .aload 1, 1, .aload_n 1), (8, .getfield 900, 3, .getfield 42), (11, .if_icmp .ge 91, 3, .if_icmp .ge 80), (14, .aload 0, 1, .aload_n 0), (15, .getfield 500, 3, .getfield 12), (18, .aload 1, 1, .aload_n 1), (19, .iload 4, 2, .iload 4), (21, .iload 2, 1, .iload_n 2), (22, .invokeinterface 6209 4, 3, .invokevirtual 46), (25, .aload 0, 1, .aload_n 0), (26, .getfield 503, 3, .getfield 32), (29, .iload 4, 2, .iload 4), (31, .aload 0, 1, .aload_n 0), (32, .getfield 500, 3, .getfield 12), (35, .getfield 801, 3, .getfield 130), (38, .iastore, 1, .iastore), (39, .anewarray 0, 1, .iconst 0), (40, .istore 5, 2, .istore 5), (42, .iload 5, 2, .iload 5), (44, .iload 4, 2, .iload 4), (46, .if_icmp .ge 85, 3, .if_icmp .ge 39), (49, .aload 0, 1, .aload_n 0), (50, .getfield 500, 3, .getfield 12), (53, .iload 5, 2, .iload 5), (55, .invokeinterface 6509 2, 3, .invokevirtual 133), (58, .ifCond .eq 79, 3, .ifCond .eq 21), (61, .aload 0, 1, .aload_n 0), (62, .getfield 503, 3, .getfield 32), (65, .iload 5, 2, .iload 5), (67, .iaload, 1, .iaload), (68, .anewarray 1, 1, .iconst 1), (69, .iload 4, 2, .iload 4), (71, .ishl, 1, .ishl), (72, .iand, 1, .iand), (73, .ifCond .eq 79, 3, .ifCond .eq 6), (76, .iinc 3 1, 3, .iinc 3 1), (79, .iinc 5 1, 3, .iinc 5 1), (82, .goto 42, 3, .goto (-40)), (85, .iinc 4 1, 3, .iinc 4 1), (88, .goto 5, 3, .goto (-83)), (91, .iload 3, 1, .iload_n 3), (92, .ireturn, 1, .ireturn)]
def cd_X7_hear : List AE := [(0, .aload 0, 1, .aload_n 0), (1, .getfield 600, 3, .getfield 9), (4, .aload 0, 1, .aload_n 0), (5, .getfield 601, 3, .getfield 15), (8, .iload 1, 1, .iload_n 1), (9, .iastore, 1, .iastore), (10, .aload 0, 1, .aload_n 0), (11, .dup, 1, .dup), (12, .getfield 601, 3, .getfield 15), (15, .anewarray 1, 1, .iconst 1), (16, .iadd, 1, .iadd), (17, .putfield 601, 3, .putfield 15), (20, .aload 0, 1, .aload_n 0), (21, .getfield 601, 3, .getfield 15), (24, .ireturn, 1, .ireturn)]
def cd_X7_tellsJumps : List AE := [(0, .aload 0, 1, .aload_n 0), (1, .getfield 601, 3, .getfield 15), (4, .aload 2, 1, .aload_n 2), (5, .getfield 900, 3, .getfield 19), (8, .if_icmp .le 13, 3, .if_icmp .le 5), (11, .anewarray 0, 1, .iconst 0), (12, .dreturn, 1, .ireturn), (13, .anewarray 0, 1, .iconst 0), (14, .istore 3, 1, .istore_n 3), (15, .iload 3, 1, .iload_n 3), (16, .aload 0, 1, .aload_n 0), (17, .getfield 601, 3, .getfield 15), (20, .if_icmp .ge 51, 3, .if_icmp .ge 31), (23, .aload 0, 1, .aload_n 0), (24, .getfield 600, 3, .getfield 9), (27, .iload 3, 1, .iload_n 3), (28, .iaload, 1, .iaload), (29, .aload 1, 1, .aload_n 1), (30, .aload 2, 1, .aload_n 2), (31, .iload 3, 1, .iload_n 3), (32, .invokeinterface 7009 3, 3, .invokevirtual 24), (35, .anewarray 99, 2, .bipush 99), (37, .invokedynamic 2, 3, .invokestatic 30), (40, .if_icmp .eq 45, 3, .if_icmp .eq 5), (43, .anewarray 0, 1, .iconst 0), (44, .dreturn, 1, .ireturn), (45, .iinc 3 1, 3, .iinc 3 1), (48, .goto 15, 3, .goto (-33)), (51, .anewarray 1, 1, .iconst 1), (52, .dreturn, 1, .ireturn)]
def cd_X7_firstNotInPlace : List AE := [(0, .anewarray 0, 1, .iconst 0), (1, .istore 2, 1, .istore_n 2), (2, .iload 2, 1, .iload_n 2), (3, .aload 0, 1, .aload_n 0), (4, .getfield 601, 3, .getfield 15), (7, .if_icmp .ge 41, 3, .if_icmp .ge 34), (10, .iload 2, 1, .iload_n 2), (11, .aload 1, 1, .aload_n 1), (12, .getfield 900, 3, .getfield 19), (15, .if_icmp .ge 33, 3, .if_icmp .ge 18), (18, .aload 1, 1, .aload_n 1), (19, .getfield 907, 3, .getfield 36), (22, .iload 2, 1, .iload_n 2), (23, .iaload, 1, .iaload), (24, .aload 0, 1, .aload_n 0), (25, .getfield 600, 3, .getfield 9), (28, .iload 2, 1, .iload_n 2), (29, .iaload, 1, .iaload), (30, .if_icmp .eq 35, 3, .if_icmp .eq 5), (33, .iload 2, 1, .iload_n 2), (34, .ireturn, 1, .ireturn), (35, .iinc 2 1, 3, .iinc 2 1), (38, .goto 2, 3, .goto (-36)), (41, .iconst (-9), 2, .bipush (-9)), (43, .ireturn, 1, .ireturn)]
def cd_X8_hear : List AE := [(0, .aload 0, 1, .aload_n 0), (1, .getfield 700, 3, .getfield 9), (4, .aload 0, 1, .aload_n 0), (5, .getfield 703, 3, .getfield 29), (8, .iload 1, 1, .iload_n 1), (9, .iastore, 1, .iastore), (10, .aload 0, 1, .aload_n 0), (11, .dup, 1, .dup), (12, .getfield 703, 3, .getfield 29), (15, .anewarray 1, 1, .iconst 1), (16, .iadd, 1, .iadd), (17, .putfield 703, 3, .putfield 29), (20, .aload 0, 1, .aload_n 0), (21, .getfield 703, 3, .getfield 29), (24, .ireturn, 1, .ireturn)]
def cd_X8_firstMisfit : List AE := [(0, .aload 0, 1, .aload_n 0), (1, .getfield 703, 3, .getfield 29), (4, .ifCond .ne 9, 3, .ifCond .ne 5), (7, .anewarray 0, 1, .iconst 0), (8, .ireturn, 1, .ireturn), (9, .anewarray 0, 1, .iconst 0), (10, .istore 1, 1, .istore_n 1), (11, .iload 1, 1, .iload_n 1), (12, .aload 0, 1, .aload_n 0), (13, .getfield 703, 3, .getfield 29), (16, .if_icmp .ge 111, 3, .if_icmp .ge 95), (19, .aload 0, 1, .aload_n 0), (20, .getfield 700, 3, .getfield 9), (23, .iload 1, 1, .iload_n 1), (24, .iaload, 1, .iaload), (25, .invokeinterface 6100 1, 3, .invokestatic 33), (28, .istore 2, 1, .istore_n 2), (29, .iload 2, 1, .iload_n 2), (30, .ifCond .ne 35, 3, .ifCond .ne 5), (33, .iload 1, 1, .iload_n 1), (34, .ireturn, 1, .ireturn), (35, .iload 1, 1, .iload_n 1), (36, .anewarray 1, 1, .iconst 1), (37, .iadd, 1, .iadd), (38, .iload 2, 1, .iload_n 2), (39, .iadd, 1, .iadd), (40, .istore 3, 1, .istore_n 3), (41, .iload 1, 1, .iload_n 1), (42, .anewarray 1, 1, .iconst 1), (43, .iadd, 1, .iadd), (44, .istore 4, 2, .istore 4), (46, .iload 4, 2, .iload 4), (48, .iload 3, 1, .iload_n 3), (49, .if_icmp .ge 83, 3, .if_icmp .ge 34), (52, .iload 4, 2, .iload 4), (54, .aload 0, 1, .aload_n 0), (55, .getfield 703, 3, .getfield 29), (58, .if_icmp .ge 74, 3, .if_icmp .ge 16), (61, .aload 0, 1, .aload_n 0), (62, .getfield 700, 3, .getfield 9), (65, .iload 4, 2, .iload 4), (67, .iaload, 1, .iaload), (68, .invokeinterface 6000 1, 3, .invokestatic 37), (71, .ifCond .ne 77, 3, .ifCond .ne 6), (74, .iload 4, 2, .iload 4), (76, .ireturn, 1, .ireturn), (77, .iinc 4 1, 3, .iinc 4 1), (80, .goto 46, 3, .goto (-34)), (83, .iload 3, 1, .iload_n 3), (84, .aload 0, 1, .aload_n 0), (85, .getfield 703, 3, .getfield 29), (88, .if_icmp .ge 102, 3, .if_icmp .ge 14), (91, .aload 0, 1, .aload_n 0), (92, .getfield 700, 3, .getfield 9), (95, .iload 3, 1, .iload_n 3), (96, .iaload, 1, .iaload), (97, .anewarray 59, 2, .bipush 59), (99, .if_icmp .eq 104, 3, .if_icmp .eq 5), (102, .iload 3, 1, .iload_n 3), (103, .ireturn, 1, .ireturn), (104, .iload 3, 1, .iload_n 3), (105, .anewarray 1, 1, .iconst 1), (106, .iadd, 1, .iadd), (107, .istore 1, 1, .istore_n 1), (108, .goto 11, 3, .goto (-97)), (111, .iconst (-9), 2, .bipush (-9)), (113, .ireturn, 1, .ireturn)]
def cd_X8_comeTo : List AE := [(0, .aload 0, 1, .aload_n 0), (1, .getfield 701, 3, .getfield 18), (4, .aload 1, 1, .aload_n 1), (5, .invokeinterface 7310 2, 3, .invokevirtual 41), (8, .anewarray 0, 1, .iconst 0), (9, .istore 2, 1, .istore_n 2), (10, .anewarray 0, 1, .iconst 0), (11, .istore 3, 1, .istore_n 3), (12, .iload 3, 1, .iload_n 3), (13, .aload 0, 1, .aload_n 0), (14, .getfield 703, 3, .getfield 29), (17, .if_icmp .ge 59, 3, .if_icmp .ge 42), (20, .aload 0, 1, .aload_n 0), (21, .iload 3, 1, .iload_n 3), (22, .invokeinterface 5608 2, 3, .invokevirtual 45), (25, .ifCond .eq 34, 3, .ifCond .eq 9), (28, .iconst (-2000), 3, .sipush (-2000)), (31, .iload 3, 1, .iload_n 3), (32, .isub, 1, .isub), (33, .ireturn, 1, .ireturn), (34, .aload 0, 1, .aload_n 0), (35, .iload 3, 1, .iload_n 3), (36, .invokeinterface 5708 2, 3, .invokevirtual 48), (39, .iinc 2 1, 3, .iinc 2 1), (42, .iload 3, 1, .iload_n 3), (43, .aload 0, 1, .aload_n 0), (44, .getfield 700, 3, .getfield 9), (47, .iload 3, 1, .iload_n 3), (48, .iaload, 1, .iaload), (49, .invokeinterface 6100 1, 3, .invokestatic 33), (52, .anewarray 2, 1, .iconst 2), (53, .iadd, 1, .iadd), (54, .iadd, 1, .iadd), (55, .istore 3, 1, .istore_n 3), (56, .goto 12, 3, .goto (-44)), (59, .aload 1, 1, .aload_n 1), (60, .aload 0, 1, .aload_n 0), (61, .getfield 701, 3, .getfield 18), (64, .invokeinterface 7310 2, 3, .invokevirtual 41), (67, .iload 2, 1, .iload_n 2), (68, .ireturn, 1, .ireturn)]
def cd_X8_refusalOf : List AE := [(0, .aload 0, 1, .aload_n 0), (1, .iload 1, 1, .iload_n 1), (2, .anewarray 1, 1, .iconst 1), (3, .iadd, 1, .iadd), (4, .invokeinterface 5908 2, 3, .invokevirtual 52), (7, .istore 2, 1, .istore_n 2), (8, .aload 0, 1, .aload_n 0), (9, .getfield 700, 3, .getfield 9), (12, .iload 1, 1, .iload_n 1), (13, .iaload, 1, .iaload), (14, .lookupswitch 111 #[(99, 102), (100, 79), (109, 93), (116, 56)], 42, .lookupswitch 97 #[(99, 88), (100, 65), (109, 79), (116, 42)]), (56, .aload 0, 1, .aload_n 0), (57, .getfield 701, 3, .getfield 18), (60, .iload 2, 1, .iload_n 2), (61, .aload 0, 1, .aload_n 0), (62, .iload 1, 1, .iload_n 1), (63, .anewarray 2, 1, .iconst 2), (64, .iadd, 1, .iadd), (65, .invokeinterface 5908 2, 3, .invokevirtual 52), (68, .aload 0, 1, .aload_n 0), (69, .iload 1, 1, .iload_n 1), (70, .anewarray 3, 1, .iconst 3), (71, .iadd, 1, .iadd), (72, .invokeinterface 5908 2, 3, .invokevirtual 52), (75, .invokeinterface 7610 4, 3, .invokevirtual 55), (78, .ireturn, 1, .ireturn), (79, .aload 0, 1, .aload_n 0), (80, .getfield 701, 3, .getfield 18), (83, .iload 2, 1, .iload_n 2), (84, .aload 0, 1, .aload_n 0), (85, .iload 1, 1, .iload_n 1), (86, .invokeinterface 5808 2, 3, .invokevirtual 59), (89, .invokeinterface 7710 3, 3, .invokevirtual 62), (92, .ireturn, 1, .ireturn), (93, .aload 0, 1, .aload_n 0), (94, .getfield 701, 3, .getfield 18), (97, .iload 2, 1, .iload_n 2), (98, .invokeinterface 7810 2, 3, .invokevirtual 66), (101, .ireturn, 1, .ireturn), (102, .aload 0, 1, .aload_n 0), (103, .getfield 701, 3, .getfield 18), (106, .iload 2, 1, .iload_n 2), (107, .invokeinterface 7510 2, 3, .invokevirtual 69), (110, .ireturn, 1, .ireturn), (111, .aload 0, 1, .aload_n 0), (112, .getfield 701, 3, .getfield 18), (115, .iload 2, 1, .iload_n 2), (116, .aload 0, 1, .aload_n 0), (117, .iload 1, 1, .iload_n 1), (118, .anewarray 2, 1, .iconst 2), (119, .iadd, 1, .iadd), (120, .invokeinterface 5908 2, 3, .invokevirtual 52), (123, .invokeinterface 7910 3, 3, .invokevirtual 72), (126, .ireturn, 1, .ireturn)]
def cd_X8_act : List AE := [(0, .aload 0, 1, .aload_n 0), (1, .iload 1, 1, .iload_n 1), (2, .anewarray 1, 1, .iconst 1), (3, .iadd, 1, .iadd), (4, .invokeinterface 5908 2, 3, .invokevirtual 52), (7, .istore 2, 1, .istore_n 2), (8, .aload 0, 1, .aload_n 0), (9, .getfield 700, 3, .getfield 9), (12, .iload 1, 1, .iload_n 1), (13, .iaload, 1, .iaload), (14, .lookupswitch 124 #[(99, 113), (100, 82), (109, 102), (116, 56)], 42, .lookupswitch 110 #[(99, 99), (100, 68), (109, 88), (116, 42)]), (56, .aload 0, 1, .aload_n 0), (57, .getfield 701, 3, .getfield 18), (60, .iload 2, 1, .iload_n 2), (61, .aload 0, 1, .aload_n 0), (62, .iload 1, 1, .iload_n 1), (63, .anewarray 2, 1, .iconst 2), (64, .iadd, 1, .iadd), (65, .invokeinterface 5908 2, 3, .invokevirtual 52), (68, .aload 0, 1, .aload_n 0), (69, .iload 1, 1, .iload_n 1), (70, .anewarray 3, 1, .iconst 3), (71, .iadd, 1, .iadd), (72, .invokeinterface 5908 2, 3, .invokevirtual 52), (75, .invokeinterface 8010 4, 3, .invokevirtual 75), (78, .pop, 1, .pop), (79, .goto 139, 3, .goto 60), (82, .aload 0, 1, .aload_n 0), (83, .getfield 702, 3, .getfield 25), (86, .aload 0, 1, .aload_n 0), (87, .getfield 701, 3, .getfield 18), (90, .iload 2, 1, .iload_n 2), (91, .aload 0, 1, .aload_n 0), (92, .iload 1, 1, .iload_n 1), (93, .invokeinterface 5808 2, 3, .invokevirtual 59), (96, .invokeinterface 6309 4, 3, .invokevirtual 78), (99, .goto 139, 3, .goto 40), (102, .aload 0, 1, .aload_n 0), (103, .getfield 701, 3, .getfield 18), (106, .iload 2, 1, .iload_n 2), (107, .invokeinterface 8110 2, 3, .invokevirtual 82), (110, .goto 139, 3, .goto 29), (113, .aload 0, 1, .aload_n 0), (114, .getfield 701, 3, .getfield 18), (117, .iload 2, 1, .iload_n 2), (118, .invokeinterface 8210 2, 3, .invokevirtual 85), (121, .goto 139, 3, .goto 18), (124, .aload 0, 1, .aload_n 0), (125, .getfield 701, 3, .getfield 18), (128, .iload 2, 1, .iload_n 2), (129, .aload 0, 1, .aload_n 0), (130, .iload 1, 1, .iload_n 1), (131, .anewarray 2, 1, .iconst 2), (132, .iadd, 1, .iadd), (133, .invokeinterface 5908 2, 3, .invokevirtual 52), (136, .invokeinterface 8310 3, 3, .invokevirtual 88), (139, .return_, 1, .return_)]
def cd_X8_blowIn : List AE := [(0, .anewarray 10, 2, .bipush 10), (2, .aload 0, 1, .aload_n 0), (3, .iload 1, 1, .iload_n 1), (4, .anewarray 2, 1, .iconst 2), (5, .iadd, 1, .iadd), (6, .invokeinterface 5908 2, 3, .invokevirtual 52), (9, .imul, 1, .imul), (10, .aload 0, 1, .aload_n 0), (11, .iload 1, 1, .iload_n 1), (12, .anewarray 3, 1, .iconst 3), (13, .iadd, 1, .iadd), (14, .invokeinterface 5908 2, 3, .invokevirtual 52), (17, .iadd, 1, .iadd), (18, .ireturn, 1, .ireturn)]
def cd_X8_digit : List AE := [(0, .iload 1, 1, .iload_n 1), (1, .aload 0, 1, .aload_n 0), (2, .getfield 703, 3, .getfield 29), (5, .if_icmp .ge 20, 3, .if_icmp .ge 15), (8, .aload 0, 1, .aload_n 0), (9, .getfield 700, 3, .getfield 9), (12, .iload 1, 1, .iload_n 1), (13, .iaload, 1, .iaload), (14, .anewarray 48, 2, .bipush 48), (16, .isub, 1, .isub), (17, .goto 22, 3, .goto 5), (20, .iconst (-9), 2, .bipush (-9)), (22, .ireturn, 1, .ireturn)]
def cd_X8_isDigit : List AE := [(0, .iload 0, 1, .iload_n 0), (1, .anewarray 48, 2, .bipush 48), (3, .if_icmp .lt 16, 3, .if_icmp .lt 13), (6, .iload 0, 1, .iload_n 0), (7, .anewarray 57, 2, .bipush 57), (9, .if_icmp .gt 16, 3, .if_icmp .gt 7), (12, .anewarray 1, 1, .iconst 1), (13, .goto 17, 3, .goto 4), (16, .anewarray 0, 1, .iconst 0), (17, .dreturn, 1, .ireturn)]
def cd_X8_digitsBehind : List AE := [(0, .iload 0, 1, .iload_n 0), (1, .lookupswitch 58 #[(99, 56), (100, 52), (109, 56), (116, 52), (120, 54)], 51, .lookupswitch 57 #[(99, 55), (100, 51), (109, 55), (116, 51), (120, 53)]), (52, .anewarray 3, 1, .iconst 3), (53, .ireturn, 1, .ireturn), (54, .anewarray 2, 1, .iconst 2), (55, .ireturn, 1, .ireturn), (56, .anewarray 1, 1, .iconst 1), (57, .ireturn, 1, .ireturn), (58, .anewarray 0, 1, .iconst 0), (59, .ireturn, 1, .ireturn)]
def cd_X9_strike : List AE := [(0, .anewarray 0, 1, .iconst 0), (1, .istore 4, 2, .istore 4), (3, .iload 4, 2, .iload 4), (5, .anewarray 8, 2, .bipush 8), (7, .if_icmp .ge 24, 3, .if_icmp .ge 17), (10, .aload 0, 1, .aload_n 0), (11, .getfield 800, 3, .getfield 9), (14, .iload 4, 2, .iload 4), (16, .anewarray 0, 1, .iconst 0), (17, .iastore, 1, .iastore), (18, .iinc 4 1, 3, .iinc 4 1), (21, .goto 3, 3, .goto (-18)), (24, .aload 0, 1, .aload_n 0), (25, .anewarray 0, 1, .iconst 0), (26, .putfield 801, 3, .putfield 15), (29, .aload 0, 1, .aload_n 0), (30, .anewarray 0, 1, .iconst 0), (31, .putfield 802, 3, .putfield 19), (34, .aload 0, 1, .aload_n 0), (35, .aload 1, 1, .aload_n 1), (36, .aload 1, 1, .aload_n 1), (37, .getfield 908, 3, .getfield 22), (40, .iload 2, 1, .iload_n 2), (41, .iaload, 1, .iaload), (42, .anewarray 1, 1, .iconst 1), (43, .iload 3, 1, .iload_n 3), (44, .invokeinterface 6409 5, 3, .invokevirtual 27), (47, .aload 0, 1, .aload_n 0), (48, .aload 1, 1, .aload_n 1), (49, .aload 1, 1, .aload_n 1), (50, .getfield 908, 3, .getfield 22), (53, .iload 2, 1, .iload_n 2), (54, .iaload, 1, .iaload), (55, .iconst (-1), 1, .iconst (-1)), (56, .iload 3, 1, .iload_n 3), (57, .invokeinterface 6409 5, 3, .invokevirtual 27), (60, .return_, 1, .return_)]
def cd_X9_drop : List AE := [(0, .aload 0, 1, .aload_n 0), (1, .aload 1, 1, .aload_n 1), (2, .iload 2, 1, .iload_n 2), (3, .iload 3, 1, .iload_n 3), (4, .invokeinterface 6209 4, 3, .invokevirtual 31), (7, .aload 1, 1, .aload_n 1), (8, .dup, 1, .dup), (9, .getfield 901, 3, .getfield 35), (12, .aload 0, 1, .aload_n 0), (13, .getfield 802, 3, .getfield 19), (16, .ior, 1, .ior), (17, .putfield 901, 3, .putfield 35), (20, .aload 1, 1, .aload_n 1), (21, .dup, 1, .dup), (22, .getfield 903, 3, .getfield 38), (25, .anewarray 1, 1, .iconst 1), (26, .iadd, 1, .iadd), (27, .putfield 903, 3, .putfield 38), (30, .return_, 1, .return_)]
def cd_X9_spread : List AE := [(0, .iload 4, 2, .iload 4), (2, .istore 5, 2, .istore 5), (4, .iload 2, 1, .iload_n 2), (5, .istore 6, 2, .istore 6), (7, .iload 6, 2, .iload 6), (9, .ifCond .lt 149, 3, .ifCond .lt 140), (12, .iload 6, 2, .iload 6), (14, .aload 1, 1, .aload_n 1), (15, .getfield 900, 3, .getfield 41), (18, .if_icmp .ge 149, 3, .if_icmp .ge 131), (21, .aload 1, 1, .aload_n 1), (22, .getfield 907, 3, .getfield 44), (25, .iload 6, 2, .iload 6), (27, .iaload, 1, .iaload), (28, .istore 7, 2, .istore 7), (30, .iload 5, 2, .iload 5), (32, .ifCond .le 44, 3, .ifCond .le 12), (35, .aload 1, 1, .aload_n 1), (36, .iload 7, 2, .iload 7), (38, .invokeinterface 8410 2, 3, .invokevirtual 47), (41, .ifCond .eq 45, 3, .ifCond .eq 4), (44, .return_, 1, .return_), (45, .aload 1, 1, .aload_n 1), (46, .getfield 904, 3, .getfield 51), (49, .iload 7, 2, .iload 7), (51, .iaload, 1, .iaload), (52, .istore 8, 2, .istore 8), (54, .aload 1, 1, .aload_n 1), (55, .getfield 905, 3, .getfield 54), (58, .iload 7, 2, .iload 7), (60, .iaload, 1, .iaload), (61, .istore 9, 2, .istore 9), (63, .aload 0, 1, .aload_n 0), (64, .getfield 800, 3, .getfield 9), (67, .iload 7, 2, .iload 7), (69, .iload 5, 2, .iload 5), (71, .iastore, 1, .iastore), (72, .aload 0, 1, .aload_n 0), (73, .dup, 1, .dup), (74, .getfield 801, 3, .getfield 15), (77, .anewarray 1, 1, .iconst 1), (78, .iload 7, 2, .iload 7), (80, .ishl, 1, .ishl), (81, .ior, 1, .ior), (82, .putfield 801, 3, .putfield 15), (85, .iload 5, 2, .iload 5), (87, .iload 8, 2, .iload 8), (89, .iload 9, 2, .iload 9), (91, .invokeinterface 2300 2, 3, .invokestatic 57), (94, .if_icmp .lt 111, 3, .if_icmp .lt 17), (97, .aload 0, 1, .aload_n 0), (98, .dup, 1, .dup), (99, .getfield 802, 3, .getfield 19), (102, .anewarray 1, 1, .iconst 1), (103, .iload 7, 2, .iload 7), (105, .ishl, 1, .ishl), (106, .ior, 1, .ior), (107, .putfield 802, 3, .putfield 19), (110, .return_, 1, .return_), (111, .aload 1, 1, .aload_n 1), (112, .iload 6, 2, .iload 6), (114, .iload 6, 2, .iload 6), (116, .iload 3, 1, .iload_n 3), (117, .iadd, 1, .iadd), (118, .invokedynamic 2, 3, .invokestatic 63), (121, .invokeinterface 8510 2, 3, .invokevirtual 68), (124, .ifCond .eq 128, 3, .ifCond .eq 4), (127, .return_, 1, .return_), (128, .iload 5, 2, .iload 5), (130, .iload 8, 2, .iload 8), (132, .iload 9, 2, .iload 9), (134, .invokeinterface 2200 2, 3, .invokestatic 71), (137, .isub, 1, .isub), (138, .istore 5, 2, .istore 5), (140, .iload 6, 2, .iload 6), (142, .iload 3, 1, .iload_n 3), (143, .iadd, 1, .iadd), (144, .istore 6, 2, .istore 6), (146, .goto 7, 3, .goto (-139)), (149, .return_, 1, .return_)]
def cd_X9_isHeardBy : List AE := [(0, .iload 1, 1, .iload_n 1), (1, .ifCond .lt 19, 3, .ifCond .lt 18), (4, .aload 0, 1, .aload_n 0), (5, .getfield 801, 3, .getfield 15), (8, .anewarray 1, 1, .iconst 1), (9, .iload 1, 1, .iload_n 1), (10, .ishl, 1, .ishl), (11, .iand, 1, .iand), (12, .ifCond .eq 19, 3, .ifCond .eq 7), (15, .anewarray 1, 1, .iconst 1), (16, .goto 20, 3, .goto 4), (19, .anewarray 0, 1, .iconst 0), (20, .dreturn, 1, .ireturn)]
def cd_X9_hasBroken : List AE := [(0, .aload 0, 1, .aload_n 0), (1, .getfield 802, 3, .getfield 19), (4, .anewarray 1, 1, .iconst 1), (5, .iload 1, 1, .iload_n 1), (6, .ishl, 1, .ishl), (7, .iand, 1, .iand), (8, .ifCond .eq 15, 3, .ifCond .eq 7), (11, .anewarray 1, 1, .iconst 1), (12, .goto 16, 3, .goto 4), (15, .anewarray 0, 1, .iconst 0), (16, .dreturn, 1, .ireturn)]
def cd_X9_hearerCount : List AE := [(0, .aload 0, 1, .aload_n 0), (1, .getfield 801, 3, .getfield 15), (4, .invokeinterface 25700 1, 3, .invokestatic 74), (7, .ireturn, 1, .ireturn)]
def cd_X9_brokenCount : List AE := [(0, .aload 0, 1, .aload_n 0), (1, .getfield 802, 3, .getfield 19), (4, .invokeinterface 25700 1, 3, .invokestatic 74), (7, .ireturn, 1, .ireturn)]
def cd_X9_othersBroken : List AE := [(0, .aload 0, 1, .aload_n 0), (1, .getfield 802, 3, .getfield 19), (4, .anewarray 1, 1, .iconst 1), (5, .iload 1, 1, .iload_n 1), (6, .ishl, 1, .ishl), (7, .iconst (-1), 1, .iconst (-1)), (8, .ixor, 1, .ixor), (9, .iand, 1, .iand), (10, .invokeinterface 25700 1, 3, .invokestatic 74), (13, .ireturn, 1, .ireturn)]
def cd_X9_jumpIn : List AE := [(0, .aload 1, 1, .aload_n 1), (1, .getfield 904, 3, .getfield 51), (4, .iload 2, 1, .iload_n 2), (5, .iaload, 1, .iaload), (6, .aload 0, 1, .aload_n 0), (7, .getfield 800, 3, .getfield 9), (10, .iload 2, 1, .iload_n 2), (11, .iaload, 1, .iaload), (12, .invokeinterface 2400 2, 3, .invokestatic 80), (15, .ireturn, 1, .ireturn)]
def cd_X9_jumpsIn : List AE := [(0, .anewarray 0, 1, .iconst 0), (1, .istore 2, 1, .istore_n 2), (2, .anewarray 0, 1, .iconst 0), (3, .istore 3, 1, .istore_n 3), (4, .iload 3, 1, .iload_n 3), (5, .aload 1, 1, .aload_n 1), (6, .getfield 900, 3, .getfield 41), (9, .if_icmp .ge 27, 3, .if_icmp .ge 18), (12, .iload 2, 1, .iload_n 2), (13, .aload 0, 1, .aload_n 0), (14, .aload 1, 1, .aload_n 1), (15, .iload 3, 1, .iload_n 3), (16, .invokeinterface 7009 3, 3, .invokevirtual 83), (19, .iadd, 1, .iadd), (20, .istore 2, 1, .istore_n 2), (21, .iinc 3 1, 3, .iinc 3 1), (24, .goto 4, 3, .goto (-20)), (27, .iload 2, 1, .iload_n 2), (28, .ireturn, 1, .ireturn)]
def cd_X9_farthestIn : List AE := [(0, .aload 1, 1, .aload_n 1), (1, .getfield 908, 3, .getfield 22), (4, .iload 2, 1, .iload_n 2), (5, .iaload, 1, .iaload), (6, .istore 3, 1, .istore_n 3), (7, .iconst (-9), 2, .bipush (-9)), (9, .istore 4, 2, .istore 4), (11, .iconst (-1), 1, .iconst (-1)), (12, .istore 5, 2, .istore 5), (14, .anewarray 0, 1, .iconst 0), (15, .istore 6, 2, .istore 6), (17, .iload 6, 2, .iload 6), (19, .aload 1, 1, .aload_n 1), (20, .getfield 900, 3, .getfield 41), (23, .if_icmp .ge 71, 3, .if_icmp .ge 48), (26, .aload 0, 1, .aload_n 0), (27, .aload 1, 1, .aload_n 1), (28, .getfield 907, 3, .getfield 44), (31, .iload 6, 2, .iload 6), (33, .iaload, 1, .iaload), (34, .invokeinterface 6509 2, 3, .invokevirtual 87), (37, .ifCond .eq 65, 3, .ifCond .eq 28), (40, .iload 6, 2, .iload 6), (42, .iload 3, 1, .iload_n 3), (43, .isub, 1, .isub), (44, .invokedynamic 3, 3, .invokestatic 90), (47, .iload 5, 2, .iload 5), (49, .if_icmp .le 65, 3, .if_icmp .le 16), (52, .iload 6, 2, .iload 6), (54, .istore 4, 2, .istore 4), (56, .iload 6, 2, .iload 6), (58, .iload 3, 1, .iload_n 3), (59, .isub, 1, .isub), (60, .invokedynamic 3, 3, .invokestatic 90), (63, .istore 5, 2, .istore 5), (65, .iinc 6 1, 3, .iinc 6 1), (68, .goto 17, 3, .goto (-51)), (71, .iload 4, 2, .iload 4), (73, .ireturn, 1, .ireturn)]
def cd_X10_copy : List AE := [(0, .aload 0, 1, .aload_n 0), (1, .aload 1, 1, .aload_n 1), (2, .getfield 900, 3, .getfield 9), (5, .putfield 900, 3, .putfield 9), (8, .aload 0, 1, .aload_n 0), (9, .aload 1, 1, .aload_n 1), (10, .getfield 901, 3, .getfield 15), (13, .putfield 901, 3, .putfield 15), (16, .aload 0, 1, .aload_n 0), (17, .aload 1, 1, .aload_n 1), (18, .getfield 902, 3, .getfield 18), (21, .putfield 902, 3, .putfield 18), (24, .aload 0, 1, .aload_n 0), (25, .aload 1, 1, .aload_n 1), (26, .getfield 903, 3, .getfield 21), (29, .putfield 903, 3, .putfield 21), (32, .aload 1, 1, .aload_n 1), (33, .getfield 904, 3, .getfield 24), (36, .anewarray 0, 1, .iconst 0), (37, .aload 0, 1, .aload_n 0), (38, .getfield 904, 3, .getfield 24), (41, .anewarray 0, 1, .iconst 0), (42, .anewarray 8, 2, .bipush 8), (44, .invokedynamic 0, 3, .invokestatic 40), (47, .aload 1, 1, .aload_n 1), (48, .getfield 905, 3, .getfield 28), (51, .anewarray 0, 1, .iconst 0), (52, .aload 0, 1, .aload_n 0), (53, .getfield 905, 3, .getfield 28), (56, .anewarray 0, 1, .iconst 0), (57, .anewarray 8, 2, .bipush 8), (59, .invokedynamic 0, 3, .invokestatic 40), (62, .aload 1, 1, .aload_n 1), (63, .getfield 906, 3, .getfield 31), (66, .anewarray 0, 1, .iconst 0), (67, .aload 0, 1, .aload_n 0), (68, .getfield 906, 3, .getfield 31), (71, .anewarray 0, 1, .iconst 0), (72, .anewarray 8, 2, .bipush 8), (74, .invokedynamic 0, 3, .invokestatic 40), (77, .aload 1, 1, .aload_n 1), (78, .getfield 907, 3, .getfield 34), (81, .anewarray 0, 1, .iconst 0), (82, .aload 0, 1, .aload_n 0), (83, .getfield 907, 3, .getfield 34), (86, .anewarray 0, 1, .iconst 0), (87, .anewarray 8, 2, .bipush 8), (89, .invokedynamic 0, 3, .invokestatic 40), (92, .aload 1, 1, .aload_n 1), (93, .getfield 908, 3, .getfield 37), (96, .anewarray 0, 1, .iconst 0), (97, .aload 0, 1, .aload_n 0), (98, .getfield 908, 3, .getfield 37), (101, .anewarray 0, 1, .iconst 0), (102, .anewarray 8, 2, .bipush 8), (104, .invokedynamic 0, 3, .invokestatic 40), (107, .return_, 1, .return_)]
def cd_X10_noThing : List AE := [(0, .iload 1, 1, .iload_n 1), (1, .ifCond .lt 12, 3, .ifCond .lt 11), (4, .iload 1, 1, .iload_n 1), (5, .aload 0, 1, .aload_n 0), (6, .getfield 900, 3, .getfield 9), (9, .if_icmp .lt 16, 3, .if_icmp .lt 7), (12, .iconst (-1), 1, .iconst (-1)), (13, .goto 17, 3, .goto 4), (16, .anewarray 0, 1, .iconst 0), (17, .ireturn, 1, .ireturn)]
def cd_X10_noLink : List AE := [(0, .iload 1, 1, .iload_n 1), (1, .ifCond .lt 14, 3, .ifCond .lt 13), (4, .iload 1, 1, .iload_n 1), (5, .aload 0, 1, .aload_n 0), (6, .getfield 900, 3, .getfield 9), (9, .anewarray 1, 1, .iconst 1), (10, .isub, 1, .isub), (11, .if_icmp .lt 18, 3, .if_icmp .lt 7), (14, .iconst (-1), 1, .iconst (-1)), (15, .goto 19, 3, .goto 4), (18, .anewarray 0, 1, .iconst 0), (19, .ireturn, 1, .ireturn)]
def cd_X10_joinRefusal : List AE := [(0, .iload 1, 1, .iload_n 1), (1, .anewarray 5, 1, .iconst 5), (2, .invokeinterface 14700 2, 3, .invokestatic 46), (5, .iload 2, 1, .iload_n 2), (6, .anewarray 0, 1, .iconst 0), (7, .invokeinterface 14400 2, 3, .invokestatic 50), (10, .iload 3, 1, .iload_n 3), (11, .anewarray 0, 1, .iconst 0), (12, .invokeinterface 14400 2, 3, .invokestatic 50), (15, .invokeinterface 14300 2, 3, .invokestatic 53), (18, .invokeinterface 14300 2, 3, .invokestatic 53), (21, .istore 4, 2, .istore 4), (23, .iload 4, 2, .iload 4), (25, .iload 2, 1, .iload_n 2), (26, .anewarray 9, 2, .bipush 9), (28, .invokeinterface 14500 2, 3, .invokestatic 56), (31, .iload 3, 1, .iload_n 3), (32, .anewarray 9, 2, .bipush 9), (34, .invokeinterface 14500 2, 3, .invokestatic 56), (37, .invokeinterface 14300 2, 3, .invokestatic 53), (40, .invokeinterface 14300 2, 3, .invokestatic 53), (43, .istore 4, 2, .istore 4), (45, .iload 4, 2, .iload 4), (47, .aload 0, 1, .aload_n 0), (48, .getfield 900, 3, .getfield 9), (51, .anewarray 1, 1, .iconst 1), (52, .iadd, 1, .iadd), (53, .anewarray 8, 2, .bipush 8), (55, .invokeinterface 14500 2, 3, .invokestatic 56), (58, .invokeinterface 14300 2, 3, .invokestatic 53), (61, .ireturn, 1, .ireturn)]
def cd_X10_dropRefusal : List AE := [(0, .aload 0, 1, .aload_n 0), (1, .iload 1, 1, .iload_n 1), (2, .invokeinterface 7410 2, 3, .invokevirtual 59), (5, .iload 2, 1, .iload_n 2), (6, .invokeinterface 14600 1, 3, .invokestatic 63), (9, .invokeinterface 14300 2, 3, .invokestatic 53), (12, .aload 0, 1, .aload_n 0), (13, .getfield 903, 3, .getfield 21), (16, .anewarray 1, 1, .iconst 1), (17, .iadd, 1, .iadd), (18, .anewarray 999, 3, .sipush 999), (21, .invokeinterface 14500 2, 3, .invokestatic 56), (24, .invokeinterface 14300 2, 3, .invokestatic 53), (27, .istore 3, 1, .istore_n 3), (28, .iload 3, 1, .iload_n 3), (29, .ifCond .ne 45, 3, .ifCond .ne 16), (32, .aload 0, 1, .aload_n 0), (33, .iload 1, 1, .iload_n 1), (34, .invokeinterface 8410 2, 3, .invokevirtual 66), (37, .ifCond .eq 45, 3, .ifCond .eq 8), (40, .iconst (-3), 2, .bipush (-3)), (42, .goto 46, 3, .goto 4), (45, .iload 3, 1, .iload_n 3), (46, .ireturn, 1, .ireturn)]
def cd_X10_mendRefusal : List AE := [(0, .aload 0, 1, .aload_n 0), (1, .iload 1, 1, .iload_n 1), (2, .invokeinterface 7410 2, 3, .invokevirtual 59), (5, .istore 2, 1, .istore_n 2), (6, .iload 2, 1, .iload_n 2), (7, .ifCond .ne 23, 3, .ifCond .ne 16), (10, .aload 0, 1, .aload_n 0), (11, .iload 1, 1, .iload_n 1), (12, .invokeinterface 8410 2, 3, .invokevirtual 66), (15, .ifCond .ne 23, 3, .ifCond .ne 8), (18, .iconst (-3), 2, .bipush (-3)), (20, .goto 24, 3, .goto 4), (23, .iload 2, 1, .iload_n 2), (24, .ireturn, 1, .ireturn)]
def cd_X10_changeRefusal : List AE := [(0, .aload 0, 1, .aload_n 0), (1, .iload 1, 1, .iload_n 1), (2, .invokeinterface 7410 2, 3, .invokevirtual 59), (5, .aload 0, 1, .aload_n 0), (6, .iload 2, 1, .iload_n 2), (7, .invokeinterface 7410 2, 3, .invokevirtual 59), (10, .invokeinterface 14300 2, 3, .invokestatic 53), (13, .istore 3, 1, .istore_n 3), (14, .iload 3, 1, .iload_n 3), (15, .ifCond .ne 27, 3, .ifCond .ne 12), (18, .iload 1, 1, .iload_n 1), (19, .iload 2, 1, .iload_n 2), (20, .if_icmp .ne 27, 3, .if_icmp .ne 7), (23, .iconst (-1), 1, .iconst (-1)), (24, .goto 28, 3, .goto 4), (27, .iload 3, 1, .iload_n 3), (28, .ireturn, 1, .ireturn)]
def cd_X10_join : List AE := [(0, .aload 0, 1, .aload_n 0), (1, .getfield 900, 3, .getfield 9), (4, .istore 4, 2, .istore 4), (6, .aload 0, 1, .aload_n 0), (7, .dup, 1, .dup), (8, .getfield 900, 3, .getfield 9), (11, .anewarray 1, 1, .iconst 1), (12, .iadd, 1, .iadd), (13, .putfield 900, 3, .putfield 9), (16, .aload 0, 1, .aload_n 0), (17, .getfield 904, 3, .getfield 24), (20, .iload 4, 2, .iload 4), (22, .iload 1, 1, .iload_n 1), (23, .iastore, 1, .iastore), (24, .aload 0, 1, .aload_n 0), (25, .getfield 905, 3, .getfield 28), (28, .iload 4, 2, .iload 4), (30, .iload 2, 1, .iload_n 2), (31, .iastore, 1, .iastore), (32, .aload 0, 1, .aload_n 0), (33, .getfield 906, 3, .getfield 31), (36, .iload 4, 2, .iload 4), (38, .iload 3, 1, .iload_n 3), (39, .iastore, 1, .iastore), (40, .aload 0, 1, .aload_n 0), (41, .getfield 907, 3, .getfield 34), (44, .iload 4, 2, .iload 4), (46, .iload 4, 2, .iload 4), (48, .iastore, 1, .iastore), (49, .aload 0, 1, .aload_n 0), (50, .getfield 908, 3, .getfield 37), (53, .iload 4, 2, .iload 4), (55, .iload 4, 2, .iload 4), (57, .iastore, 1, .iastore), (58, .iload 4, 2, .iload 4), (60, .ireturn, 1, .ireturn)]
def cd_X10_mend : List AE := [(0, .aload 0, 1, .aload_n 0), (1, .dup, 1, .dup), (2, .getfield 901, 3, .getfield 15), (5, .anewarray 1, 1, .iconst 1), (6, .iload 1, 1, .iload_n 1), (7, .ishl, 1, .ishl), (8, .iconst (-1), 1, .iconst (-1)), (9, .ixor, 1, .ixor), (10, .iand, 1, .iand), (11, .putfield 901, 3, .putfield 15), (14, .return_, 1, .return_)]
def cd_X10_turnCut : List AE := [(0, .aload 0, 1, .aload_n 0), (1, .dup, 1, .dup), (2, .getfield 902, 3, .getfield 18), (5, .anewarray 1, 1, .iconst 1), (6, .iload 1, 1, .iload_n 1), (7, .ishl, 1, .ishl), (8, .ixor, 1, .ixor), (9, .putfield 902, 3, .putfield 18), (12, .return_, 1, .return_)]
def cd_X10_exchange : List AE := [(0, .aload 0, 1, .aload_n 0), (1, .getfield 907, 3, .getfield 34), (4, .iload 1, 1, .iload_n 1), (5, .iaload, 1, .iaload), (6, .istore 3, 1, .istore_n 3), (7, .aload 0, 1, .aload_n 0), (8, .getfield 907, 3, .getfield 34), (11, .iload 1, 1, .iload_n 1), (12, .aload 0, 1, .aload_n 0), (13, .getfield 907, 3, .getfield 34), (16, .iload 2, 1, .iload_n 2), (17, .iaload, 1, .iaload), (18, .iastore, 1, .iastore), (19, .aload 0, 1, .aload_n 0), (20, .getfield 907, 3, .getfield 34), (23, .iload 2, 1, .iload_n 2), (24, .iload 3, 1, .iload_n 3), (25, .iastore, 1, .iastore), (26, .aload 0, 1, .aload_n 0), (27, .getfield 908, 3, .getfield 37), (30, .aload 0, 1, .aload_n 0), (31, .getfield 907, 3, .getfield 34), (34, .iload 1, 1, .iload_n 1), (35, .iaload, 1, .iaload), (36, .iload 1, 1, .iload_n 1), (37, .iastore, 1, .iastore), (38, .aload 0, 1, .aload_n 0), (39, .getfield 908, 3, .getfield 37), (42, .iload 3, 1, .iload_n 3), (43, .iload 2, 1, .iload_n 2), (44, .iastore, 1, .iastore), (45, .return_, 1, .return_)]
def cd_X10_isBroken : List AE := [(0, .aload 0, 1, .aload_n 0), (1, .getfield 901, 3, .getfield 15), (4, .anewarray 1, 1, .iconst 1), (5, .iload 1, 1, .iload_n 1), (6, .ishl, 1, .ishl), (7, .iand, 1, .iand), (8, .ifCond .eq 15, 3, .ifCond .eq 7), (11, .anewarray 1, 1, .iconst 1), (12, .goto 16, 3, .goto 4), (15, .anewarray 0, 1, .iconst 0), (16, .dreturn, 1, .ireturn)]
def cd_X10_isCut : List AE := [(0, .iload 1, 1, .iload_n 1), (1, .ifCond .lt 19, 3, .ifCond .lt 18), (4, .aload 0, 1, .aload_n 0), (5, .getfield 902, 3, .getfield 18), (8, .anewarray 1, 1, .iconst 1), (9, .iload 1, 1, .iload_n 1), (10, .ishl, 1, .ishl), (11, .iand, 1, .iand), (12, .ifCond .eq 19, 3, .ifCond .eq 7), (15, .anewarray 1, 1, .iconst 1), (16, .goto 20, 3, .goto 4), (19, .anewarray 0, 1, .iconst 0), (20, .dreturn, 1, .ireturn)]
def cd_X10_wholeBits : List AE := [(0, .anewarray 1, 1, .iconst 1), (1, .aload 0, 1, .aload_n 0), (2, .getfield 900, 3, .getfield 9), (5, .ishl, 1, .ishl), (6, .anewarray 1, 1, .iconst 1), (7, .isub, 1, .isub), (8, .aload 0, 1, .aload_n 0), (9, .getfield 901, 3, .getfield 15), (12, .iconst (-1), 1, .iconst (-1)), (13, .ixor, 1, .ixor), (14, .iand, 1, .iand), (15, .ireturn, 1, .ireturn)]
def cd_X10_allLoss : List AE := [(0, .anewarray 0, 1, .iconst 0), (1, .istore 1, 1, .istore_n 1), (2, .anewarray 0, 1, .iconst 0), (3, .istore 2, 1, .istore_n 2), (4, .iload 2, 1, .iload_n 2), (5, .aload 0, 1, .aload_n 0), (6, .getfield 900, 3, .getfield 9), (9, .if_icmp .ge 36, 3, .if_icmp .ge 27), (12, .iload 1, 1, .iload_n 1), (13, .aload 0, 1, .aload_n 0), (14, .getfield 904, 3, .getfield 24), (17, .iload 2, 1, .iload_n 2), (18, .iaload, 1, .iaload), (19, .aload 0, 1, .aload_n 0), (20, .getfield 905, 3, .getfield 28), (23, .iload 2, 1, .iload_n 2), (24, .iaload, 1, .iaload), (25, .invokeinterface 2200 2, 3, .invokestatic 70), (28, .iadd, 1, .iadd), (29, .istore 1, 1, .istore_n 1), (30, .iinc 2 1, 3, .iinc 2 1), (33, .goto 4, 3, .goto (-29)), (36, .iload 1, 1, .iload_n 1), (37, .ireturn, 1, .ireturn)]
def cd_X10_nextWhole : List AE := [(0, .anewarray 0, 1, .iconst 0), (1, .istore 2, 1, .istore_n 2), (2, .iload 2, 1, .iload_n 2), (3, .aload 0, 1, .aload_n 0), (4, .getfield 900, 3, .getfield 9), (7, .if_icmp .ge 35, 3, .if_icmp .ge 28), (10, .iload 1, 1, .iload_n 1), (11, .iload 2, 1, .iload_n 2), (12, .iadd, 1, .iadd), (13, .aload 0, 1, .aload_n 0), (14, .getfield 900, 3, .getfield 9), (17, .irem, 1, .irem), (18, .istore 3, 1, .istore_n 3), (19, .aload 0, 1, .aload_n 0), (20, .iload 3, 1, .iload_n 3), (21, .invokeinterface 8410 2, 3, .invokevirtual 66), (24, .ifCond .ne 29, 3, .ifCond .ne 5), (27, .iload 3, 1, .iload_n 3), (28, .ireturn, 1, .ireturn), (29, .iinc 2 1, 3, .iinc 2 1), (32, .goto 2, 3, .goto (-30)), (35, .iconst (-9), 2, .bipush (-9)), (37, .ireturn, 1, .ireturn)]
def cd_X10_wayOver : List AE := [(0, .aload 0, 1, .aload_n 0), (1, .getfield 906, 3, .getfield 31), (4, .aload 0, 1, .aload_n 0), (5, .getfield 907, 3, .getfield 34), (8, .iload 1, 1, .iload_n 1), (9, .anewarray 1, 1, .iconst 1), (10, .iadd, 1, .iadd), (11, .iaload, 1, .iaload), (12, .iaload, 1, .iaload), (13, .aload 0, 1, .aload_n 0), (14, .getfield 906, 3, .getfield 31), (17, .aload 0, 1, .aload_n 0), (18, .getfield 907, 3, .getfield 34), (21, .iload 1, 1, .iload_n 1), (22, .iaload, 1, .iaload), (23, .iaload, 1, .iaload), (24, .isub, 1, .isub), (25, .invokedynamic 3, 3, .invokestatic 75), (28, .ireturn, 1, .ireturn)]
def cd_X10_walkLength : List AE := [(0, .anewarray 0, 1, .iconst 0), (1, .istore 1, 1, .istore_n 1), (2, .anewarray 0, 1, .iconst 0), (3, .istore 2, 1, .istore_n 2), (4, .iload 2, 1, .iload_n 2), (5, .aload 0, 1, .aload_n 0), (6, .getfield 900, 3, .getfield 9), (9, .anewarray 1, 1, .iconst 1), (10, .isub, 1, .isub), (11, .if_icmp .ge 28, 3, .if_icmp .ge 17), (14, .iload 1, 1, .iload_n 1), (15, .aload 0, 1, .aload_n 0), (16, .iload 2, 1, .iload_n 2), (17, .invokeinterface 8910 2, 3, .invokevirtual 80), (20, .iadd, 1, .iadd), (21, .istore 1, 1, .istore_n 1), (22, .iinc 2 1, 3, .iinc 2 1), (25, .goto 4, 3, .goto (-21)), (28, .iload 1, 1, .iload_n 1), (29, .ireturn, 1, .ireturn)]
def cd_X10_stretches : List AE := [(0, .anewarray 0, 1, .iconst 0), (1, .istore 1, 1, .istore_n 1), (2, .anewarray 0, 1, .iconst 0), (3, .istore 2, 1, .istore_n 2), (4, .anewarray 0, 1, .iconst 0), (5, .istore 3, 1, .istore_n 3), (6, .iload 3, 1, .iload_n 3), (7, .aload 0, 1, .aload_n 0), (8, .getfield 900, 3, .getfield 9), (11, .if_icmp .ge 71, 3, .if_icmp .ge 60), (14, .aload 0, 1, .aload_n 0), (15, .aload 0, 1, .aload_n 0), (16, .getfield 907, 3, .getfield 34), (19, .iload 3, 1, .iload_n 3), (20, .iaload, 1, .iaload), (21, .invokeinterface 8410 2, 3, .invokevirtual 66), (24, .ifCond .ne 31, 3, .ifCond .ne 7), (27, .anewarray 1, 1, .iconst 1), (28, .goto 32, 3, .goto 4), (31, .anewarray 0, 1, .iconst 0), (32, .istore 4, 2, .istore 4), (34, .iload 4, 2, .iload 4), (36, .ifCond .eq 46, 3, .ifCond .eq 10), (39, .iload 2, 1, .iload_n 2), (40, .ifCond .ne 46, 3, .ifCond .ne 6), (43, .iinc 1 1, 3, .iinc 1 1), (46, .iload 4, 2, .iload 4), (48, .ifCond .eq 63, 3, .ifCond .eq 15), (51, .aload 0, 1, .aload_n 0), (52, .iload 3, 1, .iload_n 3), (53, .invokeinterface 8510 2, 3, .invokevirtual 83), (56, .ifCond .ne 63, 3, .ifCond .ne 7), (59, .anewarray 1, 1, .iconst 1), (60, .goto 64, 3, .goto 4), (63, .anewarray 0, 1, .iconst 0), (64, .istore 2, 1, .istore_n 2), (65, .iinc 3 1, 3, .iinc 3 1), (68, .goto 6, 3, .goto (-62)), (71, .iload 1, 1, .iload_n 1), (72, .ireturn, 1, .ireturn)]
def cd_X10_layInTurnUncut : List AE := [(0, .aload 0, 1, .aload_n 0), (1, .anewarray 0, 1, .iconst 0), (2, .putfield 902, 3, .putfield 18), (5, .anewarray 0, 1, .iconst 0), (6, .istore 1, 1, .istore_n 1), (7, .iload 1, 1, .iload_n 1), (8, .aload 0, 1, .aload_n 0), (9, .getfield 900, 3, .getfield 9), (12, .if_icmp .ge 35, 3, .if_icmp .ge 23), (15, .aload 0, 1, .aload_n 0), (16, .getfield 907, 3, .getfield 34), (19, .iload 1, 1, .iload_n 1), (20, .iload 1, 1, .iload_n 1), (21, .iastore, 1, .iastore), (22, .aload 0, 1, .aload_n 0), (23, .getfield 908, 3, .getfield 37), (26, .iload 1, 1, .iload_n 1), (27, .iload 1, 1, .iload_n 1), (28, .iastore, 1, .iastore), (29, .iinc 1 1, 3, .iinc 1 1), (32, .goto 7, 3, .goto (-25)), (35, .return_, 1, .return_)]
def cd_X10_layNextOrder : List AE := [(0, .aload 0, 1, .aload_n 0), (1, .getfield 900, 3, .getfield 9), (4, .anewarray 2, 1, .iconst 2), (5, .isub, 1, .isub), (6, .istore 1, 1, .istore_n 1), (7, .iload 1, 1, .iload_n 1), (8, .ifCond .lt 34, 3, .ifCond .lt 26), (11, .aload 0, 1, .aload_n 0), (12, .getfield 907, 3, .getfield 34), (15, .iload 1, 1, .iload_n 1), (16, .iaload, 1, .iaload), (17, .aload 0, 1, .aload_n 0), (18, .getfield 907, 3, .getfield 34), (21, .iload 1, 1, .iload_n 1), (22, .anewarray 1, 1, .iconst 1), (23, .iadd, 1, .iadd), (24, .iaload, 1, .iaload), (25, .if_icmp .le 34, 3, .if_icmp .le 9), (28, .iinc 1 (-1), 3, .iinc 1 (-1)), (31, .goto 7, 3, .goto (-24)), (34, .iload 1, 1, .iload_n 1), (35, .ifCond .ge 40, 3, .ifCond .ge 5), (38, .anewarray 0, 1, .iconst 0), (39, .dreturn, 1, .ireturn), (40, .aload 0, 1, .aload_n 0), (41, .getfield 900, 3, .getfield 9), (44, .anewarray 1, 1, .iconst 1), (45, .isub, 1, .isub), (46, .istore 2, 1, .istore_n 2), (47, .iload 2, 1, .iload_n 2), (48, .iload 1, 1, .iload_n 1), (49, .if_icmp .le 73, 3, .if_icmp .le 24), (52, .aload 0, 1, .aload_n 0), (53, .getfield 907, 3, .getfield 34), (56, .iload 2, 1, .iload_n 2), (57, .iaload, 1, .iaload), (58, .aload 0, 1, .aload_n 0), (59, .getfield 907, 3, .getfield 34), (62, .iload 1, 1, .iload_n 1), (63, .iaload, 1, .iaload), (64, .if_icmp .ge 73, 3, .if_icmp .ge 9), (67, .iinc 2 (-1), 3, .iinc 2 (-1)), (70, .goto 47, 3, .goto (-23)), (73, .aload 0, 1, .aload_n 0), (74, .iload 1, 1, .iload_n 1), (75, .iload 2, 1, .iload_n 2), (76, .invokeinterface 8310 3, 3, .invokevirtual 86), (79, .iload 1, 1, .iload_n 1), (80, .anewarray 1, 1, .iconst 1), (81, .iadd, 1, .iadd), (82, .istore 3, 1, .istore_n 3), (83, .aload 0, 1, .aload_n 0), (84, .getfield 900, 3, .getfield 9), (87, .anewarray 1, 1, .iconst 1), (88, .isub, 1, .isub), (89, .istore 4, 2, .istore 4), (91, .iload 3, 1, .iload_n 3), (92, .iload 4, 2, .iload 4), (94, .if_icmp .ge 113, 3, .if_icmp .ge 19), (97, .aload 0, 1, .aload_n 0), (98, .iload 3, 1, .iload_n 3), (99, .iload 4, 2, .iload 4), (101, .invokeinterface 8310 3, 3, .invokevirtual 86), (104, .iinc 3 1, 3, .iinc 3 1), (107, .iinc 4 (-1), 3, .iinc 4 (-1)), (110, .goto 91, 3, .goto (-19)), (113, .anewarray 1, 1, .iconst 1), (114, .dreturn, 1, .ireturn)]
def cd_X11_feed : List AE := [(0, .iload 1, 1, .iload_n 1), (1, .anewarray 0, 1, .iconst 0), (2, .invokeinterface 14400 2, 3, .invokestatic 83), (5, .iload 1, 1, .iload_n 1), (6, .anewarray 255, 3, .sipush 255), (9, .invokeinterface 14500 2, 3, .invokestatic 87), (12, .invokeinterface 14300 2, 3, .invokestatic 90), (15, .istore 2, 1, .istore_n 2), (16, .iload 2, 1, .iload_n 2), (17, .aload 0, 1, .aload_n 0), (18, .getfield 1004, 3, .getfield 33), (21, .getfield 703, 3, .getfield 93), (24, .anewarray 1, 1, .iconst 1), (25, .iadd, 1, .iadd), (26, .anewarray 96, 2, .bipush 96), (28, .invokeinterface 14500 2, 3, .invokestatic 87), (31, .invokeinterface 14300 2, 3, .invokestatic 90), (34, .istore 2, 1, .istore_n 2), (35, .iload 2, 1, .iload_n 2), (36, .ifCond .eq 45, 3, .ifCond .eq 9), (39, .aload 0, 1, .aload_n 0), (40, .iload 2, 1, .iload_n 2), (41, .invokeinterface 14111 2, 3, .invokevirtual 97), (44, .ireturn, 1, .ireturn), (45, .aload 0, 1, .aload_n 0), (46, .getfield 1004, 3, .getfield 33), (49, .iload 1, 1, .iload_n 1), (50, .invokeinterface 5308 2, 3, .invokevirtual 101), (53, .ireturn, 1, .ireturn)]
def cd_X11_valley : List AE := [(0, .aload 0, 1, .aload_n 0), (1, .getfield 1004, 3, .getfield 33), (4, .invokeinterface 5408 1, 3, .invokevirtual 104), (7, .istore 1, 1, .istore_n 1), (8, .iload 1, 1, .iload_n 1), (9, .iconst (-9), 2, .bipush (-9)), (11, .if_icmp .eq 22, 3, .if_icmp .eq 11), (14, .iconst (-1000), 3, .sipush (-1000)), (17, .iload 1, 1, .iload_n 1), (18, .isub, 1, .isub), (19, .goto 33, 3, .goto 14), (22, .aload 0, 1, .aload_n 0), (23, .getfield 1004, 3, .getfield 33), (26, .aload 0, 1, .aload_n 0), (27, .getfield 1000, 3, .getfield 10), (30, .invokeinterface 5508 2, 3, .invokevirtual 108), (33, .istore 2, 1, .istore_n 2), (34, .aload 0, 1, .aload_n 0), (35, .getfield 1004, 3, .getfield 33), (38, .anewarray 0, 1, .iconst 0), (39, .putfield 703, 3, .putfield 93), (42, .iload 2, 1, .iload_n 2), (43, .ifCond .le 53, 3, .ifCond .le 10), (46, .aload 0, 1, .aload_n 0), (47, .getfield 1003, 3, .getfield 26), (50, .invokeinterface 3305 1, 3, .invokevirtual 112), (53, .iload 2, 1, .iload_n 2), (54, .ireturn, 1, .ireturn)]
def cd_X11_thingOf : List AE := [(0, .aload 0, 1, .aload_n 0), (1, .getfield 1000, 3, .getfield 10), (4, .iload 1, 1, .iload_n 1), (5, .invokeinterface 7410 2, 3, .invokevirtual 115), (8, .iload 2, 1, .iload_n 2), (9, .anewarray 6, 2, .bipush 6), (11, .invokeinterface 14700 2, 3, .invokestatic 118), (14, .invokeinterface 14300 2, 3, .invokestatic 90), (17, .istore 3, 1, .istore_n 3), (18, .iload 3, 1, .iload_n 3), (19, .ifCond .eq 28, 3, .ifCond .eq 9), (22, .aload 0, 1, .aload_n 0), (23, .iload 3, 1, .iload_n 3), (24, .invokeinterface 14111 2, 3, .invokevirtual 97), (27, .ireturn, 1, .ireturn), (28, .iload 2, 1, .iload_n 2), (29, .tableswitch 159 0 5 #[68, 78, 88, 98, 115, 137], 39, .tableswitch 130 0 5 #[39, 49, 59, 69, 86, 108]), (68, .aload 0, 1, .aload_n 0), (69, .getfield 1000, 3, .getfield 10), (72, .getfield 904, 3, .getfield 121), (75, .iload 1, 1, .iload_n 1), (76, .iaload, 1, .iaload), (77, .ireturn, 1, .ireturn), (78, .aload 0, 1, .aload_n 0), (79, .getfield 1000, 3, .getfield 10), (82, .getfield 905, 3, .getfield 124), (85, .iload 1, 1, .iload_n 1), (86, .iaload, 1, .iaload), (87, .ireturn, 1, .ireturn), (88, .aload 0, 1, .aload_n 0), (89, .getfield 1000, 3, .getfield 10), (92, .getfield 906, 3, .getfield 127), (95, .iload 1, 1, .iload_n 1), (96, .iaload, 1, .iaload), (97, .ireturn, 1, .ireturn), (98, .aload 0, 1, .aload_n 0), (99, .getfield 1000, 3, .getfield 10), (102, .iload 1, 1, .iload_n 1), (103, .invokeinterface 8410 2, 3, .invokevirtual 130), (106, .ifCond .eq 113, 3, .ifCond .eq 7), (109, .anewarray 1, 1, .iconst 1), (110, .goto 114, 3, .goto 4), (113, .anewarray 0, 1, .iconst 0), (114, .ireturn, 1, .ireturn), (115, .aload 0, 1, .aload_n 0), (116, .getfield 1000, 3, .getfield 10), (119, .getfield 904, 3, .getfield 121), (122, .iload 1, 1, .iload_n 1), (123, .iaload, 1, .iaload), (124, .aload 0, 1, .aload_n 0), (125, .getfield 1000, 3, .getfield 10), (128, .getfield 905, 3, .getfield 124), (131, .iload 1, 1, .iload_n 1), (132, .iaload, 1, .iaload), (133, .invokeinterface 2200 2, 3, .invokestatic 134), (136, .ireturn, 1, .ireturn), (137, .aload 0, 1, .aload_n 0), (138, .getfield 1000, 3, .getfield 10), (141, .getfield 904, 3, .getfield 121), (144, .iload 1, 1, .iload_n 1), (145, .iaload, 1, .iaload), (146, .aload 0, 1, .aload_n 0), (147, .getfield 1000, 3, .getfield 10), (150, .getfield 905, 3, .getfield 124), (153, .iload 1, 1, .iload_n 1), (154, .iaload, 1, .iaload), (155, .invokeinterface 2300 2, 3, .invokestatic 139), (158, .ireturn, 1, .ireturn), (159, .aload 0, 1, .aload_n 0), (160, .getfield 1000, 3, .getfield 10), (163, .getfield 908, 3, .getfield 142), (166, .iload 1, 1, .iload_n 1), (167, .iaload, 1, .iaload), (168, .ireturn, 1, .ireturn)]
def cd_X11_place : List AE := [(0, .aload 0, 1, .aload_n 0), (1, .getfield 1000, 3, .getfield 10), (4, .iload 1, 1, .iload_n 1), (5, .invokeinterface 7410 2, 3, .invokevirtual 115), (8, .iload 2, 1, .iload_n 2), (9, .anewarray 1, 1, .iconst 1), (10, .invokeinterface 14700 2, 3, .invokestatic 118), (13, .invokeinterface 14300 2, 3, .invokestatic 90), (16, .istore 3, 1, .istore_n 3), (17, .iload 3, 1, .iload_n 3), (18, .ifCond .eq 27, 3, .ifCond .eq 9), (21, .aload 0, 1, .aload_n 0), (22, .iload 3, 1, .iload_n 3), (23, .invokeinterface 14111 2, 3, .invokevirtual 97), (26, .ireturn, 1, .ireturn), (27, .iload 2, 1, .iload_n 2), (28, .ifCond .ne 41, 3, .ifCond .ne 13), (31, .aload 0, 1, .aload_n 0), (32, .getfield 1000, 3, .getfield 10), (35, .getfield 907, 3, .getfield 145), (38, .iload 1, 1, .iload_n 1), (39, .iaload, 1, .iaload), (40, .ireturn, 1, .ireturn), (41, .iload 1, 1, .iload_n 1), (42, .aload 0, 1, .aload_n 0), (43, .getfield 1000, 3, .getfield 10), (46, .getfield 900, 3, .getfield 148), (49, .anewarray 1, 1, .iconst 1), (50, .isub, 1, .isub), (51, .if_icmp .ne 57, 3, .if_icmp .ne 6), (54, .iconst (-9), 2, .bipush (-9)), (56, .ireturn, 1, .ireturn), (57, .aload 0, 1, .aload_n 0), (58, .getfield 1000, 3, .getfield 10), (61, .iload 1, 1, .iload_n 1), (62, .invokeinterface 8510 2, 3, .invokevirtual 151), (65, .ifCond .eq 72, 3, .ifCond .eq 7), (68, .anewarray 1, 1, .iconst 1), (69, .goto 73, 3, .goto 4), (72, .anewarray 0, 1, .iconst 0), (73, .ireturn, 1, .ireturn)]
def cd_X11_thing : List AE := [(0, .aload 0, 1, .aload_n 0), (1, .getfield 1000, 3, .getfield 10), (4, .iload 1, 1, .iload_n 1), (5, .iload 2, 1, .iload_n 2), (6, .iload 3, 1, .iload_n 3), (7, .invokeinterface 7610 4, 3, .invokevirtual 154), (10, .istore 4, 2, .istore 4), (12, .iload 4, 2, .iload 4), (14, .ifCond .eq 24, 3, .ifCond .eq 10), (17, .aload 0, 1, .aload_n 0), (18, .iload 4, 2, .iload 4), (20, .invokeinterface 14111 2, 3, .invokevirtual 97), (23, .ireturn, 1, .ireturn), (24, .aload 0, 1, .aload_n 0), (25, .getfield 1003, 3, .getfield 26), (28, .invokeinterface 3305 1, 3, .invokevirtual 112), (31, .aload 0, 1, .aload_n 0), (32, .getfield 1000, 3, .getfield 10), (35, .iload 1, 1, .iload_n 1), (36, .iload 2, 1, .iload_n 2), (37, .iload 3, 1, .iload_n 3), (38, .invokeinterface 8010 4, 3, .invokevirtual 158), (41, .ireturn, 1, .ireturn)]
def cd_X11_drops : List AE := [(0, .aload 0, 1, .aload_n 0), (1, .getfield 1000, 3, .getfield 10), (4, .iload 1, 1, .iload_n 1), (5, .iload 2, 1, .iload_n 2), (6, .invokeinterface 7710 3, 3, .invokevirtual 161), (9, .istore 3, 1, .istore_n 3), (10, .iload 3, 1, .iload_n 3), (11, .ifCond .eq 20, 3, .ifCond .eq 9), (14, .aload 0, 1, .aload_n 0), (15, .iload 3, 1, .iload_n 3), (16, .invokeinterface 14111 2, 3, .invokevirtual 97), (19, .ireturn, 1, .ireturn), (20, .aload 0, 1, .aload_n 0), (21, .getfield 1003, 3, .getfield 26), (24, .aload 0, 1, .aload_n 0), (25, .getfield 1000, 3, .getfield 10), (28, .invokeinterface 3105 2, 3, .invokevirtual 164), (31, .aload 0, 1, .aload_n 0), (32, .getfield 1006, 3, .getfield 47), (35, .aload 0, 1, .aload_n 0), (36, .getfield 1000, 3, .getfield 10), (39, .iload 1, 1, .iload_n 1), (40, .iload 2, 1, .iload_n 2), (41, .invokeinterface 6309 4, 3, .invokevirtual 168), (44, .aload 0, 1, .aload_n 0), (45, .getfield 1006, 3, .getfield 47), (48, .invokeinterface 6809 1, 3, .invokevirtual 172), (51, .ireturn, 1, .ireturn)]
def cd_X11_mends : List AE := [(0, .aload 0, 1, .aload_n 0), (1, .getfield 1000, 3, .getfield 10), (4, .iload 1, 1, .iload_n 1), (5, .invokeinterface 7810 2, 3, .invokevirtual 175), (8, .istore 2, 1, .istore_n 2), (9, .iload 2, 1, .iload_n 2), (10, .ifCond .eq 19, 3, .ifCond .eq 9), (13, .aload 0, 1, .aload_n 0), (14, .iload 2, 1, .iload_n 2), (15, .invokeinterface 14111 2, 3, .invokevirtual 97), (18, .ireturn, 1, .ireturn), (19, .aload 0, 1, .aload_n 0), (20, .getfield 1003, 3, .getfield 26), (23, .aload 0, 1, .aload_n 0), (24, .getfield 1000, 3, .getfield 10), (27, .invokeinterface 3105 2, 3, .invokevirtual 164), (30, .aload 0, 1, .aload_n 0), (31, .getfield 1000, 3, .getfield 10), (34, .iload 1, 1, .iload_n 1), (35, .invokeinterface 8110 2, 3, .invokevirtual 178), (38, .aload 0, 1, .aload_n 0), (39, .getfield 1000, 3, .getfield 10), (42, .getfield 901, 3, .getfield 182), (45, .invokeinterface 25700 1, 3, .invokestatic 185), (48, .ireturn, 1, .ireturn)]
def cd_X11_cuts : List AE := [(0, .aload 0, 1, .aload_n 0), (1, .getfield 1000, 3, .getfield 10), (4, .iload 1, 1, .iload_n 1), (5, .invokeinterface 7510 2, 3, .invokevirtual 190), (8, .istore 2, 1, .istore_n 2), (9, .iload 2, 1, .iload_n 2), (10, .ifCond .eq 19, 3, .ifCond .eq 9), (13, .aload 0, 1, .aload_n 0), (14, .iload 2, 1, .iload_n 2), (15, .invokeinterface 14111 2, 3, .invokevirtual 97), (18, .ireturn, 1, .ireturn), (19, .aload 0, 1, .aload_n 0), (20, .getfield 1003, 3, .getfield 26), (23, .aload 0, 1, .aload_n 0), (24, .getfield 1000, 3, .getfield 10), (27, .invokeinterface 3105 2, 3, .invokevirtual 164), (30, .aload 0, 1, .aload_n 0), (31, .getfield 1000, 3, .getfield 10), (34, .iload 1, 1, .iload_n 1), (35, .invokeinterface 8210 2, 3, .invokevirtual 193), (38, .aload 0, 1, .aload_n 0), (39, .getfield 1000, 3, .getfield 10), (42, .iload 1, 1, .iload_n 1), (43, .invokeinterface 8510 2, 3, .invokevirtual 151), (46, .ifCond .eq 53, 3, .ifCond .eq 7), (49, .anewarray 1, 1, .iconst 1), (50, .goto 54, 3, .goto 4), (53, .anewarray 0, 1, .iconst 0), (54, .ireturn, 1, .ireturn)]
def cd_X11_changes : List AE := [(0, .aload 0, 1, .aload_n 0), (1, .getfield 1000, 3, .getfield 10), (4, .iload 1, 1, .iload_n 1), (5, .iload 2, 1, .iload_n 2), (6, .invokeinterface 7910 3, 3, .invokevirtual 196), (9, .istore 3, 1, .istore_n 3), (10, .iload 3, 1, .iload_n 3), (11, .ifCond .eq 20, 3, .ifCond .eq 9), (14, .aload 0, 1, .aload_n 0), (15, .iload 3, 1, .iload_n 3), (16, .invokeinterface 14111 2, 3, .invokevirtual 97), (19, .ireturn, 1, .ireturn), (20, .aload 0, 1, .aload_n 0), (21, .getfield 1003, 3, .getfield 26), (24, .aload 0, 1, .aload_n 0), (25, .getfield 1000, 3, .getfield 10), (28, .invokeinterface 3105 2, 3, .invokevirtual 164), (31, .aload 0, 1, .aload_n 0), (32, .getfield 1000, 3, .getfield 10), (35, .iload 1, 1, .iload_n 1), (36, .iload 2, 1, .iload_n 2), (37, .invokeinterface 8310 3, 3, .invokevirtual 199), (40, .aload 0, 1, .aload_n 0), (41, .getfield 1000, 3, .getfield 10), (44, .getfield 907, 3, .getfield 145), (47, .iload 1, 1, .iload_n 1), (48, .iaload, 1, .iaload), (49, .ireturn, 1, .ireturn)]
def cd_X11_back : List AE := [(0, .aload 0, 1, .aload_n 0), (1, .getfield 1003, 3, .getfield 26), (4, .getfield 402, 3, .getfield 203), (7, .ifCond .ne 17, 3, .ifCond .ne 10), (10, .aload 0, 1, .aload_n 0), (11, .iconst (-3), 2, .bipush (-3)), (13, .invokeinterface 14111 2, 3, .invokevirtual 97), (16, .ireturn, 1, .ireturn), (17, .aload 0, 1, .aload_n 0), (18, .getfield 1003, 3, .getfield 26), (21, .aload 0, 1, .aload_n 0), (22, .getfield 1000, 3, .getfield 10), (25, .invokeinterface 3205 2, 3, .invokevirtual 206), (28, .ireturn, 1, .ireturn)]
def cd_X11_gets : List AE := [(0, .aload 0, 1, .aload_n 0), (1, .getfield 1000, 3, .getfield 10), (4, .iload 1, 1, .iload_n 1), (5, .invokeinterface 7410 2, 3, .invokevirtual 115), (8, .aload 0, 1, .aload_n 0), (9, .getfield 1000, 3, .getfield 10), (12, .iload 3, 1, .iload_n 3), (13, .invokeinterface 7410 2, 3, .invokevirtual 115), (16, .invokeinterface 14300 2, 3, .invokestatic 90), (19, .istore 5, 2, .istore 5), (21, .iload 5, 2, .iload 5), (23, .iload 2, 1, .iload_n 2), (24, .invokeinterface 14600 1, 3, .invokestatic 209), (27, .invokeinterface 14300 2, 3, .invokestatic 90), (30, .iload 4, 2, .iload 4), (32, .anewarray 1, 1, .iconst 1), (33, .invokeinterface 14700 2, 3, .invokestatic 118), (36, .invokeinterface 14300 2, 3, .invokestatic 90), (39, .istore 5, 2, .istore 5), (41, .iload 5, 2, .iload 5), (43, .ifCond .eq 53, 3, .ifCond .eq 10), (46, .aload 0, 1, .aload_n 0), (47, .iload 5, 2, .iload 5), (49, .invokeinterface 14111 2, 3, .invokevirtual 97), (52, .ireturn, 1, .ireturn), (53, .aload 0, 1, .aload_n 0), (54, .getfield 1006, 3, .getfield 47), (57, .aload 0, 1, .aload_n 0), (58, .getfield 1000, 3, .getfield 10), (61, .iload 1, 1, .iload_n 1), (62, .iload 2, 1, .iload_n 2), (63, .invokeinterface 6209 4, 3, .invokevirtual 212), (66, .iload 4, 2, .iload 4), (68, .ifCond .ne 83, 3, .ifCond .ne 15), (71, .aload 0, 1, .aload_n 0), (72, .getfield 1006, 3, .getfield 47), (75, .getfield 800, 3, .getfield 215), (78, .iload 3, 1, .iload_n 3), (79, .iaload, 1, .iaload), (80, .goto 95, 3, .goto 15), (83, .aload 0, 1, .aload_n 0), (84, .getfield 1006, 3, .getfield 47), (87, .aload 0, 1, .aload_n 0), (88, .getfield 1000, 3, .getfield 10), (91, .iload 3, 1, .iload_n 3), (92, .invokeinterface 7009 3, 3, .invokevirtual 218), (95, .ireturn, 1, .ireturn)]
def cd_X11_blow : List AE := [(0, .aload 0, 1, .aload_n 0), (1, .getfield 1000, 3, .getfield 10), (4, .iload 1, 1, .iload_n 1), (5, .invokeinterface 7410 2, 3, .invokevirtual 115), (8, .iload 2, 1, .iload_n 2), (9, .invokeinterface 14600 1, 3, .invokestatic 209), (12, .invokeinterface 14300 2, 3, .invokestatic 90), (15, .iload 3, 1, .iload_n 3), (16, .anewarray 4, 1, .iconst 4), (17, .invokeinterface 14700 2, 3, .invokestatic 118), (20, .invokeinterface 14300 2, 3, .invokestatic 90), (23, .istore 4, 2, .istore 4), (25, .iload 4, 2, .iload 4), (27, .ifCond .eq 37, 3, .ifCond .eq 10), (30, .aload 0, 1, .aload_n 0), (31, .iload 4, 2, .iload 4), (33, .invokeinterface 14111 2, 3, .invokevirtual 97), (36, .ireturn, 1, .ireturn), (37, .aload 0, 1, .aload_n 0), (38, .getfield 1006, 3, .getfield 47), (41, .aload 0, 1, .aload_n 0), (42, .getfield 1000, 3, .getfield 10), (45, .iload 1, 1, .iload_n 1), (46, .iload 2, 1, .iload_n 2), (47, .invokeinterface 6209 4, 3, .invokevirtual 212), (50, .iload 3, 1, .iload_n 3), (51, .tableswitch 116 0 3 #[80, 88, 96, 104], 29, .tableswitch 65 0 3 #[29, 37, 45, 53]), (80, .aload 0, 1, .aload_n 0), (81, .getfield 1006, 3, .getfield 47), (84, .getfield 801, 3, .getfield 222), (87, .ireturn, 1, .ireturn), (88, .aload 0, 1, .aload_n 0), (89, .getfield 1006, 3, .getfield 47), (92, .getfield 802, 3, .getfield 225), (95, .ireturn, 1, .ireturn), (96, .aload 0, 1, .aload_n 0), (97, .getfield 1006, 3, .getfield 47), (100, .invokeinterface 6709 1, 3, .invokevirtual 228), (103, .ireturn, 1, .ireturn), (104, .aload 0, 1, .aload_n 0), (105, .getfield 1006, 3, .getfield 47), (108, .aload 0, 1, .aload_n 0), (109, .getfield 1000, 3, .getfield 10), (112, .invokeinterface 7109 2, 3, .invokevirtual 231), (115, .ireturn, 1, .ireturn), (116, .aload 0, 1, .aload_n 0), (117, .getfield 1006, 3, .getfield 47), (120, .aload 0, 1, .aload_n 0), (121, .getfield 1000, 3, .getfield 10), (124, .iload 1, 1, .iload_n 1), (125, .invokeinterface 7209 3, 3, .invokevirtual 234), (128, .ireturn, 1, .ireturn)]
def cd_X11_reaches : List AE := [(0, .aload 0, 1, .aload_n 0), (1, .getfield 1000, 3, .getfield 10), (4, .iload 1, 1, .iload_n 1), (5, .invokeinterface 7410 2, 3, .invokevirtual 115), (8, .aload 0, 1, .aload_n 0), (9, .getfield 1000, 3, .getfield 10), (12, .iload 2, 1, .iload_n 2), (13, .invokeinterface 7410 2, 3, .invokevirtual 115), (16, .invokeinterface 14300 2, 3, .invokestatic 90), (19, .istore 3, 1, .istore_n 3), (20, .iload 3, 1, .iload_n 3), (21, .ifCond .eq 30, 3, .ifCond .eq 9), (24, .aload 0, 1, .aload_n 0), (25, .iload 3, 1, .iload_n 3), (26, .invokeinterface 14111 2, 3, .invokevirtual 97), (29, .ireturn, 1, .ireturn), (30, .aload 0, 1, .aload_n 0), (31, .getfield 1007, 3, .getfield 54), (34, .aload 0, 1, .aload_n 0), (35, .getfield 1000, 3, .getfield 10), (38, .iload 1, 1, .iload_n 1), (39, .iload 2, 1, .iload_n 2), (40, .invokeinterface 402 4, 3, .invokevirtual 237), (43, .ireturn, 1, .ireturn)]
def cd_X11_breaks : List AE := [(0, .aload 0, 1, .aload_n 0), (1, .getfield 1000, 3, .getfield 10), (4, .iload 1, 1, .iload_n 1), (5, .invokeinterface 7410 2, 3, .invokevirtual 115), (8, .aload 0, 1, .aload_n 0), (9, .getfield 1000, 3, .getfield 10), (12, .iload 2, 1, .iload_n 2), (13, .invokeinterface 7410 2, 3, .invokevirtual 115), (16, .invokeinterface 14300 2, 3, .invokestatic 90), (19, .istore 3, 1, .istore_n 3), (20, .iload 3, 1, .iload_n 3), (21, .ifCond .eq 30, 3, .ifCond .eq 9), (24, .aload 0, 1, .aload_n 0), (25, .iload 3, 1, .iload_n 3), (26, .invokeinterface 14111 2, 3, .invokevirtual 97), (29, .ireturn, 1, .ireturn), (30, .aload 0, 1, .aload_n 0), (31, .getfield 1007, 3, .getfield 54), (34, .aload 0, 1, .aload_n 0), (35, .getfield 1000, 3, .getfield 10), (38, .iload 1, 1, .iload_n 1), (39, .iload 2, 1, .iload_n 2), (40, .invokeinterface 502 4, 3, .invokevirtual 241), (43, .ireturn, 1, .ireturn)]
def cd_X11_harm : List AE := [(0, .aload 0, 1, .aload_n 0), (1, .getfield 1000, 3, .getfield 10), (4, .iload 1, 1, .iload_n 1), (5, .invokeinterface 7410 2, 3, .invokevirtual 115), (8, .iload 2, 1, .iload_n 2), (9, .anewarray 1, 1, .iconst 1), (10, .invokeinterface 14700 2, 3, .invokestatic 118), (13, .invokeinterface 14300 2, 3, .invokestatic 90), (16, .istore 3, 1, .istore_n 3), (17, .iload 3, 1, .iload_n 3), (18, .ifCond .eq 27, 3, .ifCond .eq 9), (21, .aload 0, 1, .aload_n 0), (22, .iload 3, 1, .iload_n 3), (23, .invokeinterface 14111 2, 3, .invokevirtual 97), (26, .ireturn, 1, .ireturn), (27, .aload 0, 1, .aload_n 0), (28, .getfield 1007, 3, .getfield 54), (31, .aload 0, 1, .aload_n 0), (32, .getfield 1000, 3, .getfield 10), (35, .iload 1, 1, .iload_n 1), (36, .invokeinterface 702 3, 3, .invokevirtual 244), (39, .iload 2, 1, .iload_n 2), (40, .invokeinterface 301 2, 3, .invokevirtual 248), (43, .ireturn, 1, .ireturn)]
def cd_X11_tap : List AE := [(0, .aload 0, 1, .aload_n 0), (1, .getfield 1000, 3, .getfield 10), (4, .iload 1, 1, .iload_n 1), (5, .invokeinterface 7410 2, 3, .invokevirtual 115), (8, .istore 2, 1, .istore_n 2), (9, .iload 2, 1, .iload_n 2), (10, .ifCond .eq 19, 3, .ifCond .eq 9), (13, .aload 0, 1, .aload_n 0), (14, .iload 2, 1, .iload_n 2), (15, .invokeinterface 14111 2, 3, .invokevirtual 97), (18, .ireturn, 1, .ireturn), (19, .aload 0, 1, .aload_n 0), (20, .getfield 1007, 3, .getfield 54), (23, .aload 0, 1, .aload_n 0), (24, .getfield 1000, 3, .getfield 10), (27, .iload 1, 1, .iload_n 1), (28, .invokeinterface 802 3, 3, .invokevirtual 253), (31, .getfield 0, 3, .getfield 256), (34, .ireturn, 1, .ireturn)]
def cd_X11_who : List AE := [(0, .iload 1, 1, .iload_n 1), (1, .anewarray 2, 1, .iconst 2), (2, .invokeinterface 14700 2, 3, .invokestatic 118), (5, .aload 0, 1, .aload_n 0), (6, .invokeinterface 14211 1, 3, .invokevirtual 259), (9, .invokeinterface 14300 2, 3, .invokestatic 90), (12, .istore 2, 1, .istore_n 2), (13, .iload 2, 1, .iload_n 2), (14, .ifCond .eq 23, 3, .ifCond .eq 9), (17, .aload 0, 1, .aload_n 0), (18, .iload 2, 1, .iload_n 2), (19, .invokeinterface 14111 2, 3, .invokevirtual 97), (22, .ireturn, 1, .ireturn), (23, .aload 0, 1, .aload_n 0), (24, .getfield 1007, 3, .getfield 54), (27, .aload 0, 1, .aload_n 0), (28, .getfield 1000, 3, .getfield 10), (31, .aload 0, 1, .aload_n 0), (32, .getfield 1005, 3, .getfield 40), (35, .invokeinterface 902 3, 3, .invokevirtual 262), (38, .iload 1, 1, .iload_n 1), (39, .lookupswitch 80 #[(0, 64), (1, 72)], 25, .lookupswitch 41 #[(0, 25), (1, 33)]), (64, .aload 0, 1, .aload_n 0), (65, .getfield 1007, 3, .getfield 54), (68, .getfield 103, 3, .getfield 266), (71, .ireturn, 1, .ireturn), (72, .aload 0, 1, .aload_n 0), (73, .getfield 1007, 3, .getfield 54), (76, .getfield 104, 3, .getfield 269), (79, .ireturn, 1, .ireturn), (80, .aload 0, 1, .aload_n 0), (81, .getfield 1007, 3, .getfield 54), (84, .getfield 105, 3, .getfield 272), (87, .ireturn, 1, .ireturn)]
def cd_X11_whatKind : List AE := [(0, .aload 0, 1, .aload_n 0), (1, .getfield 1000, 3, .getfield 10), (4, .iload 1, 1, .iload_n 1), (5, .invokeinterface 7410 2, 3, .invokevirtual 115), (8, .aload 0, 1, .aload_n 0), (9, .getfield 1000, 3, .getfield 10), (12, .iload 3, 1, .iload_n 3), (13, .invokeinterface 7410 2, 3, .invokevirtual 115), (16, .invokeinterface 14300 2, 3, .invokestatic 90), (19, .istore 5, 2, .istore 5), (21, .iload 5, 2, .iload 5), (23, .iload 2, 1, .iload_n 2), (24, .invokeinterface 14600 1, 3, .invokestatic 209), (27, .invokeinterface 14300 2, 3, .invokestatic 90), (30, .iload 4, 2, .iload 4), (32, .anewarray 1, 1, .iconst 1), (33, .invokeinterface 14700 2, 3, .invokestatic 118), (36, .invokeinterface 14300 2, 3, .invokestatic 90), (39, .istore 5, 2, .istore 5), (41, .iload 5, 2, .iload 5), (43, .aload 0, 1, .aload_n 0), (44, .invokeinterface 14211 1, 3, .invokevirtual 259), (47, .invokeinterface 14300 2, 3, .invokestatic 90), (50, .istore 5, 2, .istore 5), (52, .iload 5, 2, .iload 5), (54, .ifCond .eq 64, 3, .ifCond .eq 10), (57, .aload 0, 1, .aload_n 0), (58, .iload 5, 2, .iload 5), (60, .invokeinterface 14111 2, 3, .invokevirtual 97), (63, .ireturn, 1, .ireturn), (64, .iload 4, 2, .iload 4), (66, .ifCond .ne 88, 3, .ifCond .ne 22), (69, .aload 0, 1, .aload_n 0), (70, .getfield 1007, 3, .getfield 54), (73, .aload 0, 1, .aload_n 0), (74, .getfield 1000, 3, .getfield 10), (77, .aload 0, 1, .aload_n 0), (78, .getfield 1005, 3, .getfield 40), (81, .iload 1, 1, .iload_n 1), (82, .iload 2, 1, .iload_n 2), (83, .iload 3, 1, .iload_n 3), (84, .invokeinterface 1102 6, 3, .invokevirtual 275), (87, .ireturn, 1, .ireturn), (88, .aload 0, 1, .aload_n 0), (89, .getfield 1007, 3, .getfield 54), (92, .aload 0, 1, .aload_n 0), (93, .getfield 1000, 3, .getfield 10), (96, .aload 0, 1, .aload_n 0), (97, .getfield 1005, 3, .getfield 40), (100, .iload 1, 1, .iload_n 1), (101, .iload 2, 1, .iload_n 2), (102, .iload 3, 1, .iload_n 3), (103, .invokeinterface 1202 6, 3, .invokevirtual 279), (106, .ireturn, 1, .ireturn)]
def cd_X11_worst : List AE := [(0, .iload 1, 1, .iload_n 1), (1, .invokeinterface 14600 1, 3, .invokestatic 209), (4, .iload 2, 1, .iload_n 2), (5, .anewarray 1, 1, .iconst 1), (6, .invokeinterface 14700 2, 3, .invokestatic 118), (9, .invokeinterface 14300 2, 3, .invokestatic 90), (12, .istore 3, 1, .istore_n 3), (13, .iload 3, 1, .iload_n 3), (14, .ifCond .eq 23, 3, .ifCond .eq 9), (17, .aload 0, 1, .aload_n 0), (18, .iload 3, 1, .iload_n 3), (19, .invokeinterface 14111 2, 3, .invokevirtual 97), (22, .ireturn, 1, .ireturn), (23, .aload 0, 1, .aload_n 0), (24, .getfield 1008, 3, .getfield 61), (27, .aload 0, 1, .aload_n 0), (28, .getfield 1000, 3, .getfield 10), (31, .iload 1, 1, .iload_n 1), (32, .invokeinterface 3406 3, 3, .invokevirtual 282), (35, .astore 4, 2, .astore 4), (37, .aload 4, 2, .aload 4), (39, .getfield 0, 3, .getfield 256), (42, .iconst (-9), 2, .bipush (-9)), (44, .if_icmp .ne 54, 3, .if_icmp .ne 10), (47, .iload 2, 1, .iload_n 2), (48, .anewarray 1, 1, .iconst 1), (49, .if_icmp .ne 54, 3, .if_icmp .ne 5), (52, .anewarray 0, 1, .iconst 0), (53, .ireturn, 1, .ireturn), (54, .aload 4, 2, .aload 4), (56, .iload 2, 1, .iload_n 2), (57, .invokeinterface 301 2, 3, .invokevirtual 248), (60, .ireturn, 1, .ireturn)]
def cd_X11_bestCut : List AE := [(0, .iload 1, 1, .iload_n 1), (1, .invokeinterface 14600 1, 3, .invokestatic 209), (4, .iload 2, 1, .iload_n 2), (5, .anewarray 1, 1, .iconst 1), (6, .invokeinterface 14700 2, 3, .invokestatic 118), (9, .invokeinterface 14300 2, 3, .invokestatic 90), (12, .istore 3, 1, .istore_n 3), (13, .iload 3, 1, .iload_n 3), (14, .ifCond .eq 23, 3, .ifCond .eq 9), (17, .aload 0, 1, .aload_n 0), (18, .iload 3, 1, .iload_n 3), (19, .invokeinterface 14111 2, 3, .invokevirtual 97), (22, .ireturn, 1, .ireturn), (23, .aload 0, 1, .aload_n 0), (24, .getfield 1008, 3, .getfield 61), (27, .aload 0, 1, .aload_n 0), (28, .getfield 1000, 3, .getfield 10), (31, .iload 1, 1, .iload_n 1), (32, .invokeinterface 3506 3, 3, .invokevirtual 285), (35, .iload 2, 1, .iload_n 2), (36, .invokeinterface 301 2, 3, .invokevirtual 248), (39, .ireturn, 1, .ireturn)]
def cd_X11_order : List AE := [(0, .iload 1, 1, .iload_n 1), (1, .anewarray 1, 1, .iconst 1), (2, .invokeinterface 14400 2, 3, .invokestatic 83), (5, .iload 2, 1, .iload_n 2), (6, .iconst (-1), 1, .iconst (-1)), (7, .invokeinterface 14400 2, 3, .invokestatic 83), (10, .invokeinterface 14300 2, 3, .invokestatic 90), (13, .iload 1, 1, .iload_n 1), (14, .anewarray 60, 2, .bipush 60), (16, .invokeinterface 14500 2, 3, .invokestatic 87), (19, .invokeinterface 14300 2, 3, .invokestatic 90), (22, .istore 3, 1, .istore_n 3), (23, .iload 3, 1, .iload_n 3), (24, .ifCond .ne 42, 3, .ifCond .ne 18), (27, .aload 0, 1, .aload_n 0), (28, .getfield 1000, 3, .getfield 10), (31, .getfield 900, 3, .getfield 148), (34, .anewarray 6, 2, .bipush 6), (36, .if_icmp .le 42, 3, .if_icmp .le 6), (39, .iconst (-3), 2, .bipush (-3)), (41, .istore 3, 1, .istore_n 3), (42, .iload 3, 1, .iload_n 3), (43, .ifCond .eq 52, 3, .ifCond .eq 9), (46, .aload 0, 1, .aload_n 0), (47, .iload 3, 1, .iload_n 3), (48, .invokeinterface 14111 2, 3, .invokevirtual 97), (51, .ireturn, 1, .ireturn), (52, .aload 0, 1, .aload_n 0), (53, .getfield 1009, 3, .getfield 68), (56, .aload 0, 1, .aload_n 0), (57, .getfield 1000, 3, .getfield 10), (60, .iload 1, 1, .iload_n 1), (61, .invokeinterface 2604 3, 3, .invokevirtual 288), (64, .istore 4, 2, .istore 4), (66, .iload 2, 1, .iload_n 2), (67, .iconst (-1), 1, .iconst (-1)), (68, .if_icmp .ne 76, 3, .if_icmp .ne 8), (71, .iload 4, 2, .iload 4), (73, .goto 88, 3, .goto 15), (76, .aload 0, 1, .aload_n 0), (77, .getfield 1009, 3, .getfield 68), (80, .aload 0, 1, .aload_n 0), (81, .getfield 1000, 3, .getfield 10), (84, .iload 2, 1, .iload_n 2), (85, .invokeinterface 2504 3, 3, .invokevirtual 291), (88, .ireturn, 1, .ireturn)]
def cd_X11_walk : List AE := [(0, .iload 1, 1, .iload_n 1), (1, .iconst (-2), 2, .bipush (-2)), (3, .invokeinterface 14400 2, 3, .invokestatic 83), (6, .istore 2, 1, .istore_n 2), (7, .iload 2, 1, .iload_n 2), (8, .ifCond .eq 17, 3, .ifCond .eq 9), (11, .aload 0, 1, .aload_n 0), (12, .iload 2, 1, .iload_n 2), (13, .invokeinterface 14111 2, 3, .invokevirtual 97), (16, .ireturn, 1, .ireturn), (17, .iload 1, 1, .iload_n 1), (18, .iconst (-2), 2, .bipush (-2)), (20, .if_icmp .ne 31, 3, .if_icmp .ne 11), (23, .aload 0, 1, .aload_n 0), (24, .getfield 1000, 3, .getfield 10), (27, .invokeinterface 9010 1, 3, .invokevirtual 294), (30, .ireturn, 1, .ireturn), (31, .aload 0, 1, .aload_n 0), (32, .getfield 1009, 3, .getfield 68), (35, .aload 0, 1, .aload_n 0), (36, .getfield 1000, 3, .getfield 10), (39, .invokeinterface 2804 2, 3, .invokevirtual 297), (42, .istore 3, 1, .istore_n 3), (43, .iload 1, 1, .iload_n 1), (44, .iconst (-1), 1, .iconst (-1)), (45, .if_icmp .ne 52, 3, .if_icmp .ne 7), (48, .iload 3, 1, .iload_n 3), (49, .goto 64, 3, .goto 15), (52, .aload 0, 1, .aload_n 0), (53, .getfield 1009, 3, .getfield 68), (56, .aload 0, 1, .aload_n 0), (57, .getfield 1000, 3, .getfield 10), (60, .iload 1, 1, .iload_n 1), (61, .invokeinterface 2504 3, 3, .invokevirtual 291), (64, .ireturn, 1, .ireturn)]
def cd_X11_woman : List AE := [(0, .iload 1, 1, .iload_n 1), (1, .invokeinterface 14600 1, 3, .invokestatic 209), (4, .iload 2, 1, .iload_n 2), (5, .anewarray 1, 1, .iconst 1), (6, .invokeinterface 14700 2, 3, .invokestatic 118), (9, .invokeinterface 14300 2, 3, .invokestatic 90), (12, .istore 3, 1, .istore_n 3), (13, .iload 3, 1, .iload_n 3), (14, .ifCond .eq 23, 3, .ifCond .eq 9), (17, .aload 0, 1, .aload_n 0), (18, .iload 3, 1, .iload_n 3), (19, .invokeinterface 14111 2, 3, .invokevirtual 97), (22, .ireturn, 1, .ireturn), (23, .aload 0, 1, .aload_n 0), (24, .getfield 1008, 3, .getfield 61), (27, .aload 0, 1, .aload_n 0), (28, .getfield 1000, 3, .getfield 10), (31, .iload 1, 1, .iload_n 1), (32, .invokeinterface 3706 3, 3, .invokevirtual 300), (35, .astore 4, 2, .astore 4), (37, .iload 2, 1, .iload_n 2), (38, .ifCond .ne 49, 3, .ifCond .ne 11), (41, .aload 4, 2, .aload 4), (43, .getfield 1, 3, .getfield 303), (46, .goto 54, 3, .goto 8), (49, .aload 4, 2, .aload 4), (51, .getfield 0, 3, .getfield 256), (54, .ireturn, 1, .ireturn)]
def cd_X11_lasts : List AE := [(0, .iload 1, 1, .iload_n 1), (1, .invokeinterface 14600 1, 3, .invokestatic 209), (4, .istore 2, 1, .istore_n 2), (5, .iload 2, 1, .iload_n 2), (6, .ifCond .eq 15, 3, .ifCond .eq 9), (9, .aload 0, 1, .aload_n 0), (10, .iload 2, 1, .iload_n 2), (11, .invokeinterface 14111 2, 3, .invokevirtual 97), (14, .ireturn, 1, .ireturn), (15, .aload 0, 1, .aload_n 0), (16, .getfield 1010, 3, .getfield 75), (19, .aload 0, 1, .aload_n 0), (20, .getfield 1000, 3, .getfield 10), (23, .iload 1, 1, .iload_n 1), (24, .invokeinterface 1403 3, 3, .invokevirtual 306), (27, .ireturn, 1, .ireturn)]
def cd_X11_left : List AE := [(0, .iload 1, 1, .iload_n 1), (1, .anewarray 1, 1, .iconst 1), (2, .invokeinterface 14400 2, 3, .invokestatic 83), (5, .iload 2, 1, .iload_n 2), (6, .anewarray 0, 1, .iconst 0), (7, .invokeinterface 14400 2, 3, .invokestatic 83), (10, .invokeinterface 14300 2, 3, .invokestatic 90), (13, .istore 3, 1, .istore_n 3), (14, .iload 3, 1, .iload_n 3), (15, .iload 1, 1, .iload_n 1), (16, .anewarray 60, 2, .bipush 60), (18, .invokeinterface 14500 2, 3, .invokestatic 87), (21, .iload 2, 1, .iload_n 2), (22, .anewarray 60, 2, .bipush 60), (24, .invokeinterface 14500 2, 3, .invokestatic 87), (27, .invokeinterface 14300 2, 3, .invokestatic 90), (30, .invokeinterface 14300 2, 3, .invokestatic 90), (33, .istore 3, 1, .istore_n 3), (34, .iload 3, 1, .iload_n 3), (35, .ifCond .eq 44, 3, .ifCond .eq 9), (38, .aload 0, 1, .aload_n 0), (39, .iload 3, 1, .iload_n 3), (40, .invokeinterface 14111 2, 3, .invokevirtual 97), (43, .ireturn, 1, .ireturn), (44, .aload 0, 1, .aload_n 0), (45, .getfield 1010, 3, .getfield 75), (48, .aload 0, 1, .aload_n 0), (49, .getfield 1000, 3, .getfield 10), (52, .iload 1, 1, .iload_n 1), (53, .iload 2, 1, .iload_n 2), (54, .invokeinterface 1503 4, 3, .invokevirtual 309), (57, .ireturn, 1, .ireturn)]
def cd_X11_chance : List AE := [(0, .aload 0, 1, .aload_n 0), (1, .getfield 1000, 3, .getfield 10), (4, .iload 1, 1, .iload_n 1), (5, .invokeinterface 7410 2, 3, .invokevirtual 115), (8, .aload 0, 1, .aload_n 0), (9, .getfield 1000, 3, .getfield 10), (12, .iload 2, 1, .iload_n 2), (13, .invokeinterface 7410 2, 3, .invokevirtual 115), (16, .invokeinterface 14300 2, 3, .invokestatic 90), (19, .istore 7, 2, .istore 7), (21, .iload 7, 2, .iload 7), (23, .iload 3, 1, .iload_n 3), (24, .anewarray 1, 1, .iconst 1), (25, .invokeinterface 14400 2, 3, .invokestatic 83), (28, .iload 4, 2, .iload 4), (30, .anewarray 0, 1, .iconst 0), (31, .invokeinterface 14400 2, 3, .invokestatic 83), (34, .invokeinterface 14300 2, 3, .invokestatic 90), (37, .iload 5, 2, .iload 5), (39, .anewarray 2, 1, .iconst 2), (40, .invokeinterface 14400 2, 3, .invokestatic 83), (43, .invokeinterface 14300 2, 3, .invokestatic 90), (46, .invokeinterface 14300 2, 3, .invokestatic 90), (49, .istore 7, 2, .istore 7), (51, .iload 7, 2, .iload 7), (53, .iload 3, 1, .iload_n 3), (54, .anewarray 60, 2, .bipush 60), (56, .invokeinterface 14500 2, 3, .invokestatic 87), (59, .iload 4, 2, .iload 4), (61, .anewarray 8, 2, .bipush 8), (63, .invokeinterface 14500 2, 3, .invokestatic 87), (66, .invokeinterface 14300 2, 3, .invokestatic 90), (69, .iload 5, 2, .iload 5), (71, .anewarray 20, 2, .bipush 20), (73, .invokeinterface 14500 2, 3, .invokestatic 87), (76, .invokeinterface 14300 2, 3, .invokestatic 90), (79, .invokeinterface 14300 2, 3, .invokestatic 90), (82, .istore 7, 2, .istore 7), (84, .iload 7, 2, .iload 7), (86, .iload 6, 2, .iload 6), (88, .anewarray 1, 1, .iconst 1), (89, .invokeinterface 14700 2, 3, .invokestatic 118), (92, .invokeinterface 14300 2, 3, .invokestatic 90), (95, .istore 7, 2, .istore 7), (97, .iload 7, 2, .iload 7), (99, .ifCond .eq 114, 3, .ifCond .eq 15), (102, .ldc2_w 4000000000000000000, 3, .ldc2_w 312), (105, .aload 0, 1, .aload_n 0), (106, .iload 7, 2, .iload 7), (108, .invokeinterface 14111 2, 3, .invokevirtual 97), (111, .i2l, 1, .i2l), (112, .lsub, 1, .lsub), (113, .lreturn, 1, .lreturn), (114, .aload 0, 1, .aload_n 0), (115, .getfield 1010, 3, .getfield 75), (118, .aload 0, 1, .aload_n 0), (119, .getfield 1000, 3, .getfield 10), (122, .iload 1, 1, .iload_n 1), (123, .iload 2, 1, .iload_n 2), (124, .iload 3, 1, .iload_n 3), (125, .iload 4, 2, .iload 4), (127, .iload 5, 2, .iload 5), (129, .invokeinterface 1703 7, 3, .invokevirtual 314), (132, .iload 6, 2, .iload 6), (134, .ifCond .ne 147, 3, .ifCond .ne 13), (137, .aload 0, 1, .aload_n 0), (138, .getfield 1010, 3, .getfield 75), (141, .getfield 203, 3, .getfield 318), (144, .goto 154, 3, .goto 10), (147, .aload 0, 1, .aload_n 0), (148, .getfield 1010, 3, .getfield 75), (151, .getfield 204, 3, .getfield 322), (154, .lreturn, 1, .lreturn)]
def cd_X11_twins : List AE := [(0, .iload 1, 1, .iload_n 1), (1, .invokeinterface 14600 1, 3, .invokestatic 209), (4, .istore 2, 1, .istore_n 2), (5, .iload 2, 1, .iload_n 2), (6, .ifCond .eq 15, 3, .ifCond .eq 9), (9, .aload 0, 1, .aload_n 0), (10, .iload 2, 1, .iload_n 2), (11, .invokeinterface 14111 2, 3, .invokevirtual 97), (14, .ireturn, 1, .ireturn), (15, .aload 0, 1, .aload_n 0), (16, .getfield 1008, 3, .getfield 61), (19, .aload 0, 1, .aload_n 0), (20, .getfield 1000, 3, .getfield 10), (23, .iload 1, 1, .iload_n 1), (24, .invokeinterface 3906 3, 3, .invokevirtual 325), (27, .getfield 0, 3, .getfield 256), (30, .ireturn, 1, .ireturn)]
def cd_X11_hum : List AE := [(0, .iload 1, 1, .iload_n 1), (1, .invokeinterface 14600 1, 3, .invokestatic 209), (4, .iload 2, 1, .iload_n 2), (5, .anewarray 1, 1, .iconst 1), (6, .invokeinterface 14700 2, 3, .invokestatic 118), (9, .invokeinterface 14300 2, 3, .invokestatic 90), (12, .istore 3, 1, .istore_n 3), (13, .iload 3, 1, .iload_n 3), (14, .ifCond .eq 23, 3, .ifCond .eq 9), (17, .aload 0, 1, .aload_n 0), (18, .iload 3, 1, .iload_n 3), (19, .invokeinterface 14111 2, 3, .invokevirtual 97), (22, .ireturn, 1, .ireturn), (23, .iload 2, 1, .iload_n 2), (24, .ifCond .ne 42, 3, .ifCond .ne 18), (27, .aload 0, 1, .aload_n 0), (28, .getfield 1008, 3, .getfield 61), (31, .aload 0, 1, .aload_n 0), (32, .getfield 1000, 3, .getfield 10), (35, .iload 1, 1, .iload_n 1), (36, .invokeinterface 4106 3, 3, .invokevirtual 328), (39, .goto 57, 3, .goto 18), (42, .aload 0, 1, .aload_n 0), (43, .getfield 1008, 3, .getfield 61), (46, .aload 0, 1, .aload_n 0), (47, .getfield 1000, 3, .getfield 10), (50, .iload 1, 1, .iload_n 1), (51, .invokeinterface 4206 3, 3, .invokevirtual 331), (54, .getfield 0, 3, .getfield 256), (57, .ireturn, 1, .ireturn)]
def cd_X11_apart : List AE := [(0, .aload 0, 1, .aload_n 0), (1, .getfield 1000, 3, .getfield 10), (4, .iload 1, 1, .iload_n 1), (5, .invokeinterface 7410 2, 3, .invokevirtual 115), (8, .aload 0, 1, .aload_n 0), (9, .getfield 1000, 3, .getfield 10), (12, .iload 2, 1, .iload_n 2), (13, .invokeinterface 7410 2, 3, .invokevirtual 115), (16, .invokeinterface 14300 2, 3, .invokestatic 90), (19, .istore 3, 1, .istore_n 3), (20, .iload 3, 1, .iload_n 3), (21, .ifCond .eq 30, 3, .ifCond .eq 9), (24, .aload 0, 1, .aload_n 0), (25, .iload 3, 1, .iload_n 3), (26, .invokeinterface 14111 2, 3, .invokevirtual 97), (29, .ireturn, 1, .ireturn), (30, .aload 0, 1, .aload_n 0), (31, .getfield 1000, 3, .getfield 10), (34, .getfield 908, 3, .getfield 142), (37, .iload 1, 1, .iload_n 1), (38, .iaload, 1, .iaload), (39, .aload 0, 1, .aload_n 0), (40, .getfield 1000, 3, .getfield 10), (43, .getfield 908, 3, .getfield 142), (46, .iload 2, 1, .iload_n 2), (47, .iaload, 1, .iaload), (48, .isub, 1, .isub), (49, .invokedynamic 3, 3, .invokestatic 334), (52, .ireturn, 1, .ireturn)]
def cd_X11_heaps : List AE := [(0, .aload 0, 1, .aload_n 0), (1, .getfield 1000, 3, .getfield 10), (4, .invokeinterface 9110 1, 3, .invokevirtual 339), (7, .ireturn, 1, .ireturn)]
def cd_X11_codes : List AE := [(0, .aload 0, 1, .aload_n 0), (1, .getfield 1000, 3, .getfield 10), (4, .iload 1, 1, .iload_n 1), (5, .invokeinterface 7410 2, 3, .invokevirtual 115), (8, .aload 0, 1, .aload_n 0), (9, .getfield 1000, 3, .getfield 10), (12, .iload 2, 1, .iload_n 2), (13, .invokeinterface 7410 2, 3, .invokevirtual 115), (16, .invokeinterface 14300 2, 3, .invokestatic 90), (19, .istore 3, 1, .istore_n 3), (20, .iload 3, 1, .iload_n 3), (21, .ifCond .eq 30, 3, .ifCond .eq 9), (24, .aload 0, 1, .aload_n 0), (25, .iload 3, 1, .iload_n 3), (26, .invokeinterface 14111 2, 3, .invokevirtual 97), (29, .ireturn, 1, .ireturn), (30, .aload 0, 1, .aload_n 0), (31, .getfield 1007, 3, .getfield 54), (34, .aload 0, 1, .aload_n 0), (35, .getfield 1000, 3, .getfield 10), (38, .iload 1, 1, .iload_n 1), (39, .iload 2, 1, .iload_n 2), (40, .iconst (-9), 2, .bipush (-9)), (42, .invokeinterface 1302 5, 3, .invokevirtual 342), (45, .ireturn, 1, .ireturn)]
def cd_X11_secret : List AE := [(0, .aload 0, 1, .aload_n 0), (1, .getfield 1000, 3, .getfield 10), (4, .iload 1, 1, .iload_n 1), (5, .invokeinterface 7410 2, 3, .invokevirtual 115), (8, .aload 0, 1, .aload_n 0), (9, .getfield 1000, 3, .getfield 10), (12, .iload 2, 1, .iload_n 2), (13, .invokeinterface 7410 2, 3, .invokevirtual 115), (16, .invokeinterface 14300 2, 3, .invokestatic 90), (19, .istore 4, 2, .istore 4), (21, .iload 4, 2, .iload 4), (23, .aload 0, 1, .aload_n 0), (24, .getfield 1000, 3, .getfield 10), (27, .iload 3, 1, .iload_n 3), (28, .invokeinterface 7410 2, 3, .invokevirtual 115), (31, .invokeinterface 14300 2, 3, .invokestatic 90), (34, .istore 4, 2, .istore 4), (36, .iload 4, 2, .iload 4), (38, .ifCond .ne 55, 3, .ifCond .ne 17), (41, .iload 3, 1, .iload_n 3), (42, .iload 2, 1, .iload_n 2), (43, .if_icmp .eq 51, 3, .if_icmp .eq 8), (46, .iload 3, 1, .iload_n 3), (47, .iload 1, 1, .iload_n 1), (48, .if_icmp .ne 55, 3, .if_icmp .ne 7), (51, .iconst (-3), 2, .bipush (-3)), (53, .istore 4, 2, .istore 4), (55, .iload 4, 2, .iload 4), (57, .ifCond .eq 67, 3, .ifCond .eq 10), (60, .aload 0, 1, .aload_n 0), (61, .iload 4, 2, .iload 4), (63, .invokeinterface 14111 2, 3, .invokevirtual 97), (66, .ireturn, 1, .ireturn), (67, .aload 0, 1, .aload_n 0), (68, .getfield 1007, 3, .getfield 54), (71, .aload 0, 1, .aload_n 0), (72, .getfield 1000, 3, .getfield 10), (75, .iload 1, 1, .iload_n 1), (76, .iload 2, 1, .iload_n 2), (77, .iload 3, 1, .iload_n 3), (78, .invokeinterface 1302 5, 3, .invokevirtual 342), (81, .ireturn, 1, .ireturn)]
def cd_X11_tough : List AE := [(0, .aload 0, 1, .aload_n 0), (1, .getfield 1000, 3, .getfield 10), (4, .iload 1, 1, .iload_n 1), (5, .invokeinterface 7410 2, 3, .invokevirtual 115), (8, .istore 2, 1, .istore_n 2), (9, .iload 2, 1, .iload_n 2), (10, .ifCond .eq 19, 3, .ifCond .eq 9), (13, .aload 0, 1, .aload_n 0), (14, .iload 2, 1, .iload_n 2), (15, .invokeinterface 14111 2, 3, .invokevirtual 97), (18, .ireturn, 1, .ireturn), (19, .aload 0, 1, .aload_n 0), (20, .getfield 1007, 3, .getfield 54), (23, .aload 0, 1, .aload_n 0), (24, .getfield 1000, 3, .getfield 10), (27, .iload 1, 1, .iload_n 1), (28, .invokeinterface 602 3, 3, .invokevirtual 346), (31, .ireturn, 1, .ireturn)]
def cd_X11_centre : List AE := [(0, .iload 1, 1, .iload_n 1), (1, .invokeinterface 14600 1, 3, .invokestatic 209), (4, .iload 2, 1, .iload_n 2), (5, .anewarray 1, 1, .iconst 1), (6, .invokeinterface 14700 2, 3, .invokestatic 118), (9, .invokeinterface 14300 2, 3, .invokestatic 90), (12, .istore 3, 1, .istore_n 3), (13, .iload 3, 1, .iload_n 3), (14, .ifCond .eq 23, 3, .ifCond .eq 9), (17, .aload 0, 1, .aload_n 0), (18, .iload 3, 1, .iload_n 3), (19, .invokeinterface 14111 2, 3, .invokevirtual 97), (22, .ireturn, 1, .ireturn), (23, .aload 0, 1, .aload_n 0), (24, .getfield 1008, 3, .getfield 61), (27, .aload 0, 1, .aload_n 0), (28, .getfield 1000, 3, .getfield 10), (31, .iload 1, 1, .iload_n 1), (32, .invokeinterface 4406 3, 3, .invokevirtual 349), (35, .iload 2, 1, .iload_n 2), (36, .invokeinterface 301 2, 3, .invokevirtual 248), (39, .ireturn, 1, .ireturn)]
def cd_X11_bestMend : List AE := [(0, .aload 0, 1, .aload_n 0), (1, .getfield 1000, 3, .getfield 10), (4, .iload 1, 1, .iload_n 1), (5, .invokeinterface 7410 2, 3, .invokevirtual 115), (8, .iload 2, 1, .iload_n 2), (9, .invokeinterface 14600 1, 3, .invokestatic 209), (12, .invokeinterface 14300 2, 3, .invokestatic 90), (15, .istore 3, 1, .istore_n 3), (16, .iload 3, 1, .iload_n 3), (17, .ifCond .eq 26, 3, .ifCond .eq 9), (20, .aload 0, 1, .aload_n 0), (21, .iload 3, 1, .iload_n 3), (22, .invokeinterface 14111 2, 3, .invokevirtual 97), (25, .ireturn, 1, .ireturn), (26, .aload 0, 1, .aload_n 0), (27, .getfield 1008, 3, .getfield 61), (30, .aload 0, 1, .aload_n 0), (31, .getfield 1000, 3, .getfield 10), (34, .iload 1, 1, .iload_n 1), (35, .iload 2, 1, .iload_n 2), (36, .invokeinterface 4506 4, 3, .invokevirtual 352), (39, .getfield 0, 3, .getfield 256), (42, .ireturn, 1, .ireturn)]
def cd_X11_bestFigure : List AE := [(0, .aload 0, 1, .aload_n 0), (1, .getfield 1000, 3, .getfield 10), (4, .iload 1, 1, .iload_n 1), (5, .invokeinterface 7410 2, 3, .invokevirtual 115), (8, .aload 0, 1, .aload_n 0), (9, .getfield 1000, 3, .getfield 10), (12, .iload 2, 1, .iload_n 2), (13, .invokeinterface 7410 2, 3, .invokevirtual 115), (16, .invokeinterface 14300 2, 3, .invokestatic 90), (19, .iload 3, 1, .iload_n 3), (20, .invokeinterface 14600 1, 3, .invokestatic 209), (23, .invokeinterface 14300 2, 3, .invokestatic 90), (26, .istore 4, 2, .istore 4), (28, .iload 4, 2, .iload 4), (30, .ifCond .eq 40, 3, .ifCond .eq 10), (33, .aload 0, 1, .aload_n 0), (34, .iload 4, 2, .iload 4), (36, .invokeinterface 14111 2, 3, .invokevirtual 97), (39, .ireturn, 1, .ireturn), (40, .aload 0, 1, .aload_n 0), (41, .getfield 1008, 3, .getfield 61), (44, .aload 0, 1, .aload_n 0), (45, .getfield 1000, 3, .getfield 10), (48, .iload 1, 1, .iload_n 1), (49, .iload 2, 1, .iload_n 2), (50, .iload 3, 1, .iload_n 3), (51, .invokeinterface 4606 5, 3, .invokevirtual 356), (54, .getfield 0, 3, .getfield 256), (57, .ireturn, 1, .ireturn)]
def cd_X11_domino : List AE := [(0, .iload 1, 1, .iload_n 1), (1, .invokeinterface 14600 1, 3, .invokestatic 209), (4, .istore 2, 1, .istore_n 2), (5, .iload 2, 1, .iload_n 2), (6, .ifCond .eq 15, 3, .ifCond .eq 9), (9, .aload 0, 1, .aload_n 0), (10, .iload 2, 1, .iload_n 2), (11, .invokeinterface 14111 2, 3, .invokevirtual 97), (14, .ireturn, 1, .ireturn), (15, .aload 0, 1, .aload_n 0), (16, .getfield 1010, 3, .getfield 75), (19, .aload 0, 1, .aload_n 0), (20, .getfield 1000, 3, .getfield 10), (23, .iload 1, 1, .iload_n 1), (24, .invokeinterface 1603 3, 3, .invokevirtual 360), (27, .ireturn, 1, .ireturn)]
def cd_X11_longest : List AE := [(0, .iload 1, 1, .iload_n 1), (1, .anewarray 1, 1, .iconst 1), (2, .invokeinterface 14700 2, 3, .invokestatic 118), (5, .istore 2, 1, .istore_n 2), (6, .iload 2, 1, .iload_n 2), (7, .ifCond .eq 16, 3, .ifCond .eq 9), (10, .aload 0, 1, .aload_n 0), (11, .iload 2, 1, .iload_n 2), (12, .invokeinterface 14111 2, 3, .invokevirtual 97), (15, .ireturn, 1, .ireturn), (16, .aload 0, 1, .aload_n 0), (17, .getfield 1008, 3, .getfield 61), (20, .aload 0, 1, .aload_n 0), (21, .getfield 1000, 3, .getfield 10), (24, .invokeinterface 4706 2, 3, .invokevirtual 363), (27, .iload 1, 1, .iload_n 1), (28, .invokeinterface 301 2, 3, .invokevirtual 248), (31, .ireturn, 1, .ireturn)]
def cd_X11_spared : List AE := [(0, .iload 1, 1, .iload_n 1), (1, .invokeinterface 14600 1, 3, .invokestatic 209), (4, .istore 2, 1, .istore_n 2), (5, .iload 2, 1, .iload_n 2), (6, .ifCond .eq 15, 3, .ifCond .eq 9), (9, .aload 0, 1, .aload_n 0), (10, .iload 2, 1, .iload_n 2), (11, .invokeinterface 14111 2, 3, .invokevirtual 97), (14, .ireturn, 1, .ireturn), (15, .aload 0, 1, .aload_n 0), (16, .getfield 1008, 3, .getfield 61), (19, .aload 0, 1, .aload_n 0), (20, .getfield 1000, 3, .getfield 10), (23, .iload 1, 1, .iload_n 1), (24, .invokeinterface 4806 3, 3, .invokevirtual 367), (27, .ireturn, 1, .ireturn)]
def cd_X11_mutual : List AE := [(0, .iload 1, 1, .iload_n 1), (1, .invokeinterface 14600 1, 3, .invokestatic 209), (4, .istore 2, 1, .istore_n 2), (5, .iload 2, 1, .iload_n 2), (6, .ifCond .eq 15, 3, .ifCond .eq 9), (9, .aload 0, 1, .aload_n 0), (10, .iload 2, 1, .iload_n 2), (11, .invokeinterface 14111 2, 3, .invokevirtual 97), (14, .ireturn, 1, .ireturn), (15, .aload 0, 1, .aload_n 0), (16, .getfield 1008, 3, .getfield 61), (19, .aload 0, 1, .aload_n 0), (20, .getfield 1000, 3, .getfield 10), (23, .iload 1, 1, .iload_n 1), (24, .invokeinterface 4906 3, 3, .invokevirtual 370), (27, .ireturn, 1, .ireturn)]
def cd_X11_row : List AE := [(0, .iload 1, 1, .iload_n 1), (1, .anewarray 0, 1, .iconst 0), (2, .invokeinterface 14400 2, 3, .invokestatic 83), (5, .iload 1, 1, .iload_n 1), (6, .anewarray 99, 2, .bipush 99), (8, .invokeinterface 14500 2, 3, .invokestatic 87), (11, .invokeinterface 14300 2, 3, .invokestatic 90), (14, .istore 2, 1, .istore_n 2), (15, .iload 2, 1, .iload_n 2), (16, .aload 0, 1, .aload_n 0), (17, .getfield 1005, 3, .getfield 40), (20, .getfield 601, 3, .getfield 373), (23, .anewarray 1, 1, .iconst 1), (24, .iadd, 1, .iadd), (25, .anewarray 12, 2, .bipush 12), (27, .invokeinterface 14500 2, 3, .invokestatic 87), (30, .invokeinterface 14300 2, 3, .invokestatic 90), (33, .istore 2, 1, .istore_n 2), (34, .iload 2, 1, .iload_n 2), (35, .ifCond .eq 44, 3, .ifCond .eq 9), (38, .aload 0, 1, .aload_n 0), (39, .iload 2, 1, .iload_n 2), (40, .invokeinterface 14111 2, 3, .invokevirtual 97), (43, .ireturn, 1, .ireturn), (44, .aload 0, 1, .aload_n 0), (45, .getfield 1005, 3, .getfield 40), (48, .iload 1, 1, .iload_n 1), (49, .invokeinterface 5007 2, 3, .invokevirtual 374), (52, .ireturn, 1, .ireturn)]
def cd_X11_judge : List AE := [(0, .aload 0, 1, .aload_n 0), (1, .getfield 1005, 3, .getfield 40), (4, .aload 0, 1, .aload_n 0), (5, .getfield 1000, 3, .getfield 10), (8, .invokeinterface 5207 2, 3, .invokevirtual 375), (11, .istore 1, 1, .istore_n 1), (12, .aload 0, 1, .aload_n 0), (13, .getfield 1005, 3, .getfield 40), (16, .anewarray 0, 1, .iconst 0), (17, .putfield 601, 3, .putfield 373), (20, .iload 1, 1, .iload_n 1), (21, .ireturn, 1, .ireturn)]
def cd_X11_clear : List AE := [(0, .aload 0, 1, .aload_n 0), (1, .getfield 1005, 3, .getfield 40), (4, .getfield 601, 3, .getfield 373), (7, .istore 1, 1, .istore_n 1), (8, .aload 0, 1, .aload_n 0), (9, .getfield 1005, 3, .getfield 40), (12, .anewarray 0, 1, .iconst 0), (13, .putfield 601, 3, .putfield 373), (16, .iload 1, 1, .iload_n 1), (17, .ireturn, 1, .ireturn)]
def cd_X11_lots : List AE := [(0, .iload 1, 1, .iload_n 1), (1, .anewarray 1, 1, .iconst 1), (2, .invokeinterface 14400 2, 3, .invokestatic 83), (5, .iload 1, 1, .iload_n 1), (6, .anewarray 20, 2, .bipush 20), (8, .invokeinterface 14500 2, 3, .invokestatic 87), (11, .invokeinterface 14300 2, 3, .invokestatic 90), (14, .iload 3, 1, .iload_n 3), (15, .anewarray 1, 1, .iconst 1), (16, .invokeinterface 14700 2, 3, .invokestatic 118), (19, .invokeinterface 14300 2, 3, .invokestatic 90), (22, .istore 4, 2, .istore 4), (24, .iload 4, 2, .iload 4), (26, .ifCond .eq 36, 3, .ifCond .eq 10), (29, .aload 0, 1, .aload_n 0), (30, .iload 4, 2, .iload 4), (32, .invokeinterface 14111 2, 3, .invokevirtual 97), (35, .ireturn, 1, .ireturn), (36, .aload 0, 1, .aload_n 0), (37, .getfield 1010, 3, .getfield 75), (40, .aload 0, 1, .aload_n 0), (41, .getfield 1000, 3, .getfield 10), (44, .iload 1, 1, .iload_n 1), (45, .iload 2, 1, .iload_n 2), (46, .invokeinterface 2003 4, 3, .invokevirtual 378), (49, .iload 3, 1, .iload_n 3), (50, .ifCond .ne 63, 3, .ifCond .ne 13), (53, .aload 0, 1, .aload_n 0), (54, .getfield 1010, 3, .getfield 75), (57, .getfield 205, 3, .getfield 381), (60, .goto 70, 3, .goto 10), (63, .aload 0, 1, .aload_n 0), (64, .getfield 1010, 3, .getfield 75), (67, .getfield 206, 3, .getfield 384), (70, .ireturn, 1, .ireturn)]
def cd_X11_image : List AE := [(0, .aload 0, 1, .aload_n 0), (1, .getfield 1001, 3, .getfield 16), (4, .aload 0, 1, .aload_n 0), (5, .getfield 1000, 3, .getfield 10), (8, .invokeinterface 7310 2, 3, .invokevirtual 387), (11, .aload 0, 1, .aload_n 0), (12, .anewarray 1, 1, .iconst 1), (13, .putfield 21002, 3, .putfield 19), (16, .aload 0, 1, .aload_n 0), (17, .getfield 1000, 3, .getfield 10), (20, .getfield 903, 3, .getfield 390), (23, .ireturn, 1, .ireturn)]
def cd_X11_restore : List AE := [(0, .aload 0, 1, .aload_n 0), (1, .getfield 1002, 3, .getfield 19), (4, .ifCond .ne 14, 3, .ifCond .ne 10), (7, .aload 0, 1, .aload_n 0), (8, .iconst (-3), 2, .bipush (-3)), (10, .invokeinterface 14111 2, 3, .invokevirtual 97), (13, .ireturn, 1, .ireturn), (14, .aload 0, 1, .aload_n 0), (15, .getfield 1000, 3, .getfield 10), (18, .aload 0, 1, .aload_n 0), (19, .getfield 1001, 3, .getfield 16), (22, .invokeinterface 7310 2, 3, .invokevirtual 387), (25, .aload 0, 1, .aload_n 0), (26, .getfield 1003, 3, .getfield 26), (29, .invokeinterface 3305 1, 3, .invokevirtual 112), (32, .aload 0, 1, .aload_n 0), (33, .getfield 1000, 3, .getfield 10), (36, .getfield 903, 3, .getfield 390), (39, .ireturn, 1, .ireturn)]
def cd_X11_count : List AE := [(0, .iload 1, 1, .iload_n 1), (1, .anewarray 10, 2, .bipush 10), (3, .if_icmp .le 22, 3, .if_icmp .le 19), (6, .iload 1, 1, .iload_n 1), (7, .anewarray 16, 2, .bipush 16), (9, .if_icmp .gt 22, 3, .if_icmp .gt 13), (12, .aload 0, 1, .aload_n 0), (13, .getfield 1011, 3, .getfield 79), (16, .iload 1, 1, .iload_n 1), (17, .anewarray 10, 2, .bipush 10), (19, .isub, 1, .isub), (20, .iaload, 1, .iaload), (21, .ireturn, 1, .ireturn), (22, .iload 1, 1, .iload_n 1), (23, .tableswitch 132 0 7 #[68, 76, 84, 92, 100, 108, 116, 124], 45, .tableswitch 109 0 7 #[45, 53, 61, 69, 77, 85, 93, 101]), (68, .aload 0, 1, .aload_n 0), (69, .getfield 1000, 3, .getfield 10), (72, .getfield 900, 3, .getfield 148), (75, .ireturn, 1, .ireturn), (76, .aload 0, 1, .aload_n 0), (77, .getfield 1000, 3, .getfield 10), (80, .getfield 903, 3, .getfield 390), (83, .ireturn, 1, .ireturn), (84, .aload 0, 1, .aload_n 0), (85, .getfield 1000, 3, .getfield 10), (88, .getfield 901, 3, .getfield 182), (91, .ireturn, 1, .ireturn), (92, .aload 0, 1, .aload_n 0), (93, .getfield 1000, 3, .getfield 10), (96, .getfield 902, 3, .getfield 393), (99, .ireturn, 1, .ireturn), (100, .aload 0, 1, .aload_n 0), (101, .getfield 1000, 3, .getfield 10), (104, .invokeinterface 8710 1, 3, .invokevirtual 396), (107, .ireturn, 1, .ireturn), (108, .aload 0, 1, .aload_n 0), (109, .getfield 1004, 3, .getfield 33), (112, .getfield 703, 3, .getfield 93), (115, .ireturn, 1, .ireturn), (116, .aload 0, 1, .aload_n 0), (117, .getfield 1005, 3, .getfield 40), (120, .getfield 601, 3, .getfield 373), (123, .ireturn, 1, .ireturn), (124, .aload 0, 1, .aload_n 0), (125, .getfield 1003, 3, .getfield 26), (128, .getfield 402, 3, .getfield 203), (131, .ireturn, 1, .ireturn), (132, .iconst (-9), 2, .bipush (-9)), (134, .ireturn, 1, .ireturn)]
def cd_X11_refuse : List AE := [(0, .iload 1, 1, .iload_n 1), (1, .ifCond .ge 21, 3, .ifCond .ge 20), (4, .iload 1, 1, .iload_n 1), (5, .iconst (-6), 2, .bipush (-6)), (7, .if_icmp .lt 21, 3, .if_icmp .lt 14), (10, .aload 0, 1, .aload_n 0), (11, .getfield 1011, 3, .getfield 79), (14, .iload 1, 1, .iload_n 1), (15, .ineg, 1, .ineg), (16, .dup2, 1, .dup2), (17, .iaload, 1, .iaload), (18, .anewarray 1, 1, .iconst 1), (19, .iadd, 1, .iadd), (20, .iastore, 1, .iastore), (21, .iload 1, 1, .iload_n 1), (22, .ireturn, 1, .ireturn)]
def cd_X11_rowTooLong : List AE := [(0, .aload 0, 1, .aload_n 0), (1, .getfield 1005, 3, .getfield 40), (4, .getfield 601, 3, .getfield 373), (7, .aload 0, 1, .aload_n 0), (8, .getfield 1000, 3, .getfield 10), (11, .getfield 900, 3, .getfield 148), (14, .if_icmp .le 22, 3, .if_icmp .le 8), (17, .iconst (-3), 2, .bipush (-3)), (19, .goto 23, 3, .goto 4), (22, .anewarray 0, 1, .iconst 0), (23, .ireturn, 1, .ireturn)]
def cd_X11_first : List AE := [(0, .iload 0, 1, .iload_n 0), (1, .ifCond .eq 8, 3, .ifCond .eq 7), (4, .iload 0, 1, .iload_n 0), (5, .goto 9, 3, .goto 4), (8, .iload 1, 1, .iload_n 1), (9, .ireturn, 1, .ireturn)]
def cd_X11_below : List AE := [(0, .iload 0, 1, .iload_n 0), (1, .iload 1, 1, .iload_n 1), (2, .if_icmp .ge 10, 3, .if_icmp .ge 8), (5, .iconst (-4), 2, .bipush (-4)), (7, .goto 11, 3, .goto 4), (10, .anewarray 0, 1, .iconst 0), (11, .ireturn, 1, .ireturn)]
def cd_X11_above : List AE := [(0, .iload 0, 1, .iload_n 0), (1, .iload 1, 1, .iload_n 1), (2, .if_icmp .le 10, 3, .if_icmp .le 8), (5, .iconst (-6), 2, .bipush (-6)), (7, .goto 11, 3, .goto 4), (10, .anewarray 0, 1, .iconst 0), (11, .ireturn, 1, .ireturn)]
def cd_X11_noBlow : List AE := [(0, .iload 0, 1, .iload_n 0), (1, .anewarray 1, 1, .iconst 1), (2, .invokeinterface 14400 2, 3, .invokestatic 83), (5, .iload 0, 1, .iload_n 0), (6, .anewarray 60, 2, .bipush 60), (8, .invokeinterface 14500 2, 3, .invokestatic 87), (11, .invokeinterface 14300 2, 3, .invokestatic 90), (14, .ireturn, 1, .ireturn)]
def cd_X11_unknown : List AE := [(0, .iload 0, 1, .iload_n 0), (1, .ifCond .lt 9, 3, .ifCond .lt 8), (4, .iload 0, 1, .iload_n 0), (5, .iload 1, 1, .iload_n 1), (6, .if_icmp .le 14, 3, .if_icmp .le 8), (9, .iconst (-2), 2, .bipush (-2)), (11, .goto 15, 3, .goto 4), (14, .anewarray 0, 1, .iconst 0), (15, .ireturn, 1, .ireturn)]
def cd_X12_no : List AE := [(0, .aload 0, 1, .aload_n 0), (1, .getfield 1100, 3, .getfield 7), (4, .iload 1, 1, .iload_n 1), (5, .ineg, 1, .ineg), (6, .dup2, 1, .dup2), (7, .iaload, 1, .iaload), (8, .anewarray 1, 1, .iconst 1), (9, .iadd, 1, .iadd), (10, .iastore, 1, .iastore), (11, .iload 1, 1, .iload_n 1), (12, .ireturn, 1, .ireturn)]
def cd_X12_lowest : List AE := [(0, .aload 0, 1, .aload_n 0), (1, .getfield 1100, 3, .getfield 7), (4, .iload 1, 1, .iload_n 1), (5, .ineg, 1, .ineg), (6, .dup2, 1, .dup2), (7, .iaload, 1, .iaload), (8, .anewarray 1, 1, .iconst 1), (9, .iadd, 1, .iadd), (10, .iastore, 1, .iastore), (11, .ldc2_w 4000000000000000000, 3, .ldc2_w 56), (14, .iload 1, 1, .iload_n 1), (15, .i2l, 1, .i2l), (16, .lsub, 1, .lsub), (17, .lreturn, 1, .lreturn)]
def cd_X12_isIn : List AE := [(0, .iload 0, 1, .iload_n 0), (1, .iload 1, 1, .iload_n 1), (2, .if_icmp .lt 14, 3, .if_icmp .lt 12), (5, .iload 0, 1, .iload_n 0), (6, .iload 2, 1, .iload_n 2), (7, .if_icmp .gt 14, 3, .if_icmp .gt 7), (10, .anewarray 1, 1, .iconst 1), (11, .goto 15, 3, .goto 4), (14, .anewarray 0, 1, .iconst 0), (15, .dreturn, 1, .ireturn)]
def cd_X12_bound : List AE := [(0, .iload 0, 1, .iload_n 0), (1, .iload 1, 1, .iload_n 1), (2, .if_icmp .ge 10, 3, .if_icmp .ge 8), (5, .iconst (-4), 2, .bipush (-4)), (7, .goto 21, 3, .goto 14), (10, .iload 0, 1, .iload_n 0), (11, .iload 2, 1, .iload_n 2), (12, .if_icmp .le 20, 3, .if_icmp .le 8), (15, .iconst (-6), 2, .bipush (-6)), (17, .goto 21, 3, .goto 4), (20, .anewarray 0, 1, .iconst 0), (21, .ireturn, 1, .ireturn)]
def cd_X12_notBlow : List AE := [(0, .iload 0, 1, .iload_n 0), (1, .anewarray 1, 1, .iconst 1), (2, .anewarray 60, 2, .bipush 60), (4, .invokeinterface 15100 3, 3, .invokestatic 58), (7, .ireturn, 1, .ireturn)]
def cd_X12_has : List AE := [(0, .iload 0, 1, .iload_n 0), (1, .iload 1, 1, .iload_n 1), (2, .ishr, 1, .ishr), (3, .anewarray 1, 1, .iconst 1), (4, .iand, 1, .iand), (5, .anewarray 1, 1, .iconst 1), (6, .if_icmp .ne 13, 3, .if_icmp .ne 7), (9, .anewarray 1, 1, .iconst 1), (10, .goto 14, 3, .goto 4), (13, .anewarray 0, 1, .iconst 0), (14, .dreturn, 1, .ireturn)]
def cd_X12_bits : List AE := [(0, .anewarray 0, 1, .iconst 0), (1, .istore 1, 1, .istore_n 1), (2, .anewarray 0, 1, .iconst 0), (3, .istore 2, 1, .istore_n 2), (4, .iload 2, 1, .iload_n 2), (5, .anewarray 31, 2, .bipush 31), (7, .if_icmp .ge 24, 3, .if_icmp .ge 17), (10, .iload 1, 1, .iload_n 1), (11, .iload 0, 1, .iload_n 0), (12, .iload 2, 1, .iload_n 2), (13, .ishr, 1, .ishr), (14, .anewarray 1, 1, .iconst 1), (15, .iand, 1, .iand), (16, .iadd, 1, .iadd), (17, .istore 1, 1, .istore_n 1), (18, .iinc 2 1, 3, .iinc 2 1), (21, .goto 4, 3, .goto (-17)), (24, .iload 1, 1, .iload_n 1), (25, .ireturn, 1, .ireturn)]
def cd_X12_far : List AE := [(0, .iload 0, 1, .iload_n 0), (1, .iload 1, 1, .iload_n 1), (2, .if_icmp .le 11, 3, .if_icmp .le 9), (5, .iload 0, 1, .iload_n 0), (6, .iload 1, 1, .iload_n 1), (7, .isub, 1, .isub), (8, .goto 14, 3, .goto 6), (11, .iload 1, 1, .iload_n 1), (12, .iload 0, 1, .iload_n 0), (13, .isub, 1, .isub), (14, .ireturn, 1, .ireturn)]
def cd_X12_isThing : List AE := [(0, .iload 1, 1, .iload_n 1), (1, .ifCond .lt 16, 3, .ifCond .lt 15), (4, .iload 1, 1, .iload_n 1), (5, .aload 0, 1, .aload_n 0), (6, .getfield 1105, 3, .getfield 52), (9, .if_icmp .ge 16, 3, .if_icmp .ge 7), (12, .anewarray 1, 1, .iconst 1), (13, .goto 17, 3, .goto 4), (16, .anewarray 0, 1, .iconst 0), (17, .dreturn, 1, .ireturn)]
def cd_X12_isLink : List AE := [(0, .iload 1, 1, .iload_n 1), (1, .ifCond .lt 18, 3, .ifCond .lt 17), (4, .iload 1, 1, .iload_n 1), (5, .aload 0, 1, .aload_n 0), (6, .getfield 1105, 3, .getfield 52), (9, .anewarray 1, 1, .iconst 1), (10, .isub, 1, .isub), (11, .if_icmp .ge 18, 3, .if_icmp .ge 7), (14, .anewarray 1, 1, .iconst 1), (15, .goto 19, 3, .goto 4), (18, .anewarray 0, 1, .iconst 0), (19, .dreturn, 1, .ireturn)]
def cd_X12_feed : List AE := [(0, .iload 1, 1, .iload_n 1), (1, .anewarray 0, 1, .iconst 0), (2, .anewarray 255, 3, .sipush 255), (5, .invokeinterface 15100 3, 3, .invokestatic 58), (8, .istore 2, 1, .istore_n 2), (9, .iload 2, 1, .iload_n 2), (10, .ifCond .ne 25, 3, .ifCond .ne 15), (13, .aload 0, 1, .aload_n 0), (14, .getfield 1113, 3, .getfield 62), (17, .anewarray 96, 2, .bipush 96), (19, .if_icmp .ne 25, 3, .if_icmp .ne 6), (22, .iconst (-6), 2, .bipush (-6)), (24, .istore 2, 1, .istore_n 2), (25, .iload 2, 1, .iload_n 2), (26, .ifCond .eq 35, 3, .ifCond .eq 9), (29, .aload 0, 1, .aload_n 0), (30, .iload 2, 1, .iload_n 2), (31, .invokeinterface 14812 2, 3, .invokevirtual 65), (34, .ireturn, 1, .ireturn), (35, .aload 0, 1, .aload_n 0), (36, .getfield 1109, 3, .getfield 25), (39, .aload 0, 1, .aload_n 0), (40, .getfield 1113, 3, .getfield 62), (43, .iload 1, 1, .iload_n 1), (44, .iastore, 1, .iastore), (45, .aload 0, 1, .aload_n 0), (46, .dup, 1, .dup), (47, .getfield 1113, 3, .getfield 62), (50, .anewarray 1, 1, .iconst 1), (51, .iadd, 1, .iadd), (52, .putfield 1113, 3, .putfield 62), (55, .aload 0, 1, .aload_n 0), (56, .getfield 1113, 3, .getfield 62), (59, .ireturn, 1, .ireturn)]
def cd_X12_next : List AE := [(0, .aload 0, 1, .aload_n 0), (1, .getfield 1114, 3, .getfield 69), (4, .aload 0, 1, .aload_n 0), (5, .getfield 1113, 3, .getfield 62), (8, .if_icmp .ge 23, 3, .if_icmp .ge 15), (11, .aload 0, 1, .aload_n 0), (12, .getfield 1109, 3, .getfield 25), (15, .aload 0, 1, .aload_n 0), (16, .getfield 1114, 3, .getfield 69), (19, .iaload, 1, .iaload), (20, .goto 24, 3, .goto 4), (23, .iconst (-1), 1, .iconst (-1)), (24, .ireturn, 1, .ireturn)]
def cd_X12_readsDigits : List AE := [(0, .anewarray 0, 1, .iconst 0), (1, .istore 3, 1, .istore_n 3), (2, .anewarray 0, 1, .iconst 0), (3, .istore 4, 2, .istore 4), (5, .iload 4, 2, .iload 4), (7, .iload 2, 1, .iload_n 2), (8, .if_icmp .ge 56, 3, .if_icmp .ge 48), (11, .aload 0, 1, .aload_n 0), (12, .invokeinterface 15912 1, 3, .invokevirtual 72), (15, .anewarray 48, 2, .bipush 48), (17, .anewarray 57, 2, .bipush 57), (19, .invokeinterface 15000 3, 3, .invokestatic 76), (22, .ifCond .ne 27, 3, .ifCond .ne 5), (25, .anewarray 0, 1, .iconst 0), (26, .dreturn, 1, .ireturn), (27, .anewarray 10, 2, .bipush 10), (29, .iload 3, 1, .iload_n 3), (30, .imul, 1, .imul), (31, .aload 0, 1, .aload_n 0), (32, .invokeinterface 15912 1, 3, .invokevirtual 72), (35, .iadd, 1, .iadd), (36, .anewarray 48, 2, .bipush 48), (38, .isub, 1, .isub), (39, .istore 3, 1, .istore_n 3), (40, .aload 0, 1, .aload_n 0), (41, .dup, 1, .dup), (42, .getfield 1114, 3, .getfield 69), (45, .anewarray 1, 1, .iconst 1), (46, .iadd, 1, .iadd), (47, .putfield 1114, 3, .putfield 69), (50, .iinc 4 1, 3, .iinc 4 1), (53, .goto 5, 3, .goto (-48)), (56, .aload 0, 1, .aload_n 0), (57, .getfield 1112, 3, .getfield 34), (60, .iload 1, 1, .iload_n 1), (61, .iload 3, 1, .iload_n 3), (62, .iastore, 1, .iastore), (63, .anewarray 1, 1, .iconst 1), (64, .dreturn, 1, .ireturn)]
def cd_X12_readsAll : List AE := [(0, .iload 1, 1, .iload_n 1), (1, .lookupswitch 125 #[(100, 73), (116, 36), (120, 99)], 35, .lookupswitch 124 #[(100, 72), (116, 35), (120, 98)]), (36, .aload 0, 1, .aload_n 0), (37, .iload 2, 1, .iload_n 2), (38, .anewarray 1, 1, .iconst 1), (39, .invokeinterface 16012 3, 3, .invokevirtual 80), (42, .ifCond .eq 71, 3, .ifCond .eq 29), (45, .aload 0, 1, .aload_n 0), (46, .iload 2, 1, .iload_n 2), (47, .anewarray 1, 1, .iconst 1), (48, .iadd, 1, .iadd), (49, .anewarray 1, 1, .iconst 1), (50, .invokeinterface 16012 3, 3, .invokevirtual 80), (53, .ifCond .eq 71, 3, .ifCond .eq 18), (56, .aload 0, 1, .aload_n 0), (57, .iload 2, 1, .iload_n 2), (58, .anewarray 2, 1, .iconst 2), (59, .iadd, 1, .iadd), (60, .anewarray 1, 1, .iconst 1), (61, .invokeinterface 16012 3, 3, .invokevirtual 80), (64, .ifCond .eq 71, 3, .ifCond .eq 7), (67, .anewarray 1, 1, .iconst 1), (68, .goto 72, 3, .goto 4), (71, .anewarray 0, 1, .iconst 0), (72, .dreturn, 1, .ireturn), (73, .aload 0, 1, .aload_n 0), (74, .iload 2, 1, .iload_n 2), (75, .anewarray 1, 1, .iconst 1), (76, .invokeinterface 16012 3, 3, .invokevirtual 80), (79, .ifCond .eq 97, 3, .ifCond .eq 18), (82, .aload 0, 1, .aload_n 0), (83, .iload 2, 1, .iload_n 2), (84, .anewarray 1, 1, .iconst 1), (85, .iadd, 1, .iadd), (86, .anewarray 2, 1, .iconst 2), (87, .invokeinterface 16012 3, 3, .invokevirtual 80), (90, .ifCond .eq 97, 3, .ifCond .eq 7), (93, .anewarray 1, 1, .iconst 1), (94, .goto 98, 3, .goto 4), (97, .anewarray 0, 1, .iconst 0), (98, .dreturn, 1, .ireturn), (99, .aload 0, 1, .aload_n 0), (100, .iload 2, 1, .iload_n 2), (101, .anewarray 1, 1, .iconst 1), (102, .invokeinterface 16012 3, 3, .invokevirtual 80), (105, .ifCond .eq 123, 3, .ifCond .eq 18), (108, .aload 0, 1, .aload_n 0), (109, .iload 2, 1, .iload_n 2), (110, .anewarray 1, 1, .iconst 1), (111, .iadd, 1, .iadd), (112, .anewarray 1, 1, .iconst 1), (113, .invokeinterface 16012 3, 3, .invokevirtual 80), (116, .ifCond .eq 123, 3, .ifCond .eq 7), (119, .anewarray 1, 1, .iconst 1), (120, .goto 124, 3, .goto 4), (123, .anewarray 0, 1, .iconst 0), (124, .dreturn, 1, .ireturn), (125, .aload 0, 1, .aload_n 0), (126, .iload 2, 1, .iload_n 2), (127, .anewarray 1, 1, .iconst 1), (128, .invokeinterface 16012 3, 3, .invokevirtual 80), (131, .dreturn, 1, .ireturn)]
def cd_X12_statement : List AE := [(0, .aload 0, 1, .aload_n 0), (1, .invokeinterface 15912 1, 3, .invokevirtual 72), (4, .istore 1, 1, .istore_n 1), (5, .iload 1, 1, .iload_n 1), (6, .anewarray 116, 2, .bipush 116), (8, .if_icmp .eq 37, 3, .if_icmp .eq 29), (11, .iload 1, 1, .iload_n 1), (12, .anewarray 100, 2, .bipush 100), (14, .if_icmp .eq 37, 3, .if_icmp .eq 23), (17, .iload 1, 1, .iload_n 1), (18, .anewarray 109, 2, .bipush 109), (20, .if_icmp .eq 37, 3, .if_icmp .eq 17), (23, .iload 1, 1, .iload_n 1), (24, .anewarray 99, 2, .bipush 99), (26, .if_icmp .eq 37, 3, .if_icmp .eq 11), (29, .iload 1, 1, .iload_n 1), (30, .anewarray 120, 2, .bipush 120), (32, .if_icmp .eq 37, 3, .if_icmp .eq 5), (35, .anewarray 0, 1, .iconst 0), (36, .dreturn, 1, .ireturn), (37, .aload 0, 1, .aload_n 0), (38, .getfield 1110, 3, .getfield 28), (41, .aload 0, 1, .aload_n 0), (42, .getfield 1115, 3, .getfield 84), (45, .iload 1, 1, .iload_n 1), (46, .iastore, 1, .iastore), (47, .aload 0, 1, .aload_n 0), (48, .getfield 1111, 3, .getfield 31), (51, .aload 0, 1, .aload_n 0), (52, .getfield 1115, 3, .getfield 84), (55, .aload 0, 1, .aload_n 0), (56, .getfield 1114, 3, .getfield 69), (59, .iastore, 1, .iastore), (60, .aload 0, 1, .aload_n 0), (61, .dup, 1, .dup), (62, .getfield 1114, 3, .getfield 69), (65, .anewarray 1, 1, .iconst 1), (66, .iadd, 1, .iadd), (67, .putfield 1114, 3, .putfield 69), (70, .aload 0, 1, .aload_n 0), (71, .iload 1, 1, .iload_n 1), (72, .anewarray 3, 1, .iconst 3), (73, .aload 0, 1, .aload_n 0), (74, .getfield 1115, 3, .getfield 84), (77, .imul, 1, .imul), (78, .invokeinterface 16112 3, 3, .invokevirtual 87), (81, .ifCond .eq 93, 3, .ifCond .eq 12), (84, .aload 0, 1, .aload_n 0), (85, .invokeinterface 15912 1, 3, .invokevirtual 72), (88, .anewarray 59, 2, .bipush 59), (90, .if_icmp .eq 95, 3, .if_icmp .eq 5), (93, .anewarray 0, 1, .iconst 0), (94, .dreturn, 1, .ireturn), (95, .aload 0, 1, .aload_n 0), (96, .dup, 1, .dup), (97, .getfield 1114, 3, .getfield 69), (100, .anewarray 1, 1, .iconst 1), (101, .iadd, 1, .iadd), (102, .putfield 1114, 3, .putfield 69), (105, .anewarray 1, 1, .iconst 1), (106, .dreturn, 1, .ireturn)]
def cd_X12_comesDrop : List AE := [(0, .aload 0, 1, .aload_n 0), (1, .iload 1, 1, .iload_n 1), (2, .invokeinterface 15612 2, 3, .invokevirtual 90), (5, .ifCond .eq 39, 3, .ifCond .eq 34), (8, .aload 0, 1, .aload_n 0), (9, .getfield 1106, 3, .getfield 94), (12, .iload 1, 1, .iload_n 1), (13, .invokeinterface 15300 2, 3, .invokestatic 97), (16, .ifCond .ne 39, 3, .ifCond .ne 23), (19, .iload 2, 1, .iload_n 2), (20, .anewarray 1, 1, .iconst 1), (21, .anewarray 60, 2, .bipush 60), (23, .invokeinterface 15000 3, 3, .invokestatic 76), (26, .ifCond .eq 39, 3, .ifCond .eq 13), (29, .aload 0, 1, .aload_n 0), (30, .getfield 1108, 3, .getfield 100), (33, .anewarray 999, 3, .sipush 999), (36, .if_icmp .ne 41, 3, .if_icmp .ne 5), (39, .anewarray 0, 1, .iconst 0), (40, .dreturn, 1, .ireturn), (41, .aload 0, 1, .aload_n 0), (42, .iload 1, 1, .iload_n 1), (43, .iload 2, 1, .iload_n 2), (44, .invokeinterface 18412 3, 3, .invokevirtual 103), (47, .pop, 1, .pop), (48, .aload 0, 1, .aload_n 0), (49, .dup, 1, .dup), (50, .getfield 1108, 3, .getfield 100), (53, .anewarray 1, 1, .iconst 1), (54, .iadd, 1, .iadd), (55, .putfield 1108, 3, .putfield 100), (58, .anewarray 1, 1, .iconst 1), (59, .dreturn, 1, .ireturn)]
def cd_X12_comesOther : List AE := [(0, .iload 1, 1, .iload_n 1), (1, .anewarray 109, 2, .bipush 109), (3, .if_icmp .ne 43, 3, .if_icmp .ne 40), (6, .aload 0, 1, .aload_n 0), (7, .iload 2, 1, .iload_n 2), (8, .invokeinterface 15612 2, 3, .invokevirtual 90), (11, .ifCond .eq 25, 3, .ifCond .eq 14), (14, .aload 0, 1, .aload_n 0), (15, .getfield 1106, 3, .getfield 94), (18, .iload 2, 1, .iload_n 2), (19, .invokeinterface 15300 2, 3, .invokestatic 97), (22, .ifCond .ne 27, 3, .ifCond .ne 5), (25, .anewarray 0, 1, .iconst 0), (26, .dreturn, 1, .ireturn), (27, .aload 0, 1, .aload_n 0), (28, .dup, 1, .dup), (29, .getfield 1106, 3, .getfield 94), (32, .anewarray 1, 1, .iconst 1), (33, .iload 2, 1, .iload_n 2), (34, .ishl, 1, .ishl), (35, .iconst (-1), 1, .iconst (-1)), (36, .ixor, 1, .ixor), (37, .iand, 1, .iand), (38, .putfield 1106, 3, .putfield 94), (41, .anewarray 1, 1, .iconst 1), (42, .dreturn, 1, .ireturn), (43, .iload 1, 1, .iload_n 1), (44, .anewarray 99, 2, .bipush 99), (46, .if_icmp .ne 79, 3, .if_icmp .ne 33), (49, .aload 0, 1, .aload_n 0), (50, .dup, 1, .dup), (51, .getfield 1107, 3, .getfield 107), (54, .aload 0, 1, .aload_n 0), (55, .iload 2, 1, .iload_n 2), (56, .invokeinterface 15712 2, 3, .invokevirtual 110), (59, .ifCond .eq 68, 3, .ifCond .eq 9), (62, .anewarray 1, 1, .iconst 1), (63, .iload 2, 1, .iload_n 2), (64, .ishl, 1, .ishl), (65, .goto 69, 3, .goto 4), (68, .anewarray 0, 1, .iconst 0), (69, .ixor, 1, .ixor), (70, .putfield 1107, 3, .putfield 107), (73, .aload 0, 1, .aload_n 0), (74, .iload 2, 1, .iload_n 2), (75, .invokeinterface 15712 2, 3, .invokevirtual 110), (78, .dreturn, 1, .ireturn), (79, .aload 0, 1, .aload_n 0), (80, .iload 2, 1, .iload_n 2), (81, .invokeinterface 15612 2, 3, .invokevirtual 90), (84, .ifCond .eq 100, 3, .ifCond .eq 16), (87, .aload 0, 1, .aload_n 0), (88, .iload 3, 1, .iload_n 3), (89, .invokeinterface 15612 2, 3, .invokevirtual 90), (92, .ifCond .eq 100, 3, .ifCond .eq 8), (95, .iload 2, 1, .iload_n 2), (96, .iload 3, 1, .iload_n 3), (97, .if_icmp .ne 102, 3, .if_icmp .ne 5), (100, .anewarray 0, 1, .iconst 0), (101, .dreturn, 1, .ireturn), (102, .aload 0, 1, .aload_n 0), (103, .iload 2, 1, .iload_n 2), (104, .iload 3, 1, .iload_n 3), (105, .invokeinterface 19312 3, 3, .invokevirtual 113), (108, .anewarray 1, 1, .iconst 1), (109, .dreturn, 1, .ireturn)]
def cd_X12_comes : List AE := [(0, .aload 0, 1, .aload_n 0), (1, .getfield 1112, 3, .getfield 34), (4, .anewarray 3, 1, .iconst 3), (5, .iload 1, 1, .iload_n 1), (6, .imul, 1, .imul), (7, .iaload, 1, .iaload), (8, .istore 2, 1, .istore_n 2), (9, .aload 0, 1, .aload_n 0), (10, .getfield 1112, 3, .getfield 34), (13, .anewarray 3, 1, .iconst 3), (14, .iload 1, 1, .iload_n 1), (15, .imul, 1, .imul), (16, .anewarray 1, 1, .iconst 1), (17, .iadd, 1, .iadd), (18, .iaload, 1, .iaload), (19, .istore 3, 1, .istore_n 3), (20, .aload 0, 1, .aload_n 0), (21, .getfield 1110, 3, .getfield 28), (24, .iload 1, 1, .iload_n 1), (25, .iaload, 1, .iaload), (26, .anewarray 100, 2, .bipush 100), (28, .if_icmp .ne 38, 3, .if_icmp .ne 10), (31, .aload 0, 1, .aload_n 0), (32, .iload 2, 1, .iload_n 2), (33, .iload 3, 1, .iload_n 3), (34, .invokeinterface 16312 3, 3, .invokevirtual 117), (37, .dreturn, 1, .ireturn), (38, .aload 0, 1, .aload_n 0), (39, .getfield 1110, 3, .getfield 28), (42, .iload 1, 1, .iload_n 1), (43, .iaload, 1, .iaload), (44, .anewarray 116, 2, .bipush 116), (46, .if_icmp .eq 62, 3, .if_icmp .eq 16), (49, .aload 0, 1, .aload_n 0), (50, .aload 0, 1, .aload_n 0), (51, .getfield 1110, 3, .getfield 28), (54, .iload 1, 1, .iload_n 1), (55, .iaload, 1, .iaload), (56, .iload 2, 1, .iload_n 2), (57, .iload 3, 1, .iload_n 3), (58, .invokeinterface 16412 4, 3, .invokevirtual 120), (61, .dreturn, 1, .ireturn), (62, .iload 2, 1, .iload_n 2), (63, .anewarray 5, 1, .iconst 5), (64, .if_icmp .gt 76, 3, .if_icmp .gt 12), (67, .aload 0, 1, .aload_n 0), (68, .getfield 1105, 3, .getfield 52), (71, .anewarray 8, 2, .bipush 8), (73, .if_icmp .ne 78, 3, .if_icmp .ne 5), (76, .anewarray 0, 1, .iconst 0), (77, .dreturn, 1, .ireturn), (78, .aload 0, 1, .aload_n 0), (79, .iload 2, 1, .iload_n 2), (80, .iload 3, 1, .iload_n 3), (81, .aload 0, 1, .aload_n 0), (82, .getfield 1112, 3, .getfield 34), (85, .anewarray 3, 1, .iconst 3), (86, .iload 1, 1, .iload_n 1), (87, .imul, 1, .imul), (88, .anewarray 2, 1, .iconst 2), (89, .iadd, 1, .iadd), (90, .iaload, 1, .iaload), (91, .invokeinterface 17612 4, 3, .invokevirtual 123), (94, .anewarray 1, 1, .iconst 1), (95, .dreturn, 1, .ireturn)]
def cd_X12_valley : List AE := [(0, .aload 0, 1, .aload_n 0), (1, .anewarray 0, 1, .iconst 0), (2, .putfield 1114, 3, .putfield 69), (5, .aload 0, 1, .aload_n 0), (6, .anewarray 0, 1, .iconst 0), (7, .putfield 1115, 3, .putfield 84), (10, .anewarray 1, 1, .iconst 1), (11, .istore 1, 1, .istore_n 1), (12, .iload 1, 1, .iload_n 1), (13, .ifCond .eq 60, 3, .ifCond .eq 47), (16, .aload 0, 1, .aload_n 0), (17, .getfield 1114, 3, .getfield 69), (20, .aload 0, 1, .aload_n 0), (21, .getfield 1113, 3, .getfield 62), (24, .if_icmp .lt 34, 3, .if_icmp .lt 10), (27, .aload 0, 1, .aload_n 0), (28, .getfield 1115, 3, .getfield 84), (31, .ifCond .ne 60, 3, .ifCond .ne 29), (34, .aload 0, 1, .aload_n 0), (35, .invokeinterface 16212 1, 3, .invokevirtual 127), (38, .istore 1, 1, .istore_n 1), (39, .aload 0, 1, .aload_n 0), (40, .dup, 1, .dup), (41, .getfield 1115, 3, .getfield 84), (44, .iload 1, 1, .iload_n 1), (45, .ifCond .eq 52, 3, .ifCond .eq 7), (48, .anewarray 1, 1, .iconst 1), (49, .goto 53, 3, .goto 4), (52, .anewarray 0, 1, .iconst 0), (53, .iadd, 1, .iadd), (54, .putfield 1115, 3, .putfield 84), (57, .goto 12, 3, .goto (-45)), (60, .aload 0, 1, .aload_n 0), (61, .anewarray 0, 1, .iconst 0), (62, .putfield 1113, 3, .putfield 62), (65, .iload 1, 1, .iload_n 1), (66, .ifCond .ne 78, 3, .ifCond .ne 12), (69, .iconst (-1000), 3, .sipush (-1000)), (72, .aload 0, 1, .aload_n 0), (73, .getfield 1114, 3, .getfield 69), (76, .isub, 1, .isub), (77, .ireturn, 1, .ireturn), (78, .aload 0, 1, .aload_n 0), (79, .anewarray 1, 1, .iconst 1), (80, .anewarray 1, 1, .iconst 1), (81, .invokeinterface 16912 3, 3, .invokevirtual 131), (84, .anewarray 0, 1, .iconst 0), (85, .istore 2, 1, .istore_n 2), (86, .iload 2, 1, .iload_n 2), (87, .aload 0, 1, .aload_n 0), (88, .getfield 1115, 3, .getfield 84), (91, .if_icmp .ge 128, 3, .if_icmp .ge 37), (94, .aload 0, 1, .aload_n 0), (95, .iload 2, 1, .iload_n 2), (96, .invokeinterface 16512 2, 3, .invokevirtual 135), (99, .ifCond .eq 105, 3, .ifCond .eq 6), (102, .goto 122, 3, .goto 20), (105, .aload 0, 1, .aload_n 0), (106, .anewarray 1, 1, .iconst 1), (107, .anewarray 0, 1, .iconst 0), (108, .invokeinterface 16912 3, 3, .invokevirtual 131), (111, .iconst (-2000), 3, .sipush (-2000)), (114, .aload 0, 1, .aload_n 0), (115, .getfield 1111, 3, .getfield 31), (118, .iload 2, 1, .iload_n 2), (119, .iaload, 1, .iaload), (120, .isub, 1, .isub), (121, .ireturn, 1, .ireturn), (122, .iinc 2 1, 3, .iinc 2 1), (125, .goto 86, 3, .goto (-39)), (128, .aload 0, 1, .aload_n 0), (129, .anewarray 0, 1, .iconst 0), (130, .putfield 1120, 3, .putfield 138), (133, .aload 0, 1, .aload_n 0), (134, .getfield 1115, 3, .getfield 84), (137, .ireturn, 1, .ireturn)]
def cd_X12_passes : List AE := [(0, .anewarray 0, 1, .iconst 0), (1, .istore 2, 1, .istore_n 2), (2, .iload 2, 1, .iload_n 2), (3, .aload 1, 1, .aload_n 1), (4, .arraylength, 1, .arraylength), (5, .if_icmp .ge 58, 3, .if_icmp .ge 53), (8, .aload 0, 1, .aload_n 0), (9, .getfield 1118, 3, .getfield 141), (12, .ifCond .eq 30, 3, .ifCond .eq 18), (15, .aload 0, 1, .aload_n 0), (16, .getfield 1116, 3, .getfield 37), (19, .aload 0, 1, .aload_n 0), (20, .getfield 1119, 3, .getfield 145), (23, .aload 1, 1, .aload_n 1), (24, .iload 2, 1, .iload_n 2), (25, .iaload, 1, .iaload), (26, .iastore, 1, .iastore), (27, .goto 42, 3, .goto 15), (30, .aload 1, 1, .aload_n 1), (31, .iload 2, 1, .iload_n 2), (32, .aload 0, 1, .aload_n 0), (33, .getfield 1116, 3, .getfield 37), (36, .aload 0, 1, .aload_n 0), (37, .getfield 1119, 3, .getfield 145), (40, .iaload, 1, .iaload), (41, .iastore, 1, .iastore), (42, .aload 0, 1, .aload_n 0), (43, .dup, 1, .dup), (44, .getfield 1119, 3, .getfield 145), (47, .anewarray 1, 1, .iconst 1), (48, .iadd, 1, .iadd), (49, .putfield 1119, 3, .putfield 145), (52, .iinc 2 1, 3, .iinc 2 1), (55, .goto 2, 3, .goto (-53)), (58, .return_, 1, .return_)]
def cd_X12_passOne : List AE := [(0, .aload 0, 1, .aload_n 0), (1, .getfield 1118, 3, .getfield 141), (4, .ifCond .eq 11, 3, .ifCond .eq 7), (7, .iload 1, 1, .iload_n 1), (8, .goto 20, 3, .goto 12), (11, .aload 0, 1, .aload_n 0), (12, .getfield 1116, 3, .getfield 37), (15, .aload 0, 1, .aload_n 0), (16, .getfield 1119, 3, .getfield 145), (19, .iaload, 1, .iaload), (20, .istore 2, 1, .istore_n 2), (21, .aload 0, 1, .aload_n 0), (22, .getfield 1118, 3, .getfield 141), (25, .ifCond .eq 38, 3, .ifCond .eq 13), (28, .aload 0, 1, .aload_n 0), (29, .getfield 1116, 3, .getfield 37), (32, .aload 0, 1, .aload_n 0), (33, .getfield 1119, 3, .getfield 145), (36, .iload 1, 1, .iload_n 1), (37, .iastore, 1, .iastore), (38, .aload 0, 1, .aload_n 0), (39, .dup, 1, .dup), (40, .getfield 1119, 3, .getfield 145), (43, .anewarray 1, 1, .iconst 1), (44, .iadd, 1, .iadd), (45, .putfield 1119, 3, .putfield 145), (48, .iload 2, 1, .iload_n 2), (49, .ireturn, 1, .ireturn)]
def cd_X12_passesAll : List AE := [(0, .aload 0, 1, .aload_n 0), (1, .anewarray 40, 2, .bipush 40), (3, .iload 1, 1, .iload_n 1), (4, .imul, 1, .imul), (5, .putfield 1119, 3, .putfield 145), (8, .aload 0, 1, .aload_n 0), (9, .iload 2, 1, .iload_n 2), (10, .putfield 21118, 3, .putfield 141), (13, .aload 0, 1, .aload_n 0), (14, .aload 0, 1, .aload_n 0), (15, .getfield 1101, 3, .getfield 13), (18, .invokeinterface 16712 2, 3, .invokevirtual 148), (21, .aload 0, 1, .aload_n 0), (22, .aload 0, 1, .aload_n 0), (23, .getfield 1102, 3, .getfield 16), (26, .invokeinterface 16712 2, 3, .invokevirtual 148), (29, .aload 0, 1, .aload_n 0), (30, .aload 0, 1, .aload_n 0), (31, .getfield 1103, 3, .getfield 19), (34, .invokeinterface 16712 2, 3, .invokevirtual 148), (37, .aload 0, 1, .aload_n 0), (38, .aload 0, 1, .aload_n 0), (39, .getfield 1104, 3, .getfield 22), (42, .invokeinterface 16712 2, 3, .invokevirtual 148), (45, .aload 0, 1, .aload_n 0), (46, .aload 0, 1, .aload_n 0), (47, .aload 0, 1, .aload_n 0), (48, .getfield 1105, 3, .getfield 52), (51, .invokeinterface 16812 2, 3, .invokevirtual 152), (54, .putfield 1105, 3, .putfield 52), (57, .aload 0, 1, .aload_n 0), (58, .aload 0, 1, .aload_n 0), (59, .aload 0, 1, .aload_n 0), (60, .getfield 1106, 3, .getfield 94), (63, .invokeinterface 16812 2, 3, .invokevirtual 152), (66, .putfield 1106, 3, .putfield 94), (69, .aload 0, 1, .aload_n 0), (70, .aload 0, 1, .aload_n 0), (71, .aload 0, 1, .aload_n 0), (72, .getfield 1107, 3, .getfield 107), (75, .invokeinterface 16812 2, 3, .invokevirtual 152), (78, .putfield 1107, 3, .putfield 107), (81, .aload 0, 1, .aload_n 0), (82, .aload 0, 1, .aload_n 0), (83, .aload 0, 1, .aload_n 0), (84, .getfield 1108, 3, .getfield 100), (87, .invokeinterface 16812 2, 3, .invokevirtual 152), (90, .putfield 1108, 3, .putfield 100), (93, .return_, 1, .return_)]
def cd_X12_thinks : List AE := [(0, .aload 0, 1, .aload_n 0), (1, .anewarray 2, 1, .iconst 2), (2, .anewarray 1, 1, .iconst 1), (3, .invokeinterface 16912 3, 3, .invokevirtual 131), (6, .return_, 1, .return_)]
def cd_X12_forgets : List AE := [(0, .aload 0, 1, .aload_n 0), (1, .anewarray 2, 1, .iconst 2), (2, .anewarray 0, 1, .iconst 0), (3, .invokeinterface 16912 3, 3, .invokevirtual 131), (6, .return_, 1, .return_)]
def cd_X12_keepsBack : List AE := [(0, .aload 0, 1, .aload_n 0), (1, .getfield 1120, 3, .getfield 138), (4, .anewarray 8, 2, .bipush 8), (6, .if_icmp .ne 50, 3, .if_icmp .ne 44), (9, .anewarray 120, 2, .bipush 120), (11, .istore 1, 1, .istore_n 1), (12, .iload 1, 1, .iload_n 1), (13, .anewarray 400, 3, .sipush 400), (16, .if_icmp .ge 40, 3, .if_icmp .ge 24), (19, .aload 0, 1, .aload_n 0), (20, .getfield 1116, 3, .getfield 37), (23, .iload 1, 1, .iload_n 1), (24, .aload 0, 1, .aload_n 0), (25, .getfield 1116, 3, .getfield 37), (28, .iload 1, 1, .iload_n 1), (29, .anewarray 40, 2, .bipush 40), (31, .iadd, 1, .iadd), (32, .iaload, 1, .iaload), (33, .iastore, 1, .iastore), (34, .iinc 1 1, 3, .iinc 1 1), (37, .goto 12, 3, .goto (-25)), (40, .aload 0, 1, .aload_n 0), (41, .dup, 1, .dup), (42, .getfield 1120, 3, .getfield 138), (45, .anewarray 1, 1, .iconst 1), (46, .isub, 1, .isub), (47, .putfield 1120, 3, .putfield 138), (50, .aload 0, 1, .aload_n 0), (51, .anewarray 3, 1, .iconst 3), (52, .aload 0, 1, .aload_n 0), (53, .getfield 1120, 3, .getfield 138), (56, .iadd, 1, .iadd), (57, .anewarray 1, 1, .iconst 1), (58, .invokeinterface 16912 3, 3, .invokevirtual 131), (61, .aload 0, 1, .aload_n 0), (62, .dup, 1, .dup), (63, .getfield 1120, 3, .getfield 138), (66, .anewarray 1, 1, .iconst 1), (67, .iadd, 1, .iadd), (68, .putfield 1120, 3, .putfield 138), (71, .return_, 1, .return_)]
def cd_X12_back : List AE := [(0, .aload 0, 1, .aload_n 0), (1, .getfield 1120, 3, .getfield 138), (4, .ifCond .ne 14, 3, .ifCond .ne 10), (7, .aload 0, 1, .aload_n 0), (8, .iconst (-3), 2, .bipush (-3)), (10, .invokeinterface 14812 2, 3, .invokevirtual 65), (13, .ireturn, 1, .ireturn), (14, .aload 0, 1, .aload_n 0), (15, .dup, 1, .dup), (16, .getfield 1120, 3, .getfield 138), (19, .anewarray 1, 1, .iconst 1), (20, .isub, 1, .isub), (21, .putfield 1120, 3, .putfield 138), (24, .aload 0, 1, .aload_n 0), (25, .anewarray 3, 1, .iconst 3), (26, .aload 0, 1, .aload_n 0), (27, .getfield 1120, 3, .getfield 138), (30, .iadd, 1, .iadd), (31, .anewarray 0, 1, .iconst 0), (32, .invokeinterface 16912 3, 3, .invokevirtual 131), (35, .aload 0, 1, .aload_n 0), (36, .getfield 1120, 3, .getfield 138), (39, .ireturn, 1, .ireturn)]
def cd_X12_image : List AE := [(0, .aload 0, 1, .aload_n 0), (1, .anewarray 1, 1, .iconst 1), (2, .putfield 21117, 3, .putfield 155), (5, .aload 0, 1, .aload_n 0), (6, .anewarray 0, 1, .iconst 0), (7, .anewarray 1, 1, .iconst 1), (8, .invokeinterface 16912 3, 3, .invokevirtual 131), (11, .aload 0, 1, .aload_n 0), (12, .getfield 1108, 3, .getfield 100), (15, .ireturn, 1, .ireturn)]
def cd_X12_restore : List AE := [(0, .aload 0, 1, .aload_n 0), (1, .getfield 1117, 3, .getfield 155), (4, .ifCond .ne 14, 3, .ifCond .ne 10), (7, .aload 0, 1, .aload_n 0), (8, .iconst (-3), 2, .bipush (-3)), (10, .invokeinterface 14812 2, 3, .invokevirtual 65), (13, .ireturn, 1, .ireturn), (14, .aload 0, 1, .aload_n 0), (15, .anewarray 0, 1, .iconst 0), (16, .anewarray 0, 1, .iconst 0), (17, .invokeinterface 16912 3, 3, .invokevirtual 131), (20, .aload 0, 1, .aload_n 0), (21, .anewarray 0, 1, .iconst 0), (22, .putfield 1120, 3, .putfield 138), (25, .aload 0, 1, .aload_n 0), (26, .getfield 1108, 3, .getfield 100), (29, .ireturn, 1, .ireturn)]
def cd_X12_adds : List AE := [(0, .aload 0, 1, .aload_n 0), (1, .getfield 1101, 3, .getfield 13), (4, .aload 0, 1, .aload_n 0), (5, .getfield 1105, 3, .getfield 52), (8, .iload 1, 1, .iload_n 1), (9, .iastore, 1, .iastore), (10, .aload 0, 1, .aload_n 0), (11, .getfield 1102, 3, .getfield 16), (14, .aload 0, 1, .aload_n 0), (15, .getfield 1105, 3, .getfield 52), (18, .iload 2, 1, .iload_n 2), (19, .iastore, 1, .iastore), (20, .aload 0, 1, .aload_n 0), (21, .getfield 1103, 3, .getfield 19), (24, .aload 0, 1, .aload_n 0), (25, .getfield 1105, 3, .getfield 52), (28, .iload 3, 1, .iload_n 3), (29, .iastore, 1, .iastore), (30, .aload 0, 1, .aload_n 0), (31, .getfield 1104, 3, .getfield 22), (34, .aload 0, 1, .aload_n 0), (35, .getfield 1105, 3, .getfield 52), (38, .aload 0, 1, .aload_n 0), (39, .getfield 1105, 3, .getfield 52), (42, .iastore, 1, .iastore), (43, .aload 0, 1, .aload_n 0), (44, .dup, 1, .dup), (45, .getfield 1105, 3, .getfield 52), (48, .anewarray 1, 1, .iconst 1), (49, .iadd, 1, .iadd), (50, .putfield 1105, 3, .putfield 52), (53, .return_, 1, .return_)]
def cd_X12_lossOf : List AE := [(0, .anewarray 1, 1, .iconst 1), (1, .aload 0, 1, .aload_n 0), (2, .getfield 1102, 3, .getfield 16), (5, .iload 1, 1, .iload_n 1), (6, .iaload, 1, .iaload), (7, .iadd, 1, .iadd), (8, .istore 2, 1, .istore_n 2), (9, .aload 0, 1, .aload_n 0), (10, .getfield 1101, 3, .getfield 13), (13, .iload 1, 1, .iload_n 1), (14, .iaload, 1, .iaload), (15, .tableswitch 70 1 5 #[48, 52, 56, 58, 64], 33, .tableswitch 55 1 5 #[33, 37, 41, 43, 49]), (48, .iload 2, 1, .iload_n 2), (49, .anewarray 2, 1, .iconst 2), (50, .idiv, 1, .idiv), (51, .ireturn, 1, .ireturn), (52, .iload 2, 1, .iload_n 2), (53, .anewarray 2, 1, .iconst 2), (54, .iadd, 1, .iadd), (55, .ireturn, 1, .ireturn), (56, .anewarray 1, 1, .iconst 1), (57, .ireturn, 1, .ireturn), (58, .iload 2, 1, .iload_n 2), (59, .anewarray 2, 1, .iconst 2), (60, .iadd, 1, .iadd), (61, .anewarray 2, 1, .iconst 2), (62, .idiv, 1, .idiv), (63, .ireturn, 1, .ireturn), (64, .iload 2, 1, .iload_n 2), (65, .anewarray 2, 1, .iconst 2), (66, .idiv, 1, .idiv), (67, .anewarray 1, 1, .iconst 1), (68, .iadd, 1, .iadd), (69, .ireturn, 1, .ireturn), (70, .iload 2, 1, .iload_n 2), (71, .ireturn, 1, .ireturn)]
def cd_X12_standsOf : List AE := [(0, .anewarray 10, 2, .bipush 10), (2, .aload 0, 1, .aload_n 0), (3, .getfield 1102, 3, .getfield 16), (6, .iload 1, 1, .iload_n 1), (7, .iaload, 1, .iaload), (8, .iadd, 1, .iadd), (9, .istore 2, 1, .istore_n 2), (10, .aload 0, 1, .aload_n 0), (11, .getfield 1101, 3, .getfield 13), (14, .iload 1, 1, .iload_n 1), (15, .iaload, 1, .iaload), (16, .tableswitch 72 1 5 #[52, 56, 60, 66, 69], 36, .tableswitch 56 1 5 #[36, 40, 44, 50, 53]), (52, .iload 2, 1, .iload_n 2), (53, .anewarray 4, 1, .iconst 4), (54, .isub, 1, .isub), (55, .ireturn, 1, .ireturn), (56, .iload 2, 1, .iload_n 2), (57, .anewarray 5, 1, .iconst 5), (58, .iadd, 1, .iadd), (59, .ireturn, 1, .ireturn), (60, .iload 2, 1, .iload_n 2), (61, .anewarray 4, 1, .iconst 4), (62, .isub, 1, .isub), (63, .anewarray 2, 1, .iconst 2), (64, .idiv, 1, .idiv), (65, .ireturn, 1, .ireturn), (66, .anewarray 99, 2, .bipush 99), (68, .ireturn, 1, .ireturn), (69, .anewarray 6, 2, .bipush 6), (71, .ireturn, 1, .ireturn), (72, .iload 2, 1, .iload_n 2), (73, .ireturn, 1, .ireturn)]
def cd_X12_jumpOf : List AE := [(0, .iload 2, 1, .iload_n 2), (1, .ifCond .ne 6, 3, .ifCond .ne 5), (4, .anewarray 0, 1, .iconst 0), (5, .ireturn, 1, .ireturn), (6, .aload 0, 1, .aload_n 0), (7, .getfield 1101, 3, .getfield 13), (10, .iload 1, 1, .iload_n 1), (11, .iaload, 1, .iaload), (12, .tableswitch 68 1 5 #[48, 54, 58, 66, 48], 36, .tableswitch 56 1 5 #[36, 42, 46, 54, 36]), (48, .iload 2, 1, .iload_n 2), (49, .anewarray 2, 1, .iconst 2), (50, .idiv, 1, .idiv), (51, .anewarray 1, 1, .iconst 1), (52, .iadd, 1, .iadd), (53, .ireturn, 1, .ireturn), (54, .iload 2, 1, .iload_n 2), (55, .anewarray 3, 1, .iconst 3), (56, .idiv, 1, .idiv), (57, .ireturn, 1, .ireturn), (58, .anewarray 2, 1, .iconst 2), (59, .iload 2, 1, .iload_n 2), (60, .anewarray 2, 1, .iconst 2), (61, .idiv, 1, .idiv), (62, .anewarray 1, 1, .iconst 1), (63, .iadd, 1, .iadd), (64, .imul, 1, .imul), (65, .ireturn, 1, .ireturn), (66, .anewarray 0, 1, .iconst 0), (67, .ireturn, 1, .ireturn), (68, .iload 2, 1, .iload_n 2), (69, .anewarray 2, 1, .iconst 2), (70, .idiv, 1, .idiv), (71, .ireturn, 1, .ireturn)]
def cd_X12_placeOf : List AE := [(0, .anewarray 0, 1, .iconst 0), (1, .istore 2, 1, .istore_n 2), (2, .aload 0, 1, .aload_n 0), (3, .getfield 1104, 3, .getfield 22), (6, .iload 2, 1, .iload_n 2), (7, .iaload, 1, .iaload), (8, .iload 1, 1, .iload_n 1), (9, .if_icmp .eq 18, 3, .if_icmp .eq 9), (12, .iinc 2 1, 3, .iinc 2 1), (15, .goto 2, 3, .goto (-13)), (18, .iload 2, 1, .iload_n 2), (19, .ireturn, 1, .ireturn)]
def cd_X12_lands : List AE := [(0, .aload 0, 1, .aload_n 0), (1, .getfield 1104, 3, .getfield 22), (4, .iload 1, 1, .iload_n 1), (5, .iaload, 1, .iaload), (6, .istore 3, 1, .istore_n 3), (7, .aload 0, 1, .aload_n 0), (8, .getfield 1121, 3, .getfield 40), (11, .iload 3, 1, .iload_n 3), (12, .iload 2, 1, .iload_n 2), (13, .iastore, 1, .iastore), (14, .iload 2, 1, .iload_n 2), (15, .aload 0, 1, .aload_n 0), (16, .iload 3, 1, .iload_n 3), (17, .invokeinterface 17812 2, 3, .invokevirtual 158), (20, .if_icmp .lt 37, 3, .if_icmp .lt 17), (23, .aload 0, 1, .aload_n 0), (24, .dup, 1, .dup), (25, .getfield 1122, 3, .getfield 161), (28, .anewarray 1, 1, .iconst 1), (29, .iload 3, 1, .iload_n 3), (30, .ishl, 1, .ishl), (31, .ior, 1, .ior), (32, .putfield 1122, 3, .putfield 161), (35, .anewarray 0, 1, .iconst 0), (36, .ireturn, 1, .ireturn), (37, .iload 2, 1, .iload_n 2), (38, .aload 0, 1, .aload_n 0), (39, .iload 3, 1, .iload_n 3), (40, .invokeinterface 17712 2, 3, .invokevirtual 164), (43, .isub, 1, .isub), (44, .ireturn, 1, .ireturn)]
def cd_X12_goesAlong : List AE := [(0, .iload 1, 1, .iload_n 1), (1, .istore 4, 2, .istore 4), (3, .iload 3, 1, .iload_n 3), (4, .istore 5, 2, .istore 5), (6, .iload 5, 2, .iload 5), (8, .ifCond .le 89, 3, .ifCond .le 81), (11, .iload 2, 1, .iload_n 2), (12, .ifCond .le 20, 3, .ifCond .le 8), (15, .iload 4, 2, .iload 4), (17, .goto 24, 3, .goto 7), (20, .iload 4, 2, .iload 4), (22, .anewarray 1, 1, .iconst 1), (23, .isub, 1, .isub), (24, .istore 6, 2, .istore 6), (26, .iload 4, 2, .iload 4), (28, .iload 2, 1, .iload_n 2), (29, .iadd, 1, .iadd), (30, .istore 4, 2, .istore 4), (32, .iload 4, 2, .iload 4), (34, .ifCond .lt 75, 3, .ifCond .lt 41), (37, .iload 4, 2, .iload 4), (39, .aload 0, 1, .aload_n 0), (40, .getfield 1105, 3, .getfield 52), (43, .if_icmp .ge 75, 3, .if_icmp .ge 32), (46, .aload 0, 1, .aload_n 0), (47, .getfield 1107, 3, .getfield 107), (50, .iload 6, 2, .iload 6), (52, .invokeinterface 15300 2, 3, .invokestatic 97), (55, .ifCond .ne 75, 3, .ifCond .ne 20), (58, .aload 0, 1, .aload_n 0), (59, .getfield 1106, 3, .getfield 94), (62, .aload 0, 1, .aload_n 0), (63, .getfield 1104, 3, .getfield 22), (66, .iload 4, 2, .iload 4), (68, .iaload, 1, .iaload), (69, .invokeinterface 15300 2, 3, .invokestatic 97), (72, .ifCond .eq 76, 3, .ifCond .eq 4), (75, .return_, 1, .return_), (76, .aload 0, 1, .aload_n 0), (77, .iload 4, 2, .iload 4), (79, .iload 5, 2, .iload 5), (81, .invokeinterface 18112 3, 3, .invokevirtual 167), (84, .istore 5, 2, .istore 5), (86, .goto 6, 3, .goto (-80)), (89, .return_, 1, .return_)]
def cd_X12_findBlow : List AE := [(0, .anewarray 0, 1, .iconst 0), (1, .istore 3, 1, .istore_n 3), (2, .iload 3, 1, .iload_n 3), (3, .anewarray 8, 2, .bipush 8), (5, .if_icmp .ge 21, 3, .if_icmp .ge 16), (8, .aload 0, 1, .aload_n 0), (9, .getfield 1121, 3, .getfield 40), (12, .iload 3, 1, .iload_n 3), (13, .anewarray 0, 1, .iconst 0), (14, .iastore, 1, .iastore), (15, .iinc 3 1, 3, .iinc 3 1), (18, .goto 2, 3, .goto (-16)), (21, .aload 0, 1, .aload_n 0), (22, .anewarray 0, 1, .iconst 0), (23, .putfield 1122, 3, .putfield 161), (26, .aload 0, 1, .aload_n 0), (27, .getfield 1106, 3, .getfield 94), (30, .iload 1, 1, .iload_n 1), (31, .invokeinterface 15300 2, 3, .invokestatic 97), (34, .ifCond .eq 38, 3, .ifCond .eq 4), (37, .return_, 1, .return_), (38, .aload 0, 1, .aload_n 0), (39, .iload 1, 1, .iload_n 1), (40, .invokeinterface 18012 2, 3, .invokevirtual 170), (43, .istore 3, 1, .istore_n 3), (44, .aload 0, 1, .aload_n 0), (45, .iload 3, 1, .iload_n 3), (46, .iload 2, 1, .iload_n 2), (47, .invokeinterface 18112 3, 3, .invokevirtual 167), (50, .istore 4, 2, .istore 4), (52, .aload 0, 1, .aload_n 0), (53, .iload 3, 1, .iload_n 3), (54, .anewarray 1, 1, .iconst 1), (55, .iload 4, 2, .iload 4), (57, .invokeinterface 18212 4, 3, .invokevirtual 173), (60, .aload 0, 1, .aload_n 0), (61, .iload 3, 1, .iload_n 3), (62, .iconst (-1), 1, .iconst (-1)), (63, .iload 4, 2, .iload 4), (65, .invokeinterface 18212 4, 3, .invokevirtual 173), (68, .return_, 1, .return_)]
def cd_X12_breaksBy : List AE := [(0, .aload 0, 1, .aload_n 0), (1, .iload 1, 1, .iload_n 1), (2, .iload 2, 1, .iload_n 2), (3, .invokeinterface 18312 3, 3, .invokevirtual 176), (6, .aload 0, 1, .aload_n 0), (7, .dup, 1, .dup), (8, .getfield 1106, 3, .getfield 94), (11, .aload 0, 1, .aload_n 0), (12, .getfield 1122, 3, .getfield 161), (15, .ior, 1, .ior), (16, .putfield 1106, 3, .putfield 94), (19, .aload 0, 1, .aload_n 0), (20, .getfield 1122, 3, .getfield 161), (23, .invokeinterface 15400 1, 3, .invokestatic 179), (26, .ireturn, 1, .ireturn)]
def cd_X12_manyGet : List AE := [(0, .anewarray 0, 1, .iconst 0), (1, .istore 1, 1, .istore_n 1), (2, .anewarray 0, 1, .iconst 0), (3, .istore 2, 1, .istore_n 2), (4, .iload 2, 1, .iload_n 2), (5, .aload 0, 1, .aload_n 0), (6, .getfield 1105, 3, .getfield 52), (9, .if_icmp .ge 35, 3, .if_icmp .ge 26), (12, .iload 1, 1, .iload_n 1), (13, .aload 0, 1, .aload_n 0), (14, .getfield 1121, 3, .getfield 40), (17, .iload 2, 1, .iload_n 2), (18, .iaload, 1, .iaload), (19, .ifCond .le 26, 3, .ifCond .le 7), (22, .anewarray 1, 1, .iconst 1), (23, .goto 27, 3, .goto 4), (26, .anewarray 0, 1, .iconst 0), (27, .iadd, 1, .iadd), (28, .istore 1, 1, .istore_n 1), (29, .iinc 2 1, 3, .iinc 2 1), (32, .goto 4, 3, .goto (-28)), (35, .iload 1, 1, .iload_n 1), (36, .ireturn, 1, .ireturn)]
def cd_X12_allJumps : List AE := [(0, .anewarray 0, 1, .iconst 0), (1, .istore 1, 1, .istore_n 1), (2, .anewarray 0, 1, .iconst 0), (3, .istore 2, 1, .istore_n 2), (4, .iload 2, 1, .iload_n 2), (5, .aload 0, 1, .aload_n 0), (6, .getfield 1105, 3, .getfield 52), (9, .if_icmp .ge 32, 3, .if_icmp .ge 23), (12, .iload 1, 1, .iload_n 1), (13, .aload 0, 1, .aload_n 0), (14, .iload 2, 1, .iload_n 2), (15, .aload 0, 1, .aload_n 0), (16, .getfield 1121, 3, .getfield 40), (19, .iload 2, 1, .iload_n 2), (20, .iaload, 1, .iaload), (21, .invokeinterface 17912 3, 3, .invokevirtual 182), (24, .iadd, 1, .iadd), (25, .istore 1, 1, .istore_n 1), (26, .iinc 2 1, 3, .iinc 2 1), (29, .goto 4, 3, .goto (-25)), (32, .iload 1, 1, .iload_n 1), (33, .ireturn, 1, .ireturn)]
def cd_X12_thingOf : List AE := [(0, .aload 0, 1, .aload_n 0), (1, .iload 1, 1, .iload_n 1), (2, .invokeinterface 15612 2, 3, .invokevirtual 90), (5, .ifCond .ne 14, 3, .ifCond .ne 9), (8, .aload 0, 1, .aload_n 0), (9, .iconst (-1), 1, .iconst (-1)), (10, .invokeinterface 14812 2, 3, .invokevirtual 65), (13, .ireturn, 1, .ireturn), (14, .iload 2, 1, .iload_n 2), (15, .tableswitch 104 0 6 #[56, 63, 70, 77, 86, 92, 98], 41, .tableswitch 89 0 6 #[41, 48, 55, 62, 71, 77, 83]), (56, .aload 0, 1, .aload_n 0), (57, .getfield 1101, 3, .getfield 13), (60, .iload 1, 1, .iload_n 1), (61, .iaload, 1, .iaload), (62, .ireturn, 1, .ireturn), (63, .aload 0, 1, .aload_n 0), (64, .getfield 1102, 3, .getfield 16), (67, .iload 1, 1, .iload_n 1), (68, .iaload, 1, .iaload), (69, .ireturn, 1, .ireturn), (70, .aload 0, 1, .aload_n 0), (71, .getfield 1103, 3, .getfield 19), (74, .iload 1, 1, .iload_n 1), (75, .iaload, 1, .iaload), (76, .ireturn, 1, .ireturn), (77, .aload 0, 1, .aload_n 0), (78, .getfield 1106, 3, .getfield 94), (81, .iload 1, 1, .iload_n 1), (82, .ishr, 1, .ishr), (83, .anewarray 1, 1, .iconst 1), (84, .iand, 1, .iand), (85, .ireturn, 1, .ireturn), (86, .aload 0, 1, .aload_n 0), (87, .iload 1, 1, .iload_n 1), (88, .invokeinterface 17712 2, 3, .invokevirtual 164), (91, .ireturn, 1, .ireturn), (92, .aload 0, 1, .aload_n 0), (93, .iload 1, 1, .iload_n 1), (94, .invokeinterface 17812 2, 3, .invokevirtual 158), (97, .ireturn, 1, .ireturn), (98, .aload 0, 1, .aload_n 0), (99, .iload 1, 1, .iload_n 1), (100, .invokeinterface 18012 2, 3, .invokevirtual 170), (103, .ireturn, 1, .ireturn), (104, .aload 0, 1, .aload_n 0), (105, .iconst (-2), 2, .bipush (-2)), (107, .invokeinterface 14812 2, 3, .invokevirtual 65), (110, .ireturn, 1, .ireturn)]
def cd_X12_place : List AE := [(0, .aload 0, 1, .aload_n 0), (1, .iload 1, 1, .iload_n 1), (2, .invokeinterface 15612 2, 3, .invokevirtual 90), (5, .ifCond .ne 14, 3, .ifCond .ne 9), (8, .aload 0, 1, .aload_n 0), (9, .iconst (-1), 1, .iconst (-1)), (10, .invokeinterface 14812 2, 3, .invokevirtual 65), (13, .ireturn, 1, .ireturn), (14, .iload 2, 1, .iload_n 2), (15, .anewarray 0, 1, .iconst 0), (16, .anewarray 1, 1, .iconst 1), (17, .invokeinterface 15000 3, 3, .invokestatic 76), (20, .ifCond .ne 30, 3, .ifCond .ne 10), (23, .aload 0, 1, .aload_n 0), (24, .iconst (-2), 2, .bipush (-2)), (26, .invokeinterface 14812 2, 3, .invokevirtual 65), (29, .ireturn, 1, .ireturn), (30, .iload 2, 1, .iload_n 2), (31, .ifCond .ne 43, 3, .ifCond .ne 12), (34, .aload 0, 1, .aload_n 0), (35, .getfield 1104, 3, .getfield 22), (38, .iload 1, 1, .iload_n 1), (39, .iaload, 1, .iaload), (40, .goto 64, 3, .goto 24), (43, .aload 0, 1, .aload_n 0), (44, .iload 1, 1, .iload_n 1), (45, .invokeinterface 15712 2, 3, .invokevirtual 110), (48, .ifCond .eq 62, 3, .ifCond .eq 14), (51, .aload 0, 1, .aload_n 0), (52, .getfield 1107, 3, .getfield 107), (55, .iload 1, 1, .iload_n 1), (56, .ishr, 1, .ishr), (57, .anewarray 1, 1, .iconst 1), (58, .iand, 1, .iand), (59, .goto 64, 3, .goto 5), (62, .iconst (-9), 2, .bipush (-9)), (64, .ireturn, 1, .ireturn)]
def cd_X12_thing : List AE := [(0, .iload 1, 1, .iload_n 1), (1, .anewarray 0, 1, .iconst 0), (2, .anewarray 5, 1, .iconst 5), (3, .invokeinterface 15000 3, 3, .invokestatic 76), (6, .ifCond .ne 14, 3, .ifCond .ne 8), (9, .iconst (-2), 2, .bipush (-2)), (11, .goto 54, 3, .goto 43), (14, .iload 2, 1, .iload_n 2), (15, .ifCond .lt 22, 3, .ifCond .lt 7), (18, .iload 3, 1, .iload_n 3), (19, .ifCond .ge 27, 3, .ifCond .ge 8), (22, .iconst (-4), 2, .bipush (-4)), (24, .goto 54, 3, .goto 30), (27, .iload 2, 1, .iload_n 2), (28, .anewarray 9, 2, .bipush 9), (30, .if_icmp .gt 48, 3, .if_icmp .gt 18), (33, .iload 3, 1, .iload_n 3), (34, .anewarray 9, 2, .bipush 9), (36, .if_icmp .gt 48, 3, .if_icmp .gt 12), (39, .aload 0, 1, .aload_n 0), (40, .getfield 1105, 3, .getfield 52), (43, .anewarray 8, 2, .bipush 8), (45, .if_icmp .ne 53, 3, .if_icmp .ne 8), (48, .iconst (-6), 2, .bipush (-6)), (50, .goto 54, 3, .goto 4), (53, .anewarray 0, 1, .iconst 0), (54, .istore 4, 2, .istore 4), (56, .iload 4, 2, .iload 4), (58, .ifCond .eq 68, 3, .ifCond .eq 10), (61, .aload 0, 1, .aload_n 0), (62, .iload 4, 2, .iload 4), (64, .invokeinterface 14812 2, 3, .invokevirtual 65), (67, .ireturn, 1, .ireturn), (68, .aload 0, 1, .aload_n 0), (69, .anewarray 0, 1, .iconst 0), (70, .putfield 1120, 3, .putfield 138), (73, .aload 0, 1, .aload_n 0), (74, .iload 1, 1, .iload_n 1), (75, .iload 2, 1, .iload_n 2), (76, .iload 3, 1, .iload_n 3), (77, .invokeinterface 17612 4, 3, .invokevirtual 123), (80, .aload 0, 1, .aload_n 0), (81, .getfield 1105, 3, .getfield 52), (84, .anewarray 1, 1, .iconst 1), (85, .isub, 1, .isub), (86, .ireturn, 1, .ireturn)]
def cd_X12_drops : List AE := [(0, .aload 0, 1, .aload_n 0), (1, .iload 1, 1, .iload_n 1), (2, .invokeinterface 15612 2, 3, .invokevirtual 90), (5, .ifCond .ne 12, 3, .ifCond .ne 7), (8, .iconst (-1), 1, .iconst (-1)), (9, .goto 16, 3, .goto 7), (12, .iload 2, 1, .iload_n 2), (13, .invokeinterface 15200 1, 3, .invokestatic 185), (16, .istore 3, 1, .istore_n 3), (17, .iload 3, 1, .iload_n 3), (18, .ifCond .ne 54, 3, .ifCond .ne 36), (21, .aload 0, 1, .aload_n 0), (22, .getfield 1108, 3, .getfield 100), (25, .anewarray 999, 3, .sipush 999), (28, .if_icmp .ne 36, 3, .if_icmp .ne 8), (31, .iconst (-6), 2, .bipush (-6)), (33, .goto 53, 3, .goto 20), (36, .aload 0, 1, .aload_n 0), (37, .getfield 1106, 3, .getfield 94), (40, .iload 1, 1, .iload_n 1), (41, .invokeinterface 15300 2, 3, .invokestatic 97), (44, .ifCond .eq 52, 3, .ifCond .eq 8), (47, .iconst (-3), 2, .bipush (-3)), (49, .goto 53, 3, .goto 4), (52, .anewarray 0, 1, .iconst 0), (53, .istore 3, 1, .istore_n 3), (54, .iload 3, 1, .iload_n 3), (55, .ifCond .eq 64, 3, .ifCond .eq 9), (58, .aload 0, 1, .aload_n 0), (59, .iload 3, 1, .iload_n 3), (60, .invokeinterface 14812 2, 3, .invokevirtual 65), (63, .ireturn, 1, .ireturn), (64, .aload 0, 1, .aload_n 0), (65, .invokeinterface 17212 1, 3, .invokevirtual 188), (68, .aload 0, 1, .aload_n 0), (69, .dup, 1, .dup), (70, .getfield 1108, 3, .getfield 100), (73, .anewarray 1, 1, .iconst 1), (74, .iadd, 1, .iadd), (75, .putfield 1108, 3, .putfield 100), (78, .aload 0, 1, .aload_n 0), (79, .iload 1, 1, .iload_n 1), (80, .iload 2, 1, .iload_n 2), (81, .invokeinterface 18412 3, 3, .invokevirtual 103), (84, .ireturn, 1, .ireturn)]
def cd_X12_mends : List AE := [(0, .aload 0, 1, .aload_n 0), (1, .iload 1, 1, .iload_n 1), (2, .invokeinterface 15612 2, 3, .invokevirtual 90), (5, .ifCond .ne 12, 3, .ifCond .ne 7), (8, .iconst (-1), 1, .iconst (-1)), (9, .goto 29, 3, .goto 20), (12, .aload 0, 1, .aload_n 0), (13, .getfield 1106, 3, .getfield 94), (16, .iload 1, 1, .iload_n 1), (17, .invokeinterface 15300 2, 3, .invokestatic 97), (20, .ifCond .ne 28, 3, .ifCond .ne 8), (23, .iconst (-3), 2, .bipush (-3)), (25, .goto 29, 3, .goto 4), (28, .anewarray 0, 1, .iconst 0), (29, .istore 2, 1, .istore_n 2), (30, .iload 2, 1, .iload_n 2), (31, .ifCond .eq 40, 3, .ifCond .eq 9), (34, .aload 0, 1, .aload_n 0), (35, .iload 2, 1, .iload_n 2), (36, .invokeinterface 14812 2, 3, .invokevirtual 65), (39, .ireturn, 1, .ireturn), (40, .aload 0, 1, .aload_n 0), (41, .invokeinterface 17212 1, 3, .invokevirtual 188), (44, .aload 0, 1, .aload_n 0), (45, .dup, 1, .dup), (46, .getfield 1106, 3, .getfield 94), (49, .anewarray 1, 1, .iconst 1), (50, .iload 1, 1, .iload_n 1), (51, .ishl, 1, .ishl), (52, .iconst (-1), 1, .iconst (-1)), (53, .ixor, 1, .ixor), (54, .iand, 1, .iand), (55, .putfield 1106, 3, .putfield 94), (58, .aload 0, 1, .aload_n 0), (59, .getfield 1106, 3, .getfield 94), (62, .invokeinterface 15400 1, 3, .invokestatic 179), (65, .ireturn, 1, .ireturn)]
def cd_X12_cuts : List AE := [(0, .aload 0, 1, .aload_n 0), (1, .iload 1, 1, .iload_n 1), (2, .invokeinterface 15712 2, 3, .invokevirtual 110), (5, .ifCond .ne 14, 3, .ifCond .ne 9), (8, .aload 0, 1, .aload_n 0), (9, .iconst (-1), 1, .iconst (-1)), (10, .invokeinterface 14812 2, 3, .invokevirtual 65), (13, .ireturn, 1, .ireturn), (14, .aload 0, 1, .aload_n 0), (15, .invokeinterface 17212 1, 3, .invokevirtual 188), (18, .aload 0, 1, .aload_n 0), (19, .dup, 1, .dup), (20, .getfield 1107, 3, .getfield 107), (23, .anewarray 1, 1, .iconst 1), (24, .iload 1, 1, .iload_n 1), (25, .ishl, 1, .ishl), (26, .ixor, 1, .ixor), (27, .putfield 1107, 3, .putfield 107), (30, .aload 0, 1, .aload_n 0), (31, .getfield 1107, 3, .getfield 107), (34, .iload 1, 1, .iload_n 1), (35, .ishr, 1, .ishr), (36, .anewarray 1, 1, .iconst 1), (37, .iand, 1, .iand), (38, .ireturn, 1, .ireturn)]
def cd_X12_exchanges : List AE := [(0, .aload 0, 1, .aload_n 0), (1, .getfield 1104, 3, .getfield 22), (4, .iload 1, 1, .iload_n 1), (5, .iaload, 1, .iaload), (6, .istore 3, 1, .istore_n 3), (7, .aload 0, 1, .aload_n 0), (8, .getfield 1104, 3, .getfield 22), (11, .iload 1, 1, .iload_n 1), (12, .aload 0, 1, .aload_n 0), (13, .getfield 1104, 3, .getfield 22), (16, .iload 2, 1, .iload_n 2), (17, .iaload, 1, .iaload), (18, .iastore, 1, .iastore), (19, .aload 0, 1, .aload_n 0), (20, .getfield 1104, 3, .getfield 22), (23, .iload 2, 1, .iload_n 2), (24, .iload 3, 1, .iload_n 3), (25, .iastore, 1, .iastore), (26, .return_, 1, .return_)]
def cd_X12_changes : List AE := [(0, .aload 0, 1, .aload_n 0), (1, .iload 1, 1, .iload_n 1), (2, .invokeinterface 15612 2, 3, .invokevirtual 90), (5, .ifCond .eq 21, 3, .ifCond .eq 16), (8, .aload 0, 1, .aload_n 0), (9, .iload 2, 1, .iload_n 2), (10, .invokeinterface 15612 2, 3, .invokevirtual 90), (13, .ifCond .eq 21, 3, .ifCond .eq 8), (16, .iload 1, 1, .iload_n 1), (17, .iload 2, 1, .iload_n 2), (18, .if_icmp .ne 27, 3, .if_icmp .ne 9), (21, .aload 0, 1, .aload_n 0), (22, .iconst (-1), 1, .iconst (-1)), (23, .invokeinterface 14812 2, 3, .invokevirtual 65), (26, .ireturn, 1, .ireturn), (27, .aload 0, 1, .aload_n 0), (28, .invokeinterface 17212 1, 3, .invokevirtual 188), (31, .aload 0, 1, .aload_n 0), (32, .iload 1, 1, .iload_n 1), (33, .iload 2, 1, .iload_n 2), (34, .invokeinterface 19312 3, 3, .invokevirtual 113), (37, .aload 0, 1, .aload_n 0), (38, .getfield 1104, 3, .getfield 22), (41, .iload 1, 1, .iload_n 1), (42, .iaload, 1, .iaload), (43, .ireturn, 1, .ireturn)]
def cd_X12_notTwo : List AE := [(0, .aload 0, 1, .aload_n 0), (1, .iload 1, 1, .iload_n 1), (2, .invokeinterface 15612 2, 3, .invokevirtual 90), (5, .ifCond .eq 16, 3, .ifCond .eq 11), (8, .aload 0, 1, .aload_n 0), (9, .iload 2, 1, .iload_n 2), (10, .invokeinterface 15612 2, 3, .invokevirtual 90), (13, .ifCond .ne 20, 3, .ifCond .ne 7), (16, .iconst (-1), 1, .iconst (-1)), (17, .goto 21, 3, .goto 4), (20, .anewarray 0, 1, .iconst 0), (21, .ireturn, 1, .ireturn)]
def cd_X12_gets : List AE := [(0, .aload 0, 1, .aload_n 0), (1, .iload 1, 1, .iload_n 1), (2, .iload 3, 1, .iload_n 3), (3, .invokeinterface 19512 3, 3, .invokevirtual 191), (6, .istore 5, 2, .istore 5), (8, .iload 5, 2, .iload 5), (10, .ifCond .ne 19, 3, .ifCond .ne 9), (13, .iload 2, 1, .iload_n 2), (14, .invokeinterface 15200 1, 3, .invokestatic 185), (17, .istore 5, 2, .istore 5), (19, .iload 5, 2, .iload 5), (21, .ifCond .ne 38, 3, .ifCond .ne 17), (24, .iload 4, 2, .iload 4), (26, .anewarray 0, 1, .iconst 0), (27, .anewarray 1, 1, .iconst 1), (28, .invokeinterface 15000 3, 3, .invokestatic 76), (31, .ifCond .ne 38, 3, .ifCond .ne 7), (34, .iconst (-2), 2, .bipush (-2)), (36, .istore 5, 2, .istore 5), (38, .iload 5, 2, .iload 5), (40, .ifCond .eq 50, 3, .ifCond .eq 10), (43, .aload 0, 1, .aload_n 0), (44, .iload 5, 2, .iload 5), (46, .invokeinterface 14812 2, 3, .invokevirtual 65), (49, .ireturn, 1, .ireturn), (50, .aload 0, 1, .aload_n 0), (51, .iload 1, 1, .iload_n 1), (52, .iload 2, 1, .iload_n 2), (53, .invokeinterface 18312 3, 3, .invokevirtual 176), (56, .iload 4, 2, .iload 4), (58, .ifCond .ne 70, 3, .ifCond .ne 12), (61, .aload 0, 1, .aload_n 0), (62, .getfield 1121, 3, .getfield 40), (65, .iload 3, 1, .iload_n 3), (66, .iaload, 1, .iaload), (67, .goto 81, 3, .goto 14), (70, .aload 0, 1, .aload_n 0), (71, .iload 3, 1, .iload_n 3), (72, .aload 0, 1, .aload_n 0), (73, .getfield 1121, 3, .getfield 40), (76, .iload 3, 1, .iload_n 3), (77, .iaload, 1, .iaload), (78, .invokeinterface 17912 3, 3, .invokevirtual 182), (81, .ireturn, 1, .ireturn)]
def cd_X12_whoGet : List AE := [(0, .anewarray 0, 1, .iconst 0), (1, .istore 1, 1, .istore_n 1), (2, .anewarray 0, 1, .iconst 0), (3, .istore 2, 1, .istore_n 2), (4, .iload 2, 1, .iload_n 2), (5, .aload 0, 1, .aload_n 0), (6, .getfield 1105, 3, .getfield 52), (9, .if_icmp .ge 37, 3, .if_icmp .ge 28), (12, .iload 1, 1, .iload_n 1), (13, .aload 0, 1, .aload_n 0), (14, .getfield 1121, 3, .getfield 40), (17, .iload 2, 1, .iload_n 2), (18, .iaload, 1, .iaload), (19, .ifCond .le 28, 3, .ifCond .le 9), (22, .anewarray 1, 1, .iconst 1), (23, .iload 2, 1, .iload_n 2), (24, .ishl, 1, .ishl), (25, .goto 29, 3, .goto 4), (28, .anewarray 0, 1, .iconst 0), (29, .ior, 1, .ior), (30, .istore 1, 1, .istore_n 1), (31, .iinc 2 1, 3, .iinc 2 1), (34, .goto 4, 3, .goto (-30)), (37, .iload 1, 1, .iload_n 1), (38, .ireturn, 1, .ireturn)]
def cd_X12_farthestFrom : List AE := [(0, .iconst (-9), 2, .bipush (-9)), (2, .istore 2, 1, .istore_n 2), (3, .anewarray 0, 1, .iconst 0), (4, .istore 3, 1, .istore_n 3), (5, .iload 3, 1, .iload_n 3), (6, .aload 0, 1, .aload_n 0), (7, .getfield 1105, 3, .getfield 52), (10, .if_icmp .ge 52, 3, .if_icmp .ge 42), (13, .aload 0, 1, .aload_n 0), (14, .getfield 1121, 3, .getfield 40), (17, .aload 0, 1, .aload_n 0), (18, .getfield 1104, 3, .getfield 22), (21, .iload 3, 1, .iload_n 3), (22, .iaload, 1, .iaload), (23, .iaload, 1, .iaload), (24, .ifCond .le 46, 3, .ifCond .le 22), (27, .iload 2, 1, .iload_n 2), (28, .ifCond .lt 44, 3, .ifCond .lt 16), (31, .iload 3, 1, .iload_n 3), (32, .iload 1, 1, .iload_n 1), (33, .invokeinterface 15500 2, 3, .invokestatic 194), (36, .iload 2, 1, .iload_n 2), (37, .iload 1, 1, .iload_n 1), (38, .invokeinterface 15500 2, 3, .invokestatic 194), (41, .if_icmp .le 46, 3, .if_icmp .le 5), (44, .iload 3, 1, .iload_n 3), (45, .istore 2, 1, .istore_n 2), (46, .iinc 3 1, 3, .iinc 3 1), (49, .goto 5, 3, .goto (-44)), (52, .iload 2, 1, .iload_n 2), (53, .ireturn, 1, .ireturn)]
def cd_X12_blow : List AE := [(0, .aload 0, 1, .aload_n 0), (1, .iload 1, 1, .iload_n 1), (2, .invokeinterface 15612 2, 3, .invokevirtual 90), (5, .ifCond .ne 12, 3, .ifCond .ne 7), (8, .iconst (-1), 1, .iconst (-1)), (9, .goto 16, 3, .goto 7), (12, .iload 2, 1, .iload_n 2), (13, .invokeinterface 15200 1, 3, .invokestatic 185), (16, .istore 4, 2, .istore 4), (18, .iload 4, 2, .iload 4), (20, .ifCond .ne 36, 3, .ifCond .ne 16), (23, .iload 3, 1, .iload_n 3), (24, .anewarray 0, 1, .iconst 0), (25, .anewarray 4, 1, .iconst 4), (26, .invokeinterface 15000 3, 3, .invokestatic 76), (29, .ifCond .ne 36, 3, .ifCond .ne 7), (32, .iconst (-2), 2, .bipush (-2)), (34, .istore 4, 2, .istore 4), (36, .iload 4, 2, .iload 4), (38, .ifCond .eq 48, 3, .ifCond .eq 10), (41, .aload 0, 1, .aload_n 0), (42, .iload 4, 2, .iload 4), (44, .invokeinterface 14812 2, 3, .invokevirtual 65), (47, .ireturn, 1, .ireturn), (48, .aload 0, 1, .aload_n 0), (49, .iload 1, 1, .iload_n 1), (50, .iload 2, 1, .iload_n 2), (51, .invokeinterface 18312 3, 3, .invokevirtual 176), (54, .iload 3, 1, .iload_n 3), (55, .tableswitch 104 0 3 #[84, 89, 94, 99], 29, .tableswitch 49 0 3 #[29, 34, 39, 44]), (84, .aload 0, 1, .aload_n 0), (85, .invokeinterface 19712 1, 3, .invokevirtual 197), (88, .ireturn, 1, .ireturn), (89, .aload 0, 1, .aload_n 0), (90, .getfield 1122, 3, .getfield 161), (93, .ireturn, 1, .ireturn), (94, .aload 0, 1, .aload_n 0), (95, .invokeinterface 18512 1, 3, .invokevirtual 200), (98, .ireturn, 1, .ireturn), (99, .aload 0, 1, .aload_n 0), (100, .invokeinterface 18612 1, 3, .invokevirtual 203), (103, .ireturn, 1, .ireturn), (104, .aload 0, 1, .aload_n 0), (105, .aload 0, 1, .aload_n 0), (106, .iload 1, 1, .iload_n 1), (107, .invokeinterface 18012 2, 3, .invokevirtual 170), (110, .invokeinterface 19812 2, 3, .invokevirtual 206), (113, .ireturn, 1, .ireturn)]
def cd_X12_reaches : List AE := [(0, .aload 0, 1, .aload_n 0), (1, .iload 1, 1, .iload_n 1), (2, .iload 2, 1, .iload_n 2), (3, .invokeinterface 19512 3, 3, .invokevirtual 191), (6, .istore 3, 1, .istore_n 3), (7, .iload 3, 1, .iload_n 3), (8, .ifCond .eq 17, 3, .ifCond .eq 9), (11, .aload 0, 1, .aload_n 0), (12, .iload 3, 1, .iload_n 3), (13, .invokeinterface 14812 2, 3, .invokevirtual 65), (16, .ireturn, 1, .ireturn), (17, .anewarray 1, 1, .iconst 1), (18, .istore 4, 2, .istore 4), (20, .iload 4, 2, .iload 4), (22, .anewarray 60, 2, .bipush 60), (24, .if_icmp .gt 52, 3, .if_icmp .gt 28), (27, .aload 0, 1, .aload_n 0), (28, .iload 1, 1, .iload_n 1), (29, .iload 4, 2, .iload 4), (31, .invokeinterface 18312 3, 3, .invokevirtual 176), (34, .aload 0, 1, .aload_n 0), (35, .getfield 1121, 3, .getfield 40), (38, .iload 2, 1, .iload_n 2), (39, .iaload, 1, .iaload), (40, .ifCond .le 46, 3, .ifCond .le 6), (43, .iload 4, 2, .iload 4), (45, .ireturn, 1, .ireturn), (46, .iinc 4 1, 3, .iinc 4 1), (49, .goto 20, 3, .goto (-29)), (52, .iconst (-9), 2, .bipush (-9)), (54, .ireturn, 1, .ireturn)]
def cd_X12_breaks : List AE := [(0, .aload 0, 1, .aload_n 0), (1, .iload 1, 1, .iload_n 1), (2, .iload 2, 1, .iload_n 2), (3, .invokeinterface 19512 3, 3, .invokevirtual 191), (6, .istore 3, 1, .istore_n 3), (7, .iload 3, 1, .iload_n 3), (8, .ifCond .eq 17, 3, .ifCond .eq 9), (11, .aload 0, 1, .aload_n 0), (12, .iload 3, 1, .iload_n 3), (13, .invokeinterface 14812 2, 3, .invokevirtual 65), (16, .ireturn, 1, .ireturn), (17, .anewarray 1, 1, .iconst 1), (18, .istore 4, 2, .istore 4), (20, .iload 4, 2, .iload 4), (22, .anewarray 60, 2, .bipush 60), (24, .if_icmp .gt 54, 3, .if_icmp .gt 30), (27, .aload 0, 1, .aload_n 0), (28, .iload 1, 1, .iload_n 1), (29, .iload 4, 2, .iload 4), (31, .invokeinterface 18312 3, 3, .invokevirtual 176), (34, .aload 0, 1, .aload_n 0), (35, .getfield 1122, 3, .getfield 161), (38, .iload 2, 1, .iload_n 2), (39, .invokeinterface 15300 2, 3, .invokestatic 97), (42, .ifCond .eq 48, 3, .ifCond .eq 6), (45, .iload 4, 2, .iload 4), (47, .ireturn, 1, .ireturn), (48, .iinc 4 1, 3, .iinc 4 1), (51, .goto 20, 3, .goto (-31)), (54, .iconst (-9), 2, .bipush (-9)), (56, .ireturn, 1, .ireturn)]
def cd_X12_harm : List AE := [(0, .aload 0, 1, .aload_n 0), (1, .iload 1, 1, .iload_n 1), (2, .invokeinterface 15612 2, 3, .invokevirtual 90), (5, .ifCond .ne 12, 3, .ifCond .ne 7), (8, .iconst (-1), 1, .iconst (-1)), (9, .goto 27, 3, .goto 18), (12, .iload 2, 1, .iload_n 2), (13, .anewarray 0, 1, .iconst 0), (14, .anewarray 1, 1, .iconst 1), (15, .invokeinterface 15000 3, 3, .invokestatic 76), (18, .ifCond .ne 26, 3, .ifCond .ne 8), (21, .iconst (-2), 2, .bipush (-2)), (23, .goto 27, 3, .goto 4), (26, .anewarray 0, 1, .iconst 0), (27, .istore 3, 1, .istore_n 3), (28, .iload 3, 1, .iload_n 3), (29, .ifCond .eq 38, 3, .ifCond .eq 9), (32, .aload 0, 1, .aload_n 0), (33, .iload 3, 1, .iload_n 3), (34, .invokeinterface 14812 2, 3, .invokevirtual 65), (37, .ireturn, 1, .ireturn), (38, .iconst (-9), 2, .bipush (-9)), (40, .istore 4, 2, .istore 4), (42, .iconst (-9), 2, .bipush (-9)), (44, .istore 5, 2, .istore 5), (46, .anewarray 1, 1, .iconst 1), (47, .istore 6, 2, .istore 6), (49, .iload 6, 2, .iload 6), (51, .anewarray 100, 2, .bipush 100), (53, .aload 0, 1, .aload_n 0), (54, .getfield 1105, 3, .getfield 52), (57, .imul, 1, .imul), (58, .if_icmp .ge 146, 3, .if_icmp .ge 88), (61, .iload 6, 2, .iload 6), (63, .anewarray 100, 2, .bipush 100), (65, .irem, 1, .irem), (66, .anewarray 1, 1, .iconst 1), (67, .anewarray 60, 2, .bipush 60), (69, .invokeinterface 15000 3, 3, .invokestatic 76), (72, .ifCond .ne 78, 3, .ifCond .ne 6), (75, .goto 140, 3, .goto 65), (78, .aload 0, 1, .aload_n 0), (79, .iload 6, 2, .iload 6), (81, .anewarray 100, 2, .bipush 100), (83, .idiv, 1, .idiv), (84, .iload 6, 2, .iload 6), (86, .anewarray 100, 2, .bipush 100), (88, .irem, 1, .irem), (89, .invokeinterface 18312 3, 3, .invokevirtual 176), (92, .aload 0, 1, .aload_n 0), (93, .getfield 1122, 3, .getfield 161), (96, .iload 1, 1, .iload_n 1), (97, .invokeinterface 15300 2, 3, .invokestatic 97), (100, .ifCond .eq 140, 3, .ifCond .eq 40), (103, .iload 4, 2, .iload 4), (105, .ifCond .lt 125, 3, .ifCond .lt 20), (108, .aload 0, 1, .aload_n 0), (109, .getfield 1122, 3, .getfield 161), (112, .invokeinterface 15400 1, 3, .invokestatic 179), (115, .anewarray 1, 1, .iconst 1), (116, .isub, 1, .isub), (117, .iload 5, 2, .iload 5), (119, .if_icmp .lt 125, 3, .if_icmp .lt 6), (122, .goto 140, 3, .goto 18), (125, .iload 6, 2, .iload 6), (127, .istore 4, 2, .istore 4), (129, .aload 0, 1, .aload_n 0), (130, .getfield 1122, 3, .getfield 161), (133, .invokeinterface 15400 1, 3, .invokestatic 179), (136, .anewarray 1, 1, .iconst 1), (137, .isub, 1, .isub), (138, .istore 5, 2, .istore 5), (140, .iinc 6 1, 3, .iinc 6 1), (143, .goto 49, 3, .goto (-94)), (146, .iload 2, 1, .iload_n 2), (147, .ifCond .ne 155, 3, .ifCond .ne 8), (150, .iload 4, 2, .iload 4), (152, .goto 157, 3, .goto 5), (155, .iload 5, 2, .iload 5), (157, .ireturn, 1, .ireturn)]
def cd_X12_tap : List AE := [(0, .aload 0, 1, .aload_n 0), (1, .iload 1, 1, .iload_n 1), (2, .invokeinterface 15612 2, 3, .invokevirtual 90), (5, .ifCond .ne 14, 3, .ifCond .ne 9), (8, .aload 0, 1, .aload_n 0), (9, .iconst (-1), 1, .iconst (-1)), (10, .invokeinterface 14812 2, 3, .invokevirtual 65), (13, .ireturn, 1, .ireturn), (14, .iconst (-9), 2, .bipush (-9)), (16, .istore 2, 1, .istore_n 2), (17, .anewarray 9, 2, .bipush 9), (19, .istore 3, 1, .istore_n 3), (20, .anewarray 1, 1, .iconst 1), (21, .istore 4, 2, .istore 4), (23, .iload 4, 2, .iload 4), (25, .anewarray 100, 2, .bipush 100), (27, .aload 0, 1, .aload_n 0), (28, .getfield 1105, 3, .getfield 52), (31, .imul, 1, .imul), (32, .if_icmp .ge 116, 3, .if_icmp .ge 84), (35, .iload 4, 2, .iload 4), (37, .anewarray 100, 2, .bipush 100), (39, .idiv, 1, .idiv), (40, .iload 1, 1, .iload_n 1), (41, .if_icmp .eq 110, 3, .if_icmp .eq 69), (44, .iload 4, 2, .iload 4), (46, .anewarray 100, 2, .bipush 100), (48, .irem, 1, .irem), (49, .anewarray 1, 1, .iconst 1), (50, .anewarray 60, 2, .bipush 60), (52, .invokeinterface 15000 3, 3, .invokestatic 76), (55, .ifCond .ne 61, 3, .ifCond .ne 6), (58, .goto 110, 3, .goto 52), (61, .aload 0, 1, .aload_n 0), (62, .iload 4, 2, .iload 4), (64, .anewarray 100, 2, .bipush 100), (66, .idiv, 1, .idiv), (67, .iload 4, 2, .iload 4), (69, .anewarray 100, 2, .bipush 100), (71, .irem, 1, .irem), (72, .invokeinterface 18312 3, 3, .invokevirtual 176), (75, .aload 0, 1, .aload_n 0), (76, .getfield 1121, 3, .getfield 40), (79, .iload 1, 1, .iload_n 1), (80, .iaload, 1, .iaload), (81, .ifCond .eq 110, 3, .ifCond .eq 29), (84, .aload 0, 1, .aload_n 0), (85, .getfield 1122, 3, .getfield 161), (88, .ifCond .ne 110, 3, .ifCond .ne 22), (91, .aload 0, 1, .aload_n 0), (92, .invokeinterface 18512 1, 3, .invokevirtual 200), (95, .iload 3, 1, .iload_n 3), (96, .if_icmp .lt 102, 3, .if_icmp .lt 6), (99, .goto 110, 3, .goto 11), (102, .iload 4, 2, .iload 4), (104, .istore 2, 1, .istore_n 2), (105, .aload 0, 1, .aload_n 0), (106, .invokeinterface 18512 1, 3, .invokevirtual 200), (109, .istore 3, 1, .istore_n 3), (110, .iinc 4 1, 3, .iinc 4 1), (113, .goto 23, 3, .goto (-90)), (116, .iload 2, 1, .iload_n 2), (117, .ireturn, 1, .ireturn)]
def cd_X12_isSo : List AE := [(0, .anewarray 0, 1, .iconst 0), (1, .istore 1, 1, .istore_n 1), (2, .iload 1, 1, .iload_n 1), (3, .aload 0, 1, .aload_n 0), (4, .getfield 1124, 3, .getfield 209), (7, .if_icmp .ge 51, 3, .if_icmp .ge 44), (10, .aload 0, 1, .aload_n 0), (11, .iload 1, 1, .iload_n 1), (12, .aload 0, 1, .aload_n 0), (13, .getfield 1121, 3, .getfield 40), (16, .iload 1, 1, .iload_n 1), (17, .iaload, 1, .iaload), (18, .invokeinterface 17912 3, 3, .invokevirtual 182), (21, .istore 2, 1, .istore_n 2), (22, .iload 2, 1, .iload_n 2), (23, .anewarray 99, 2, .bipush 99), (25, .if_icmp .le 33, 3, .if_icmp .le 8), (28, .anewarray 99, 2, .bipush 99), (30, .goto 34, 3, .goto 4), (33, .iload 2, 1, .iload_n 2), (34, .aload 0, 1, .aload_n 0), (35, .getfield 1123, 3, .getfield 43), (38, .iload 1, 1, .iload_n 1), (39, .iaload, 1, .iaload), (40, .if_icmp .eq 45, 3, .if_icmp .eq 5), (43, .anewarray 0, 1, .iconst 0), (44, .dreturn, 1, .ireturn), (45, .iinc 1 1, 3, .iinc 1 1), (48, .goto 2, 3, .goto (-46)), (51, .anewarray 1, 1, .iconst 1), (52, .dreturn, 1, .ireturn)]
def cd_X12_who : List AE := [(0, .iload 1, 1, .iload_n 1), (1, .anewarray 0, 1, .iconst 0), (2, .anewarray 2, 1, .iconst 2), (3, .invokeinterface 15000 3, 3, .invokestatic 76), (6, .ifCond .ne 14, 3, .ifCond .ne 8), (9, .iconst (-2), 2, .bipush (-2)), (11, .goto 31, 3, .goto 20), (14, .aload 0, 1, .aload_n 0), (15, .getfield 1124, 3, .getfield 209), (18, .aload 0, 1, .aload_n 0), (19, .getfield 1105, 3, .getfield 52), (22, .if_icmp .le 30, 3, .if_icmp .le 8), (25, .iconst (-3), 2, .bipush (-3)), (27, .goto 31, 3, .goto 4), (30, .anewarray 0, 1, .iconst 0), (31, .istore 2, 1, .istore_n 2), (32, .iload 2, 1, .iload_n 2), (33, .ifCond .eq 42, 3, .ifCond .eq 9), (36, .aload 0, 1, .aload_n 0), (37, .iload 2, 1, .iload_n 2), (38, .invokeinterface 14812 2, 3, .invokevirtual 65), (41, .ireturn, 1, .ireturn), (42, .anewarray 0, 1, .iconst 0), (43, .istore 3, 1, .istore_n 3), (44, .iconst (-9), 2, .bipush (-9)), (46, .istore 4, 2, .istore 4), (48, .anewarray 0, 1, .iconst 0), (49, .istore 5, 2, .istore 5), (51, .anewarray 100, 2, .bipush 100), (53, .aload 0, 1, .aload_n 0), (54, .getfield 1105, 3, .getfield 52), (57, .imul, 1, .imul), (58, .anewarray 1, 1, .iconst 1), (59, .isub, 1, .isub), (60, .istore 6, 2, .istore 6), (62, .iload 6, 2, .iload 6), (64, .ifCond .le 148, 3, .ifCond .le 84), (67, .iload 6, 2, .iload 6), (69, .anewarray 100, 2, .bipush 100), (71, .irem, 1, .irem), (72, .anewarray 1, 1, .iconst 1), (73, .anewarray 60, 2, .bipush 60), (75, .invokeinterface 15000 3, 3, .invokestatic 76), (78, .ifCond .eq 142, 3, .ifCond .eq 64), (81, .aload 0, 1, .aload_n 0), (82, .getfield 1106, 3, .getfield 94), (85, .iload 6, 2, .iload 6), (87, .anewarray 100, 2, .bipush 100), (89, .idiv, 1, .idiv), (90, .invokeinterface 15300 2, 3, .invokestatic 97), (93, .ifCond .eq 99, 3, .ifCond .eq 6), (96, .goto 142, 3, .goto 46), (99, .aload 0, 1, .aload_n 0), (100, .iload 6, 2, .iload 6), (102, .anewarray 100, 2, .bipush 100), (104, .idiv, 1, .idiv), (105, .iload 6, 2, .iload 6), (107, .anewarray 100, 2, .bipush 100), (109, .irem, 1, .irem), (110, .invokeinterface 18312 3, 3, .invokevirtual 176), (113, .aload 0, 1, .aload_n 0), (114, .invokeinterface 20412 1, 3, .invokevirtual 212), (117, .ifCond .ne 123, 3, .ifCond .ne 6), (120, .goto 142, 3, .goto 22), (123, .iinc 3 1, 3, .iinc 3 1), (126, .iload 6, 2, .iload 6), (128, .istore 4, 2, .istore 4), (130, .iload 5, 2, .iload 5), (132, .anewarray 1, 1, .iconst 1), (133, .iload 6, 2, .iload 6), (135, .anewarray 100, 2, .bipush 100), (137, .idiv, 1, .idiv), (138, .ishl, 1, .ishl), (139, .ior, 1, .ior), (140, .istore 5, 2, .istore 5), (142, .iinc 6 (-1), 3, .iinc 6 (-1)), (145, .goto 62, 3, .goto (-83)), (148, .iload 1, 1, .iload_n 1), (149, .ifCond .ne 156, 3, .ifCond .ne 7), (152, .iload 3, 1, .iload_n 3), (153, .goto 168, 3, .goto 15), (156, .iload 1, 1, .iload_n 1), (157, .anewarray 1, 1, .iconst 1), (158, .if_icmp .ne 166, 3, .if_icmp .ne 8), (161, .iload 4, 2, .iload 4), (163, .goto 168, 3, .goto 5), (166, .iload 5, 2, .iload 5), (168, .ireturn, 1, .ireturn)]
def cd_X12_bitsFor : List AE := [(0, .aload 1, 1, .aload_n 1), (1, .iload 2, 1, .iload_n 2), (2, .iaload, 1, .iaload), (3, .istore 6, 2, .istore 6), (5, .anewarray 0, 1, .iconst 0), (6, .istore 7, 2, .istore 7), (8, .anewarray 0, 1, .iconst 0), (9, .istore 8, 2, .istore 8), (11, .iload 8, 2, .iload 8), (13, .iload 3, 1, .iload_n 3), (14, .if_icmp .ge 56, 3, .if_icmp .ge 42), (17, .aload 1, 1, .aload_n 1), (18, .iload 2, 1, .iload_n 2), (19, .iload 8, 2, .iload 8), (21, .iastore, 1, .iastore), (22, .aload 0, 1, .aload_n 0), (23, .iload 4, 2, .iload 4), (25, .iload 5, 2, .iload 5), (27, .invokeinterface 18312 3, 3, .invokevirtual 176), (30, .iload 7, 2, .iload 7), (32, .aload 0, 1, .aload_n 0), (33, .invokeinterface 20412 1, 3, .invokevirtual 212), (36, .ifCond .eq 46, 3, .ifCond .eq 10), (39, .anewarray 1, 1, .iconst 1), (40, .iload 8, 2, .iload 8), (42, .ishl, 1, .ishl), (43, .goto 47, 3, .goto 4), (46, .anewarray 0, 1, .iconst 0), (47, .ior, 1, .ior), (48, .istore 7, 2, .istore 7), (50, .iinc 8 1, 3, .iinc 8 1), (53, .goto 11, 3, .goto (-42)), (56, .aload 1, 1, .aload_n 1), (57, .iload 2, 1, .iload_n 2), (58, .iload 6, 2, .iload 6), (60, .iastore, 1, .iastore), (61, .iload 7, 2, .iload 7), (63, .ireturn, 1, .ireturn)]
def cd_X12_whatKind : List AE := [(0, .aload 0, 1, .aload_n 0), (1, .iload 1, 1, .iload_n 1), (2, .iload 3, 1, .iload_n 3), (3, .invokeinterface 19512 3, 3, .invokevirtual 191), (6, .istore 5, 2, .istore 5), (8, .iload 5, 2, .iload 5), (10, .ifCond .ne 19, 3, .ifCond .ne 9), (13, .iload 2, 1, .iload_n 2), (14, .invokeinterface 15200 1, 3, .invokestatic 185), (17, .istore 5, 2, .istore 5), (19, .iload 5, 2, .iload 5), (21, .ifCond .ne 58, 3, .ifCond .ne 37), (24, .iload 4, 2, .iload 4), (26, .anewarray 0, 1, .iconst 0), (27, .anewarray 1, 1, .iconst 1), (28, .invokeinterface 15000 3, 3, .invokestatic 76), (31, .ifCond .ne 39, 3, .ifCond .ne 8), (34, .iconst (-2), 2, .bipush (-2)), (36, .goto 56, 3, .goto 20), (39, .aload 0, 1, .aload_n 0), (40, .getfield 1124, 3, .getfield 209), (43, .aload 0, 1, .aload_n 0), (44, .getfield 1105, 3, .getfield 52), (47, .if_icmp .le 55, 3, .if_icmp .le 8), (50, .iconst (-3), 2, .bipush (-3)), (52, .goto 56, 3, .goto 4), (55, .anewarray 0, 1, .iconst 0), (56, .istore 5, 2, .istore 5), (58, .iload 5, 2, .iload 5), (60, .ifCond .eq 70, 3, .ifCond .eq 10), (63, .aload 0, 1, .aload_n 0), (64, .iload 5, 2, .iload 5), (66, .invokeinterface 14812 2, 3, .invokevirtual 65), (69, .ireturn, 1, .ireturn), (70, .iload 4, 2, .iload 4), (72, .ifCond .ne 91, 3, .ifCond .ne 19), (75, .aload 0, 1, .aload_n 0), (76, .aload 0, 1, .aload_n 0), (77, .getfield 1101, 3, .getfield 13), (80, .iload 3, 1, .iload_n 3), (81, .anewarray 6, 2, .bipush 6), (83, .iload 1, 1, .iload_n 1), (84, .iload 2, 1, .iload_n 2), (85, .invokeinterface 20612 6, 3, .invokevirtual 215), (88, .goto 104, 3, .goto 16), (91, .aload 0, 1, .aload_n 0), (92, .aload 0, 1, .aload_n 0), (93, .getfield 1102, 3, .getfield 16), (96, .iload 3, 1, .iload_n 3), (97, .anewarray 10, 2, .bipush 10), (99, .iload 1, 1, .iload_n 1), (100, .iload 2, 1, .iload_n 2), (101, .invokeinterface 20612 6, 3, .invokevirtual 215), (104, .ireturn, 1, .ireturn)]
def cd_X12_worstOf : List AE := [(0, .iconst (-9), 2, .bipush (-9)), (2, .istore 2, 1, .istore_n 2), (3, .anewarray 0, 1, .iconst 0), (4, .istore 3, 1, .istore_n 3), (5, .anewarray 0, 1, .iconst 0), (6, .istore 4, 2, .istore 4), (8, .iload 4, 2, .iload 4), (10, .aload 0, 1, .aload_n 0), (11, .getfield 1105, 3, .getfield 52), (14, .if_icmp .ge 55, 3, .if_icmp .ge 41), (17, .aload 0, 1, .aload_n 0), (18, .iload 4, 2, .iload 4), (20, .iload 1, 1, .iload_n 1), (21, .invokeinterface 18312 3, 3, .invokevirtual 176), (24, .aload 0, 1, .aload_n 0), (25, .getfield 1122, 3, .getfield 161), (28, .invokeinterface 15400 1, 3, .invokestatic 179), (31, .iload 3, 1, .iload_n 3), (32, .if_icmp .gt 38, 3, .if_icmp .gt 6), (35, .goto 49, 3, .goto 14), (38, .iload 4, 2, .iload 4), (40, .istore 2, 1, .istore_n 2), (41, .aload 0, 1, .aload_n 0), (42, .getfield 1122, 3, .getfield 161), (45, .invokeinterface 15400 1, 3, .invokestatic 179), (48, .istore 3, 1, .istore_n 3), (49, .iinc 4 1, 3, .iinc 4 1), (52, .goto 8, 3, .goto (-44)), (55, .iload 2, 1, .iload_n 2), (56, .ireturn, 1, .ireturn)]
def cd_X12_mostBroken : List AE := [(0, .aload 0, 1, .aload_n 0), (1, .iload 1, 1, .iload_n 1), (2, .invokeinterface 20812 2, 3, .invokevirtual 219), (5, .istore 2, 1, .istore_n 2), (6, .iload 2, 1, .iload_n 2), (7, .ifCond .ge 12, 3, .ifCond .ge 5), (10, .anewarray 0, 1, .iconst 0), (11, .ireturn, 1, .ireturn), (12, .aload 0, 1, .aload_n 0), (13, .iload 2, 1, .iload_n 2), (14, .iload 1, 1, .iload_n 1), (15, .invokeinterface 18312 3, 3, .invokevirtual 176), (18, .aload 0, 1, .aload_n 0), (19, .getfield 1122, 3, .getfield 161), (22, .invokeinterface 15400 1, 3, .invokestatic 179), (25, .ireturn, 1, .ireturn)]
def cd_X12_worst : List AE := [(0, .iload 1, 1, .iload_n 1), (1, .invokeinterface 15200 1, 3, .invokestatic 185), (4, .istore 3, 1, .istore_n 3), (5, .iload 3, 1, .iload_n 3), (6, .ifCond .ne 21, 3, .ifCond .ne 15), (9, .iload 2, 1, .iload_n 2), (10, .anewarray 0, 1, .iconst 0), (11, .anewarray 1, 1, .iconst 1), (12, .invokeinterface 15000 3, 3, .invokestatic 76), (15, .ifCond .ne 21, 3, .ifCond .ne 6), (18, .iconst (-2), 2, .bipush (-2)), (20, .istore 3, 1, .istore_n 3), (21, .iload 3, 1, .iload_n 3), (22, .ifCond .eq 31, 3, .ifCond .eq 9), (25, .aload 0, 1, .aload_n 0), (26, .iload 3, 1, .iload_n 3), (27, .invokeinterface 14812 2, 3, .invokevirtual 65), (30, .ireturn, 1, .ireturn), (31, .iload 2, 1, .iload_n 2), (32, .ifCond .ne 43, 3, .ifCond .ne 11), (35, .aload 0, 1, .aload_n 0), (36, .iload 1, 1, .iload_n 1), (37, .invokeinterface 20812 2, 3, .invokevirtual 219), (40, .goto 48, 3, .goto 8), (43, .aload 0, 1, .aload_n 0), (44, .iload 1, 1, .iload_n 1), (45, .invokeinterface 20912 2, 3, .invokevirtual 222), (48, .ireturn, 1, .ireturn)]
def cd_X12_bestCut : List AE := [(0, .iload 1, 1, .iload_n 1), (1, .invokeinterface 15200 1, 3, .invokestatic 185), (4, .istore 3, 1, .istore_n 3), (5, .iload 3, 1, .iload_n 3), (6, .ifCond .ne 21, 3, .ifCond .ne 15), (9, .iload 2, 1, .iload_n 2), (10, .anewarray 0, 1, .iconst 0), (11, .anewarray 1, 1, .iconst 1), (12, .invokeinterface 15000 3, 3, .invokestatic 76), (15, .ifCond .ne 21, 3, .ifCond .ne 6), (18, .iconst (-2), 2, .bipush (-2)), (20, .istore 3, 1, .istore_n 3), (21, .iload 3, 1, .iload_n 3), (22, .ifCond .eq 31, 3, .ifCond .eq 9), (25, .aload 0, 1, .aload_n 0), (26, .iload 3, 1, .iload_n 3), (27, .invokeinterface 14812 2, 3, .invokevirtual 65), (30, .ireturn, 1, .ireturn), (31, .iconst (-9), 2, .bipush (-9)), (33, .istore 4, 2, .istore 4), (35, .iconst (-9), 2, .bipush (-9)), (37, .istore 5, 2, .istore 5), (39, .anewarray 0, 1, .iconst 0), (40, .istore 6, 2, .istore 6), (42, .iload 6, 2, .iload 6), (44, .aload 0, 1, .aload_n 0), (45, .getfield 1105, 3, .getfield 52), (48, .anewarray 1, 1, .iconst 1), (49, .isub, 1, .isub), (50, .if_icmp .ge 132, 3, .if_icmp .ge 82), (53, .aload 0, 1, .aload_n 0), (54, .getfield 1107, 3, .getfield 107), (57, .iload 6, 2, .iload 6), (59, .invokeinterface 15300 2, 3, .invokestatic 97), (62, .ifCond .eq 68, 3, .ifCond .eq 6), (65, .goto 126, 3, .goto 61), (68, .aload 0, 1, .aload_n 0), (69, .dup, 1, .dup), (70, .getfield 1107, 3, .getfield 107), (73, .anewarray 1, 1, .iconst 1), (74, .iload 6, 2, .iload 6), (76, .ishl, 1, .ishl), (77, .ior, 1, .ior), (78, .putfield 1107, 3, .putfield 107), (81, .aload 0, 1, .aload_n 0), (82, .iload 1, 1, .iload_n 1), (83, .invokeinterface 20912 2, 3, .invokevirtual 222), (86, .istore 7, 2, .istore 7), (88, .aload 0, 1, .aload_n 0), (89, .dup, 1, .dup), (90, .getfield 1107, 3, .getfield 107), (93, .anewarray 1, 1, .iconst 1), (94, .iload 6, 2, .iload 6), (96, .ishl, 1, .ishl), (97, .iconst (-1), 1, .iconst (-1)), (98, .ixor, 1, .ixor), (99, .iand, 1, .iand), (100, .putfield 1107, 3, .putfield 107), (103, .iload 4, 2, .iload 4), (105, .ifCond .lt 118, 3, .ifCond .lt 13), (108, .iload 7, 2, .iload 7), (110, .iload 5, 2, .iload 5), (112, .if_icmp .lt 118, 3, .if_icmp .lt 6), (115, .goto 126, 3, .goto 11), (118, .iload 6, 2, .iload 6), (120, .istore 4, 2, .istore 4), (122, .iload 7, 2, .iload 7), (124, .istore 5, 2, .istore 5), (126, .iinc 6 1, 3, .iinc 6 1), (129, .goto 42, 3, .goto (-87)), (132, .iload 2, 1, .iload_n 2), (133, .ifCond .ne 141, 3, .ifCond .ne 8), (136, .iload 4, 2, .iload 4), (138, .goto 143, 3, .goto 5), (141, .iload 5, 2, .iload 5), (143, .ireturn, 1, .ireturn)]
def cd_X12_nextOrder : List AE := [(0, .aload 0, 1, .aload_n 0), (1, .getfield 1105, 3, .getfield 52), (4, .anewarray 2, 1, .iconst 2), (5, .isub, 1, .isub), (6, .istore 1, 1, .istore_n 1), (7, .iload 1, 1, .iload_n 1), (8, .ifCond .lt 34, 3, .ifCond .lt 26), (11, .aload 0, 1, .aload_n 0), (12, .getfield 1104, 3, .getfield 22), (15, .iload 1, 1, .iload_n 1), (16, .iaload, 1, .iaload), (17, .aload 0, 1, .aload_n 0), (18, .getfield 1104, 3, .getfield 22), (21, .iload 1, 1, .iload_n 1), (22, .anewarray 1, 1, .iconst 1), (23, .iadd, 1, .iadd), (24, .iaload, 1, .iaload), (25, .if_icmp .le 34, 3, .if_icmp .le 9), (28, .iinc 1 (-1), 3, .iinc 1 (-1)), (31, .goto 7, 3, .goto (-24)), (34, .iload 1, 1, .iload_n 1), (35, .ifCond .ge 40, 3, .ifCond .ge 5), (38, .anewarray 0, 1, .iconst 0), (39, .dreturn, 1, .ireturn), (40, .aload 0, 1, .aload_n 0), (41, .getfield 1105, 3, .getfield 52), (44, .anewarray 1, 1, .iconst 1), (45, .isub, 1, .isub), (46, .istore 2, 1, .istore_n 2), (47, .aload 0, 1, .aload_n 0), (48, .getfield 1104, 3, .getfield 22), (51, .iload 2, 1, .iload_n 2), (52, .iaload, 1, .iaload), (53, .aload 0, 1, .aload_n 0), (54, .getfield 1104, 3, .getfield 22), (57, .iload 1, 1, .iload_n 1), (58, .iaload, 1, .iaload), (59, .if_icmp .ge 68, 3, .if_icmp .ge 9), (62, .iinc 2 (-1), 3, .iinc 2 (-1)), (65, .goto 47, 3, .goto (-18)), (68, .aload 0, 1, .aload_n 0), (69, .iload 1, 1, .iload_n 1), (70, .iload 2, 1, .iload_n 2), (71, .invokeinterface 19312 3, 3, .invokevirtual 113), (74, .iload 1, 1, .iload_n 1), (75, .anewarray 1, 1, .iconst 1), (76, .iadd, 1, .iadd), (77, .istore 3, 1, .istore_n 3), (78, .aload 0, 1, .aload_n 0), (79, .getfield 1105, 3, .getfield 52), (82, .anewarray 1, 1, .iconst 1), (83, .isub, 1, .isub), (84, .istore 4, 2, .istore 4), (86, .iload 3, 1, .iload_n 3), (87, .iload 4, 2, .iload 4), (89, .if_icmp .ge 108, 3, .if_icmp .ge 19), (92, .aload 0, 1, .aload_n 0), (93, .iload 3, 1, .iload_n 3), (94, .iload 4, 2, .iload 4), (96, .invokeinterface 19312 3, 3, .invokevirtual 113), (99, .iinc 3 1, 3, .iinc 3 1), (102, .iinc 4 (-1), 3, .iinc 4 (-1)), (105, .goto 86, 3, .goto (-19)), (108, .anewarray 1, 1, .iconst 1), (109, .dreturn, 1, .ireturn)]
def cd_X12_sorts : List AE := [(0, .anewarray 0, 1, .iconst 0), (1, .istore 1, 1, .istore_n 1), (2, .iload 1, 1, .iload_n 1), (3, .aload 0, 1, .aload_n 0), (4, .getfield 1105, 3, .getfield 52), (7, .if_icmp .ge 23, 3, .if_icmp .ge 16), (10, .aload 0, 1, .aload_n 0), (11, .getfield 1104, 3, .getfield 22), (14, .iload 1, 1, .iload_n 1), (15, .iload 1, 1, .iload_n 1), (16, .iastore, 1, .iastore), (17, .iinc 1 1, 3, .iinc 1 1), (20, .goto 2, 3, .goto (-18)), (23, .return_, 1, .return_)]
def cd_X12_findOrder : List AE := [(0, .aload 0, 1, .aload_n 0), (1, .invokeinterface 17012 1, 3, .invokevirtual 225), (4, .aload 0, 1, .aload_n 0), (5, .anewarray 0, 1, .iconst 0), (6, .putfield 1107, 3, .putfield 107), (9, .aload 0, 1, .aload_n 0), (10, .invokeinterface 21312 1, 3, .invokevirtual 228), (13, .anewarray 1000, 3, .sipush 1000), (16, .istore 2, 1, .istore_n 2), (17, .anewarray 1, 1, .iconst 1), (18, .istore 3, 1, .istore_n 3), (19, .iload 3, 1, .iload_n 3), (20, .ifCond .eq 89, 3, .ifCond .eq 69), (23, .aload 0, 1, .aload_n 0), (24, .iload 1, 1, .iload_n 1), (25, .invokeinterface 20912 2, 3, .invokevirtual 222), (28, .istore 4, 2, .istore 4), (30, .anewarray 0, 1, .iconst 0), (31, .istore 5, 2, .istore 5), (33, .iload 5, 2, .iload 5), (35, .aload 0, 1, .aload_n 0), (36, .getfield 1105, 3, .getfield 52), (39, .if_icmp .ge 68, 3, .if_icmp .ge 29), (42, .iload 4, 2, .iload 4), (44, .iload 2, 1, .iload_n 2), (45, .if_icmp .ge 68, 3, .if_icmp .ge 23), (48, .aload 0, 1, .aload_n 0), (49, .getfield 1125, 3, .getfield 46), (52, .iload 5, 2, .iload 5), (54, .aload 0, 1, .aload_n 0), (55, .getfield 1104, 3, .getfield 22), (58, .iload 5, 2, .iload 5), (60, .iaload, 1, .iaload), (61, .iastore, 1, .iastore), (62, .iinc 5 1, 3, .iinc 5 1), (65, .goto 33, 3, .goto (-32)), (68, .iload 4, 2, .iload 4), (70, .iload 2, 1, .iload_n 2), (71, .if_icmp .ge 79, 3, .if_icmp .ge 8), (74, .iload 4, 2, .iload 4), (76, .goto 80, 3, .goto 4), (79, .iload 2, 1, .iload_n 2), (80, .istore 2, 1, .istore_n 2), (81, .aload 0, 1, .aload_n 0), (82, .invokeinterface 21212 1, 3, .invokevirtual 231), (85, .istore 3, 1, .istore_n 3), (86, .goto 19, 3, .goto (-67)), (89, .aload 0, 1, .aload_n 0), (90, .invokeinterface 17112 1, 3, .invokevirtual 234), (93, .iload 2, 1, .iload_n 2), (94, .ireturn, 1, .ireturn)]
def cd_X12_order : List AE := [(0, .iload 1, 1, .iload_n 1), (1, .anewarray 1, 1, .iconst 1), (2, .if_icmp .lt 10, 3, .if_icmp .lt 8), (5, .iload 2, 1, .iload_n 2), (6, .iconst (-1), 1, .iconst (-1)), (7, .if_icmp .ge 15, 3, .if_icmp .ge 8), (10, .iconst (-4), 2, .bipush (-4)), (12, .goto 41, 3, .goto 29), (15, .iload 1, 1, .iload_n 1), (16, .anewarray 60, 2, .bipush 60), (18, .if_icmp .le 26, 3, .if_icmp .le 8), (21, .iconst (-6), 2, .bipush (-6)), (23, .goto 41, 3, .goto 18), (26, .aload 0, 1, .aload_n 0), (27, .getfield 1105, 3, .getfield 52), (30, .anewarray 6, 2, .bipush 6), (32, .if_icmp .le 40, 3, .if_icmp .le 8), (35, .iconst (-3), 2, .bipush (-3)), (37, .goto 41, 3, .goto 4), (40, .anewarray 0, 1, .iconst 0), (41, .istore 3, 1, .istore_n 3), (42, .iload 3, 1, .iload_n 3), (43, .ifCond .eq 52, 3, .ifCond .eq 9), (46, .aload 0, 1, .aload_n 0), (47, .iload 3, 1, .iload_n 3), (48, .invokeinterface 14812 2, 3, .invokevirtual 65), (51, .ireturn, 1, .ireturn), (52, .aload 0, 1, .aload_n 0), (53, .iload 1, 1, .iload_n 1), (54, .invokeinterface 21412 2, 3, .invokevirtual 237), (57, .istore 4, 2, .istore 4), (59, .iload 2, 1, .iload_n 2), (60, .ifCond .ge 68, 3, .ifCond .ge 8), (63, .iload 4, 2, .iload 4), (65, .goto 87, 3, .goto 22), (68, .iload 2, 1, .iload_n 2), (69, .aload 0, 1, .aload_n 0), (70, .getfield 1105, 3, .getfield 52), (73, .if_icmp .ge 85, 3, .if_icmp .ge 12), (76, .aload 0, 1, .aload_n 0), (77, .getfield 1125, 3, .getfield 46), (80, .iload 2, 1, .iload_n 2), (81, .iaload, 1, .iaload), (82, .goto 87, 3, .goto 5), (85, .iconst (-9), 2, .bipush (-9)), (87, .ireturn, 1, .ireturn)]
def cd_X12_findShortest : List AE := [(0, .anewarray 0, 1, .iconst 0), (1, .istore 1, 1, .istore_n 1), (2, .iload 1, 1, .iload_n 1), (3, .anewarray 1, 1, .iconst 1), (4, .aload 0, 1, .aload_n 0), (5, .getfield 1105, 3, .getfield 52), (8, .ishl, 1, .ishl), (9, .if_icmp .ge 138, 3, .if_icmp .ge 129), (12, .anewarray 0, 1, .iconst 0), (13, .istore 2, 1, .istore_n 2), (14, .iload 2, 1, .iload_n 2), (15, .aload 0, 1, .aload_n 0), (16, .getfield 1105, 3, .getfield 52), (19, .if_icmp .ge 132, 3, .if_icmp .ge 113), (22, .iload 1, 1, .iload_n 1), (23, .ifCond .ne 30, 3, .ifCond .ne 7), (26, .anewarray 0, 1, .iconst 0), (27, .goto 32, 3, .goto 5), (30, .anewarray 100000, 2, .ldc 240), (32, .istore 3, 1, .istore_n 3), (33, .anewarray 0, 1, .iconst 0), (34, .istore 4, 2, .istore 4), (36, .iload 4, 2, .iload 4), (38, .aload 0, 1, .aload_n 0), (39, .getfield 1105, 3, .getfield 52), (42, .if_icmp .ge 114, 3, .if_icmp .ge 72), (45, .iload 1, 1, .iload_n 1), (46, .iload 4, 2, .iload 4), (48, .invokeinterface 15300 2, 3, .invokestatic 97), (51, .ifCond .ne 57, 3, .ifCond .ne 6), (54, .goto 108, 3, .goto 54), (57, .aload 0, 1, .aload_n 0), (58, .getfield 1103, 3, .getfield 19), (61, .iload 2, 1, .iload_n 2), (62, .iaload, 1, .iaload), (63, .aload 0, 1, .aload_n 0), (64, .getfield 1103, 3, .getfield 19), (67, .iload 4, 2, .iload 4), (69, .iaload, 1, .iaload), (70, .invokeinterface 15500 2, 3, .invokestatic 194), (73, .aload 0, 1, .aload_n 0), (74, .getfield 1126, 3, .getfield 49), (77, .anewarray 8, 2, .bipush 8), (79, .iload 1, 1, .iload_n 1), (80, .anewarray 1, 1, .iconst 1), (81, .iload 4, 2, .iload 4), (83, .ishl, 1, .ishl), (84, .iconst (-1), 1, .iconst (-1)), (85, .ixor, 1, .ixor), (86, .iand, 1, .iand), (87, .imul, 1, .imul), (88, .iload 4, 2, .iload 4), (90, .iadd, 1, .iadd), (91, .iaload, 1, .iaload), (92, .iadd, 1, .iadd), (93, .istore 5, 2, .istore 5), (95, .iload 5, 2, .iload 5), (97, .iload 3, 1, .iload_n 3), (98, .if_icmp .ge 106, 3, .if_icmp .ge 8), (101, .iload 5, 2, .iload 5), (103, .goto 107, 3, .goto 4), (106, .iload 3, 1, .iload_n 3), (107, .istore 3, 1, .istore_n 3), (108, .iinc 4 1, 3, .iinc 4 1), (111, .goto 36, 3, .goto (-75)), (114, .aload 0, 1, .aload_n 0), (115, .getfield 1126, 3, .getfield 49), (118, .anewarray 8, 2, .bipush 8), (120, .iload 1, 1, .iload_n 1), (121, .imul, 1, .imul), (122, .iload 2, 1, .iload_n 2), (123, .iadd, 1, .iadd), (124, .iload 3, 1, .iload_n 3), (125, .iastore, 1, .iastore), (126, .iinc 2 1, 3, .iinc 2 1), (129, .goto 14, 3, .goto (-115)), (132, .iinc 1 1, 3, .iinc 1 1), (135, .goto 2, 3, .goto (-133)), (138, .return_, 1, .return_)]
def cd_X12_walkOf : List AE := [(0, .aload 0, 1, .aload_n 0), (1, .getfield 1126, 3, .getfield 49), (4, .anewarray 8, 2, .bipush 8), (6, .iload 1, 1, .iload_n 1), (7, .anewarray 1, 1, .iconst 1), (8, .iload 2, 1, .iload_n 2), (9, .ishl, 1, .ishl), (10, .iconst (-1), 1, .iconst (-1)), (11, .ixor, 1, .ixor), (12, .iand, 1, .iand), (13, .imul, 1, .imul), (14, .iload 2, 1, .iload_n 2), (15, .iadd, 1, .iadd), (16, .iaload, 1, .iaload), (17, .ireturn, 1, .ireturn)]
def cd_X12_shortestOf : List AE := [(0, .aload 0, 1, .aload_n 0), (1, .getfield 1105, 3, .getfield 52), (4, .ifCond .ne 11, 3, .ifCond .ne 7), (7, .anewarray 0, 1, .iconst 0), (8, .goto 13, 3, .goto 5), (11, .anewarray 100000, 2, .ldc 240), (13, .istore 2, 1, .istore_n 2), (14, .anewarray 0, 1, .iconst 0), (15, .istore 3, 1, .istore_n 3), (16, .iload 3, 1, .iload_n 3), (17, .aload 0, 1, .aload_n 0), (18, .getfield 1105, 3, .getfield 52), (21, .if_icmp .ge 51, 3, .if_icmp .ge 30), (24, .aload 0, 1, .aload_n 0), (25, .iload 1, 1, .iload_n 1), (26, .iload 3, 1, .iload_n 3), (27, .invokeinterface 21712 3, 3, .invokevirtual 241), (30, .iload 2, 1, .iload_n 2), (31, .if_icmp .ge 43, 3, .if_icmp .ge 12), (34, .aload 0, 1, .aload_n 0), (35, .iload 1, 1, .iload_n 1), (36, .iload 3, 1, .iload_n 3), (37, .invokeinterface 21712 3, 3, .invokevirtual 241), (40, .goto 44, 3, .goto 4), (43, .iload 2, 1, .iload_n 2), (44, .istore 2, 1, .istore_n 2), (45, .iinc 3 1, 3, .iinc 3 1), (48, .goto 16, 3, .goto (-32)), (51, .iload 2, 1, .iload_n 2), (52, .ireturn, 1, .ireturn)]
def cd_X12_walked : List AE := [(0, .anewarray 1, 1, .iconst 1), (1, .aload 0, 1, .aload_n 0), (2, .getfield 1105, 3, .getfield 52), (5, .ishl, 1, .ishl), (6, .anewarray 1, 1, .iconst 1), (7, .isub, 1, .isub), (8, .istore 2, 1, .istore_n 2), (9, .aload 0, 1, .aload_n 0), (10, .iload 2, 1, .iload_n 2), (11, .invokeinterface 21812 2, 3, .invokevirtual 244), (14, .istore 3, 1, .istore_n 3), (15, .iconst (-9), 2, .bipush (-9)), (17, .istore 4, 2, .istore 4), (19, .anewarray 0, 1, .iconst 0), (20, .istore 5, 2, .istore 5), (22, .iload 5, 2, .iload 5), (24, .iload 1, 1, .iload_n 1), (25, .if_icmp .gt 111, 3, .if_icmp .gt 86), (28, .anewarray 0, 1, .iconst 0), (29, .istore 6, 2, .istore 6), (31, .iload 2, 1, .iload_n 2), (32, .iload 6, 2, .iload 6), (34, .invokeinterface 15300 2, 3, .invokestatic 97), (37, .ifCond .eq 78, 3, .ifCond .eq 41), (40, .iload 4, 2, .iload 4), (42, .ifCond .ge 49, 3, .ifCond .ge 7), (45, .anewarray 0, 1, .iconst 0), (46, .goto 66, 3, .goto 20), (49, .aload 0, 1, .aload_n 0), (50, .getfield 1103, 3, .getfield 19), (53, .iload 4, 2, .iload 4), (55, .iaload, 1, .iaload), (56, .aload 0, 1, .aload_n 0), (57, .getfield 1103, 3, .getfield 19), (60, .iload 6, 2, .iload 6), (62, .iaload, 1, .iaload), (63, .invokeinterface 15500 2, 3, .invokestatic 194), (66, .aload 0, 1, .aload_n 0), (67, .iload 2, 1, .iload_n 2), (68, .iload 6, 2, .iload 6), (70, .invokeinterface 21712 3, 3, .invokevirtual 241), (73, .iadd, 1, .iadd), (74, .iload 3, 1, .iload_n 3), (75, .if_icmp .eq 84, 3, .if_icmp .eq 9), (78, .iinc 6 1, 3, .iinc 6 1), (81, .goto 31, 3, .goto (-50)), (84, .aload 0, 1, .aload_n 0), (85, .iload 2, 1, .iload_n 2), (86, .iload 6, 2, .iload 6), (88, .invokeinterface 21712 3, 3, .invokevirtual 241), (91, .istore 3, 1, .istore_n 3), (92, .iload 2, 1, .iload_n 2), (93, .anewarray 1, 1, .iconst 1), (94, .iload 6, 2, .iload 6), (96, .ishl, 1, .ishl), (97, .iconst (-1), 1, .iconst (-1)), (98, .ixor, 1, .ixor), (99, .iand, 1, .iand), (100, .istore 2, 1, .istore_n 2), (101, .iload 6, 2, .iload 6), (103, .istore 4, 2, .istore 4), (105, .iinc 5 1, 3, .iinc 5 1), (108, .goto 22, 3, .goto (-86)), (111, .iload 4, 2, .iload 4), (113, .ireturn, 1, .ireturn)]
def cd_X12_walk : List AE := [(0, .iload 1, 1, .iload_n 1), (1, .iconst (-2), 2, .bipush (-2)), (3, .if_icmp .ge 13, 3, .if_icmp .ge 10), (6, .aload 0, 1, .aload_n 0), (7, .iconst (-4), 2, .bipush (-4)), (9, .invokeinterface 14812 2, 3, .invokevirtual 65), (12, .ireturn, 1, .ireturn), (13, .iload 1, 1, .iload_n 1), (14, .iconst (-2), 2, .bipush (-2)), (16, .if_icmp .ne 69, 3, .if_icmp .ne 53), (19, .anewarray 0, 1, .iconst 0), (20, .istore 2, 1, .istore_n 2), (21, .anewarray 1, 1, .iconst 1), (22, .istore 3, 1, .istore_n 3), (23, .iload 3, 1, .iload_n 3), (24, .aload 0, 1, .aload_n 0), (25, .getfield 1105, 3, .getfield 52), (28, .if_icmp .ge 67, 3, .if_icmp .ge 39), (31, .iload 2, 1, .iload_n 2), (32, .aload 0, 1, .aload_n 0), (33, .getfield 1103, 3, .getfield 19), (36, .aload 0, 1, .aload_n 0), (37, .getfield 1104, 3, .getfield 22), (40, .iload 3, 1, .iload_n 3), (41, .iaload, 1, .iaload), (42, .iaload, 1, .iaload), (43, .aload 0, 1, .aload_n 0), (44, .getfield 1103, 3, .getfield 19), (47, .aload 0, 1, .aload_n 0), (48, .getfield 1104, 3, .getfield 22), (51, .iload 3, 1, .iload_n 3), (52, .anewarray 1, 1, .iconst 1), (53, .isub, 1, .isub), (54, .iaload, 1, .iaload), (55, .iaload, 1, .iaload), (56, .invokeinterface 15500 2, 3, .invokestatic 194), (59, .iadd, 1, .iadd), (60, .istore 2, 1, .istore_n 2), (61, .iinc 3 1, 3, .iinc 3 1), (64, .goto 23, 3, .goto (-41)), (67, .iload 2, 1, .iload_n 2), (68, .ireturn, 1, .ireturn), (69, .aload 0, 1, .aload_n 0), (70, .invokeinterface 21612 1, 3, .invokevirtual 247), (73, .iload 1, 1, .iload_n 1), (74, .ifCond .ge 92, 3, .ifCond .ge 18), (77, .aload 0, 1, .aload_n 0), (78, .anewarray 1, 1, .iconst 1), (79, .aload 0, 1, .aload_n 0), (80, .getfield 1105, 3, .getfield 52), (83, .ishl, 1, .ishl), (84, .anewarray 1, 1, .iconst 1), (85, .isub, 1, .isub), (86, .invokeinterface 21812 2, 3, .invokevirtual 244), (89, .goto 110, 3, .goto 21), (92, .iload 1, 1, .iload_n 1), (93, .aload 0, 1, .aload_n 0), (94, .getfield 1105, 3, .getfield 52), (97, .if_icmp .ge 108, 3, .if_icmp .ge 11), (100, .aload 0, 1, .aload_n 0), (101, .iload 1, 1, .iload_n 1), (102, .invokeinterface 21912 2, 3, .invokevirtual 250), (105, .goto 110, 3, .goto 5), (108, .iconst (-9), 2, .bipush (-9)), (110, .ireturn, 1, .ireturn)]
def cd_X12_others : List AE := [(0, .aload 0, 1, .aload_n 0), (1, .iload 1, 1, .iload_n 1), (2, .iload 2, 1, .iload_n 2), (3, .invokeinterface 18312 3, 3, .invokevirtual 176), (6, .aload 0, 1, .aload_n 0), (7, .getfield 1122, 3, .getfield 161), (10, .anewarray 1, 1, .iconst 1), (11, .iload 1, 1, .iload_n 1), (12, .ishl, 1, .ishl), (13, .iconst (-1), 1, .iconst (-1)), (14, .ixor, 1, .ixor), (15, .iand, 1, .iand), (16, .invokeinterface 15400 1, 3, .invokestatic 179), (19, .ireturn, 1, .ireturn)]
def cd_X12_leftToHer : List AE := [(0, .aload 0, 1, .aload_n 0), (1, .iload 1, 1, .iload_n 1), (2, .iload 2, 1, .iload_n 2), (3, .invokeinterface 22112 3, 3, .invokevirtual 253), (6, .istore 3, 1, .istore_n 3), (7, .aload 0, 1, .aload_n 0), (8, .getfield 1107, 3, .getfield 107), (11, .istore 4, 2, .istore 4), (13, .anewarray 0, 1, .iconst 0), (14, .istore 5, 2, .istore 5), (16, .iload 5, 2, .iload 5), (18, .aload 0, 1, .aload_n 0), (19, .getfield 1105, 3, .getfield 52), (22, .anewarray 1, 1, .iconst 1), (23, .isub, 1, .isub), (24, .if_icmp .ge 65, 3, .if_icmp .ge 41), (27, .aload 0, 1, .aload_n 0), (28, .iload 4, 2, .iload 4), (30, .anewarray 1, 1, .iconst 1), (31, .iload 5, 2, .iload 5), (33, .ishl, 1, .ishl), (34, .ior, 1, .ior), (35, .putfield 1107, 3, .putfield 107), (38, .aload 0, 1, .aload_n 0), (39, .iload 1, 1, .iload_n 1), (40, .iload 2, 1, .iload_n 2), (41, .invokeinterface 22112 3, 3, .invokevirtual 253), (44, .istore 6, 2, .istore 6), (46, .iload 6, 2, .iload 6), (48, .iload 3, 1, .iload_n 3), (49, .if_icmp .ge 57, 3, .if_icmp .ge 8), (52, .iload 6, 2, .iload 6), (54, .goto 58, 3, .goto 4), (57, .iload 3, 1, .iload_n 3), (58, .istore 3, 1, .istore_n 3), (59, .iinc 5 1, 3, .iinc 5 1), (62, .goto 16, 3, .goto (-46)), (65, .aload 0, 1, .aload_n 0), (66, .iload 4, 2, .iload 4), (68, .putfield 1107, 3, .putfield 107), (71, .iload 3, 1, .iload_n 3), (72, .ireturn, 1, .ireturn)]
def cd_X12_woman : List AE := [(0, .iload 1, 1, .iload_n 1), (1, .invokeinterface 15200 1, 3, .invokestatic 185), (4, .istore 3, 1, .istore_n 3), (5, .iload 3, 1, .iload_n 3), (6, .ifCond .ne 21, 3, .ifCond .ne 15), (9, .iload 2, 1, .iload_n 2), (10, .anewarray 0, 1, .iconst 0), (11, .anewarray 1, 1, .iconst 1), (12, .invokeinterface 15000 3, 3, .invokestatic 76), (15, .ifCond .ne 21, 3, .ifCond .ne 6), (18, .iconst (-2), 2, .bipush (-2)), (20, .istore 3, 1, .istore_n 3), (21, .iload 3, 1, .iload_n 3), (22, .ifCond .eq 31, 3, .ifCond .eq 9), (25, .aload 0, 1, .aload_n 0), (26, .iload 3, 1, .iload_n 3), (27, .invokeinterface 14812 2, 3, .invokevirtual 65), (30, .ireturn, 1, .ireturn), (31, .iconst (-9), 2, .bipush (-9)), (33, .istore 4, 2, .istore 4), (35, .iconst (-9), 2, .bipush (-9)), (37, .istore 5, 2, .istore 5), (39, .anewarray 0, 1, .iconst 0), (40, .istore 6, 2, .istore 6), (42, .iload 6, 2, .iload 6), (44, .aload 0, 1, .aload_n 0), (45, .getfield 1105, 3, .getfield 52), (48, .if_icmp .ge 97, 3, .if_icmp .ge 49), (51, .aload 0, 1, .aload_n 0), (52, .getfield 1106, 3, .getfield 94), (55, .iload 6, 2, .iload 6), (57, .invokeinterface 15300 2, 3, .invokestatic 97), (60, .ifCond .ne 91, 3, .ifCond .ne 31), (63, .aload 0, 1, .aload_n 0), (64, .iload 6, 2, .iload 6), (66, .iload 1, 1, .iload_n 1), (67, .invokeinterface 22212 3, 3, .invokevirtual 256), (70, .iload 5, 2, .iload 5), (72, .if_icmp .gt 78, 3, .if_icmp .gt 6), (75, .goto 91, 3, .goto 16), (78, .iload 6, 2, .iload 6), (80, .istore 4, 2, .istore 4), (82, .aload 0, 1, .aload_n 0), (83, .iload 6, 2, .iload 6), (85, .iload 1, 1, .iload_n 1), (86, .invokeinterface 22212 3, 3, .invokevirtual 256), (89, .istore 5, 2, .istore 5), (91, .iinc 6 1, 3, .iinc 6 1), (94, .goto 42, 3, .goto (-52)), (97, .iload 2, 1, .iload_n 2), (98, .ifCond .ne 106, 3, .ifCond .ne 8), (101, .iload 5, 2, .iload 5), (103, .goto 108, 3, .goto 5), (106, .iload 4, 2, .iload 4), (108, .ireturn, 1, .ireturn)]
def cd_X12_nextWhole : List AE := [(0, .anewarray 0, 1, .iconst 0), (1, .istore 2, 1, .istore_n 2), (2, .iload 2, 1, .iload_n 2), (3, .aload 0, 1, .aload_n 0), (4, .getfield 1105, 3, .getfield 52), (7, .if_icmp .ge 43, 3, .if_icmp .ge 36), (10, .aload 0, 1, .aload_n 0), (11, .getfield 1106, 3, .getfield 94), (14, .iload 1, 1, .iload_n 1), (15, .iload 2, 1, .iload_n 2), (16, .iadd, 1, .iadd), (17, .aload 0, 1, .aload_n 0), (18, .getfield 1105, 3, .getfield 52), (21, .irem, 1, .irem), (22, .invokeinterface 15300 2, 3, .invokestatic 97), (25, .ifCond .ne 37, 3, .ifCond .ne 12), (28, .iload 1, 1, .iload_n 1), (29, .iload 2, 1, .iload_n 2), (30, .iadd, 1, .iadd), (31, .aload 0, 1, .aload_n 0), (32, .getfield 1105, 3, .getfield 52), (35, .irem, 1, .irem), (36, .ireturn, 1, .ireturn), (37, .iinc 2 1, 3, .iinc 2 1), (40, .goto 2, 3, .goto (-38)), (43, .iconst (-9), 2, .bipush (-9)), (45, .ireturn, 1, .ireturn)]
def cd_X12_lasts : List AE := [(0, .iload 1, 1, .iload_n 1), (1, .invokeinterface 15200 1, 3, .invokestatic 185), (4, .istore 2, 1, .istore_n 2), (5, .iload 2, 1, .iload_n 2), (6, .ifCond .eq 15, 3, .ifCond .eq 9), (9, .aload 0, 1, .aload_n 0), (10, .iload 2, 1, .iload_n 2), (11, .invokeinterface 14812 2, 3, .invokevirtual 65), (14, .ireturn, 1, .ireturn), (15, .aload 0, 1, .aload_n 0), (16, .anewarray 0, 1, .iconst 0), (17, .invokeinterface 22412 2, 3, .invokevirtual 259), (20, .istore 3, 1, .istore_n 3), (21, .anewarray 1, 1, .iconst 1), (22, .istore 4, 2, .istore 4), (24, .iload 4, 2, .iload 4), (26, .anewarray 60, 2, .bipush 60), (28, .if_icmp .gt 65, 3, .if_icmp .gt 37), (31, .iload 3, 1, .iload_n 3), (32, .ifCond .lt 65, 3, .ifCond .lt 33), (35, .aload 0, 1, .aload_n 0), (36, .iload 3, 1, .iload_n 3), (37, .iload 1, 1, .iload_n 1), (38, .invokeinterface 18312 3, 3, .invokevirtual 176), (41, .aload 0, 1, .aload_n 0), (42, .getfield 1122, 3, .getfield 161), (45, .ifCond .eq 51, 3, .ifCond .eq 6), (48, .iload 4, 2, .iload 4), (50, .ireturn, 1, .ireturn), (51, .aload 0, 1, .aload_n 0), (52, .iload 3, 1, .iload_n 3), (53, .anewarray 1, 1, .iconst 1), (54, .iadd, 1, .iadd), (55, .invokeinterface 22412 2, 3, .invokevirtual 259), (58, .istore 3, 1, .istore_n 3), (59, .iinc 4 1, 3, .iinc 4 1), (62, .goto 24, 3, .goto (-38)), (65, .iconst (-9), 2, .bipush (-9)), (67, .ireturn, 1, .ireturn)]
def cd_X12_left : List AE := [(0, .iload 1, 1, .iload_n 1), (1, .anewarray 1, 1, .iconst 1), (2, .if_icmp .lt 9, 3, .if_icmp .lt 7), (5, .iload 2, 1, .iload_n 2), (6, .ifCond .ge 14, 3, .ifCond .ge 8), (9, .iconst (-4), 2, .bipush (-4)), (11, .goto 32, 3, .goto 21), (14, .iload 1, 1, .iload_n 1), (15, .anewarray 60, 2, .bipush 60), (17, .if_icmp .gt 26, 3, .if_icmp .gt 9), (20, .iload 2, 1, .iload_n 2), (21, .anewarray 60, 2, .bipush 60), (23, .if_icmp .le 31, 3, .if_icmp .le 8), (26, .iconst (-6), 2, .bipush (-6)), (28, .goto 32, 3, .goto 4), (31, .anewarray 0, 1, .iconst 0), (32, .istore 3, 1, .istore_n 3), (33, .iload 3, 1, .iload_n 3), (34, .ifCond .eq 43, 3, .ifCond .eq 9), (37, .aload 0, 1, .aload_n 0), (38, .iload 3, 1, .iload_n 3), (39, .invokeinterface 14812 2, 3, .invokevirtual 65), (42, .ireturn, 1, .ireturn), (43, .aload 0, 1, .aload_n 0), (44, .getfield 1106, 3, .getfield 94), (47, .istore 4, 2, .istore 4), (49, .aload 0, 1, .aload_n 0), (50, .anewarray 0, 1, .iconst 0), (51, .invokeinterface 22412 2, 3, .invokevirtual 259), (54, .istore 5, 2, .istore 5), (56, .anewarray 0, 1, .iconst 0), (57, .istore 6, 2, .istore 6), (59, .iload 6, 2, .iload 6), (61, .iload 2, 1, .iload_n 2), (62, .if_icmp .ge 94, 3, .if_icmp .ge 32), (65, .iload 5, 2, .iload 5), (67, .ifCond .lt 94, 3, .ifCond .lt 27), (70, .aload 0, 1, .aload_n 0), (71, .iload 5, 2, .iload 5), (73, .iload 1, 1, .iload_n 1), (74, .invokeinterface 18412 3, 3, .invokevirtual 103), (77, .pop, 1, .pop), (78, .aload 0, 1, .aload_n 0), (79, .iload 5, 2, .iload 5), (81, .anewarray 1, 1, .iconst 1), (82, .iadd, 1, .iadd), (83, .invokeinterface 22412 2, 3, .invokevirtual 259), (86, .istore 5, 2, .istore 5), (88, .iinc 6 1, 3, .iinc 6 1), (91, .goto 59, 3, .goto (-32)), (94, .aload 0, 1, .aload_n 0), (95, .getfield 1105, 3, .getfield 52), (98, .aload 0, 1, .aload_n 0), (99, .getfield 1106, 3, .getfield 94), (102, .invokeinterface 15400 1, 3, .invokestatic 179), (105, .isub, 1, .isub), (106, .istore 6, 2, .istore 6), (108, .aload 0, 1, .aload_n 0), (109, .iload 4, 2, .iload 4), (111, .putfield 1106, 3, .putfield 94), (114, .iload 6, 2, .iload 6), (116, .ireturn, 1, .ireturn)]
def cd_X12_divisor : List AE := [(0, .lload 0, 1, .lload_n 0), (1, .lstore 4, 2, .lstore 4), (3, .lload 2, 1, .lload_n 2), (4, .lstore 6, 2, .lstore 6), (6, .lload 6, 2, .lload 6), (8, .ldc2_w 0, 1, .lconst 0), (9, .lcmp, 1, .lcmp), (10, .ifCond .eq 31, 3, .ifCond .eq 21), (13, .lload 4, 2, .lload 4), (15, .lload 6, 2, .lload 6), (17, .lrem, 1, .lrem), (18, .lstore 8, 2, .lstore 8), (20, .lload 6, 2, .lload 6), (22, .lstore 4, 2, .lstore 4), (24, .lload 8, 2, .lload 8), (26, .lstore 6, 2, .lstore 6), (28, .goto 6, 3, .goto (-22)), (31, .lload 4, 2, .lload 4), (33, .lreturn, 1, .lreturn)]
def cd_X12_power : List AE := [(0, .ldc2_w 1, 1, .lconst 1), (1, .lstore 2, 1, .lstore_n 2), (2, .anewarray 0, 1, .iconst 0), (3, .istore 4, 2, .istore 4), (5, .iload 4, 2, .iload 4), (7, .iload 1, 1, .iload_n 1), (8, .if_icmp .ge 22, 3, .if_icmp .ge 14), (11, .lload 2, 1, .lload_n 2), (12, .iload 0, 1, .iload_n 0), (13, .i2l, 1, .i2l), (14, .lmul, 1, .lmul), (15, .lstore 2, 1, .lstore_n 2), (16, .iinc 4 1, 3, .iinc 4 1), (19, .goto 5, 3, .goto (-14)), (22, .lload 2, 1, .lload_n 2), (23, .lreturn, 1, .lreturn)]
def cd_X12_ways : List AE := [(0, .ldc2_w 1, 1, .lconst 1), (1, .lstore 2, 1, .lstore_n 2), (2, .anewarray 1, 1, .iconst 1), (3, .istore 4, 2, .istore 4), (5, .iload 4, 2, .iload 4), (7, .iload 1, 1, .iload_n 1), (8, .if_icmp .gt 31, 3, .if_icmp .gt 23), (11, .lload 2, 1, .lload_n 2), (12, .iload 0, 1, .iload_n 0), (13, .anewarray 1, 1, .iconst 1), (14, .iadd, 1, .iadd), (15, .iload 4, 2, .iload 4), (17, .isub, 1, .isub), (18, .i2l, 1, .i2l), (19, .lmul, 1, .lmul), (20, .iload 4, 2, .iload 4), (22, .i2l, 1, .i2l), (23, .ldiv, 1, .ldiv), (24, .lstore 2, 1, .lstore_n 2), (25, .iinc 4 1, 3, .iinc 4 1), (28, .goto 5, 3, .goto (-23)), (31, .lload 2, 1, .lload_n 2), (32, .lreturn, 1, .lreturn)]
def cd_X12_chance : List AE := [(0, .aload 0, 1, .aload_n 0), (1, .iload 1, 1, .iload_n 1), (2, .iload 2, 1, .iload_n 2), (3, .invokeinterface 19512 3, 3, .invokevirtual 191), (6, .istore 7, 2, .istore 7), (8, .iload 7, 2, .iload 7), (10, .ifCond .ne 77, 3, .ifCond .ne 67), (13, .iload 3, 1, .iload_n 3), (14, .anewarray 1, 1, .iconst 1), (15, .if_icmp .lt 29, 3, .if_icmp .lt 14), (18, .iload 4, 2, .iload 4), (20, .ifCond .lt 29, 3, .ifCond .lt 9), (23, .iload 5, 2, .iload 5), (25, .anewarray 2, 1, .iconst 2), (26, .if_icmp .ge 34, 3, .if_icmp .ge 8), (29, .iconst (-4), 2, .bipush (-4)), (31, .goto 75, 3, .goto 44), (34, .iload 3, 1, .iload_n 3), (35, .anewarray 60, 2, .bipush 60), (37, .if_icmp .gt 54, 3, .if_icmp .gt 17), (40, .iload 4, 2, .iload 4), (42, .anewarray 8, 2, .bipush 8), (44, .if_icmp .gt 54, 3, .if_icmp .gt 10), (47, .iload 5, 2, .iload 5), (49, .anewarray 20, 2, .bipush 20), (51, .if_icmp .le 59, 3, .if_icmp .le 8), (54, .iconst (-6), 2, .bipush (-6)), (56, .goto 75, 3, .goto 19), (59, .iload 6, 2, .iload 6), (61, .anewarray 0, 1, .iconst 0), (62, .anewarray 1, 1, .iconst 1), (63, .invokeinterface 15000 3, 3, .invokestatic 76), (66, .ifCond .ne 74, 3, .ifCond .ne 8), (69, .iconst (-2), 2, .bipush (-2)), (71, .goto 75, 3, .goto 4), (74, .anewarray 0, 1, .iconst 0), (75, .istore 7, 2, .istore 7), (77, .iload 7, 2, .iload 7), (79, .ifCond .eq 89, 3, .ifCond .eq 10), (82, .aload 0, 1, .aload_n 0), (83, .iload 7, 2, .iload 7), (85, .invokeinterface 14912 2, 3, .invokevirtual 262), (88, .lreturn, 1, .lreturn), (89, .aload 0, 1, .aload_n 0), (90, .getfield 1106, 3, .getfield 94), (93, .istore 8, 2, .istore 8), (95, .ldc2_w 0, 1, .lconst 0), (96, .lstore 9, 2, .lstore 9), (98, .anewarray 0, 1, .iconst 0), (99, .istore 11, 2, .istore 11), (101, .iload 11, 2, .iload 11), (103, .iload 4, 2, .iload 4), (105, .if_icmp .gt 161, 3, .if_icmp .gt 56), (108, .lload 9, 2, .lload 9), (110, .aload 0, 1, .aload_n 0), (111, .getfield 1106, 3, .getfield 94), (114, .iload 2, 1, .iload_n 2), (115, .invokeinterface 15300 2, 3, .invokestatic 97), (118, .ifCond .eq 125, 3, .ifCond .eq 7), (121, .ldc2_w 0, 1, .lconst 0), (122, .goto 145, 3, .goto 23), (125, .iload 4, 2, .iload 4), (127, .iload 11, 2, .iload 11), (129, .invokeinterface 22900 2, 3, .invokestatic 266), (132, .iload 5, 2, .iload 5), (134, .anewarray 1, 1, .iconst 1), (135, .isub, 1, .isub), (136, .iload 4, 2, .iload 4), (138, .iload 11, 2, .iload 11), (140, .isub, 1, .isub), (141, .invokeinterface 22800 2, 3, .invokestatic 270), (144, .lmul, 1, .lmul), (145, .ladd, 1, .ladd), (146, .lstore 9, 2, .lstore 9), (148, .aload 0, 1, .aload_n 0), (149, .iload 1, 1, .iload_n 1), (150, .iload 3, 1, .iload_n 3), (151, .invokeinterface 18412 3, 3, .invokevirtual 103), (154, .pop, 1, .pop), (155, .iinc 11 1, 3, .iinc 11 1), (158, .goto 101, 3, .goto (-57)), (161, .aload 0, 1, .aload_n 0), (162, .iload 8, 2, .iload 8), (164, .putfield 1106, 3, .putfield 94), (167, .iload 6, 2, .iload 6), (169, .ifCond .ne 177, 3, .ifCond .ne 8), (172, .lload 9, 2, .lload 9), (174, .goto 184, 3, .goto 10), (177, .iload 5, 2, .iload 5), (179, .iload 4, 2, .iload 4), (181, .invokeinterface 22800 2, 3, .invokestatic 270), (184, .lload 9, 2, .lload 9), (186, .iload 5, 2, .iload 5), (188, .iload 4, 2, .iload 4), (190, .invokeinterface 22800 2, 3, .invokestatic 270), (193, .invokeinterface 22700 2, 3, .invokestatic 273), (196, .ldiv, 1, .ldiv), (197, .lreturn, 1, .lreturn)]
def cd_X12_apartBy : List AE := [(0, .anewarray 0, 1, .iconst 0), (1, .istore 4, 2, .istore 4), (3, .anewarray 0, 1, .iconst 0), (4, .istore 5, 2, .istore 5), (6, .iload 5, 2, .iload 5), (8, .aload 0, 1, .aload_n 0), (9, .getfield 1105, 3, .getfield 52), (12, .if_icmp .ge 48, 3, .if_icmp .ge 36), (15, .aload 0, 1, .aload_n 0), (16, .iload 5, 2, .iload 5), (18, .iload 3, 1, .iload_n 3), (19, .invokeinterface 18312 3, 3, .invokevirtual 176), (22, .iload 4, 2, .iload 4), (24, .aload 0, 1, .aload_n 0), (25, .getfield 1121, 3, .getfield 40), (28, .iload 1, 1, .iload_n 1), (29, .iaload, 1, .iaload), (30, .aload 0, 1, .aload_n 0), (31, .getfield 1121, 3, .getfield 40), (34, .iload 2, 1, .iload_n 2), (35, .iaload, 1, .iaload), (36, .invokeinterface 15500 2, 3, .invokestatic 194), (39, .iadd, 1, .iadd), (40, .istore 4, 2, .istore 4), (42, .iinc 5 1, 3, .iinc 5 1), (45, .goto 6, 3, .goto (-39)), (48, .iload 4, 2, .iload 4), (50, .ireturn, 1, .ireturn)]
def cd_X12_twins : List AE := [(0, .iload 1, 1, .iload_n 1), (1, .invokeinterface 15200 1, 3, .invokestatic 185), (4, .istore 2, 1, .istore_n 2), (5, .iload 2, 1, .iload_n 2), (6, .ifCond .eq 15, 3, .ifCond .eq 9), (9, .aload 0, 1, .aload_n 0), (10, .iload 2, 1, .iload_n 2), (11, .invokeinterface 14812 2, 3, .invokevirtual 65), (14, .ireturn, 1, .ireturn), (15, .iconst (-9), 2, .bipush (-9)), (17, .istore 3, 1, .istore_n 3), (18, .iconst (-9), 2, .bipush (-9)), (20, .istore 4, 2, .istore 4), (22, .anewarray 0, 1, .iconst 0), (23, .istore 5, 2, .istore 5), (25, .iload 5, 2, .iload 5), (27, .aload 0, 1, .aload_n 0), (28, .getfield 1105, 3, .getfield 52), (31, .if_icmp .ge 99, 3, .if_icmp .ge 68), (34, .iload 5, 2, .iload 5), (36, .anewarray 1, 1, .iconst 1), (37, .iadd, 1, .iadd), (38, .istore 6, 2, .istore 6), (40, .iload 6, 2, .iload 6), (42, .aload 0, 1, .aload_n 0), (43, .getfield 1105, 3, .getfield 52), (46, .if_icmp .ge 93, 3, .if_icmp .ge 47), (49, .aload 0, 1, .aload_n 0), (50, .iload 5, 2, .iload 5), (52, .iload 6, 2, .iload 6), (54, .iload 1, 1, .iload_n 1), (55, .invokeinterface 23112 4, 3, .invokevirtual 277), (58, .istore 7, 2, .istore 7), (60, .iload 3, 1, .iload_n 3), (61, .ifCond .lt 74, 3, .ifCond .lt 13), (64, .iload 7, 2, .iload 7), (66, .iload 4, 2, .iload 4), (68, .if_icmp .lt 74, 3, .if_icmp .lt 6), (71, .goto 87, 3, .goto 16), (74, .anewarray 10, 2, .bipush 10), (76, .iload 5, 2, .iload 5), (78, .imul, 1, .imul), (79, .iload 6, 2, .iload 6), (81, .iadd, 1, .iadd), (82, .istore 3, 1, .istore_n 3), (83, .iload 7, 2, .iload 7), (85, .istore 4, 2, .istore 4), (87, .iinc 6 1, 3, .iinc 6 1), (90, .goto 40, 3, .goto (-50)), (93, .iinc 5 1, 3, .iinc 5 1), (96, .goto 25, 3, .goto (-71)), (99, .iload 3, 1, .iload_n 3), (100, .ireturn, 1, .ireturn)]
def cd_X12_heardBy : List AE := [(0, .anewarray 0, 1, .iconst 0), (1, .istore 3, 1, .istore_n 3), (2, .anewarray 0, 1, .iconst 0), (3, .istore 4, 2, .istore 4), (5, .iload 4, 2, .iload 4), (7, .aload 0, 1, .aload_n 0), (8, .getfield 1105, 3, .getfield 52), (11, .if_icmp .ge 36, 3, .if_icmp .ge 25), (14, .aload 0, 1, .aload_n 0), (15, .iload 4, 2, .iload 4), (17, .iload 2, 1, .iload_n 2), (18, .invokeinterface 18312 3, 3, .invokevirtual 176), (21, .iload 3, 1, .iload_n 3), (22, .aload 0, 1, .aload_n 0), (23, .getfield 1121, 3, .getfield 40), (26, .iload 1, 1, .iload_n 1), (27, .iaload, 1, .iaload), (28, .iadd, 1, .iadd), (29, .istore 3, 1, .istore_n 3), (30, .iinc 4 1, 3, .iinc 4 1), (33, .goto 5, 3, .goto (-28)), (36, .iload 3, 1, .iload_n 3), (37, .ireturn, 1, .ireturn)]
def cd_X12_hum : List AE := [(0, .iload 1, 1, .iload_n 1), (1, .invokeinterface 15200 1, 3, .invokestatic 185), (4, .istore 3, 1, .istore_n 3), (5, .iload 3, 1, .iload_n 3), (6, .ifCond .ne 21, 3, .ifCond .ne 15), (9, .iload 2, 1, .iload_n 2), (10, .anewarray 0, 1, .iconst 0), (11, .anewarray 1, 1, .iconst 1), (12, .invokeinterface 15000 3, 3, .invokestatic 76), (15, .ifCond .ne 21, 3, .ifCond .ne 6), (18, .iconst (-2), 2, .bipush (-2)), (20, .istore 3, 1, .istore_n 3), (21, .iload 3, 1, .iload_n 3), (22, .ifCond .eq 31, 3, .ifCond .eq 9), (25, .aload 0, 1, .aload_n 0), (26, .iload 3, 1, .iload_n 3), (27, .invokeinterface 14812 2, 3, .invokevirtual 65), (30, .ireturn, 1, .ireturn), (31, .anewarray 0, 1, .iconst 0), (32, .istore 4, 2, .istore 4), (34, .iconst (-9), 2, .bipush (-9)), (36, .istore 5, 2, .istore 5), (38, .anewarray 0, 1, .iconst 0), (39, .istore 6, 2, .istore 6), (41, .iload 6, 2, .iload 6), (43, .aload 0, 1, .aload_n 0), (44, .getfield 1105, 3, .getfield 52), (47, .if_icmp .ge 99, 3, .if_icmp .ge 52), (50, .iload 4, 2, .iload 4), (52, .aload 0, 1, .aload_n 0), (53, .iload 6, 2, .iload 6), (55, .iload 1, 1, .iload_n 1), (56, .invokeinterface 23312 3, 3, .invokevirtual 280), (59, .iadd, 1, .iadd), (60, .istore 4, 2, .istore 4), (62, .iload 5, 2, .iload 5), (64, .ifCond .lt 84, 3, .ifCond .lt 20), (67, .aload 0, 1, .aload_n 0), (68, .iload 6, 2, .iload 6), (70, .iload 1, 1, .iload_n 1), (71, .invokeinterface 23312 3, 3, .invokevirtual 280), (74, .aload 0, 1, .aload_n 0), (75, .iload 5, 2, .iload 5), (77, .iload 1, 1, .iload_n 1), (78, .invokeinterface 23312 3, 3, .invokevirtual 280), (81, .if_icmp .ge 89, 3, .if_icmp .ge 8), (84, .iload 6, 2, .iload 6), (86, .goto 91, 3, .goto 5), (89, .iload 5, 2, .iload 5), (91, .istore 5, 2, .istore 5), (93, .iinc 6 1, 3, .iinc 6 1), (96, .goto 41, 3, .goto (-55)), (99, .iload 2, 1, .iload_n 2), (100, .ifCond .ne 108, 3, .ifCond .ne 8), (103, .iload 4, 2, .iload 4), (105, .goto 110, 3, .goto 5), (108, .iload 5, 2, .iload 5), (110, .ireturn, 1, .ireturn)]
def cd_X12_apart : List AE := [(0, .aload 0, 1, .aload_n 0), (1, .iload 1, 1, .iload_n 1), (2, .iload 2, 1, .iload_n 2), (3, .invokeinterface 19512 3, 3, .invokevirtual 191), (6, .istore 3, 1, .istore_n 3), (7, .iload 3, 1, .iload_n 3), (8, .ifCond .eq 19, 3, .ifCond .eq 11), (11, .aload 0, 1, .aload_n 0), (12, .iload 3, 1, .iload_n 3), (13, .invokeinterface 14812 2, 3, .invokevirtual 65), (16, .goto 32, 3, .goto 16), (19, .aload 0, 1, .aload_n 0), (20, .iload 1, 1, .iload_n 1), (21, .invokeinterface 18012 2, 3, .invokevirtual 170), (24, .aload 0, 1, .aload_n 0), (25, .iload 2, 1, .iload_n 2), (26, .invokeinterface 18012 2, 3, .invokevirtual 170), (29, .invokeinterface 15500 2, 3, .invokestatic 194), (32, .ireturn, 1, .ireturn)]
def cd_X12_heaps : List AE := [(0, .anewarray 0, 1, .iconst 0), (1, .istore 1, 1, .istore_n 1), (2, .anewarray 0, 1, .iconst 0), (3, .istore 2, 1, .istore_n 2), (4, .iload 2, 1, .iload_n 2), (5, .aload 0, 1, .aload_n 0), (6, .getfield 1105, 3, .getfield 52), (9, .if_icmp .ge 87, 3, .if_icmp .ge 78), (12, .iload 2, 1, .iload_n 2), (13, .ifCond .le 51, 3, .ifCond .le 38), (16, .aload 0, 1, .aload_n 0), (17, .getfield 1106, 3, .getfield 94), (20, .aload 0, 1, .aload_n 0), (21, .getfield 1104, 3, .getfield 22), (24, .iload 2, 1, .iload_n 2), (25, .anewarray 1, 1, .iconst 1), (26, .isub, 1, .isub), (27, .iaload, 1, .iaload), (28, .invokeinterface 15300 2, 3, .invokestatic 97), (31, .ifCond .ne 51, 3, .ifCond .ne 20), (34, .aload 0, 1, .aload_n 0), (35, .getfield 1107, 3, .getfield 107), (38, .iload 2, 1, .iload_n 2), (39, .anewarray 1, 1, .iconst 1), (40, .isub, 1, .isub), (41, .invokeinterface 15300 2, 3, .invokestatic 97), (44, .ifCond .ne 51, 3, .ifCond .ne 7), (47, .anewarray 1, 1, .iconst 1), (48, .goto 52, 3, .goto 4), (51, .anewarray 0, 1, .iconst 0), (52, .istore 3, 1, .istore_n 3), (53, .iload 1, 1, .iload_n 1), (54, .aload 0, 1, .aload_n 0), (55, .getfield 1106, 3, .getfield 94), (58, .aload 0, 1, .aload_n 0), (59, .getfield 1104, 3, .getfield 22), (62, .iload 2, 1, .iload_n 2), (63, .iaload, 1, .iaload), (64, .invokeinterface 15300 2, 3, .invokestatic 97), (67, .ifCond .ne 74, 3, .ifCond .ne 7), (70, .iload 3, 1, .iload_n 3), (71, .ifCond .eq 78, 3, .ifCond .eq 7), (74, .anewarray 0, 1, .iconst 0), (75, .goto 79, 3, .goto 4), (78, .anewarray 1, 1, .iconst 1), (79, .iadd, 1, .iadd), (80, .istore 1, 1, .istore_n 1), (81, .iinc 2 1, 3, .iinc 2 1), (84, .goto 4, 3, .goto (-80)), (87, .iload 1, 1, .iload_n 1), (88, .ireturn, 1, .ireturn)]
def cd_X12_codesOf : List AE := [(0, .ldc2_w 0, 1, .lconst 0), (1, .lstore 4, 2, .lstore 4), (3, .anewarray 0, 1, .iconst 0), (4, .istore 6, 2, .istore 6), (6, .anewarray 1, 1, .iconst 1), (7, .istore 7, 2, .istore 7), (9, .iload 7, 2, .iload 7), (11, .anewarray 60, 2, .bipush 60), (13, .if_icmp .gt 93, 3, .if_icmp .gt 80), (16, .aload 0, 1, .aload_n 0), (17, .iload 1, 1, .iload_n 1), (18, .iload 7, 2, .iload 7), (20, .invokeinterface 18312 3, 3, .invokevirtual 176), (23, .aload 0, 1, .aload_n 0), (24, .getfield 1122, 3, .getfield 161), (27, .ifCond .ne 87, 3, .ifCond .ne 60), (30, .aload 0, 1, .aload_n 0), (31, .getfield 1121, 3, .getfield 40), (34, .iload 2, 1, .iload_n 2), (35, .iaload, 1, .iaload), (36, .ifCond .eq 87, 3, .ifCond .eq 51), (39, .iload 3, 1, .iload_n 3), (40, .ifCond .lt 52, 3, .ifCond .lt 12), (43, .aload 0, 1, .aload_n 0), (44, .getfield 1121, 3, .getfield 40), (47, .iload 3, 1, .iload_n 3), (48, .iaload, 1, .iaload), (49, .ifCond .gt 87, 3, .ifCond .gt 38), (52, .lload 4, 2, .lload 4), (54, .aload 0, 1, .aload_n 0), (55, .getfield 1121, 3, .getfield 40), (58, .iload 2, 1, .iload_n 2), (59, .iaload, 1, .iaload), (60, .lshr, 1, .lshr), (61, .ldc2_w 1, 1, .lconst 1), (62, .land, 1, .land), (63, .ldc2_w 1, 1, .lconst 1), (64, .lcmp, 1, .lcmp), (65, .ifCond .ne 71, 3, .ifCond .ne 6), (68, .goto 87, 3, .goto 19), (71, .lload 4, 2, .lload 4), (73, .ldc2_w 1, 1, .lconst 1), (74, .aload 0, 1, .aload_n 0), (75, .getfield 1121, 3, .getfield 40), (78, .iload 2, 1, .iload_n 2), (79, .iaload, 1, .iaload), (80, .lshl, 1, .lshl), (81, .lor, 1, .lor), (82, .lstore 4, 2, .lstore 4), (84, .iinc 6 1, 3, .iinc 6 1), (87, .iinc 7 1, 3, .iinc 7 1), (90, .goto 9, 3, .goto (-81)), (93, .iload 6, 2, .iload 6), (95, .ireturn, 1, .ireturn)]
def cd_X12_codes : List AE := [(0, .aload 0, 1, .aload_n 0), (1, .iload 1, 1, .iload_n 1), (2, .iload 2, 1, .iload_n 2), (3, .invokeinterface 19512 3, 3, .invokevirtual 191), (6, .istore 3, 1, .istore_n 3), (7, .iload 3, 1, .iload_n 3), (8, .ifCond .eq 19, 3, .ifCond .eq 11), (11, .aload 0, 1, .aload_n 0), (12, .iload 3, 1, .iload_n 3), (13, .invokeinterface 14812 2, 3, .invokevirtual 65), (16, .goto 27, 3, .goto 11), (19, .aload 0, 1, .aload_n 0), (20, .iload 1, 1, .iload_n 1), (21, .iload 2, 1, .iload_n 2), (22, .iconst (-9), 2, .bipush (-9)), (24, .invokeinterface 23712 4, 3, .invokevirtual 283), (27, .ireturn, 1, .ireturn)]
def cd_X12_secret : List AE := [(0, .aload 0, 1, .aload_n 0), (1, .iload 1, 1, .iload_n 1), (2, .iload 2, 1, .iload_n 2), (3, .invokeinterface 19512 3, 3, .invokevirtual 191), (6, .istore 4, 2, .istore 4), (8, .iload 4, 2, .iload 4), (10, .ifCond .ne 24, 3, .ifCond .ne 14), (13, .aload 0, 1, .aload_n 0), (14, .iload 3, 1, .iload_n 3), (15, .invokeinterface 15612 2, 3, .invokevirtual 90), (18, .ifCond .ne 24, 3, .ifCond .ne 6), (21, .iconst (-1), 1, .iconst (-1)), (22, .istore 4, 2, .istore 4), (24, .iload 4, 2, .iload 4), (26, .ifCond .ne 43, 3, .ifCond .ne 17), (29, .iload 3, 1, .iload_n 3), (30, .iload 2, 1, .iload_n 2), (31, .if_icmp .eq 39, 3, .if_icmp .eq 8), (34, .iload 3, 1, .iload_n 3), (35, .iload 1, 1, .iload_n 1), (36, .if_icmp .ne 43, 3, .if_icmp .ne 7), (39, .iconst (-3), 2, .bipush (-3)), (41, .istore 4, 2, .istore 4), (43, .iload 4, 2, .iload 4), (45, .ifCond .eq 57, 3, .ifCond .eq 12), (48, .aload 0, 1, .aload_n 0), (49, .iload 4, 2, .iload 4), (51, .invokeinterface 14812 2, 3, .invokevirtual 65), (54, .goto 64, 3, .goto 10), (57, .aload 0, 1, .aload_n 0), (58, .iload 1, 1, .iload_n 1), (59, .iload 2, 1, .iload_n 2), (60, .iload 3, 1, .iload_n 3), (61, .invokeinterface 23712 4, 3, .invokevirtual 283), (64, .ireturn, 1, .ireturn)]
def cd_X12_tough : List AE := [(0, .aload 0, 1, .aload_n 0), (1, .iload 1, 1, .iload_n 1), (2, .invokeinterface 15612 2, 3, .invokevirtual 90), (5, .ifCond .ne 14, 3, .ifCond .ne 9), (8, .aload 0, 1, .aload_n 0), (9, .iconst (-1), 1, .iconst (-1)), (10, .invokeinterface 14812 2, 3, .invokevirtual 65), (13, .ireturn, 1, .ireturn), (14, .anewarray 1, 1, .iconst 1), (15, .istore 2, 1, .istore_n 2), (16, .iload 2, 1, .iload_n 2), (17, .anewarray 60, 2, .bipush 60), (19, .if_icmp .gt 45, 3, .if_icmp .gt 26), (22, .aload 0, 1, .aload_n 0), (23, .iload 1, 1, .iload_n 1), (24, .iload 2, 1, .iload_n 2), (25, .invokeinterface 18312 3, 3, .invokevirtual 176), (28, .aload 0, 1, .aload_n 0), (29, .getfield 1122, 3, .getfield 161), (32, .ifCond .eq 39, 3, .ifCond .eq 7), (35, .iload 2, 1, .iload_n 2), (36, .anewarray 1, 1, .iconst 1), (37, .isub, 1, .isub), (38, .ireturn, 1, .ireturn), (39, .iinc 2 1, 3, .iinc 2 1), (42, .goto 16, 3, .goto (-26)), (45, .anewarray 60, 2, .bipush 60), (47, .ireturn, 1, .ireturn)]
def cd_X12_centre : List AE := [(0, .iload 1, 1, .iload_n 1), (1, .invokeinterface 15200 1, 3, .invokestatic 185), (4, .istore 3, 1, .istore_n 3), (5, .iload 3, 1, .iload_n 3), (6, .ifCond .ne 21, 3, .ifCond .ne 15), (9, .iload 2, 1, .iload_n 2), (10, .anewarray 0, 1, .iconst 0), (11, .anewarray 1, 1, .iconst 1), (12, .invokeinterface 15000 3, 3, .invokestatic 76), (15, .ifCond .ne 21, 3, .ifCond .ne 6), (18, .iconst (-2), 2, .bipush (-2)), (20, .istore 3, 1, .istore_n 3), (21, .iload 3, 1, .iload_n 3), (22, .ifCond .eq 31, 3, .ifCond .eq 9), (25, .aload 0, 1, .aload_n 0), (26, .iload 3, 1, .iload_n 3), (27, .invokeinterface 14812 2, 3, .invokevirtual 65), (30, .ireturn, 1, .ireturn), (31, .iconst (-9), 2, .bipush (-9)), (33, .istore 4, 2, .istore 4), (35, .iconst (-9), 2, .bipush (-9)), (37, .istore 5, 2, .istore 5), (39, .anewarray 0, 1, .iconst 0), (40, .istore 6, 2, .istore 6), (42, .iload 6, 2, .iload 6), (44, .aload 0, 1, .aload_n 0), (45, .getfield 1105, 3, .getfield 52), (48, .if_icmp .ge 98, 3, .if_icmp .ge 50), (51, .aload 0, 1, .aload_n 0), (52, .iload 6, 2, .iload 6), (54, .iload 1, 1, .iload_n 1), (55, .invokeinterface 18312 3, 3, .invokevirtual 176), (58, .aload 0, 1, .aload_n 0), (59, .getfield 1106, 3, .getfield 94), (62, .iload 6, 2, .iload 6), (64, .invokeinterface 15300 2, 3, .invokestatic 97), (67, .ifCond .ne 92, 3, .ifCond .ne 25), (70, .aload 0, 1, .aload_n 0), (71, .invokeinterface 18512 1, 3, .invokevirtual 200), (74, .iload 5, 2, .iload 5), (76, .if_icmp .gt 82, 3, .if_icmp .gt 6), (79, .goto 92, 3, .goto 13), (82, .iload 6, 2, .iload 6), (84, .istore 4, 2, .istore 4), (86, .aload 0, 1, .aload_n 0), (87, .invokeinterface 18512 1, 3, .invokevirtual 200), (90, .istore 5, 2, .istore 5), (92, .iinc 6 1, 3, .iinc 6 1), (95, .goto 42, 3, .goto (-53)), (98, .iload 2, 1, .iload_n 2), (99, .ifCond .ne 107, 3, .ifCond .ne 8), (102, .iload 4, 2, .iload 4), (104, .goto 109, 3, .goto 5), (107, .iload 5, 2, .iload 5), (109, .ireturn, 1, .ireturn)]
def cd_X12_manyBy : List AE := [(0, .aload 0, 1, .aload_n 0), (1, .iload 1, 1, .iload_n 1), (2, .iload 2, 1, .iload_n 2), (3, .invokeinterface 18312 3, 3, .invokevirtual 176), (6, .aload 0, 1, .aload_n 0), (7, .invokeinterface 18512 1, 3, .invokevirtual 200), (10, .ireturn, 1, .ireturn)]
def cd_X12_bestMend : List AE := [(0, .aload 0, 1, .aload_n 0), (1, .iload 1, 1, .iload_n 1), (2, .invokeinterface 15612 2, 3, .invokevirtual 90), (5, .ifCond .ne 12, 3, .ifCond .ne 7), (8, .iconst (-1), 1, .iconst (-1)), (9, .goto 16, 3, .goto 7), (12, .iload 2, 1, .iload_n 2), (13, .invokeinterface 15200 1, 3, .invokestatic 185), (16, .istore 3, 1, .istore_n 3), (17, .iload 3, 1, .iload_n 3), (18, .ifCond .eq 27, 3, .ifCond .eq 9), (21, .aload 0, 1, .aload_n 0), (22, .iload 3, 1, .iload_n 3), (23, .invokeinterface 14812 2, 3, .invokevirtual 65), (26, .ireturn, 1, .ireturn), (27, .aload 0, 1, .aload_n 0), (28, .getfield 1106, 3, .getfield 94), (31, .istore 4, 2, .istore 4), (33, .iconst (-9), 2, .bipush (-9)), (35, .istore 5, 2, .istore 5), (37, .aload 0, 1, .aload_n 0), (38, .iload 1, 1, .iload_n 1), (39, .iload 2, 1, .iload_n 2), (40, .invokeinterface 24212 3, 3, .invokevirtual 286), (43, .istore 6, 2, .istore 6), (45, .anewarray 0, 1, .iconst 0), (46, .istore 7, 2, .istore 7), (48, .iload 7, 2, .iload 7), (50, .aload 0, 1, .aload_n 0), (51, .getfield 1105, 3, .getfield 52), (54, .if_icmp .ge 121, 3, .if_icmp .ge 67), (57, .iload 4, 2, .iload 4), (59, .iload 7, 2, .iload 7), (61, .invokeinterface 15300 2, 3, .invokestatic 97), (64, .ifCond .ne 70, 3, .ifCond .ne 6), (67, .goto 115, 3, .goto 48), (70, .aload 0, 1, .aload_n 0), (71, .iload 4, 2, .iload 4), (73, .anewarray 1, 1, .iconst 1), (74, .iload 7, 2, .iload 7), (76, .ishl, 1, .ishl), (77, .iconst (-1), 1, .iconst (-1)), (78, .ixor, 1, .ixor), (79, .iand, 1, .iand), (80, .putfield 1106, 3, .putfield 94), (83, .aload 0, 1, .aload_n 0), (84, .iload 1, 1, .iload_n 1), (85, .iload 2, 1, .iload_n 2), (86, .invokeinterface 24212 3, 3, .invokevirtual 286), (89, .istore 8, 2, .istore 8), (91, .aload 0, 1, .aload_n 0), (92, .iload 4, 2, .iload 4), (94, .putfield 1106, 3, .putfield 94), (97, .iload 8, 2, .iload 8), (99, .iload 6, 2, .iload 6), (101, .if_icmp .gt 107, 3, .if_icmp .gt 6), (104, .goto 115, 3, .goto 11), (107, .iload 7, 2, .iload 7), (109, .istore 5, 2, .istore 5), (111, .iload 8, 2, .iload 8), (113, .istore 6, 2, .istore 6), (115, .iinc 7 1, 3, .iinc 7 1), (118, .goto 48, 3, .goto (-70)), (121, .iload 5, 2, .iload 5), (123, .ireturn, 1, .ireturn)]
def cd_X12_bestFigure : List AE := [(0, .aload 0, 1, .aload_n 0), (1, .iload 1, 1, .iload_n 1), (2, .iload 2, 1, .iload_n 2), (3, .invokeinterface 19512 3, 3, .invokevirtual 191), (6, .istore 4, 2, .istore 4), (8, .iload 4, 2, .iload 4), (10, .ifCond .ne 19, 3, .ifCond .ne 9), (13, .iload 3, 1, .iload_n 3), (14, .invokeinterface 15200 1, 3, .invokestatic 185), (17, .istore 4, 2, .istore 4), (19, .iload 4, 2, .iload 4), (21, .ifCond .eq 31, 3, .ifCond .eq 10), (24, .aload 0, 1, .aload_n 0), (25, .iload 4, 2, .iload 4), (27, .invokeinterface 14812 2, 3, .invokevirtual 65), (30, .ireturn, 1, .ireturn), (31, .aload 0, 1, .aload_n 0), (32, .getfield 1102, 3, .getfield 16), (35, .iload 1, 1, .iload_n 1), (36, .iaload, 1, .iaload), (37, .istore 5, 2, .istore 5), (39, .anewarray 0, 1, .iconst 0), (40, .istore 6, 2, .istore 6), (42, .iconst (-9), 2, .bipush (-9)), (44, .istore 7, 2, .istore 7), (46, .anewarray 0, 1, .iconst 0), (47, .istore 8, 2, .istore 8), (49, .iload 8, 2, .iload 8), (51, .anewarray 10, 2, .bipush 10), (53, .if_icmp .ge 96, 3, .if_icmp .ge 43), (56, .aload 0, 1, .aload_n 0), (57, .getfield 1102, 3, .getfield 16), (60, .iload 1, 1, .iload_n 1), (61, .iload 8, 2, .iload 8), (63, .iastore, 1, .iastore), (64, .aload 0, 1, .aload_n 0), (65, .iload 2, 1, .iload_n 2), (66, .iload 3, 1, .iload_n 3), (67, .invokeinterface 24212 3, 3, .invokevirtual 286), (70, .istore 9, 2, .istore 9), (72, .iload 9, 2, .iload 9), (74, .iload 7, 2, .iload 7), (76, .if_icmp .gt 82, 3, .if_icmp .gt 6), (79, .goto 90, 3, .goto 11), (82, .iload 8, 2, .iload 8), (84, .istore 6, 2, .istore 6), (86, .iload 9, 2, .iload 9), (88, .istore 7, 2, .istore 7), (90, .iinc 8 1, 3, .iinc 8 1), (93, .goto 49, 3, .goto (-44)), (96, .aload 0, 1, .aload_n 0), (97, .getfield 1102, 3, .getfield 16), (100, .iload 1, 1, .iload_n 1), (101, .iload 5, 2, .iload 5), (103, .iastore, 1, .iastore), (104, .iload 6, 2, .iload 6), (106, .ireturn, 1, .ireturn)]
def cd_X12_domino : List AE := [(0, .iload 1, 1, .iload_n 1), (1, .invokeinterface 15200 1, 3, .invokestatic 185), (4, .istore 2, 1, .istore_n 2), (5, .iload 2, 1, .iload_n 2), (6, .ifCond .eq 15, 3, .ifCond .eq 9), (9, .aload 0, 1, .aload_n 0), (10, .iload 2, 1, .iload_n 2), (11, .invokeinterface 14812 2, 3, .invokevirtual 65), (14, .ireturn, 1, .ireturn), (15, .aload 0, 1, .aload_n 0), (16, .getfield 1106, 3, .getfield 94), (19, .istore 3, 1, .istore_n 3), (20, .anewarray 0, 1, .iconst 0), (21, .istore 4, 2, .istore 4), (23, .iload 4, 2, .iload 4), (25, .aload 0, 1, .aload_n 0), (26, .getfield 1105, 3, .getfield 52), (29, .if_icmp .ge 51, 3, .if_icmp .ge 22), (32, .aload 0, 1, .aload_n 0), (33, .aload 0, 1, .aload_n 0), (34, .getfield 1104, 3, .getfield 22), (37, .iload 4, 2, .iload 4), (39, .iaload, 1, .iaload), (40, .iload 1, 1, .iload_n 1), (41, .invokeinterface 18412 3, 3, .invokevirtual 103), (44, .pop, 1, .pop), (45, .iinc 4 1, 3, .iinc 4 1), (48, .goto 23, 3, .goto (-25)), (51, .aload 0, 1, .aload_n 0), (52, .getfield 1106, 3, .getfield 94), (55, .invokeinterface 15400 1, 3, .invokestatic 179), (58, .istore 4, 2, .istore 4), (60, .aload 0, 1, .aload_n 0), (61, .iload 3, 1, .iload_n 3), (62, .putfield 1106, 3, .putfield 94), (65, .iload 4, 2, .iload 4), (67, .ireturn, 1, .ireturn)]
def cd_X12_linkOf : List AE := [(0, .aload 0, 1, .aload_n 0), (1, .getfield 1103, 3, .getfield 19), (4, .aload 0, 1, .aload_n 0), (5, .getfield 1104, 3, .getfield 22), (8, .iload 1, 1, .iload_n 1), (9, .iaload, 1, .iaload), (10, .iaload, 1, .iaload), (11, .aload 0, 1, .aload_n 0), (12, .getfield 1103, 3, .getfield 19), (15, .aload 0, 1, .aload_n 0), (16, .getfield 1104, 3, .getfield 22), (19, .iload 1, 1, .iload_n 1), (20, .anewarray 1, 1, .iconst 1), (21, .iadd, 1, .iadd), (22, .iaload, 1, .iaload), (23, .iaload, 1, .iaload), (24, .invokeinterface 15500 2, 3, .invokestatic 194), (27, .ireturn, 1, .ireturn)]
def cd_X12_longest : List AE := [(0, .iload 1, 1, .iload_n 1), (1, .anewarray 0, 1, .iconst 0), (2, .anewarray 1, 1, .iconst 1), (3, .invokeinterface 15000 3, 3, .invokestatic 76), (6, .ifCond .ne 16, 3, .ifCond .ne 10), (9, .aload 0, 1, .aload_n 0), (10, .iconst (-2), 2, .bipush (-2)), (12, .invokeinterface 14812 2, 3, .invokevirtual 65), (15, .ireturn, 1, .ireturn), (16, .iconst (-9), 2, .bipush (-9)), (18, .istore 2, 1, .istore_n 2), (19, .anewarray 0, 1, .iconst 0), (20, .istore 3, 1, .istore_n 3), (21, .iload 3, 1, .iload_n 3), (22, .aload 0, 1, .aload_n 0), (23, .getfield 1105, 3, .getfield 52), (26, .anewarray 1, 1, .iconst 1), (27, .isub, 1, .isub), (28, .if_icmp .ge 60, 3, .if_icmp .ge 32), (31, .iload 2, 1, .iload_n 2), (32, .ifCond .lt 48, 3, .ifCond .lt 16), (35, .aload 0, 1, .aload_n 0), (36, .iload 3, 1, .iload_n 3), (37, .invokeinterface 24612 2, 3, .invokevirtual 289), (40, .aload 0, 1, .aload_n 0), (41, .iload 2, 1, .iload_n 2), (42, .invokeinterface 24612 2, 3, .invokevirtual 289), (45, .if_icmp .le 52, 3, .if_icmp .le 7), (48, .iload 3, 1, .iload_n 3), (49, .goto 53, 3, .goto 4), (52, .iload 2, 1, .iload_n 2), (53, .istore 2, 1, .istore_n 2), (54, .iinc 3 1, 3, .iinc 3 1), (57, .goto 21, 3, .goto (-36)), (60, .iload 1, 1, .iload_n 1), (61, .ifCond .eq 68, 3, .ifCond .eq 7), (64, .iload 2, 1, .iload_n 2), (65, .ifCond .ge 72, 3, .ifCond .ge 7), (68, .iload 2, 1, .iload_n 2), (69, .goto 77, 3, .goto 8), (72, .aload 0, 1, .aload_n 0), (73, .iload 2, 1, .iload_n 2), (74, .invokeinterface 24612 2, 3, .invokevirtual 289), (77, .ireturn, 1, .ireturn)]
def cd_X12_spared : List AE := [(0, .iload 1, 1, .iload_n 1), (1, .invokeinterface 15200 1, 3, .invokestatic 185), (4, .istore 2, 1, .istore_n 2), (5, .iload 2, 1, .iload_n 2), (6, .ifCond .eq 15, 3, .ifCond .eq 9), (9, .aload 0, 1, .aload_n 0), (10, .iload 2, 1, .iload_n 2), (11, .invokeinterface 14812 2, 3, .invokevirtual 65), (14, .ireturn, 1, .ireturn), (15, .anewarray 1, 1, .iconst 1), (16, .aload 0, 1, .aload_n 0), (17, .getfield 1105, 3, .getfield 52), (20, .ishl, 1, .ishl), (21, .anewarray 1, 1, .iconst 1), (22, .isub, 1, .isub), (23, .aload 0, 1, .aload_n 0), (24, .getfield 1106, 3, .getfield 94), (27, .iconst (-1), 1, .iconst (-1)), (28, .ixor, 1, .ixor), (29, .iand, 1, .iand), (30, .istore 3, 1, .istore_n 3), (31, .anewarray 0, 1, .iconst 0), (32, .istore 4, 2, .istore 4), (34, .iload 4, 2, .iload 4), (36, .aload 0, 1, .aload_n 0), (37, .getfield 1105, 3, .getfield 52), (40, .if_icmp .ge 72, 3, .if_icmp .ge 32), (43, .aload 0, 1, .aload_n 0), (44, .iload 4, 2, .iload 4), (46, .iload 1, 1, .iload_n 1), (47, .invokeinterface 18312 3, 3, .invokevirtual 176), (50, .iload 3, 1, .iload_n 3), (51, .aload 0, 1, .aload_n 0), (52, .getfield 1122, 3, .getfield 161), (55, .anewarray 1, 1, .iconst 1), (56, .iload 4, 2, .iload 4), (58, .ishl, 1, .ishl), (59, .iconst (-1), 1, .iconst (-1)), (60, .ixor, 1, .ixor), (61, .iand, 1, .iand), (62, .iconst (-1), 1, .iconst (-1)), (63, .ixor, 1, .ixor), (64, .iand, 1, .iand), (65, .istore 3, 1, .istore_n 3), (66, .iinc 4 1, 3, .iinc 4 1), (69, .goto 34, 3, .goto (-35)), (72, .iload 3, 1, .iload_n 3), (73, .ireturn, 1, .ireturn)]
def cd_X12_hears : List AE := [(0, .aload 0, 1, .aload_n 0), (1, .iload 1, 1, .iload_n 1), (2, .iload 3, 1, .iload_n 3), (3, .invokeinterface 18312 3, 3, .invokevirtual 176), (6, .aload 0, 1, .aload_n 0), (7, .getfield 1121, 3, .getfield 40), (10, .iload 2, 1, .iload_n 2), (11, .iaload, 1, .iaload), (12, .ifCond .le 19, 3, .ifCond .le 7), (15, .anewarray 1, 1, .iconst 1), (16, .goto 20, 3, .goto 4), (19, .anewarray 0, 1, .iconst 0), (20, .dreturn, 1, .ireturn)]
def cd_X12_mutual : List AE := [(0, .iload 1, 1, .iload_n 1), (1, .invokeinterface 15200 1, 3, .invokestatic 185), (4, .istore 2, 1, .istore_n 2), (5, .iload 2, 1, .iload_n 2), (6, .ifCond .eq 15, 3, .ifCond .eq 9), (9, .aload 0, 1, .aload_n 0), (10, .iload 2, 1, .iload_n 2), (11, .invokeinterface 14812 2, 3, .invokevirtual 65), (14, .ireturn, 1, .ireturn), (15, .anewarray 0, 1, .iconst 0), (16, .istore 3, 1, .istore_n 3), (17, .anewarray 0, 1, .iconst 0), (18, .istore 4, 2, .istore 4), (20, .iload 4, 2, .iload 4), (22, .aload 0, 1, .aload_n 0), (23, .getfield 1105, 3, .getfield 52), (26, .if_icmp .ge 88, 3, .if_icmp .ge 62), (29, .iload 4, 2, .iload 4), (31, .anewarray 1, 1, .iconst 1), (32, .iadd, 1, .iadd), (33, .istore 5, 2, .istore 5), (35, .iload 5, 2, .iload 5), (37, .aload 0, 1, .aload_n 0), (38, .getfield 1105, 3, .getfield 52), (41, .if_icmp .ge 82, 3, .if_icmp .ge 41), (44, .iload 3, 1, .iload_n 3), (45, .aload 0, 1, .aload_n 0), (46, .iload 4, 2, .iload 4), (48, .iload 5, 2, .iload 5), (50, .iload 1, 1, .iload_n 1), (51, .invokeinterface 24912 4, 3, .invokevirtual 292), (54, .ifCond .eq 73, 3, .ifCond .eq 19), (57, .aload 0, 1, .aload_n 0), (58, .iload 5, 2, .iload 5), (60, .iload 4, 2, .iload 4), (62, .iload 1, 1, .iload_n 1), (63, .invokeinterface 24912 4, 3, .invokevirtual 292), (66, .ifCond .eq 73, 3, .ifCond .eq 7), (69, .anewarray 1, 1, .iconst 1), (70, .goto 74, 3, .goto 4), (73, .anewarray 0, 1, .iconst 0), (74, .iadd, 1, .iadd), (75, .istore 3, 1, .istore_n 3), (76, .iinc 5 1, 3, .iinc 5 1), (79, .goto 35, 3, .goto (-44)), (82, .iinc 4 1, 3, .iinc 4 1), (85, .goto 20, 3, .goto (-65)), (88, .iload 3, 1, .iload_n 3), (89, .ireturn, 1, .ireturn)]
def cd_X12_row : List AE := [(0, .iload 1, 1, .iload_n 1), (1, .anewarray 0, 1, .iconst 0), (2, .anewarray 99, 2, .bipush 99), (4, .invokeinterface 15100 3, 3, .invokestatic 58), (7, .istore 2, 1, .istore_n 2), (8, .iload 2, 1, .iload_n 2), (9, .ifCond .ne 24, 3, .ifCond .ne 15), (12, .aload 0, 1, .aload_n 0), (13, .getfield 1124, 3, .getfield 209), (16, .anewarray 12, 2, .bipush 12), (18, .if_icmp .ne 24, 3, .if_icmp .ne 6), (21, .iconst (-6), 2, .bipush (-6)), (23, .istore 2, 1, .istore_n 2), (24, .iload 2, 1, .iload_n 2), (25, .ifCond .eq 34, 3, .ifCond .eq 9), (28, .aload 0, 1, .aload_n 0), (29, .iload 2, 1, .iload_n 2), (30, .invokeinterface 14812 2, 3, .invokevirtual 65), (33, .ireturn, 1, .ireturn), (34, .aload 0, 1, .aload_n 0), (35, .getfield 1123, 3, .getfield 43), (38, .aload 0, 1, .aload_n 0), (39, .getfield 1124, 3, .getfield 209), (42, .iload 1, 1, .iload_n 1), (43, .iastore, 1, .iastore), (44, .aload 0, 1, .aload_n 0), (45, .dup, 1, .dup), (46, .getfield 1124, 3, .getfield 209), (49, .anewarray 1, 1, .iconst 1), (50, .iadd, 1, .iadd), (51, .putfield 1124, 3, .putfield 209), (54, .aload 0, 1, .aload_n 0), (55, .getfield 1124, 3, .getfield 209), (58, .ireturn, 1, .ireturn)]
def cd_X12_judge : List AE := [(0, .aload 0, 1, .aload_n 0), (1, .getfield 1124, 3, .getfield 209), (4, .istore 1, 1, .istore_n 1), (5, .aload 0, 1, .aload_n 0), (6, .anewarray 0, 1, .iconst 0), (7, .putfield 1124, 3, .putfield 209), (10, .anewarray 0, 1, .iconst 0), (11, .istore 2, 1, .istore_n 2), (12, .iload 2, 1, .iload_n 2), (13, .iload 1, 1, .iload_n 1), (14, .if_icmp .ge 48, 3, .if_icmp .ge 34), (17, .iload 2, 1, .iload_n 2), (18, .aload 0, 1, .aload_n 0), (19, .getfield 1105, 3, .getfield 52), (22, .if_icmp .ge 40, 3, .if_icmp .ge 18), (25, .aload 0, 1, .aload_n 0), (26, .getfield 1104, 3, .getfield 22), (29, .iload 2, 1, .iload_n 2), (30, .iaload, 1, .iaload), (31, .aload 0, 1, .aload_n 0), (32, .getfield 1123, 3, .getfield 43), (35, .iload 2, 1, .iload_n 2), (36, .iaload, 1, .iaload), (37, .if_icmp .eq 42, 3, .if_icmp .eq 5), (40, .iload 2, 1, .iload_n 2), (41, .ireturn, 1, .ireturn), (42, .iinc 2 1, 3, .iinc 2 1), (45, .goto 12, 3, .goto (-33)), (48, .iconst (-9), 2, .bipush (-9)), (50, .ireturn, 1, .ireturn)]
def cd_X12_clear : List AE := [(0, .aload 0, 1, .aload_n 0), (1, .getfield 1124, 3, .getfield 209), (4, .istore 1, 1, .istore_n 1), (5, .aload 0, 1, .aload_n 0), (6, .anewarray 0, 1, .iconst 0), (7, .putfield 1124, 3, .putfield 209), (10, .iload 1, 1, .iload_n 1), (11, .ireturn, 1, .ireturn)]
def cd_X12_draw : List AE := [(0, .aload 0, 1, .aload_n 0), (1, .aload 0, 1, .aload_n 0), (2, .getfield 1127, 3, .getfield 295), (5, .anewarray 1103515245, 3, .ldc_w 298), (8, .imul, 1, .imul), (9, .anewarray 12345, 3, .sipush 12345), (12, .iadd, 1, .iadd), (13, .putfield 1127, 3, .putfield 295), (16, .aload 0, 1, .aload_n 0), (17, .getfield 1127, 3, .getfield 295), (20, .anewarray 2147483647, 3, .ldc_w 299), (23, .iand, 1, .iand), (24, .anewarray 65536, 3, .ldc_w 300), (27, .idiv, 1, .idiv), (28, .iload 1, 1, .iload_n 1), (29, .irem, 1, .irem), (30, .ireturn, 1, .ireturn)]
def cd_X12_lots : List AE := [(0, .iload 1, 1, .iload_n 1), (1, .anewarray 1, 1, .iconst 1), (2, .anewarray 20, 2, .bipush 20), (4, .invokeinterface 15100 3, 3, .invokestatic 58), (7, .istore 4, 2, .istore 4), (9, .iload 4, 2, .iload 4), (11, .ifCond .ne 27, 3, .ifCond .ne 16), (14, .iload 3, 1, .iload_n 3), (15, .anewarray 0, 1, .iconst 0), (16, .anewarray 1, 1, .iconst 1), (17, .invokeinterface 15000 3, 3, .invokestatic 76), (20, .ifCond .ne 27, 3, .ifCond .ne 7), (23, .iconst (-2), 2, .bipush (-2)), (25, .istore 4, 2, .istore 4), (27, .iload 4, 2, .iload 4), (29, .ifCond .eq 39, 3, .ifCond .eq 10), (32, .aload 0, 1, .aload_n 0), (33, .iload 4, 2, .iload 4), (35, .invokeinterface 14812 2, 3, .invokevirtual 65), (38, .ireturn, 1, .ireturn), (39, .aload 0, 1, .aload_n 0), (40, .getfield 1105, 3, .getfield 52), (43, .ifCond .ne 48, 3, .ifCond .ne 5), (46, .anewarray 0, 1, .iconst 0), (47, .ireturn, 1, .ireturn), (48, .aload 0, 1, .aload_n 0), (49, .iload 2, 1, .iload_n 2), (50, .putfield 1127, 3, .putfield 295), (53, .aload 0, 1, .aload_n 0), (54, .getfield 1106, 3, .getfield 94), (57, .istore 5, 2, .istore 5), (59, .anewarray 0, 1, .iconst 0), (60, .istore 6, 2, .istore 6), (62, .anewarray 0, 1, .iconst 0), (63, .istore 7, 2, .istore 7), (65, .anewarray 0, 1, .iconst 0), (66, .istore 8, 2, .istore 8), (68, .iload 8, 2, .iload 8), (70, .anewarray 6, 2, .bipush 6), (72, .iload 1, 1, .iload_n 1), (73, .imul, 1, .imul), (74, .if_icmp .ge 142, 3, .if_icmp .ge 68), (77, .aload 0, 1, .aload_n 0), (78, .iload 8, 2, .iload 8), (80, .anewarray 6, 2, .bipush 6), (82, .irem, 1, .irem), (83, .ifCond .ne 91, 3, .ifCond .ne 8), (86, .iload 5, 2, .iload 5), (88, .goto 95, 3, .goto 7), (91, .aload 0, 1, .aload_n 0), (92, .getfield 1106, 3, .getfield 94), (95, .putfield 1106, 3, .putfield 94), (98, .aload 0, 1, .aload_n 0), (99, .aload 0, 1, .aload_n 0), (100, .getfield 1105, 3, .getfield 52), (103, .invokeinterface 25412 2, 3, .invokevirtual 301), (106, .istore 9, 2, .istore 9), (108, .iload 6, 2, .iload 6), (110, .aload 0, 1, .aload_n 0), (111, .iload 9, 2, .iload 9), (113, .anewarray 1, 1, .iconst 1), (114, .aload 0, 1, .aload_n 0), (115, .anewarray 30, 2, .bipush 30), (117, .invokeinterface 25412 2, 3, .invokevirtual 301), (120, .iadd, 1, .iadd), (121, .invokeinterface 18412 3, 3, .invokevirtual 103), (124, .iadd, 1, .iadd), (125, .istore 6, 2, .istore 6), (127, .iload 7, 2, .iload 7), (129, .aload 0, 1, .aload_n 0), (130, .invokeinterface 18612 1, 3, .invokevirtual 203), (133, .iadd, 1, .iadd), (134, .istore 7, 2, .istore 7), (136, .iinc 8 1, 3, .iinc 8 1), (139, .goto 68, 3, .goto (-71)), (142, .aload 0, 1, .aload_n 0), (143, .iload 5, 2, .iload 5), (145, .putfield 1106, 3, .putfield 94), (148, .iload 3, 1, .iload_n 3), (149, .ifCond .ne 157, 3, .ifCond .ne 8), (152, .iload 6, 2, .iload 6), (154, .goto 159, 3, .goto 5), (157, .iload 7, 2, .iload 7), (159, .ireturn, 1, .ireturn)]
def cd_X12_count : List AE := [(0, .iload 1, 1, .iload_n 1), (1, .anewarray 11, 2, .bipush 11), (3, .anewarray 16, 2, .bipush 16), (5, .invokeinterface 15000 3, 3, .invokestatic 76), (8, .ifCond .eq 21, 3, .ifCond .eq 13), (11, .aload 0, 1, .aload_n 0), (12, .getfield 1100, 3, .getfield 7), (15, .iload 1, 1, .iload_n 1), (16, .anewarray 10, 2, .bipush 10), (18, .isub, 1, .isub), (19, .iaload, 1, .iaload), (20, .ireturn, 1, .ireturn), (21, .anewarray 0, 1, .iconst 0), (22, .istore 2, 1, .istore_n 2), (23, .iload 1, 1, .iload_n 1), (24, .tableswitch 133 0 7 #[72, 77, 82, 87, 92, 118, 123, 128], 48, .tableswitch 109 0 7 #[48, 53, 58, 63, 68, 94, 99, 104]), (72, .aload 0, 1, .aload_n 0), (73, .getfield 1105, 3, .getfield 52), (76, .ireturn, 1, .ireturn), (77, .aload 0, 1, .aload_n 0), (78, .getfield 1108, 3, .getfield 100), (81, .ireturn, 1, .ireturn), (82, .aload 0, 1, .aload_n 0), (83, .getfield 1106, 3, .getfield 94), (86, .ireturn, 1, .ireturn), (87, .aload 0, 1, .aload_n 0), (88, .getfield 1107, 3, .getfield 107), (91, .ireturn, 1, .ireturn), (92, .anewarray 0, 1, .iconst 0), (93, .istore 3, 1, .istore_n 3), (94, .iload 3, 1, .iload_n 3), (95, .aload 0, 1, .aload_n 0), (96, .getfield 1105, 3, .getfield 52), (99, .if_icmp .ge 116, 3, .if_icmp .ge 17), (102, .iload 2, 1, .iload_n 2), (103, .aload 0, 1, .aload_n 0), (104, .iload 3, 1, .iload_n 3), (105, .invokeinterface 17712 2, 3, .invokevirtual 164), (108, .iadd, 1, .iadd), (109, .istore 2, 1, .istore_n 2), (110, .iinc 3 1, 3, .iinc 3 1), (113, .goto 94, 3, .goto (-19)), (116, .iload 2, 1, .iload_n 2), (117, .ireturn, 1, .ireturn), (118, .aload 0, 1, .aload_n 0), (119, .getfield 1113, 3, .getfield 62), (122, .ireturn, 1, .ireturn), (123, .aload 0, 1, .aload_n 0), (124, .getfield 1124, 3, .getfield 209), (127, .ireturn, 1, .ireturn), (128, .aload 0, 1, .aload_n 0), (129, .getfield 1120, 3, .getfield 138), (132, .ireturn, 1, .ireturn), (133, .iconst (-9), 2, .bipush (-9)), (135, .ireturn, 1, .ireturn)]
def cd_J6_bitCount_0f7a4 : List AE := [(0, .iload 0, 1, .iload_n 0), (1, .iload 0, 1, .iload_n 0), (2, .anewarray 1, 1, .iconst 1), (3, .iushr, 1, .iushr), (4, .anewarray 1431655765, 3, .ldc_w 265), (7, .iand, 1, .iand), (8, .isub, 1, .isub), (9, .istore 0, 1, .istore_n 0), (10, .iload 0, 1, .iload_n 0), (11, .anewarray 858993459, 3, .ldc_w 266), (14, .iand, 1, .iand), (15, .iload 0, 1, .iload_n 0), (16, .anewarray 2, 1, .iconst 2), (17, .iushr, 1, .iushr), (18, .anewarray 858993459, 3, .ldc_w 266), (21, .iand, 1, .iand), (22, .iadd, 1, .iadd), (23, .istore 0, 1, .istore_n 0), (24, .iload 0, 1, .iload_n 0), (25, .iload 0, 1, .iload_n 0), (26, .anewarray 4, 1, .iconst 4), (27, .iushr, 1, .iushr), (28, .iadd, 1, .iadd), (29, .anewarray 252645135, 3, .ldc_w 267), (32, .iand, 1, .iand), (33, .istore 0, 1, .istore_n 0), (34, .iload 0, 1, .iload_n 0), (35, .iload 0, 1, .iload_n 0), (36, .anewarray 8, 2, .bipush 8), (38, .iushr, 1, .iushr), (39, .iadd, 1, .iadd), (40, .istore 0, 1, .istore_n 0), (41, .iload 0, 1, .iload_n 0), (42, .iload 0, 1, .iload_n 0), (43, .anewarray 16, 2, .bipush 16), (45, .iushr, 1, .iushr), (46, .iadd, 1, .iadd), (47, .istore 0, 1, .istore_n 0), (48, .iload 0, 1, .iload_n 0), (49, .anewarray 63, 2, .bipush 63), (51, .iand, 1, .iand), (52, .ireturn, 1, .ireturn)]
def cd_J13_bitCount_95d88 : List AE := [(0, .lload 0, 1, .lload_n 0), (1, .lload 0, 1, .lload_n 0), (2, .anewarray 1, 1, .iconst 1), (3, .lushr, 1, .lushr), (4, .ldc2_w 6148914691236517205, 3, .ldc2_w 314), (7, .land, 1, .land), (8, .lsub, 1, .lsub), (9, .lstore 0, 1, .lstore_n 0), (10, .lload 0, 1, .lload_n 0), (11, .ldc2_w 3689348814741910323, 3, .ldc2_w 316), (14, .land, 1, .land), (15, .lload 0, 1, .lload_n 0), (16, .anewarray 2, 1, .iconst 2), (17, .lushr, 1, .lushr), (18, .ldc2_w 3689348814741910323, 3, .ldc2_w 316), (21, .land, 1, .land), (22, .ladd, 1, .ladd), (23, .lstore 0, 1, .lstore_n 0), (24, .lload 0, 1, .lload_n 0), (25, .lload 0, 1, .lload_n 0), (26, .anewarray 4, 1, .iconst 4), (27, .lushr, 1, .lushr), (28, .ladd, 1, .ladd), (29, .ldc2_w 1085102592571150095, 3, .ldc2_w 318), (32, .land, 1, .land), (33, .lstore 0, 1, .lstore_n 0), (34, .lload 0, 1, .lload_n 0), (35, .lload 0, 1, .lload_n 0), (36, .anewarray 8, 2, .bipush 8), (38, .lushr, 1, .lushr), (39, .ladd, 1, .ladd), (40, .lstore 0, 1, .lstore_n 0), (41, .lload 0, 1, .lload_n 0), (42, .lload 0, 1, .lload_n 0), (43, .anewarray 16, 2, .bipush 16), (45, .lushr, 1, .lushr), (46, .ladd, 1, .ladd), (47, .lstore 0, 1, .lstore_n 0), (48, .lload 0, 1, .lload_n 0), (49, .lload 0, 1, .lload_n 0), (50, .anewarray 32, 2, .bipush 32), (52, .lushr, 1, .lushr), (53, .ladd, 1, .ladd), (54, .lstore 0, 1, .lstore_n 0), (55, .lload 0, 1, .lload_n 0), (56, .l2i, 1, .l2i), (57, .anewarray 127, 2, .bipush 127), (59, .iand, 1, .iand), (60, .ireturn, 1, .ireturn)]
def me_X0_none : ME := (⟨"RivetedSisters$Best", "none", "()V"⟩, prog_2_method_2_code, 1, none, false, 0, 0, 0, cd_X0_none)
abbrev i_X0_none : Nat := 0
def me_X0_offerLeast : ME := (⟨"RivetedSisters$Best", "offerLeast", "(II)V"⟩, prog_2_method_3_code, 3, none, false, 0, 0, 0, cd_X0_offerLeast)
abbrev i_X0_offerLeast : Nat := 1
def me_X0_offerMost : ME := (⟨"RivetedSisters$Best", "offerMost", "(II)V"⟩, prog_2_method_4_code, 3, none, false, 0, 0, 0, cd_X0_offerMost)
abbrev i_X0_offerMost : Nat := 2
def me_X0_answer : ME := (⟨"RivetedSisters$Best", "answer", "(I)I"⟩, prog_2_method_5_code, 2, (some .int), false, 0, 0, 0, cd_X0_answer)
abbrev i_X0_answer : Nat := 3
def me_X1_leastHeard : ME := (⟨"RivetedSisters$Echoes", "leastHeard", "(LRivetedSisters$Wire;II)I"⟩, prog_3_method_2_code, 5, (some .int), false, 1, 3, 79, cd_X1_leastHeard)
abbrev i_X1_leastHeard : Nat := 4
def me_X1_leastBreaking : ME := (⟨"RivetedSisters$Echoes", "leastBreaking", "(LRivetedSisters$Wire;II)I"⟩, prog_3_method_3_code, 5, (some .int), false, 1, 3, 79, cd_X1_leastBreaking)
abbrev i_X1_leastBreaking : Nat := 5
def me_X1_greatestHarmless : ME := (⟨"RivetedSisters$Echoes", "greatestHarmless", "(LRivetedSisters$Wire;I)I"⟩, prog_3_method_4_code, 4, (some .int), false, 1, 3, 79, cd_X1_greatestHarmless)
abbrev i_X1_greatestHarmless : Nat := 6
def me_X1_leastHarm : ME := (⟨"RivetedSisters$Echoes", "leastHarm", "(LRivetedSisters$Wire;I)LRivetedSisters$Best;"⟩, prog_3_method_5_code, 5, (some (.object "RivetedSisters$Best")), false, 1, 3, 79, cd_X1_leastHarm)
abbrev i_X1_leastHarm : Nat := 7
def me_X1_quietestTap : ME := (⟨"RivetedSisters$Echoes", "quietestTap", "(LRivetedSisters$Wire;I)LRivetedSisters$Best;"⟩, prog_3_method_6_code, 5, (some (.object "RivetedSisters$Best")), false, 1, 3, 79, cd_X1_quietestTap)
abbrev i_X1_quietestTap : Nat := 8
def me_X1_findDroppers : ME := (⟨"RivetedSisters$Echoes", "findDroppers", "(LRivetedSisters$Wire;LRivetedSisters$Row;)V"⟩, prog_3_method_7_code, 5, none, false, 1, 3, 79, cd_X1_findDroppers)
abbrev i_X1_findDroppers : Nat := 9
def me_X1_countDropping : ME := (⟨"RivetedSisters$Echoes", "countDropping", "(II)V"⟩, prog_3_method_8_code, 3, none, false, 1, 0, 0, cd_X1_countDropping)
abbrev i_X1_countDropping : Nat := 10
def me_X1_kindsBy : ME := (⟨"RivetedSisters$Echoes", "kindsBy", "(LRivetedSisters$Wire;LRivetedSisters$Row;III)I"⟩, prog_3_method_9_code, 8, (some .int), false, 1, 3, 79, cd_X1_kindsBy)
abbrev i_X1_kindsBy : Nat := 11
def me_X1_figuresBy : ME := (⟨"RivetedSisters$Echoes", "figuresBy", "(LRivetedSisters$Wire;LRivetedSisters$Row;III)I"⟩, prog_3_method_10_code, 8, (some .int), false, 1, 3, 79, cd_X1_figuresBy)
abbrev i_X1_figuresBy : Nat := 12
def me_X1_strengths : ME := (⟨"RivetedSisters$Echoes", "strengths", "(LRivetedSisters$Wire;III)I"⟩, prog_3_method_11_code, 8, (some .int), false, 1, 3, 79, cd_X1_strengths)
abbrev i_X1_strengths : Nat := 13
def me_X2_firstBreakingDay : ME := (⟨"RivetedSisters$Futures", "firstBreakingDay", "(LRivetedSisters$Wire;I)I"⟩, prog_4_method_2_code, 5, (some .int), false, 2, 3, 79, cd_X2_firstBreakingDay)
abbrev i_X2_firstBreakingDay : Nat := 14
def me_X2_wholeBehind : ME := (⟨"RivetedSisters$Futures", "wholeBehind", "(LRivetedSisters$Wire;II)I"⟩, prog_4_method_3_code, 7, (some .int), false, 2, 4, 102, cd_X2_wholeBehind)
abbrev i_X2_wholeBehind : Nat := 15
def me_X2_brokenBehindAll : ME := (⟨"RivetedSisters$Futures", "brokenBehindAll", "(LRivetedSisters$Wire;I)I"⟩, prog_4_method_4_code, 4, (some .int), false, 2, 4, 102, cd_X2_brokenBehindAll)
abbrev i_X2_brokenBehindAll : Nat := 16
def me_X2_findOdds : ME := (⟨"RivetedSisters$Futures", "findOdds", "(LRivetedSisters$Wire;IIIII)V"⟩, prog_4_method_5_code, 15, none, false, 2, 4, 102, cd_X2_findOdds)
abbrev i_X2_findOdds : Nat := 17
def me_X2_power : ME := (⟨"RivetedSisters$Futures", "power", "(II)J"⟩, prog_4_method_6_code, 5, (some .long), true, 2, 0, 0, cd_X2_power)
abbrev i_X2_power : Nat := 18
def me_X2_commonDivisor : ME := (⟨"RivetedSisters$Futures", "commonDivisor", "(JJ)J"⟩, prog_4_method_7_code, 11, (some .long), true, 2, 1, 26, cd_X2_commonDivisor)
abbrev i_X2_commonDivisor : Nat := 19
def me_X2_drawYears : ME := (⟨"RivetedSisters$Futures", "drawYears", "(LRivetedSisters$Wire;II)V"⟩, prog_4_method_8_code, 8, none, false, 2, 4, 102, cd_X2_drawYears)
abbrev i_X2_drawYears : Nat := 20
def me_X2_draw : ME := (⟨"RivetedSisters$Futures", "draw", "(I)I"⟩, prog_4_method_9_code, 3, (some .int), false, 2, 0, 0, cd_X2_draw)
abbrev i_X2_draw : Nat := 21
def me_X3_lossOf : ME := (⟨"RivetedSisters$Kinds", "lossOf", "(II)I"⟩, prog_5_method_2_code, 5, (some .int), true, 3, 0, 0, cd_X3_lossOf)
abbrev i_X3_lossOf : Nat := 22
def me_X3_standsOf : ME := (⟨"RivetedSisters$Kinds", "standsOf", "(II)I"⟩, prog_5_method_3_code, 4, (some .int), true, 3, 0, 0, cd_X3_standsOf)
abbrev i_X3_standsOf : Nat := 23
def me_X3_jumpBy : ME := (⟨"RivetedSisters$Kinds", "jumpBy", "(II)I"⟩, prog_5_method_4_code, 4, (some .int), true, 3, 0, 0, cd_X3_jumpBy)
abbrev i_X3_jumpBy : Nat := 24
def me_X4_thingAt : ME := (⟨"RivetedSisters$Orders", "thingAt", "(LRivetedSisters$Wire;I)I"⟩, prog_6_method_2_code, 3, (some .int), false, 4, 0, 0, cd_X4_thingAt)
abbrev i_X4_thingAt : Nat := 25
def me_X4_mildest : ME := (⟨"RivetedSisters$Orders", "mildest", "(LRivetedSisters$Wire;I)I"⟩, prog_6_method_3_code, 6, (some .int), false, 4, 4, 103, cd_X4_mildest)
abbrev i_X4_mildest : Nat := 26
def me_X4_mostBrokenBut : ME := (⟨"RivetedSisters$Orders", "mostBrokenBut", "(II)I"⟩, prog_6_method_4_code, 5, (some .int), false, 4, 3, 79, cd_X4_mostBrokenBut)
abbrev i_X4_mostBrokenBut : Nat := 27
def me_X4_shortestWalk : ME := (⟨"RivetedSisters$Orders", "shortestWalk", "(LRivetedSisters$Wire;)I"⟩, prog_6_method_5_code, 2, (some .int), false, 4, 1, 26, cd_X4_shortestWalk)
abbrev i_X4_shortestWalk : Nat := 28
def me_X4_sortByFarm : ME := (⟨"RivetedSisters$Orders", "sortByFarm", "(LRivetedSisters$Wire;I[I)V"⟩, prog_6_method_6_code, 6, none, true, 4, 0, 0, cd_X4_sortByFarm)
abbrev i_X4_sortByFarm : Nat := 29
def me_X4_isAhead : ME := (⟨"RivetedSisters$Orders", "isAhead", "([I[II)Z"⟩, prog_6_method_7_code, 4, (some .boolean), true, 4, 0, 0, cd_X4_isAhead)
abbrev i_X4_isAhead : Nat := 30
def me_X5_keep : ME := (⟨"RivetedSisters$Past", "keep", "(LRivetedSisters$Wire;)V"⟩, prog_7_method_2_code, 2, none, false, 5, 2, 47, cd_X5_keep)
abbrev i_X5_keep : Nat := 31
def me_X5_takeBack : ME := (⟨"RivetedSisters$Past", "takeBack", "(LRivetedSisters$Wire;)I"⟩, prog_7_method_3_code, 2, (some .int), false, 5, 2, 47, cd_X5_takeBack)
abbrev i_X5_takeBack : Nat := 32
def me_X5_forget : ME := (⟨"RivetedSisters$Past", "forget", "()V"⟩, prog_7_method_4_code, 1, none, false, 5, 0, 0, cd_X5_forget)
abbrev i_X5_forget : Nat := 33
def me_X6_worstPlace : ME := (⟨"RivetedSisters$Plans", "worstPlace", "(LRivetedSisters$Wire;I)LRivetedSisters$Best;"⟩, prog_8_method_2_code, 4, (some (.object "RivetedSisters$Best")), false, 6, 3, 79, cd_X6_worstPlace)
abbrev i_X6_worstPlace : Nat := 34
def me_X6_mildestCut : ME := (⟨"RivetedSisters$Plans", "mildestCut", "(LRivetedSisters$Wire;I)LRivetedSisters$Best;"⟩, prog_8_method_3_code, 4, (some (.object "RivetedSisters$Best")), false, 6, 4, 103, cd_X6_mildestCut)
abbrev i_X6_mildestCut : Nat := 35
def me_X6_mostBroken : ME := (⟨"RivetedSisters$Plans", "mostBroken", "(LRivetedSisters$Wire;I)I"⟩, prog_8_method_4_code, 5, (some .int), false, 6, 3, 79, cd_X6_mostBroken)
abbrev i_X6_mostBroken : Nat := 36
def me_X6_womansDrop : ME := (⟨"RivetedSisters$Plans", "womansDrop", "(LRivetedSisters$Wire;I)LRivetedSisters$Best;"⟩, prog_8_method_5_code, 4, (some (.object "RivetedSisters$Best")), false, 6, 4, 103, cd_X6_womansDrop)
abbrev i_X6_womansDrop : Nat := 37
def me_X6_othersInSpite : ME := (⟨"RivetedSisters$Plans", "othersInSpite", "(II)I"⟩, prog_8_method_6_code, 5, (some .int), false, 6, 3, 79, cd_X6_othersInSpite)
abbrev i_X6_othersInSpite : Nat := 38
def me_X6_mostAlike : ME := (⟨"RivetedSisters$Plans", "mostAlike", "(LRivetedSisters$Wire;I)LRivetedSisters$Best;"⟩, prog_8_method_7_code, 5, (some (.object "RivetedSisters$Best")), false, 6, 3, 79, cd_X6_mostAlike)
abbrev i_X6_mostAlike : Nat := 39
def me_X6_addUnlike : ME := (⟨"RivetedSisters$Plans", "addUnlike", "(I)V"⟩, prog_8_method_8_code, 5, none, false, 6, 1, 26, cd_X6_addUnlike)
abbrev i_X6_addUnlike : Nat := 40
def me_X6_allHeard : ME := (⟨"RivetedSisters$Plans", "allHeard", "(LRivetedSisters$Wire;I)I"⟩, prog_8_method_9_code, 5, (some .int), false, 6, 4, 103, cd_X6_allHeard)
abbrev i_X6_allHeard : Nat := 41
def me_X6_quietest : ME := (⟨"RivetedSisters$Plans", "quietest", "(LRivetedSisters$Wire;I)LRivetedSisters$Best;"⟩, prog_8_method_10_code, 4, (some (.object "RivetedSisters$Best")), false, 6, 4, 103, cd_X6_quietest)
abbrev i_X6_quietest : Nat := 42
def me_X6_hearAll : ME := (⟨"RivetedSisters$Plans", "hearAll", "(LRivetedSisters$Wire;I)V"⟩, prog_8_method_11_code, 5, none, false, 6, 3, 79, cd_X6_hearAll)
abbrev i_X6_hearAll : Nat := 43
def me_X6_mostHeard : ME := (⟨"RivetedSisters$Plans", "mostHeard", "(LRivetedSisters$Wire;I)LRivetedSisters$Best;"⟩, prog_8_method_12_code, 4, (some (.object "RivetedSisters$Best")), false, 6, 3, 79, cd_X6_mostHeard)
abbrev i_X6_mostHeard : Nat := 44
def me_X6_mendHeardMost : ME := (⟨"RivetedSisters$Plans", "mendHeardMost", "(LRivetedSisters$Wire;II)LRivetedSisters$Best;"⟩, prog_8_method_13_code, 6, (some (.object "RivetedSisters$Best")), false, 6, 3, 79, cd_X6_mendHeardMost)
abbrev i_X6_mendHeardMost : Nat := 45
def me_X6_figureHeardMost : ME := (⟨"RivetedSisters$Plans", "figureHeardMost", "(LRivetedSisters$Wire;III)LRivetedSisters$Best;"⟩, prog_8_method_14_code, 6, (some (.object "RivetedSisters$Best")), false, 6, 3, 79, cd_X6_figureHeardMost)
abbrev i_X6_figureHeardMost : Nat := 46
def me_X6_longestLink : ME := (⟨"RivetedSisters$Plans", "longestLink", "(LRivetedSisters$Wire;)LRivetedSisters$Best;"⟩, prog_8_method_15_code, 3, (some (.object "RivetedSisters$Best")), false, 6, 2, 47, cd_X6_longestLink)
abbrev i_X6_longestLink : Nat := 47
def me_X6_sparedBits : ME := (⟨"RivetedSisters$Plans", "sparedBits", "(LRivetedSisters$Wire;I)I"⟩, prog_8_method_16_code, 5, (some .int), false, 6, 3, 79, cd_X6_sparedBits)
abbrev i_X6_sparedBits : Nat := 48
def me_X6_mutualTwos : ME := (⟨"RivetedSisters$Plans", "mutualTwos", "(LRivetedSisters$Wire;I)I"⟩, prog_8_method_17_code, 6, (some .int), false, 6, 3, 79, cd_X6_mutualTwos)
abbrev i_X6_mutualTwos : Nat := 49
def me_X7_hear : ME := (⟨"RivetedSisters$Row", "hear", "(I)I"⟩, prog_9_method_2_code, 2, (some .int), false, 7, 0, 0, cd_X7_hear)
abbrev i_X7_hear : Nat := 50
def me_X7_tellsJumps : ME := (⟨"RivetedSisters$Row", "tellsJumps", "(LRivetedSisters$Wave;LRivetedSisters$Wire;)Z"⟩, prog_9_method_3_code, 4, (some .boolean), false, 7, 2, 45, cd_X7_tellsJumps)
abbrev i_X7_tellsJumps : Nat := 51
def me_X7_firstNotInPlace : ME := (⟨"RivetedSisters$Row", "firstNotInPlace", "(LRivetedSisters$Wire;)I"⟩, prog_9_method_4_code, 3, (some .int), false, 7, 0, 0, cd_X7_firstNotInPlace)
abbrev i_X7_firstNotInPlace : Nat := 52
def me_X8_hear : ME := (⟨"RivetedSisters$Valley", "hear", "(I)I"⟩, prog_10_method_2_code, 2, (some .int), false, 8, 0, 0, cd_X8_hear)
abbrev i_X8_hear : Nat := 53
def me_X8_firstMisfit : ME := (⟨"RivetedSisters$Valley", "firstMisfit", "()I"⟩, prog_10_method_3_code, 5, (some .int), false, 8, 1, 20, cd_X8_firstMisfit)
abbrev i_X8_firstMisfit : Nat := 54
def me_X8_comeTo : ME := (⟨"RivetedSisters$Valley", "comeTo", "(LRivetedSisters$Wire;)I"⟩, prog_10_method_4_code, 4, (some .int), false, 8, 5, 124, cd_X8_comeTo)
abbrev i_X8_comeTo : Nat := 55
def me_X8_refusalOf : ME := (⟨"RivetedSisters$Valley", "refusalOf", "(I)I"⟩, prog_10_method_5_code, 3, (some .int), false, 8, 3, 64, cd_X8_refusalOf)
abbrev i_X8_refusalOf : Nat := 56
def me_X8_act : ME := (⟨"RivetedSisters$Valley", "act", "(I)V"⟩, prog_10_method_6_code, 3, none, false, 8, 4, 102, cd_X8_act)
abbrev i_X8_act : Nat := 57
def me_X8_blowIn : ME := (⟨"RivetedSisters$Valley", "blowIn", "(I)I"⟩, prog_10_method_7_code, 2, (some .int), false, 8, 1, 21, cd_X8_blowIn)
abbrev i_X8_blowIn : Nat := 58
def me_X8_digit : ME := (⟨"RivetedSisters$Valley", "digit", "(I)I"⟩, prog_10_method_8_code, 2, (some .int), false, 8, 0, 0, cd_X8_digit)
abbrev i_X8_digit : Nat := 59
def me_X8_isDigit : ME := (⟨"RivetedSisters$Valley", "isDigit", "(I)Z"⟩, prog_10_method_9_code, 1, (some .boolean), true, 8, 0, 0, cd_X8_isDigit)
abbrev i_X8_isDigit : Nat := 60
def me_X8_digitsBehind : ME := (⟨"RivetedSisters$Valley", "digitsBehind", "(I)I"⟩, prog_10_method_10_code, 1, (some .int), true, 8, 0, 0, cd_X8_digitsBehind)
abbrev i_X8_digitsBehind : Nat := 61
def me_X9_strike : ME := (⟨"RivetedSisters$Wave", "strike", "(LRivetedSisters$Wire;II)V"⟩, prog_11_method_2_code, 5, none, false, 9, 2, 55, cd_X9_strike)
abbrev i_X9_strike : Nat := 62
def me_X9_drop : ME := (⟨"RivetedSisters$Wave", "drop", "(LRivetedSisters$Wire;II)V"⟩, prog_11_method_3_code, 4, none, false, 9, 3, 79, cd_X9_drop)
abbrev i_X9_drop : Nat := 63
def me_X9_spread : ME := (⟨"RivetedSisters$Wave", "spread", "(LRivetedSisters$Wire;III)V"⟩, prog_11_method_4_code, 10, none, false, 9, 1, 26, cd_X9_spread)
abbrev i_X9_spread : Nat := 64
def me_X9_isHeardBy : ME := (⟨"RivetedSisters$Wave", "isHeardBy", "(I)Z"⟩, prog_11_method_5_code, 2, (some .boolean), false, 9, 0, 0, cd_X9_isHeardBy)
abbrev i_X9_isHeardBy : Nat := 65
def me_X9_hasBroken : ME := (⟨"RivetedSisters$Wave", "hasBroken", "(I)Z"⟩, prog_11_method_6_code, 2, (some .boolean), false, 9, 0, 0, cd_X9_hasBroken)
abbrev i_X9_hasBroken : Nat := 66
def me_X9_hearerCount : ME := (⟨"RivetedSisters$Wave", "hearerCount", "()I"⟩, prog_11_method_7_code, 1, (some .int), false, 9, 1, 20, cd_X9_hearerCount)
abbrev i_X9_hearerCount : Nat := 67
def me_X9_brokenCount : ME := (⟨"RivetedSisters$Wave", "brokenCount", "()I"⟩, prog_11_method_8_code, 1, (some .int), false, 9, 1, 20, cd_X9_brokenCount)
abbrev i_X9_brokenCount : Nat := 68
def me_X9_othersBroken : ME := (⟨"RivetedSisters$Wave", "othersBroken", "(I)I"⟩, prog_11_method_9_code, 2, (some .int), false, 9, 1, 20, cd_X9_othersBroken)
abbrev i_X9_othersBroken : Nat := 69
def me_X9_jumpIn : ME := (⟨"RivetedSisters$Wave", "jumpIn", "(LRivetedSisters$Wire;I)I"⟩, prog_11_method_10_code, 3, (some .int), false, 9, 1, 23, cd_X9_jumpIn)
abbrev i_X9_jumpIn : Nat := 70
def me_X9_jumpsIn : ME := (⟨"RivetedSisters$Wave", "jumpsIn", "(LRivetedSisters$Wire;)I"⟩, prog_11_method_11_code, 4, (some .int), false, 9, 2, 45, cd_X9_jumpsIn)
abbrev i_X9_jumpsIn : Nat := 71
def me_X9_farthestIn : ME := (⟨"RivetedSisters$Wave", "farthestIn", "(LRivetedSisters$Wire;I)I"⟩, prog_11_method_12_code, 7, (some .int), false, 9, 1, 26, cd_X9_farthestIn)
abbrev i_X9_farthestIn : Nat := 72
def me_X10_copy : ME := (⟨"RivetedSisters$Wire", "copy", "(LRivetedSisters$Wire;)V"⟩, prog_12_method_2_code, 2, none, false, 10, 1, 26, cd_X10_copy)
abbrev i_X10_copy : Nat := 73
def me_X10_noThing : ME := (⟨"RivetedSisters$Wire", "noThing", "(I)I"⟩, prog_12_method_3_code, 2, (some .int), false, 10, 0, 0, cd_X10_noThing)
abbrev i_X10_noThing : Nat := 74
def me_X10_noLink : ME := (⟨"RivetedSisters$Wire", "noLink", "(I)I"⟩, prog_12_method_4_code, 2, (some .int), false, 10, 0, 0, cd_X10_noLink)
abbrev i_X10_noLink : Nat := 75
def me_X10_joinRefusal : ME := (⟨"RivetedSisters$Wire", "joinRefusal", "(III)I"⟩, prog_12_method_5_code, 5, (some .int), false, 10, 1, 21, cd_X10_joinRefusal)
abbrev i_X10_joinRefusal : Nat := 76
def me_X10_dropRefusal : ME := (⟨"RivetedSisters$Wire", "dropRefusal", "(II)I"⟩, prog_12_method_6_code, 4, (some .int), false, 10, 2, 41, cd_X10_dropRefusal)
abbrev i_X10_dropRefusal : Nat := 77
def me_X10_mendRefusal : ME := (⟨"RivetedSisters$Wire", "mendRefusal", "(I)I"⟩, prog_12_method_7_code, 3, (some .int), false, 10, 1, 21, cd_X10_mendRefusal)
abbrev i_X10_mendRefusal : Nat := 78
def me_X10_changeRefusal : ME := (⟨"RivetedSisters$Wire", "changeRefusal", "(II)I"⟩, prog_12_method_8_code, 4, (some .int), false, 10, 1, 21, cd_X10_changeRefusal)
abbrev i_X10_changeRefusal : Nat := 79
def me_X10_join : ME := (⟨"RivetedSisters$Wire", "join", "(III)I"⟩, prog_12_method_9_code, 5, (some .int), false, 10, 0, 0, cd_X10_join)
abbrev i_X10_join : Nat := 80
def me_X10_mend : ME := (⟨"RivetedSisters$Wire", "mend", "(I)V"⟩, prog_12_method_10_code, 2, none, false, 10, 0, 0, cd_X10_mend)
abbrev i_X10_mend : Nat := 81
def me_X10_turnCut : ME := (⟨"RivetedSisters$Wire", "turnCut", "(I)V"⟩, prog_12_method_11_code, 2, none, false, 10, 0, 0, cd_X10_turnCut)
abbrev i_X10_turnCut : Nat := 82
def me_X10_exchange : ME := (⟨"RivetedSisters$Wire", "exchange", "(II)V"⟩, prog_12_method_12_code, 4, none, false, 10, 0, 0, cd_X10_exchange)
abbrev i_X10_exchange : Nat := 83
def me_X10_isBroken : ME := (⟨"RivetedSisters$Wire", "isBroken", "(I)Z"⟩, prog_12_method_13_code, 2, (some .boolean), false, 10, 0, 0, cd_X10_isBroken)
abbrev i_X10_isBroken : Nat := 84
def me_X10_isCut : ME := (⟨"RivetedSisters$Wire", "isCut", "(I)Z"⟩, prog_12_method_14_code, 2, (some .boolean), false, 10, 0, 0, cd_X10_isCut)
abbrev i_X10_isCut : Nat := 85
def me_X10_wholeBits : ME := (⟨"RivetedSisters$Wire", "wholeBits", "()I"⟩, prog_12_method_15_code, 1, (some .int), false, 10, 0, 0, cd_X10_wholeBits)
abbrev i_X10_wholeBits : Nat := 86
def me_X10_allLoss : ME := (⟨"RivetedSisters$Wire", "allLoss", "()I"⟩, prog_12_method_16_code, 3, (some .int), false, 10, 1, 24, cd_X10_allLoss)
abbrev i_X10_allLoss : Nat := 87
def me_X10_nextWhole : ME := (⟨"RivetedSisters$Wire", "nextWhole", "(I)I"⟩, prog_12_method_17_code, 4, (some .int), false, 10, 1, 21, cd_X10_nextWhole)
abbrev i_X10_nextWhole : Nat := 88
def me_X10_wayOver : ME := (⟨"RivetedSisters$Wire", "wayOver", "(I)I"⟩, prog_12_method_18_code, 2, (some .int), false, 10, 1, 26, cd_X10_wayOver)
abbrev i_X10_wayOver : Nat := 89
def me_X10_walkLength : ME := (⟨"RivetedSisters$Wire", "walkLength", "()I"⟩, prog_12_method_19_code, 3, (some .int), false, 10, 2, 47, cd_X10_walkLength)
abbrev i_X10_walkLength : Nat := 90
def me_X10_stretches : ME := (⟨"RivetedSisters$Wire", "stretches", "()I"⟩, prog_12_method_20_code, 5, (some .int), false, 10, 1, 21, cd_X10_stretches)
abbrev i_X10_stretches : Nat := 91
def me_X10_layInTurnUncut : ME := (⟨"RivetedSisters$Wire", "layInTurnUncut", "()V"⟩, prog_12_method_21_code, 2, none, false, 10, 0, 0, cd_X10_layInTurnUncut)
abbrev i_X10_layInTurnUncut : Nat := 92
def me_X10_layNextOrder : ME := (⟨"RivetedSisters$Wire", "layNextOrder", "()Z"⟩, prog_12_method_22_code, 5, (some .boolean), false, 10, 1, 23, cd_X10_layNextOrder)
abbrev i_X10_layNextOrder : Nat := 93
def me_X11_feed : ME := (⟨"RivetedSisters", "feed", "(I)I"⟩, prog_1_method_2_code, 3, (some .int), false, 11, 1, 21, cd_X11_feed)
abbrev i_X11_feed : Nat := 94
def me_X11_valley : ME := (⟨"RivetedSisters", "valley", "()I"⟩, prog_1_method_3_code, 3, (some .int), false, 11, 6, 147, cd_X11_valley)
abbrev i_X11_valley : Nat := 95
def me_X11_thingOf : ME := (⟨"RivetedSisters", "thingOf", "(II)I"⟩, prog_1_method_4_code, 4, (some .int), false, 11, 1, 24, cd_X11_thingOf)
abbrev i_X11_thingOf : Nat := 96
def me_X11_place : ME := (⟨"RivetedSisters", "place", "(II)I"⟩, prog_1_method_5_code, 4, (some .int), false, 11, 1, 21, cd_X11_place)
abbrev i_X11_place : Nat := 97
def me_X11_thing : ME := (⟨"RivetedSisters", "thing", "(III)I"⟩, prog_1_method_6_code, 5, (some .int), false, 11, 2, 45, cd_X11_thing)
abbrev i_X11_thing : Nat := 98
def me_X11_drops : ME := (⟨"RivetedSisters", "drops", "(II)I"⟩, prog_1_method_7_code, 4, (some .int), false, 11, 4, 102, cd_X11_drops)
abbrev i_X11_drops : Nat := 99
def me_X11_mends : ME := (⟨"RivetedSisters", "mends", "(I)I"⟩, prog_1_method_8_code, 3, (some .int), false, 11, 3, 68, cd_X11_mends)
abbrev i_X11_mends : Nat := 100
def me_X11_cuts : ME := (⟨"RivetedSisters", "cuts", "(I)I"⟩, prog_1_method_9_code, 3, (some .int), false, 11, 3, 68, cd_X11_cuts)
abbrev i_X11_cuts : Nat := 101
def me_X11_changes : ME := (⟨"RivetedSisters", "changes", "(II)I"⟩, prog_1_method_10_code, 4, (some .int), false, 11, 3, 68, cd_X11_changes)
abbrev i_X11_changes : Nat := 102
def me_X11_back : ME := (⟨"RivetedSisters", "back", "()I"⟩, prog_1_method_11_code, 1, (some .int), false, 11, 3, 68, cd_X11_back)
abbrev i_X11_back : Nat := 103
def me_X11_gets : ME := (⟨"RivetedSisters", "gets", "(IIII)I"⟩, prog_1_method_12_code, 6, (some .int), false, 11, 3, 79, cd_X11_gets)
abbrev i_X11_gets : Nat := 104
def me_X11_blow : ME := (⟨"RivetedSisters", "blow", "(III)I"⟩, prog_1_method_13_code, 5, (some .int), false, 11, 3, 79, cd_X11_blow)
abbrev i_X11_blow : Nat := 105
def me_X11_reaches : ME := (⟨"RivetedSisters", "reaches", "(II)I"⟩, prog_1_method_14_code, 4, (some .int), false, 11, 4, 103, cd_X11_reaches)
abbrev i_X11_reaches : Nat := 106
def me_X11_breaks : ME := (⟨"RivetedSisters", "breaks", "(II)I"⟩, prog_1_method_15_code, 4, (some .int), false, 11, 4, 103, cd_X11_breaks)
abbrev i_X11_breaks : Nat := 107
def me_X11_harm : ME := (⟨"RivetedSisters", "harm", "(II)I"⟩, prog_1_method_16_code, 4, (some .int), false, 11, 4, 103, cd_X11_harm)
abbrev i_X11_harm : Nat := 108
def me_X11_tap : ME := (⟨"RivetedSisters", "tap", "(I)I"⟩, prog_1_method_17_code, 3, (some .int), false, 11, 4, 103, cd_X11_tap)
abbrev i_X11_tap : Nat := 109
def me_X11_who : ME := (⟨"RivetedSisters", "who", "(I)I"⟩, prog_1_method_18_code, 3, (some .int), false, 11, 4, 103, cd_X11_who)
abbrev i_X11_who : Nat := 110
def me_X11_whatKind : ME := (⟨"RivetedSisters", "whatKind", "(IIII)I"⟩, prog_1_method_19_code, 6, (some .int), false, 11, 4, 106, cd_X11_whatKind)
abbrev i_X11_whatKind : Nat := 111
def me_X11_worst : ME := (⟨"RivetedSisters", "worst", "(II)I"⟩, prog_1_method_20_code, 5, (some .int), false, 11, 4, 102, cd_X11_worst)
abbrev i_X11_worst : Nat := 112
def me_X11_bestCut : ME := (⟨"RivetedSisters", "bestCut", "(II)I"⟩, prog_1_method_21_code, 4, (some .int), false, 11, 5, 126, cd_X11_bestCut)
abbrev i_X11_bestCut : Nat := 113
def me_X11_order : ME := (⟨"RivetedSisters", "order", "(II)I"⟩, prog_1_method_22_code, 5, (some .int), false, 11, 5, 128, cd_X11_order)
abbrev i_X11_order : Nat := 114
def me_X11_walk : ME := (⟨"RivetedSisters", "walk", "(I)I"⟩, prog_1_method_23_code, 4, (some .int), false, 11, 3, 69, cd_X11_walk)
abbrev i_X11_walk : Nat := 115
def me_X11_woman : ME := (⟨"RivetedSisters", "woman", "(II)I"⟩, prog_1_method_24_code, 5, (some .int), false, 11, 5, 126, cd_X11_woman)
abbrev i_X11_woman : Nat := 116
def me_X11_lasts : ME := (⟨"RivetedSisters", "lasts", "(I)I"⟩, prog_1_method_25_code, 3, (some .int), false, 11, 4, 103, cd_X11_lasts)
abbrev i_X11_lasts : Nat := 117
def me_X11_left : ME := (⟨"RivetedSisters", "left", "(II)I"⟩, prog_1_method_26_code, 4, (some .int), false, 11, 5, 128, cd_X11_left)
abbrev i_X11_left : Nat := 118
def me_X11_chance : ME := (⟨"RivetedSisters", "chance", "(IIIIII)J"⟩, prog_1_method_27_code, 8, (some .long), false, 11, 5, 136, cd_X11_chance)
abbrev i_X11_chance : Nat := 119
def me_X11_twins : ME := (⟨"RivetedSisters", "twins", "(I)I"⟩, prog_1_method_28_code, 3, (some .int), false, 11, 4, 103, cd_X11_twins)
abbrev i_X11_twins : Nat := 120
def me_X11_hum : ME := (⟨"RivetedSisters", "hum", "(II)I"⟩, prog_1_method_29_code, 4, (some .int), false, 11, 5, 127, cd_X11_hum)
abbrev i_X11_hum : Nat := 121
def me_X11_apart : ME := (⟨"RivetedSisters", "apart", "(II)I"⟩, prog_1_method_30_code, 4, (some .int), false, 11, 1, 26, cd_X11_apart)
abbrev i_X11_apart : Nat := 122
def me_X11_heaps : ME := (⟨"RivetedSisters", "heaps", "()I"⟩, prog_1_method_31_code, 1, (some .int), false, 11, 2, 45, cd_X11_heaps)
abbrev i_X11_heaps : Nat := 123
def me_X11_codes : ME := (⟨"RivetedSisters", "codes", "(II)I"⟩, prog_1_method_32_code, 4, (some .int), false, 11, 4, 106, cd_X11_codes)
abbrev i_X11_codes : Nat := 124
def me_X11_secret : ME := (⟨"RivetedSisters", "secret", "(III)I"⟩, prog_1_method_33_code, 5, (some .int), false, 11, 4, 106, cd_X11_secret)
abbrev i_X11_secret : Nat := 125
def me_X11_tough : ME := (⟨"RivetedSisters", "tough", "(I)I"⟩, prog_1_method_34_code, 3, (some .int), false, 11, 4, 102, cd_X11_tough)
abbrev i_X11_tough : Nat := 126
def me_X11_centre : ME := (⟨"RivetedSisters", "centre", "(II)I"⟩, prog_1_method_35_code, 4, (some .int), false, 11, 4, 102, cd_X11_centre)
abbrev i_X11_centre : Nat := 127
def me_X11_bestMend : ME := (⟨"RivetedSisters", "bestMend", "(II)I"⟩, prog_1_method_36_code, 4, (some .int), false, 11, 4, 104, cd_X11_bestMend)
abbrev i_X11_bestMend : Nat := 128
def me_X11_bestFigure : ME := (⟨"RivetedSisters", "bestFigure", "(III)I"⟩, prog_1_method_37_code, 5, (some .int), false, 11, 4, 104, cd_X11_bestFigure)
abbrev i_X11_bestFigure : Nat := 129
def me_X11_domino : ME := (⟨"RivetedSisters", "domino", "(I)I"⟩, prog_1_method_38_code, 3, (some .int), false, 11, 5, 125, cd_X11_domino)
abbrev i_X11_domino : Nat := 130
def me_X11_longest : ME := (⟨"RivetedSisters", "longest", "(I)I"⟩, prog_1_method_39_code, 3, (some .int), false, 11, 3, 69, cd_X11_longest)
abbrev i_X11_longest : Nat := 131
def me_X11_spared : ME := (⟨"RivetedSisters", "spared", "(I)I"⟩, prog_1_method_40_code, 3, (some .int), false, 11, 4, 103, cd_X11_spared)
abbrev i_X11_spared : Nat := 132
def me_X11_mutual : ME := (⟨"RivetedSisters", "mutual", "(I)I"⟩, prog_1_method_41_code, 3, (some .int), false, 11, 4, 104, cd_X11_mutual)
abbrev i_X11_mutual : Nat := 133
def me_X11_row : ME := (⟨"RivetedSisters", "row", "(I)I"⟩, prog_1_method_42_code, 3, (some .int), false, 11, 1, 21, cd_X11_row)
abbrev i_X11_row : Nat := 134
def me_X11_judge : ME := (⟨"RivetedSisters", "judge", "()I"⟩, prog_1_method_43_code, 2, (some .int), false, 11, 1, 22, cd_X11_judge)
abbrev i_X11_judge : Nat := 135
def me_X11_clear : ME := (⟨"RivetedSisters", "clear", "()I"⟩, prog_1_method_44_code, 2, (some .int), false, 11, 0, 0, cd_X11_clear)
abbrev i_X11_clear : Nat := 136
def me_X11_lots : ME := (⟨"RivetedSisters", "lots", "(III)I"⟩, prog_1_method_45_code, 5, (some .int), false, 11, 5, 129, cd_X11_lots)
abbrev i_X11_lots : Nat := 137
def me_X11_image : ME := (⟨"RivetedSisters", "image", "()I"⟩, prog_1_method_46_code, 1, (some .int), false, 11, 2, 47, cd_X11_image)
abbrev i_X11_image : Nat := 138
def me_X11_restore : ME := (⟨"RivetedSisters", "restore", "()I"⟩, prog_1_method_47_code, 1, (some .int), false, 11, 2, 47, cd_X11_restore)
abbrev i_X11_restore : Nat := 139
def me_X11_count : ME := (⟨"RivetedSisters", "count", "(I)I"⟩, prog_1_method_48_code, 2, (some .int), false, 11, 2, 46, cd_X11_count)
abbrev i_X11_count : Nat := 140
def me_X11_refuse : ME := (⟨"RivetedSisters", "refuse", "(I)I"⟩, prog_1_method_49_code, 2, (some .int), false, 11, 0, 0, cd_X11_refuse)
abbrev i_X11_refuse : Nat := 141
def me_X11_rowTooLong : ME := (⟨"RivetedSisters", "rowTooLong", "()I"⟩, prog_1_method_50_code, 1, (some .int), false, 11, 0, 0, cd_X11_rowTooLong)
abbrev i_X11_rowTooLong : Nat := 142
def me_X11_first : ME := (⟨"RivetedSisters", "first", "(II)I"⟩, prog_1_method_51_code, 2, (some .int), true, 11, 0, 0, cd_X11_first)
abbrev i_X11_first : Nat := 143
def me_X11_below : ME := (⟨"RivetedSisters", "below", "(II)I"⟩, prog_1_method_52_code, 2, (some .int), true, 11, 0, 0, cd_X11_below)
abbrev i_X11_below : Nat := 144
def me_X11_above : ME := (⟨"RivetedSisters", "above", "(II)I"⟩, prog_1_method_53_code, 2, (some .int), true, 11, 0, 0, cd_X11_above)
abbrev i_X11_above : Nat := 145
def me_X11_noBlow : ME := (⟨"RivetedSisters", "noBlow", "(I)I"⟩, prog_1_method_54_code, 1, (some .int), true, 11, 1, 21, cd_X11_noBlow)
abbrev i_X11_noBlow : Nat := 146
def me_X11_unknown : ME := (⟨"RivetedSisters", "unknown", "(II)I"⟩, prog_1_method_55_code, 2, (some .int), true, 11, 0, 0, cd_X11_unknown)
abbrev i_X11_unknown : Nat := 147
def me_X12_no : ME := (⟨"RivetedSistersModel", "no", "(I)I"⟩, prog_14_method_2_code, 2, (some .int), false, 12, 0, 0, cd_X12_no)
abbrev i_X12_no : Nat := 148
def me_X12_lowest : ME := (⟨"RivetedSistersModel", "lowest", "(I)J"⟩, prog_14_method_3_code, 2, (some .long), false, 12, 0, 0, cd_X12_lowest)
abbrev i_X12_lowest : Nat := 149
def me_X12_isIn : ME := (⟨"RivetedSistersModel", "isIn", "(III)Z"⟩, prog_14_method_4_code, 3, (some .boolean), true, 12, 0, 0, cd_X12_isIn)
abbrev i_X12_isIn : Nat := 150
def me_X12_bound : ME := (⟨"RivetedSistersModel", "bound", "(III)I"⟩, prog_14_method_5_code, 3, (some .int), true, 12, 0, 0, cd_X12_bound)
abbrev i_X12_bound : Nat := 151
def me_X12_notBlow : ME := (⟨"RivetedSistersModel", "notBlow", "(I)I"⟩, prog_14_method_6_code, 1, (some .int), true, 12, 1, 22, cd_X12_notBlow)
abbrev i_X12_notBlow : Nat := 152
def me_X12_has : ME := (⟨"RivetedSistersModel", "has", "(II)Z"⟩, prog_14_method_7_code, 2, (some .boolean), true, 12, 0, 0, cd_X12_has)
abbrev i_X12_has : Nat := 153
def me_X12_bits : ME := (⟨"RivetedSistersModel", "bits", "(I)I"⟩, prog_14_method_8_code, 3, (some .int), true, 12, 0, 0, cd_X12_bits)
abbrev i_X12_bits : Nat := 154
def me_X12_far : ME := (⟨"RivetedSistersModel", "far", "(II)I"⟩, prog_14_method_9_code, 2, (some .int), true, 12, 0, 0, cd_X12_far)
abbrev i_X12_far : Nat := 155
def me_X12_isThing : ME := (⟨"RivetedSistersModel", "isThing", "(I)Z"⟩, prog_14_method_10_code, 2, (some .boolean), false, 12, 0, 0, cd_X12_isThing)
abbrev i_X12_isThing : Nat := 156
def me_X12_isLink : ME := (⟨"RivetedSistersModel", "isLink", "(I)Z"⟩, prog_14_method_11_code, 2, (some .boolean), false, 12, 0, 0, cd_X12_isLink)
abbrev i_X12_isLink : Nat := 157
def me_X12_feed : ME := (⟨"RivetedSistersModel", "feed", "(I)I"⟩, prog_14_method_12_code, 3, (some .int), false, 12, 1, 22, cd_X12_feed)
abbrev i_X12_feed : Nat := 158
def me_X12_next : ME := (⟨"RivetedSistersModel", "next", "()I"⟩, prog_14_method_13_code, 1, (some .int), false, 12, 0, 0, cd_X12_next)
abbrev i_X12_next : Nat := 159
def me_X12_readsDigits : ME := (⟨"RivetedSistersModel", "readsDigits", "(II)Z"⟩, prog_14_method_14_code, 5, (some .boolean), false, 12, 1, 22, cd_X12_readsDigits)
abbrev i_X12_readsDigits : Nat := 160
def me_X12_readsAll : ME := (⟨"RivetedSistersModel", "readsAll", "(II)Z"⟩, prog_14_method_15_code, 3, (some .boolean), false, 12, 2, 46, cd_X12_readsAll)
abbrev i_X12_readsAll : Nat := 161
def me_X12_statement : ME := (⟨"RivetedSistersModel", "statement", "()Z"⟩, prog_14_method_16_code, 2, (some .boolean), false, 12, 3, 68, cd_X12_statement)
abbrev i_X12_statement : Nat := 162
def me_X12_comesDrop : ME := (⟨"RivetedSistersModel", "comesDrop", "(II)Z"⟩, prog_14_method_17_code, 3, (some .boolean), false, 12, 5, 117, cd_X12_comesDrop)
abbrev i_X12_comesDrop : Nat := 163
def me_X12_comesOther : ME := (⟨"RivetedSistersModel", "comesOther", "(III)Z"⟩, prog_14_method_18_code, 4, (some .boolean), false, 12, 1, 23, cd_X12_comesOther)
abbrev i_X12_comesOther : Nat := 164
def me_X12_comes : ME := (⟨"RivetedSistersModel", "comes", "(I)Z"⟩, prog_14_method_19_code, 4, (some .boolean), false, 12, 6, 139, cd_X12_comes)
abbrev i_X12_comes : Nat := 165
def me_X12_valley : ME := (⟨"RivetedSistersModel", "valley", "()I"⟩, prog_14_method_20_code, 3, (some .int), false, 12, 7, 162, cd_X12_valley)
abbrev i_X12_valley : Nat := 166
def me_X12_passes : ME := (⟨"RivetedSistersModel", "passes", "([I)V"⟩, prog_14_method_21_code, 3, none, false, 12, 0, 0, cd_X12_passes)
abbrev i_X12_passes : Nat := 167
def me_X12_passOne : ME := (⟨"RivetedSistersModel", "passOne", "(I)I"⟩, prog_14_method_22_code, 3, (some .int), false, 12, 0, 0, cd_X12_passOne)
abbrev i_X12_passOne : Nat := 168
def me_X12_passesAll : ME := (⟨"RivetedSistersModel", "passesAll", "(IZ)V"⟩, prog_14_method_23_code, 3, none, false, 12, 1, 22, cd_X12_passesAll)
abbrev i_X12_passesAll : Nat := 169
def me_X12_thinks : ME := (⟨"RivetedSistersModel", "thinks", "()V"⟩, prog_14_method_24_code, 1, none, false, 12, 2, 44, cd_X12_thinks)
abbrev i_X12_thinks : Nat := 170
def me_X12_forgets : ME := (⟨"RivetedSistersModel", "forgets", "()V"⟩, prog_14_method_25_code, 1, none, false, 12, 2, 44, cd_X12_forgets)
abbrev i_X12_forgets : Nat := 171
def me_X12_keepsBack : ME := (⟨"RivetedSistersModel", "keepsBack", "()V"⟩, prog_14_method_26_code, 2, none, false, 12, 2, 44, cd_X12_keepsBack)
abbrev i_X12_keepsBack : Nat := 172
def me_X12_back : ME := (⟨"RivetedSistersModel", "back", "()I"⟩, prog_14_method_27_code, 1, (some .int), false, 12, 2, 44, cd_X12_back)
abbrev i_X12_back : Nat := 173
def me_X12_image : ME := (⟨"RivetedSistersModel", "image", "()I"⟩, prog_14_method_28_code, 1, (some .int), false, 12, 2, 44, cd_X12_image)
abbrev i_X12_image : Nat := 174
def me_X12_restore : ME := (⟨"RivetedSistersModel", "restore", "()I"⟩, prog_14_method_29_code, 1, (some .int), false, 12, 2, 44, cd_X12_restore)
abbrev i_X12_restore : Nat := 175
def me_X12_adds : ME := (⟨"RivetedSistersModel", "adds", "(III)V"⟩, prog_14_method_30_code, 4, none, false, 12, 0, 0, cd_X12_adds)
abbrev i_X12_adds : Nat := 176
def me_X12_lossOf : ME := (⟨"RivetedSistersModel", "lossOf", "(I)I"⟩, prog_14_method_31_code, 3, (some .int), false, 12, 0, 0, cd_X12_lossOf)
abbrev i_X12_lossOf : Nat := 177
def me_X12_standsOf : ME := (⟨"RivetedSistersModel", "standsOf", "(I)I"⟩, prog_14_method_32_code, 3, (some .int), false, 12, 0, 0, cd_X12_standsOf)
abbrev i_X12_standsOf : Nat := 178
def me_X12_jumpOf : ME := (⟨"RivetedSistersModel", "jumpOf", "(II)I"⟩, prog_14_method_33_code, 3, (some .int), false, 12, 0, 0, cd_X12_jumpOf)
abbrev i_X12_jumpOf : Nat := 179
def me_X12_placeOf : ME := (⟨"RivetedSistersModel", "placeOf", "(I)I"⟩, prog_14_method_34_code, 3, (some .int), false, 12, 0, 0, cd_X12_placeOf)
abbrev i_X12_placeOf : Nat := 180
def me_X12_lands : ME := (⟨"RivetedSistersModel", "lands", "(II)I"⟩, prog_14_method_35_code, 4, (some .int), false, 12, 1, 22, cd_X12_lands)
abbrev i_X12_lands : Nat := 181
def me_X12_goesAlong : ME := (⟨"RivetedSistersModel", "goesAlong", "(III)V"⟩, prog_14_method_36_code, 7, none, false, 12, 2, 45, cd_X12_goesAlong)
abbrev i_X12_goesAlong : Nat := 182
def me_X12_findBlow : ME := (⟨"RivetedSistersModel", "findBlow", "(II)V"⟩, prog_14_method_37_code, 5, none, false, 12, 3, 71, cd_X12_findBlow)
abbrev i_X12_findBlow : Nat := 183
def me_X12_breaksBy : ME := (⟨"RivetedSistersModel", "breaksBy", "(II)I"⟩, prog_14_method_38_code, 3, (some .int), false, 12, 4, 95, cd_X12_breaksBy)
abbrev i_X12_breaksBy : Nat := 184
def me_X12_manyGet : ME := (⟨"RivetedSistersModel", "manyGet", "()I"⟩, prog_14_method_39_code, 3, (some .int), false, 12, 0, 0, cd_X12_manyGet)
abbrev i_X12_manyGet : Nat := 185
def me_X12_allJumps : ME := (⟨"RivetedSistersModel", "allJumps", "()I"⟩, prog_14_method_40_code, 3, (some .int), false, 12, 1, 22, cd_X12_allJumps)
abbrev i_X12_allJumps : Nat := 186
def me_X12_thingOf : ME := (⟨"RivetedSistersModel", "thingOf", "(II)I"⟩, prog_14_method_41_code, 3, (some .int), false, 12, 1, 22, cd_X12_thingOf)
abbrev i_X12_thingOf : Nat := 187
def me_X12_place : ME := (⟨"RivetedSistersModel", "place", "(II)I"⟩, prog_14_method_42_code, 3, (some .int), false, 12, 1, 22, cd_X12_place)
abbrev i_X12_place : Nat := 188
def me_X12_thing : ME := (⟨"RivetedSistersModel", "thing", "(III)I"⟩, prog_14_method_43_code, 5, (some .int), false, 12, 1, 23, cd_X12_thing)
abbrev i_X12_thing : Nat := 189
def me_X12_drops : ME := (⟨"RivetedSistersModel", "drops", "(II)I"⟩, prog_14_method_44_code, 4, (some .int), false, 12, 5, 117, cd_X12_drops)
abbrev i_X12_drops : Nat := 190
def me_X12_mends : ME := (⟨"RivetedSistersModel", "mends", "(I)I"⟩, prog_14_method_45_code, 3, (some .int), false, 12, 3, 65, cd_X12_mends)
abbrev i_X12_mends : Nat := 191
def me_X12_cuts : ME := (⟨"RivetedSistersModel", "cuts", "(I)I"⟩, prog_14_method_46_code, 2, (some .int), false, 12, 3, 65, cd_X12_cuts)
abbrev i_X12_cuts : Nat := 192
def me_X12_exchanges : ME := (⟨"RivetedSistersModel", "exchanges", "(II)V"⟩, prog_14_method_47_code, 4, none, false, 12, 0, 0, cd_X12_exchanges)
abbrev i_X12_exchanges : Nat := 193
def me_X12_changes : ME := (⟨"RivetedSistersModel", "changes", "(II)I"⟩, prog_14_method_48_code, 3, (some .int), false, 12, 3, 65, cd_X12_changes)
abbrev i_X12_changes : Nat := 194
def me_X12_notTwo : ME := (⟨"RivetedSistersModel", "notTwo", "(II)I"⟩, prog_14_method_49_code, 3, (some .int), false, 12, 1, 21, cd_X12_notTwo)
abbrev i_X12_notTwo : Nat := 195
def me_X12_gets : ME := (⟨"RivetedSistersModel", "gets", "(IIII)I"⟩, prog_14_method_50_code, 6, (some .int), false, 12, 4, 95, cd_X12_gets)
abbrev i_X12_gets : Nat := 196
def me_X12_whoGet : ME := (⟨"RivetedSistersModel", "whoGet", "()I"⟩, prog_14_method_51_code, 3, (some .int), false, 12, 0, 0, cd_X12_whoGet)
abbrev i_X12_whoGet : Nat := 197
def me_X12_farthestFrom : ME := (⟨"RivetedSistersModel", "farthestFrom", "(I)I"⟩, prog_14_method_52_code, 4, (some .int), false, 12, 1, 21, cd_X12_farthestFrom)
abbrev i_X12_farthestFrom : Nat := 198
def me_X12_blow : ME := (⟨"RivetedSistersModel", "blow", "(III)I"⟩, prog_14_method_53_code, 5, (some .int), false, 12, 4, 95, cd_X12_blow)
abbrev i_X12_blow : Nat := 199
def me_X12_reaches : ME := (⟨"RivetedSistersModel", "reaches", "(II)I"⟩, prog_14_method_54_code, 5, (some .int), false, 12, 4, 95, cd_X12_reaches)
abbrev i_X12_reaches : Nat := 200
def me_X12_breaks : ME := (⟨"RivetedSistersModel", "breaks", "(II)I"⟩, prog_14_method_55_code, 5, (some .int), false, 12, 4, 95, cd_X12_breaks)
abbrev i_X12_breaks : Nat := 201
def me_X12_harm : ME := (⟨"RivetedSistersModel", "harm", "(II)I"⟩, prog_14_method_56_code, 7, (some .int), false, 12, 4, 95, cd_X12_harm)
abbrev i_X12_harm : Nat := 202
def me_X12_tap : ME := (⟨"RivetedSistersModel", "tap", "(I)I"⟩, prog_14_method_57_code, 5, (some .int), false, 12, 4, 95, cd_X12_tap)
abbrev i_X12_tap : Nat := 203
def me_X12_isSo : ME := (⟨"RivetedSistersModel", "isSo", "()Z"⟩, prog_14_method_58_code, 3, (some .boolean), false, 12, 1, 22, cd_X12_isSo)
abbrev i_X12_isSo : Nat := 204
def me_X12_who : ME := (⟨"RivetedSistersModel", "who", "(I)I"⟩, prog_14_method_59_code, 7, (some .int), false, 12, 4, 95, cd_X12_who)
abbrev i_X12_who : Nat := 205
def me_X12_bitsFor : ME := (⟨"RivetedSistersModel", "bitsFor", "([IIIII)I"⟩, prog_14_method_60_code, 9, (some .int), false, 12, 4, 95, cd_X12_bitsFor)
abbrev i_X12_bitsFor : Nat := 206
def me_X12_whatKind : ME := (⟨"RivetedSistersModel", "whatKind", "(IIII)I"⟩, prog_14_method_61_code, 6, (some .int), false, 12, 5, 123, cd_X12_whatKind)
abbrev i_X12_whatKind : Nat := 207
def me_X12_worstOf : ME := (⟨"RivetedSistersModel", "worstOf", "(I)I"⟩, prog_14_method_62_code, 5, (some .int), false, 12, 4, 95, cd_X12_worstOf)
abbrev i_X12_worstOf : Nat := 208
def me_X12_mostBroken : ME := (⟨"RivetedSistersModel", "mostBroken", "(I)I"⟩, prog_14_method_63_code, 3, (some .int), false, 12, 5, 119, cd_X12_mostBroken)
abbrev i_X12_mostBroken : Nat := 209
def me_X12_worst : ME := (⟨"RivetedSistersModel", "worst", "(II)I"⟩, prog_14_method_64_code, 4, (some .int), false, 12, 6, 141, cd_X12_worst)
abbrev i_X12_worst : Nat := 210
def me_X12_bestCut : ME := (⟨"RivetedSistersModel", "bestCut", "(II)I"⟩, prog_14_method_65_code, 8, (some .int), false, 12, 6, 141, cd_X12_bestCut)
abbrev i_X12_bestCut : Nat := 211
def me_X12_nextOrder : ME := (⟨"RivetedSistersModel", "nextOrder", "()Z"⟩, prog_14_method_66_code, 5, (some .boolean), false, 12, 1, 23, cd_X12_nextOrder)
abbrev i_X12_nextOrder : Nat := 212
def me_X12_sorts : ME := (⟨"RivetedSistersModel", "sorts", "()V"⟩, prog_14_method_67_code, 2, none, false, 12, 0, 0, cd_X12_sorts)
abbrev i_X12_sorts : Nat := 213
def me_X12_findOrder : ME := (⟨"RivetedSistersModel", "findOrder", "(I)I"⟩, prog_14_method_68_code, 6, (some .int), false, 12, 6, 141, cd_X12_findOrder)
abbrev i_X12_findOrder : Nat := 214
def me_X12_order : ME := (⟨"RivetedSistersModel", "order", "(II)I"⟩, prog_14_method_69_code, 5, (some .int), false, 12, 7, 166, cd_X12_order)
abbrev i_X12_order : Nat := 215
def me_X12_findShortest : ME := (⟨"RivetedSistersModel", "findShortest", "()V"⟩, prog_14_method_70_code, 6, none, false, 12, 1, 21, cd_X12_findShortest)
abbrev i_X12_findShortest : Nat := 216
def me_X12_walkOf : ME := (⟨"RivetedSistersModel", "walkOf", "(II)I"⟩, prog_14_method_71_code, 3, (some .int), false, 12, 0, 0, cd_X12_walkOf)
abbrev i_X12_walkOf : Nat := 217
def me_X12_shortestOf : ME := (⟨"RivetedSistersModel", "shortestOf", "(I)I"⟩, prog_14_method_72_code, 4, (some .int), false, 12, 1, 22, cd_X12_shortestOf)
abbrev i_X12_shortestOf : Nat := 218
def me_X12_walked : ME := (⟨"RivetedSistersModel", "walked", "(I)I"⟩, prog_14_method_73_code, 7, (some .int), false, 12, 2, 45, cd_X12_walked)
abbrev i_X12_walked : Nat := 219
def me_X12_walk : ME := (⟨"RivetedSistersModel", "walk", "(I)I"⟩, prog_14_method_74_code, 4, (some .int), false, 12, 3, 71, cd_X12_walk)
abbrev i_X12_walk : Nat := 220
def me_X12_others : ME := (⟨"RivetedSistersModel", "others", "(II)I"⟩, prog_14_method_75_code, 3, (some .int), false, 12, 4, 95, cd_X12_others)
abbrev i_X12_others : Nat := 221
def me_X12_leftToHer : ME := (⟨"RivetedSistersModel", "leftToHer", "(II)I"⟩, prog_14_method_76_code, 7, (some .int), false, 12, 5, 117, cd_X12_leftToHer)
abbrev i_X12_leftToHer : Nat := 222
def me_X12_woman : ME := (⟨"RivetedSistersModel", "woman", "(II)I"⟩, prog_14_method_77_code, 7, (some .int), false, 12, 6, 143, cd_X12_woman)
abbrev i_X12_woman : Nat := 223
def me_X12_nextWhole : ME := (⟨"RivetedSistersModel", "nextWhole", "(I)I"⟩, prog_14_method_78_code, 3, (some .int), false, 12, 1, 21, cd_X12_nextWhole)
abbrev i_X12_nextWhole : Nat := 224
def me_X12_lasts : ME := (⟨"RivetedSistersModel", "lasts", "(I)I"⟩, prog_14_method_79_code, 5, (some .int), false, 12, 4, 95, cd_X12_lasts)
abbrev i_X12_lasts : Nat := 225
def me_X12_left : ME := (⟨"RivetedSistersModel", "left", "(II)I"⟩, prog_14_method_80_code, 7, (some .int), false, 12, 5, 117, cd_X12_left)
abbrev i_X12_left : Nat := 226
def me_X12_divisor : ME := (⟨"RivetedSistersModel", "divisor", "(JJ)J"⟩, prog_14_method_81_code, 10, (some .long), true, 12, 0, 0, cd_X12_divisor)
abbrev i_X12_divisor : Nat := 227
def me_X12_power : ME := (⟨"RivetedSistersModel", "power", "(II)J"⟩, prog_14_method_82_code, 5, (some .long), true, 12, 0, 0, cd_X12_power)
abbrev i_X12_power : Nat := 228
def me_X12_ways : ME := (⟨"RivetedSistersModel", "ways", "(II)J"⟩, prog_14_method_83_code, 5, (some .long), true, 12, 0, 0, cd_X12_ways)
abbrev i_X12_ways : Nat := 229
def me_X12_chance : ME := (⟨"RivetedSistersModel", "chance", "(IIIIII)J"⟩, prog_14_method_84_code, 12, (some .long), false, 12, 5, 117, cd_X12_chance)
abbrev i_X12_chance : Nat := 230
def me_X12_apartBy : ME := (⟨"RivetedSistersModel", "apartBy", "(III)I"⟩, prog_14_method_85_code, 6, (some .int), false, 12, 4, 95, cd_X12_apartBy)
abbrev i_X12_apartBy : Nat := 231
def me_X12_twins : ME := (⟨"RivetedSistersModel", "twins", "(I)I"⟩, prog_14_method_86_code, 8, (some .int), false, 12, 5, 120, cd_X12_twins)
abbrev i_X12_twins : Nat := 232
def me_X12_heardBy : ME := (⟨"RivetedSistersModel", "heardBy", "(II)I"⟩, prog_14_method_87_code, 5, (some .int), false, 12, 4, 95, cd_X12_heardBy)
abbrev i_X12_heardBy : Nat := 233
def me_X12_hum : ME := (⟨"RivetedSistersModel", "hum", "(II)I"⟩, prog_14_method_88_code, 7, (some .int), false, 12, 5, 119, cd_X12_hum)
abbrev i_X12_hum : Nat := 234
def me_X12_apart : ME := (⟨"RivetedSistersModel", "apart", "(II)I"⟩, prog_14_method_89_code, 4, (some .int), false, 12, 2, 43, cd_X12_apart)
abbrev i_X12_apart : Nat := 235
def me_X12_heaps : ME := (⟨"RivetedSistersModel", "heaps", "()I"⟩, prog_14_method_90_code, 4, (some .int), false, 12, 1, 21, cd_X12_heaps)
abbrev i_X12_heaps : Nat := 236
def me_X12_codesOf : ME := (⟨"RivetedSistersModel", "codesOf", "(III)I"⟩, prog_14_method_91_code, 8, (some .int), false, 12, 4, 95, cd_X12_codesOf)
abbrev i_X12_codesOf : Nat := 237
def me_X12_codes : ME := (⟨"RivetedSistersModel", "codes", "(II)I"⟩, prog_14_method_92_code, 4, (some .int), false, 12, 5, 122, cd_X12_codes)
abbrev i_X12_codes : Nat := 238
def me_X12_secret : ME := (⟨"RivetedSistersModel", "secret", "(III)I"⟩, prog_14_method_93_code, 5, (some .int), false, 12, 5, 122, cd_X12_secret)
abbrev i_X12_secret : Nat := 239
def me_X12_tough : ME := (⟨"RivetedSistersModel", "tough", "(I)I"⟩, prog_14_method_94_code, 3, (some .int), false, 12, 4, 95, cd_X12_tough)
abbrev i_X12_tough : Nat := 240
def me_X12_centre : ME := (⟨"RivetedSistersModel", "centre", "(II)I"⟩, prog_14_method_95_code, 7, (some .int), false, 12, 4, 95, cd_X12_centre)
abbrev i_X12_centre : Nat := 241
def me_X12_manyBy : ME := (⟨"RivetedSistersModel", "manyBy", "(II)I"⟩, prog_14_method_96_code, 3, (some .int), false, 12, 4, 95, cd_X12_manyBy)
abbrev i_X12_manyBy : Nat := 242
def me_X12_bestMend : ME := (⟨"RivetedSistersModel", "bestMend", "(II)I"⟩, prog_14_method_97_code, 9, (some .int), false, 12, 5, 117, cd_X12_bestMend)
abbrev i_X12_bestMend : Nat := 243
def me_X12_bestFigure : ME := (⟨"RivetedSistersModel", "bestFigure", "(III)I"⟩, prog_14_method_98_code, 10, (some .int), false, 12, 5, 117, cd_X12_bestFigure)
abbrev i_X12_bestFigure : Nat := 244
def me_X12_domino : ME := (⟨"RivetedSistersModel", "domino", "(I)I"⟩, prog_14_method_99_code, 5, (some .int), false, 12, 5, 117, cd_X12_domino)
abbrev i_X12_domino : Nat := 245
def me_X12_linkOf : ME := (⟨"RivetedSistersModel", "linkOf", "(I)I"⟩, prog_14_method_100_code, 2, (some .int), false, 12, 1, 21, cd_X12_linkOf)
abbrev i_X12_linkOf : Nat := 246
def me_X12_longest : ME := (⟨"RivetedSistersModel", "longest", "(I)I"⟩, prog_14_method_101_code, 4, (some .int), false, 12, 2, 42, cd_X12_longest)
abbrev i_X12_longest : Nat := 247
def me_X12_spared : ME := (⟨"RivetedSistersModel", "spared", "(I)I"⟩, prog_14_method_102_code, 5, (some .int), false, 12, 4, 95, cd_X12_spared)
abbrev i_X12_spared : Nat := 248
def me_X12_hears : ME := (⟨"RivetedSistersModel", "hears", "(III)Z"⟩, prog_14_method_103_code, 4, (some .boolean), false, 12, 4, 95, cd_X12_hears)
abbrev i_X12_hears : Nat := 249
def me_X12_mutual : ME := (⟨"RivetedSistersModel", "mutual", "(I)I"⟩, prog_14_method_104_code, 6, (some .int), false, 12, 5, 118, cd_X12_mutual)
abbrev i_X12_mutual : Nat := 250
def me_X12_row : ME := (⟨"RivetedSistersModel", "row", "(I)I"⟩, prog_14_method_105_code, 3, (some .int), false, 12, 1, 22, cd_X12_row)
abbrev i_X12_row : Nat := 251
def me_X12_judge : ME := (⟨"RivetedSistersModel", "judge", "()I"⟩, prog_14_method_106_code, 3, (some .int), false, 12, 0, 0, cd_X12_judge)
abbrev i_X12_judge : Nat := 252
def me_X12_clear : ME := (⟨"RivetedSistersModel", "clear", "()I"⟩, prog_14_method_107_code, 2, (some .int), false, 12, 0, 0, cd_X12_clear)
abbrev i_X12_clear : Nat := 253
def me_X12_draw : ME := (⟨"RivetedSistersModel", "draw", "(I)I"⟩, prog_14_method_108_code, 2, (some .int), false, 12, 0, 0, cd_X12_draw)
abbrev i_X12_draw : Nat := 254
def me_X12_lots : ME := (⟨"RivetedSistersModel", "lots", "(III)I"⟩, prog_14_method_109_code, 10, (some .int), false, 12, 5, 117, cd_X12_lots)
abbrev i_X12_lots : Nat := 255
def me_X12_count : ME := (⟨"RivetedSistersModel", "count", "(I)I"⟩, prog_14_method_110_code, 4, (some .int), false, 12, 1, 22, cd_X12_count)
abbrev i_X12_count : Nat := 256
def me_J6_bitCount_0f7a4 : ME := (⟨"java/lang/Integer", "bitCount", "(I)I"⟩, prog_15_method_49_code, 1, (some .int), true, 14, 0, 0, cd_J6_bitCount_0f7a4)
abbrev i_J6_bitCount_0f7a4 : Nat := 257
def me_J13_bitCount_95d88 : ME := (⟨"java/lang/Long", "bitCount", "(J)I"⟩, prog_16_method_50_code, 2, (some .int), true, 15, 0, 0, cd_J13_bitCount_95d88)
abbrev i_J13_bitCount_95d88 : Nat := 258
def am_M0 : List ME := [me_X0_none, me_X0_offerLeast, me_X0_offerMost, me_X0_answer, me_X1_leastHeard, me_X1_leastBreaking, me_X1_greatestHarmless, me_X1_leastHarm, me_X1_quietestTap, me_X1_findDroppers, me_X1_countDropping, me_X1_kindsBy, me_X1_figuresBy, me_X1_strengths, me_X2_firstBreakingDay, me_X2_wholeBehind, me_X2_brokenBehindAll, me_X2_findOdds, me_X2_power, me_X2_commonDivisor, me_X2_drawYears, me_X2_draw, me_X3_lossOf, me_X3_standsOf, me_X3_jumpBy, me_X4_thingAt, me_X4_mildest, me_X4_mostBrokenBut, me_X4_shortestWalk, me_X4_sortByFarm, me_X4_isAhead, me_X5_keep, me_X5_takeBack]
def am_M1 : List ME := [me_X5_forget, me_X6_worstPlace, me_X6_mildestCut, me_X6_mostBroken, me_X6_womansDrop, me_X6_othersInSpite, me_X6_mostAlike, me_X6_addUnlike, me_X6_allHeard, me_X6_quietest, me_X6_hearAll, me_X6_mostHeard, me_X6_mendHeardMost, me_X6_figureHeardMost, me_X6_longestLink, me_X6_sparedBits, me_X6_mutualTwos, me_X7_hear, me_X7_tellsJumps, me_X7_firstNotInPlace, me_X8_hear, me_X8_firstMisfit, me_X8_comeTo, me_X8_refusalOf, me_X8_act, me_X8_blowIn, me_X8_digit, me_X8_isDigit, me_X8_digitsBehind, me_X9_strike, me_X9_drop, me_X9_spread, me_X9_isHeardBy]
def am_M2 : List ME := [me_X9_hasBroken, me_X9_hearerCount, me_X9_brokenCount, me_X9_othersBroken, me_X9_jumpIn, me_X9_jumpsIn, me_X9_farthestIn, me_X10_copy, me_X10_noThing, me_X10_noLink, me_X10_joinRefusal, me_X10_dropRefusal, me_X10_mendRefusal, me_X10_changeRefusal, me_X10_join, me_X10_mend, me_X10_turnCut, me_X10_exchange, me_X10_isBroken, me_X10_isCut, me_X10_wholeBits, me_X10_allLoss, me_X10_nextWhole, me_X10_wayOver, me_X10_walkLength, me_X10_stretches, me_X10_layInTurnUncut, me_X10_layNextOrder, me_X11_feed, me_X11_valley, me_X11_thingOf, me_X11_place, me_X11_thing]
def am_M3 : List ME := [me_X11_drops, me_X11_mends, me_X11_cuts, me_X11_changes, me_X11_back, me_X11_gets, me_X11_blow, me_X11_reaches, me_X11_breaks, me_X11_harm, me_X11_tap, me_X11_who, me_X11_whatKind, me_X11_worst, me_X11_bestCut, me_X11_order, me_X11_walk, me_X11_woman, me_X11_lasts, me_X11_left, me_X11_chance, me_X11_twins, me_X11_hum, me_X11_apart, me_X11_heaps, me_X11_codes, me_X11_secret, me_X11_tough, me_X11_centre, me_X11_bestMend, me_X11_bestFigure, me_X11_domino, me_X11_longest]
def am_M4 : List ME := [me_X11_spared, me_X11_mutual, me_X11_row, me_X11_judge, me_X11_clear, me_X11_lots, me_X11_image, me_X11_restore, me_X11_count, me_X11_refuse, me_X11_rowTooLong, me_X11_first, me_X11_below, me_X11_above, me_X11_noBlow, me_X11_unknown, me_X12_no, me_X12_lowest, me_X12_isIn, me_X12_bound, me_X12_notBlow, me_X12_has, me_X12_bits, me_X12_far, me_X12_isThing, me_X12_isLink, me_X12_feed, me_X12_next, me_X12_readsDigits, me_X12_readsAll, me_X12_statement, me_X12_comesDrop, me_X12_comesOther]
def am_M5 : List ME := [me_X12_comes, me_X12_valley, me_X12_passes, me_X12_passOne, me_X12_passesAll, me_X12_thinks, me_X12_forgets, me_X12_keepsBack, me_X12_back, me_X12_image, me_X12_restore, me_X12_adds, me_X12_lossOf, me_X12_standsOf, me_X12_jumpOf, me_X12_placeOf, me_X12_lands, me_X12_goesAlong, me_X12_findBlow, me_X12_breaksBy, me_X12_manyGet, me_X12_allJumps, me_X12_thingOf, me_X12_place, me_X12_thing, me_X12_drops, me_X12_mends, me_X12_cuts, me_X12_exchanges, me_X12_changes, me_X12_notTwo, me_X12_gets, me_X12_whoGet]
def am_M6 : List ME := [me_X12_farthestFrom, me_X12_blow, me_X12_reaches, me_X12_breaks, me_X12_harm, me_X12_tap, me_X12_isSo, me_X12_who, me_X12_bitsFor, me_X12_whatKind, me_X12_worstOf, me_X12_mostBroken, me_X12_worst, me_X12_bestCut, me_X12_nextOrder, me_X12_sorts, me_X12_findOrder, me_X12_order, me_X12_findShortest, me_X12_walkOf, me_X12_shortestOf, me_X12_walked, me_X12_walk, me_X12_others, me_X12_leftToHer, me_X12_woman, me_X12_nextWhole, me_X12_lasts, me_X12_left, me_X12_divisor, me_X12_power, me_X12_ways, me_X12_chance]
def am_M7 : List ME := [me_X12_apartBy, me_X12_twins, me_X12_heardBy, me_X12_hum, me_X12_apart, me_X12_heaps, me_X12_codesOf, me_X12_codes, me_X12_secret, me_X12_tough, me_X12_centre, me_X12_manyBy, me_X12_bestMend, me_X12_bestFigure, me_X12_domino, me_X12_linkOf, me_X12_longest, me_X12_spared, me_X12_hears, me_X12_mutual, me_X12_row, me_X12_judge, me_X12_clear, me_X12_draw, me_X12_lots, me_X12_count, me_J6_bitCount_0f7a4, me_J13_bitCount_95d88]
def am_MT : List ME := am_M0 ++ (am_M1 ++ (am_M2 ++ (am_M3 ++ (am_M4 ++ (am_M5 ++ (am_M6 ++ (am_M7)))))))
def am_PN : List Nat := [1, 3, 3, 2, 4, 4, 3, 3, 3, 3, 3, 6, 6, 5, 3, 4, 3, 7, 2, 2, 4, 2, 2, 2, 2, 3, 3, 3, 2, 3, 3, 2, 2, 1, 3, 3, 3, 3, 3, 3, 2, 3, 3, 3, 3, 4, 5, 2, 3, 3, 2, 3, 2, 2, 1, 2, 2, 2, 2, 2, 1, 1, 4, 4, 5, 2, 2, 1, 1, 2, 3, 2, 3, 2, 2, 2, 4, 3, 2, 3, 4, 2, 2, 3, 2, 2, 1, 1, 2, 2, 1, 1, 1, 1, 2, 1, 3, 3, 4, 3, 2, 2, 3, 1, 5, 4, 3, 3, 3, 2, 2, 5, 3, 3, 3, 2, 3, 2, 3, 7, 2, 3, 3, 1, 3, 4, 2, 3, 3, 4, 2, 2, 2, 2, 2, 1, 1, 4, 1, 1, 2, 2, 1, 2, 2, 2, 1, 2, 2, 2, 3, 3, 1, 2, 1, 2, 2, 2, 2, 1, 3, 3, 1, 3, 4, 2, 1, 2, 2, 3, 1, 1, 1, 1, 1, 1, 4, 2, 2, 3, 2, 3, 4, 3, 3, 1, 1, 3, 3, 4, 3, 2, 2, 3, 3, 3, 5, 1, 2, 4, 3, 3, 3, 2, 1, 2, 6, 5, 2, 2, 3, 3, 1, 1, 2, 3, 1, 3, 2, 2, 2, 3, 3, 3, 2, 2, 3, 2, 2, 2, 7, 4, 2, 3, 3, 3, 1, 4, 3, 4, 2, 3, 3, 3, 4, 2, 2, 2, 2, 4, 2, 2, 1, 1, 2, 4, 2, 1, 1]
def am_CI : List Nat := [1, 1, 1, 1, 2, 2, 2, 2, 2, 2, 2, 2, 2, 2, 3, 3, 3, 3, 0, 0, 3, 3, 0, 0, 0, 4, 4, 4, 4, 0, 0, 5, 5, 5, 6, 6, 6, 6, 6, 6, 6, 6, 6, 6, 6, 6, 6, 6, 6, 6, 7, 7, 7, 8, 8, 8, 8, 8, 8, 8, 0, 0, 9, 9, 9, 9, 9, 9, 9, 9, 9, 9, 9, 10, 10, 10, 10, 10, 10, 10, 10, 10, 10, 10, 10, 10, 10, 10, 10, 10, 10, 10, 10, 10, 11, 11, 11, 11, 11, 11, 11, 11, 11, 11, 11, 11, 11, 11, 11, 11, 11, 11, 11, 11, 11, 11, 11, 11, 11, 11, 11, 11, 11, 11, 11, 11, 11, 11, 11, 11, 11, 11, 11, 11, 11, 11, 11, 11, 11, 11, 11, 11, 11, 0, 0, 0, 0, 0, 12, 12, 0, 0, 0, 0, 0, 0, 12, 12, 12, 12, 12, 12, 12, 12, 12, 12, 12, 12, 12, 12, 12, 12, 12, 12, 12, 12, 12, 12, 12, 12, 12, 12, 12, 12, 12, 12, 12, 12, 12, 12, 12, 12, 12, 12, 12, 12, 12, 12, 12, 12, 12, 12, 12, 12, 12, 12, 12, 12, 12, 12, 12, 12, 12, 12, 12, 12, 12, 12, 12, 12, 12, 12, 12, 12, 12, 12, 12, 0, 0, 0, 12, 12, 12, 12, 12, 12, 12, 12, 12, 12, 12, 12, 12, 12, 12, 12, 12, 12, 12, 12, 12, 12, 12, 12, 12, 12, 12, 0, 0]
def am_FL : List (Nat × Nat × Nat × Nat) := [(10, 9, 9, 0), (4, 32, 9, 0), (2, 42, 9, 0), (6, 42, 9, 0), (7, 19, 9, 0), (9, 41, 9, 0), (1, 59, 9, 0), (11, 148, 9, 0), (10, 15, 9, 1), (9, 35, 9, 1), (2, 80, 9, 1), (11, 182, 9, 1), (6, 115, 9, 1), (10, 18, 9, 2), (11, 393, 9, 2), (10, 21, 9, 3), (9, 38, 9, 3), (11, 390, 9, 3), (10, 24, 9, 4), (9, 51, 9, 4), (11, 121, 9, 4), (1, 89, 9, 4), (10, 28, 9, 5), (9, 54, 9, 5), (11, 124, 9, 5), (1, 93, 9, 5), (6, 121, 9, 5), (10, 31, 9, 6), (11, 127, 9, 6), (4, 81, 9, 6), (10, 34, 9, 7), (4, 47, 9, 7), (7, 36, 9, 7), (9, 44, 9, 7), (2, 76, 9, 7), (11, 145, 9, 7), (10, 37, 9, 8), (9, 22, 9, 8), (11, 142, 9, 8), (5, 11, 4, 0), (5, 17, 4, 1), (5, 21, 4, 2), (11, 203, 4, 2), (9, 9, 8, 0), (6, 102, 8, 0), (1, 96, 8, 0), (11, 215, 8, 0), (9, 15, 8, 1), (11, 222, 8, 1), (6, 130, 8, 1), (9, 19, 8, 2), (6, 50, 8, 2), (2, 53, 8, 2), (1, 53, 8, 2), (11, 225, 8, 2), (8, 9, 7, 0), (8, 18, 7, 1), (8, 25, 7, 2), (8, 29, 7, 3), (11, 93, 7, 3), (7, 9, 6, 0), (7, 15, 6, 1), (11, 373, 6, 1), (0, 9, 0, 0), (11, 256, 0, 0), (0, 15, 0, 1), (11, 303, 0, 1), (1, 12, 1, 0), (1, 21, 1, 1), (1, 28, 1, 2), (1, 32, 1, 3), (11, 266, 1, 3), (1, 36, 1, 4), (11, 269, 1, 4), (1, 39, 1, 5), (11, 272, 1, 5), (6, 12, 5, 0), (6, 21, 5, 1), (6, 28, 5, 2), (6, 32, 5, 3), (6, 36, 5, 4), (4, 12, 3, 0), (4, 21, 3, 1), (4, 25, 3, 2), (4, 29, 3, 3), (2, 12, 2, 0), (2, 21, 2, 1), (2, 25, 2, 2), (2, 29, 2, 3), (11, 318, 2, 3), (2, 33, 2, 4), (11, 322, 2, 4), (2, 36, 2, 5), (11, 381, 2, 5), (2, 39, 2, 6), (11, 384, 2, 6), (11, 10, 10, 0), (11, 16, 10, 1), (11, 19, 10, 2), (11, 26, 10, 3), (11, 33, 10, 4), (11, 40, 10, 5), (11, 47, 10, 6), (11, 54, 10, 7), (11, 61, 10, 8), (11, 68, 10, 9), (11, 75, 10, 10), (11, 79, 10, 11), (12, 7, 11, 0), (12, 13, 11, 1), (12, 16, 11, 2), (12, 19, 11, 3), (12, 22, 11, 4), (12, 52, 11, 5), (12, 94, 11, 6), (12, 107, 11, 7), (12, 100, 11, 8), (12, 25, 11, 9), (12, 28, 11, 10), (12, 31, 11, 11), (12, 34, 11, 12), (12, 62, 11, 13), (12, 69, 11, 14), (12, 84, 11, 15), (12, 37, 11, 16), (12, 155, 11, 17), (12, 141, 11, 18), (12, 145, 11, 19), (12, 138, 11, 20), (12, 40, 11, 21), (12, 161, 11, 22), (12, 43, 11, 23), (12, 209, 11, 24), (12, 46, 11, 25), (12, 49, 11, 26), (12, 295, 11, 27)]
def am_ML : List (Nat × Nat × Nat) := [(13, 13, 94), (11, 83, 144), (11, 87, 145), (11, 90, 143), (11, 97, 141), (11, 101, 53), (13, 18, 95), (11, 104, 54), (8, 33, 61), (8, 37, 60), (11, 108, 55), (8, 41, 73), (8, 45, 56), (8, 52, 59), (8, 55, 76), (8, 59, 58), (8, 62, 77), (10, 59, 74), (10, 66, 84), (8, 66, 78), (8, 69, 75), (8, 72, 79), (8, 48, 57), (8, 75, 80), (8, 78, 63), (9, 31, 62), (9, 27, 64), (9, 47, 84), (9, 57, 23), (9, 68, 85), (9, 71, 22), (8, 82, 81), (8, 85, 82), (8, 88, 83), (11, 112, 33), (13, 23, 96), (11, 115, 74), (11, 118, 147), (11, 130, 84), (11, 134, 22), (11, 139, 23), (13, 28, 97), (11, 151, 85), (13, 32, 98), (11, 154, 76), (11, 158, 80), (13, 37, 99), (11, 161, 77), (11, 164, 31), (5, 25, 73), (11, 168, 63), (11, 172, 68), (9, 74, 257), (13, 41, 100), (11, 175, 78), (11, 178, 81), (11, 185, 257), (13, 45, 101), (11, 190, 75), (11, 193, 82), (13, 49, 102), (11, 196, 79), (11, 199, 83), (13, 53, 103), (11, 206, 32), (13, 57, 104), (11, 209, 146), (11, 212, 62), (11, 218, 70), (9, 80, 24), (13, 62, 105), (11, 228, 67), (11, 231, 71), (9, 83, 70), (11, 234, 72), (9, 87, 65), (13, 66, 106), (11, 237, 4), (1, 42, 62), (1, 46, 65), (13, 70, 107), (11, 241, 5), (1, 50, 66), (13, 74, 108), (11, 244, 7), (1, 56, 0), (1, 62, 68), (1, 66, 1), (11, 248, 3), (13, 78, 109), (11, 253, 8), (1, 70, 67), (13, 82, 110), (11, 259, 142), (11, 262, 9), (1, 73, 84), (1, 76, 51), (7, 24, 70), (1, 82, 10), (13, 86, 111), (11, 275, 11), (1, 85, 73), (11, 279, 12), (13, 90, 112), (11, 282, 34), (6, 39, 0), (6, 46, 62), (6, 53, 68), (6, 57, 2), (13, 94, 113), (11, 285, 35), (6, 61, 73), (6, 65, 85), (6, 69, 82), (6, 73, 36), (6, 77, 1), (13, 98, 114), (11, 288, 26), (4, 36, 73), (4, 40, 92), (4, 43, 27), (4, 60, 62), (4, 64, 68), (4, 56, 93), (10, 86, 83), (11, 291, 25), (13, 102, 115), (11, 294, 90), (10, 80, 89), (11, 297, 28), (4, 73, 29), (4, 77, 30), (13, 106, 116), (11, 300, 37), (6, 86, 84), (6, 89, 38), (6, 92, 69), (13, 110, 117), (11, 306, 14), (2, 45, 84), (2, 49, 62), (13, 114, 118), (11, 309, 15), (2, 56, 73), (2, 60, 88), (2, 64, 63), (2, 67, 86), (2, 71, 257), (13, 118, 119), (11, 314, 17), (2, 83, 18), (2, 87, 19), (13, 123, 120), (11, 325, 39), (6, 99, 40), (13, 127, 121), (11, 328, 41), (6, 108, 43), (11, 331, 42), (13, 131, 122), (13, 135, 123), (11, 339, 91), (10, 83, 85), (13, 139, 124), (11, 342, 13), (1, 99, 258), (13, 143, 125), (13, 147, 126), (11, 346, 6), (13, 151, 127), (11, 349, 44), (6, 112, 67), (13, 155, 128), (11, 352, 45), (6, 118, 81), (13, 159, 129), (11, 356, 46), (13, 163, 130), (11, 360, 16), (13, 167, 131), (11, 363, 47), (6, 124, 89), (13, 171, 132), (11, 367, 48), (6, 127, 86), (13, 175, 133), (11, 370, 49), (6, 133, 65), (13, 179, 134), (11, 374, 50), (13, 183, 135), (11, 375, 52), (13, 187, 136), (13, 191, 137), (11, 378, 20), (2, 96, 21), (2, 99, 68), (2, 102, 71), (13, 195, 138), (11, 387, 73), (13, 199, 139), (13, 203, 140), (11, 396, 87), (10, 70, 22), (13, 17, 158), (12, 58, 151), (12, 65, 148), (13, 22, 166), (12, 127, 162), (12, 72, 159), (12, 87, 161), (12, 80, 160), (12, 76, 150), (12, 131, 169), (12, 148, 167), (12, 152, 168), (12, 135, 165), (12, 117, 163), (12, 90, 156), (12, 97, 153), (12, 103, 184), (12, 176, 183), (12, 170, 180), (12, 167, 181), (12, 158, 178), (12, 164, 177), (12, 173, 182), (12, 179, 154), (12, 120, 164), (12, 110, 157), (12, 113, 193), (12, 123, 176), (13, 56, 173), (13, 198, 174), (13, 202, 175), (13, 27, 187), (13, 31, 188), (13, 36, 189), (13, 40, 190), (12, 185, 152), (12, 188, 172), (13, 44, 191), (13, 48, 192), (13, 52, 194), (13, 61, 196), (12, 191, 195), (12, 182, 179), (13, 65, 199), (12, 197, 197), (12, 200, 185), (12, 203, 186), (12, 206, 198), (12, 194, 155), (13, 69, 200), (13, 73, 201), (13, 77, 202), (13, 81, 203), (13, 85, 205), (12, 212, 204), (13, 89, 207), (12, 215, 206), (13, 93, 210), (12, 219, 208), (12, 222, 209), (13, 97, 211), (13, 101, 215), (12, 237, 214), (12, 225, 170), (12, 228, 213), (12, 231, 212), (12, 234, 171), (13, 105, 220), (12, 247, 216), (12, 244, 218), (12, 241, 217), (12, 250, 219), (13, 109, 223), (12, 256, 222), (12, 253, 221), (13, 113, 225), (12, 259, 224), (13, 117, 226), (13, 122, 230), (12, 262, 149), (12, 266, 229), (12, 270, 228), (12, 273, 227), (13, 126, 232), (12, 277, 231), (13, 130, 234), (12, 280, 233), (13, 134, 235), (13, 138, 236), (13, 142, 238), (12, 283, 237), (13, 146, 239), (13, 150, 240), (13, 154, 241), (13, 158, 243), (12, 286, 242), (13, 162, 244), (13, 166, 245), (13, 170, 247), (12, 289, 246), (13, 174, 248), (13, 178, 250), (12, 292, 249), (13, 182, 251), (13, 186, 252), (13, 190, 253), (13, 194, 255), (12, 301, 254), (13, 206, 256)]
def am_NL : List (Nat × Nat × Nat) := [(10, 46, 147), (10, 50, 144), (10, 53, 143), (10, 56, 145), (10, 63, 146)]
def am_CL : List (Nat × Nat × Int) := [(14, 265, 1431655765), (14, 266, 858993459), (14, 267, 252645135), (2, 106, 1103515245), (2, 107, 2147483647), (2, 108, 65536), (12, 240, 100000), (12, 298, 1103515245), (12, 299, 2147483647), (12, 300, 65536)]
def am_LL : List (Nat × Nat × Nat) := [(11, 312, 4000000000000000000), (15, 314, 6148914691236517205), (15, 316, 3689348814741910323), (15, 318, 1085102592571150095), (12, 56, 4000000000000000000)]
def am_XL : List (Nat × Nat × Nat) := [(9, 63, 2), (5, 29, 2), (9, 90, 3), (7, 30, 2), (6, 80, 1), (4, 68, 1), (10, 75, 3), (4, 84, 3), (6, 96, 2), (2, 91, 4), (6, 105, 3), (11, 334, 3)]
def am_AL : List (Nat × Nat) := [(10, 40), (4, 50)]
/-- a list's place, by structure -/
def nth {α : Type} : List α → Nat → Option α
  | [], _ => none
  | a :: _, 0 => some a
  | _ :: l, n + 1 => nth l n
def w_fl (e : Nat × Nat × Nat × Nat) : Cond := match nth am_cl e.2.2.1 with
  | some q => .fieldLink (am_cn e.1) e.2.1 (q.2.1 e.2.2.2).1 (q.2.1 e.2.2.2).2.1 (q.2.1 e.2.2.2).2.2.1
  | none => .tt
def w_ml (e : Nat × Nat × Nat) : Cond := match nth am_MT e.2.2 with
  | some q => .methodLink (am_cn e.1) e.2.1 q.1
  | none => .tt
def w_nl (e : Nat × Nat × Nat) : Cond := match nth am_MT e.2.2 with
  | some q => .methodLinkNest (am_cn e.1) e.2.1 q.1 "RivetedSisters"
  | none => .tt
def w_cl (e : Nat × Nat × Int) : Cond := .constant (am_cn e.1) e.2.1 (Int32.ofInt e.2.2)
def w_ll (e : Nat × Nat × Nat) : Cond := .constantLong (am_cn e.1) e.2.1 (Int64.ofNat e.2.2)
def w_mx (t : Nat) : MethodName := match t with
  | 1 => Lib.Math.max.name
  | 2 => Lib.Math.min.name
  | 3 => Lib.Math.abs.name
  | _ => Lib.MathLoose.max_long.x
def w_xl (e : Nat × Nat × Nat) : Cond := .methodLink (am_cn e.1) e.2.1 (w_mx e.2.2)
def w_al (e : Nat × Nat) : Cond := .methodLink (am_cn e.1) e.2 arraycopyName
def w_code (q : ME) : Cond := .code q.1 q.2.1 q.2.2.1 q.2.2.2.1
def w_kind (q : ME) : Cond := if q.2.2.2.2.1 then .static q.1 else .instanceMethod q.1
def w_sel (q : ME) : Cond := if q.2.2.2.2.1 then .static q.1 else .selects q.1.cls q.1 q.1
def w_ini (q : ME) : Cond := .initialized q.1.cls
theorem am_in {ws : List Cond} (ps : List Nat) (h : ws = ps.filterMap (fun i => lw_tbl[i]?)) : ∀ w ∈ ws, w ∈ lw_tbl := by
  intro w hw
  rw [h] at hw
  obtain ⟨i, -, hi⟩ := List.mem_filterMap.mp hw
  exact List.mem_of_getElem? hi
end
section
set_option maxRecDepth 100000 in
theorem in_fl : ∀ w ∈ am_FL.map w_fl, w ∈ lw_tbl := am_in [99, 100, 101, 102, 103, 104, 105, 106, 107, 108, 109, 110, 111, 112, 113, 114, 115, 116, 117, 118, 119, 120, 121, 122, 123, 124, 125, 126, 127, 128, 129, 130, 131, 132, 133, 134, 135, 136, 137, 167, 168, 169, 170, 192, 193, 194, 195, 196, 197, 198, 199, 200, 201, 202, 203, 211, 212, 213, 214, 215, 231, 232, 233, 257, 258, 259, 260, 266, 267, 268, 269, 270, 271, 272, 273, 274, 300, 301, 302, 303, 304, 326, 327, 328, 329, 349, 350, 351, 352, 353, 354, 355, 356, 357, 358, 359, 375, 376, 377, 378, 379, 380, 381, 382, 383, 384, 385, 386, 1095, 1096, 1097, 1098, 1099, 1100, 1101, 1102, 1103, 1104, 1105, 1106, 1107, 1108, 1109, 1110, 1111, 1112, 1113, 1114, 1115, 1116, 1117, 1118, 1119, 1120, 1121, 1122] (by decide +kernel)
set_option maxRecDepth 100000 in
theorem in_ml : ∀ w ∈ am_ML.map w_ml, w ∈ lw_tbl := am_in [412, 416, 419, 422, 425, 429, 433, 437, 441, 444, 447, 451, 458, 462, 466, 476, 480, 484, 491, 495, 499, 503, 507, 511, 515, 519, 523, 527, 528, 534, 538, 541, 545, 549, 553, 557, 561, 562, 563, 564, 565, 566, 570, 571, 575, 576, 577, 581, 582, 586, 588, 589, 593, 599, 603, 604, 605, 606, 610, 611, 612, 616, 617, 618, 622, 626, 630, 631, 632, 636, 639, 643, 647, 651, 652, 656, 663, 667, 671, 672, 673, 677, 681, 685, 689, 693, 697, 698, 702, 706, 710, 714, 715, 719, 723, 727, 728, 732, 734, 738, 742, 746, 747, 751, 755, 759, 760, 761, 762, 766, 770, 774, 775, 776, 777, 784, 785, 789, 793, 794, 798, 802, 803, 806, 810, 811, 815, 819, 823, 828, 832, 835, 839, 843, 847, 848, 852, 857, 861, 865, 866, 867, 871, 875, 876, 880, 881, 885, 886, 891, 895, 898, 904, 908, 912, 917, 921, 925, 929, 933, 938, 942, 946, 947, 951, 955, 961, 965, 969, 973, 977, 981, 982, 986, 990, 991, 995, 999, 1003, 1007, 1011, 1015, 1016, 1020, 1024, 1025, 1029, 1033, 1034, 1038, 1042, 1046, 1050, 1054, 1058, 1062, 1069, 1070, 1071, 1075, 1076, 1080, 1084, 1088, 1180, 1184, 1187, 1191, 1195, 1199, 1203, 1207, 1211, 1214, 1218, 1222, 1226, 1230, 1234, 1238, 1241, 1245, 1249, 1253, 1257, 1261, 1265, 1269, 1272, 1276, 1280, 1284, 1288, 1292, 1296, 1300, 1304, 1308, 1312, 1316, 1319, 1323, 1327, 1331, 1335, 1339, 1343, 1347, 1351, 1355, 1359, 1363, 1367, 1370, 1374, 1378, 1382, 1386, 1390, 1394, 1398, 1402, 1406, 1410, 1414, 1418, 1422, 1426, 1430, 1434, 1438, 1442, 1446, 1451, 1455, 1459, 1463, 1467, 1471, 1475, 1479, 1483, 1487, 1491, 1496, 1499, 1502, 1505, 1509, 1513, 1517, 1521, 1525, 1529, 1533, 1537, 1541, 1545, 1549, 1553, 1557, 1561, 1565, 1569, 1573, 1577, 1581, 1585, 1589, 1593, 1597, 1601, 1608] (by decide +kernel)
set_option maxRecDepth 100000 in
theorem in_nl : ∀ w ∈ am_NL.map w_nl, w ∈ lw_tbl := am_in [470, 473, 474, 475, 488] (by decide +kernel)
set_option maxRecDepth 100000 in
theorem in_cl : ∀ w ∈ am_CL.map w_cl, w ∈ lw_tbl := am_in [596, 597, 598, 1066, 1067, 1068, 1450, 1605, 1606, 1607] (by decide +kernel)
set_option maxRecDepth 100000 in
theorem in_ll : ∀ w ∈ am_LL.map w_ll, w ∈ lw_tbl := am_in [890, 958, 959, 960, 1495] (by decide +kernel)
set_option maxRecDepth 100000 in
theorem in_xl : ∀ w ∈ am_XL.map w_xl, w ∈ lw_tbl := am_in [531, 587, 660, 733, 781, 804, 827, 838, 856, 901, 916, 937] (by decide +kernel)
set_option maxRecDepth 100000 in
theorem in_al : ∀ w ∈ am_AL.map w_al, w ∈ lw_tbl := am_in [455, 805] (by decide +kernel)
set_option maxRecDepth 100000 in
theorem in_kind : ∀ w ∈ am_MT.map w_kind, w ∈ lw_tbl := am_in [694, 699, 763, 703, 668, 678, 970, 690, 711, 724, 736, 743, 748, 952, 862, 872, 1004, 892, 896, 899, 1059, 1064, 539, 529, 637, 812, 790, 800, 829, 833, 836, 583, 623, 554, 756, 771, 779, 844, 850, 909, 914, 922, 930, 927, 978, 987, 996, 1012, 1021, 1030, 1039, 729, 1047, 430, 438, 448, 460, 509, 478, 464, 445, 442, 520, 516, 525, 657, 682, 644, 590, 853, 633, 648, 653, 452, 485, 500, 467, 481, 496, 504, 512, 542, 546, 550, 492, 535, 882, 1085, 877, 824, 820, 943, 795, 807, 413, 434, 558, 567, 572, 578, 600, 607, 613, 619, 627, 640, 664, 674, 686, 707, 716, 739, 752, 767, 786, 816, 840, 858, 868, 887, 905, 918, 934, 939, 948, 962, 966, 974, 983, 992, 1000, 1008, 1017, 1026, 1035, 1043, 1051, 1055, 1072, 1077, 1081, 427, 721, 423, 417, 420, 489, 471, 1189, 1493, 1212, 1185, 1317, 1239, 1270, 1368, 1236, 1278, 1181, 1201, 1209, 1205, 1197, 1232, 1274, 1228, 1192, 1220, 1224, 1216, 1428, 1440, 1321, 1289, 1293, 1297, 1286, 1263, 1259, 1345, 1251, 1255, 1267, 1247, 1243, 1357, 1361, 1301, 1305, 1309, 1313, 1324, 1328, 1282, 1332, 1341, 1336, 1353, 1365, 1348, 1371, 1375, 1379, 1383, 1392, 1387, 1400, 1395, 1408, 1412, 1403, 1415, 1436, 1432, 1424, 1419, 1448, 1457, 1453, 1461, 1443, 1473, 1469, 1464, 1481, 1476, 1484, 1503, 1500, 1497, 1488, 1511, 1506, 1519, 1514, 1522, 1526, 1535, 1530, 1538, 1542, 1546, 1555, 1550, 1558, 1562, 1571, 1566, 1574, 1583, 1578, 1586, 1590, 1594, 1603, 1598, 1609, 594, 956] (by decide +kernel)
set_option maxRecDepth 100000 in
theorem in_sel : ∀ w ∈ am_MT.map w_sel, w ∈ lw_tbl := am_in [695, 700, 764, 704, 669, 679, 971, 691, 712, 725, 7, 744, 749, 953, 863, 873, 1005, 893, 896, 899, 1060, 13, 539, 529, 637, 813, 791, 9, 830, 833, 836, 584, 624, 555, 757, 772, 8, 845, 10, 910, 11, 923, 931, 12, 979, 988, 997, 1013, 1022, 1031, 1040, 730, 1048, 431, 439, 449, 1, 4, 3, 2, 445, 442, 521, 517, 5, 658, 683, 645, 591, 854, 634, 649, 654, 453, 486, 501, 468, 482, 497, 505, 513, 543, 547, 551, 493, 536, 883, 1086, 878, 825, 821, 944, 796, 808, 414, 435, 559, 568, 573, 579, 601, 608, 614, 620, 628, 641, 665, 675, 687, 708, 717, 740, 753, 768, 787, 817, 841, 859, 869, 888, 906, 919, 935, 940, 949, 963, 967, 975, 984, 993, 1001, 1009, 1018, 1027, 1036, 1044, 1052, 1056, 1073, 1078, 1082, 0, 6, 423, 417, 420, 489, 471, 14, 59, 1212, 1185, 1317, 1239, 1270, 1368, 24, 33, 1182, 16, 18, 17, 15, 23, 32, 22, 1193, 20, 21, 19, 48, 51, 36, 1290, 1294, 1298, 35, 30, 29, 38, 27, 28, 31, 26, 25, 40, 41, 1302, 1306, 1310, 1314, 1325, 1329, 34, 1333, 37, 1337, 39, 42, 1349, 1372, 1376, 1380, 1384, 43, 1388, 44, 1396, 45, 46, 1404, 1416, 50, 49, 47, 1420, 52, 54, 53, 55, 1444, 57, 56, 1465, 58, 1477, 1485, 1503, 1500, 1497, 1489, 60, 1507, 61, 1515, 1523, 1527, 62, 1531, 1539, 1543, 1547, 63, 1551, 1559, 1563, 64, 1567, 1575, 65, 1579, 1587, 1591, 1595, 66, 1599, 1610, 594, 956] (by decide +kernel)
set_option maxRecDepth 100000 in
theorem in_ini : ∀ w ∈ am_MT.map w_ini, w ∈ lw_tbl := am_in [75, 75, 75, 75, 74, 74, 74, 74, 74, 74, 74, 74, 74, 74, 78, 78, 78, 78, 78, 78, 78, 78, 81, 81, 81, 77, 77, 77, 77, 77, 77, 70, 70, 70, 76, 76, 76, 76, 76, 76, 76, 76, 76, 76, 76, 76, 76, 76, 76, 76, 73, 73, 73, 71, 71, 71, 71, 71, 71, 71, 71, 71, 72, 72, 72, 72, 72, 72, 72, 72, 72, 72, 72, 69, 69, 69, 69, 69, 69, 69, 69, 69, 69, 69, 69, 69, 69, 69, 69, 69, 69, 69, 69, 69, 68, 68, 68, 68, 68, 68, 68, 68, 68, 68, 68, 68, 68, 68, 68, 68, 68, 68, 68, 68, 68, 68, 68, 68, 68, 68, 68, 68, 68, 68, 68, 68, 68, 68, 68, 68, 68, 68, 68, 68, 68, 68, 68, 68, 68, 68, 68, 68, 68, 68, 68, 68, 68, 68, 79, 79, 79, 79, 79, 79, 79, 79, 79, 79, 79, 79, 79, 79, 79, 79, 79, 79, 79, 79, 79, 79, 79, 79, 79, 79, 79, 79, 79, 79, 79, 79, 79, 79, 79, 79, 79, 79, 79, 79, 79, 79, 79, 79, 79, 79, 79, 79, 79, 79, 79, 79, 79, 79, 79, 79, 79, 79, 79, 79, 79, 79, 79, 79, 79, 79, 79, 79, 79, 79, 79, 79, 79, 79, 79, 79, 79, 79, 79, 79, 79, 79, 79, 79, 79, 79, 79, 79, 79, 79, 79, 79, 79, 79, 79, 79, 79, 79, 79, 79, 79, 79, 79, 79, 79, 79, 79, 79, 79, 83, 84] (by decide +kernel)
set_option maxRecDepth 100000 in
theorem in_u0 : ∀ w ∈ u_ws "RivetedSisters$Best" am_F0 2, w ∈ lw_tbl := am_in [261, 263] (by decide +kernel)
set_option maxRecDepth 100000 in
theorem in_u1 : ∀ w ∈ u_ws "RivetedSisters$Echoes" am_F1 6, w ∈ lw_tbl := am_in [275, 277, 279, 281, 283, 285] (by decide +kernel)
set_option maxRecDepth 100000 in
theorem in_u2 : ∀ w ∈ u_ws "RivetedSisters$Futures" am_F2 7, w ∈ lw_tbl := am_in [360, 362, 364, 366, 368, 370, 372] (by decide +kernel)
set_option maxRecDepth 100000 in
theorem in_u3 : ∀ w ∈ u_ws "RivetedSisters$Orders" am_F3 4, w ∈ lw_tbl := am_in [330, 332, 334, 336] (by decide +kernel)
set_option maxRecDepth 100000 in
theorem in_u4 : ∀ w ∈ u_ws "RivetedSisters$Past" am_F4 3, w ∈ lw_tbl := am_in [171, 173, 175] (by decide +kernel)
set_option maxRecDepth 100000 in
theorem in_u5 : ∀ w ∈ u_ws "RivetedSisters$Plans" am_F5 5, w ∈ lw_tbl := am_in [305, 307, 309, 311, 313] (by decide +kernel)
set_option maxRecDepth 100000 in
theorem in_u6 : ∀ w ∈ u_ws "RivetedSisters$Row" am_F6 2, w ∈ lw_tbl := am_in [234, 236] (by decide +kernel)
set_option maxRecDepth 100000 in
theorem in_u7 : ∀ w ∈ u_ws "RivetedSisters$Valley" am_F7 4, w ∈ lw_tbl := am_in [216, 218, 220, 222] (by decide +kernel)
set_option maxRecDepth 100000 in
theorem in_u8 : ∀ w ∈ u_ws "RivetedSisters$Wave" am_F8 3, w ∈ lw_tbl := am_in [204, 206, 208] (by decide +kernel)
set_option maxRecDepth 100000 in
theorem in_u9 : ∀ w ∈ u_ws "RivetedSisters$Wire" am_F9 9, w ∈ lw_tbl := am_in [138, 140, 142, 144, 146, 148, 150, 152, 154] (by decide +kernel)
set_option maxRecDepth 100000 in
theorem in_u10 : ∀ w ∈ u_ws "RivetedSisters" am_F10 12, w ∈ lw_tbl := am_in [387, 389, 391, 393, 395, 397, 399, 401, 403, 405, 407, 409] (by decide +kernel)
set_option maxRecDepth 100000 in
theorem in_u11 : ∀ w ∈ u_ws "RivetedSistersModel" am_F11 28, w ∈ lw_tbl := am_in [1123, 1125, 1127, 1129, 1131, 1133, 1135, 1137, 1139, 1141, 1143, 1145, 1147, 1149, 1151, 1153, 1155, 1157, 1159, 1161, 1163, 1165, 1167, 1169, 1171, 1173, 1175, 1177] (by decide +kernel)
set_option maxRecDepth 100000 in
theorem in_ac : ∀ w ∈ [Cond.native arraycopyName, Cond.static arraycopyName, Cond.initialized "java/lang/System"], w ∈ lw_tbl := am_in [457, 456, 80] (by decide +kernel)
set_option maxRecDepth 100000 in
theorem in_ms : ∀ w ∈ [Cond.static Lib.Math.max.name, Cond.static Lib.Math.min.name, Cond.static Lib.Math.abs.name, Cond.static Lib.MathLoose.max_long.x, Cond.initialized "java/lang/Math"], w ∈ lw_tbl := am_in [782, 532, 661, 902, 82] (by decide +kernel)
set_option maxRecDepth 100000 in
theorem in_mc : ∀ w ∈ [Cond.code Lib.Math.max.name Lib.Math.max.code 2 (some .int), Cond.code Lib.Math.min.name Lib.Math.min.code 2 (some .int), Cond.code Lib.Math.abs.name Lib.Math.abs.code 1 (some .int), Cond.code Lib.MathLoose.max_long.x Lib.MathLoose.max_long.code 4 (some .long)], w ∈ lw_tbl := am_in [783, 533, 662, 903] (by decide +kernel)
end
section
theorem nth_mem {α : Type} : ∀ (l : List α) (n : Nat) {a : α}, nth l n = some a → a ∈ l
  | [], _, _, h => by simp [nth] at h
  | x :: l, 0, a, h => by simp [nth] at h; simp [h]
  | x :: l, n + 1, a, h => List.mem_cons_of_mem _ (nth_mem l n (by simpa [nth] using h))
theorem tb_1 {w : Cond} (h : w ∈ tables_1_1) : w ∈ lw_tbl := List.mem_append_right _ (List.mem_append_left _ h)
theorem tb_2 {w : Cond} (h : w ∈ tables_1_2) : w ∈ lw_tbl := List.mem_append_right _ (List.mem_append_right _ (List.mem_append_left _ h))
theorem tb_3 {w : Cond} (h : w ∈ tables_1_3) : w ∈ lw_tbl := List.mem_append_right _ (List.mem_append_right _ (List.mem_append_right _ (List.mem_append_left _ h)))
theorem tb_4 {w : Cond} (h : w ∈ tables_1_4) : w ∈ lw_tbl := List.mem_append_right _ (List.mem_append_right _ (List.mem_append_right _ (List.mem_append_right _ (List.mem_append_left _ h))))
theorem tb_5 {w : Cond} (h : w ∈ tables_1_5) : w ∈ lw_tbl := List.mem_append_right _ (List.mem_append_right _ (List.mem_append_right _ (List.mem_append_right _ (List.mem_append_right _ (List.mem_append_left _ h)))))
theorem tb_6 {w : Cond} (h : w ∈ tables_1_6) : w ∈ lw_tbl := List.mem_append_right _ (List.mem_append_right _ (List.mem_append_right _ (List.mem_append_right _ (List.mem_append_right _ (List.mem_append_right _ (List.mem_append_left _ h))))))
theorem tb_7 {w : Cond} (h : w ∈ tables_1_7) : w ∈ lw_tbl := List.mem_append_right _ (List.mem_append_right _ (List.mem_append_right _ (List.mem_append_right _ (List.mem_append_right _ (List.mem_append_right _ (List.mem_append_right _ (h)))))))
theorem ic_X0_none : w_code me_X0_none ∈ lw_tbl := tb_3 (nth_mem _ 149 rfl)
theorem ic_X0_offerLeast : w_code me_X0_offerLeast ∈ lw_tbl := tb_3 (nth_mem _ 154 rfl)
theorem ic_X0_offerMost : w_code me_X0_offerMost ∈ lw_tbl := tb_3 (nth_mem _ 218 rfl)
theorem ic_X0_answer : w_code me_X0_answer ∈ lw_tbl := tb_3 (nth_mem _ 158 rfl)
theorem ic_X1_leastHeard : w_code me_X1_leastHeard ∈ lw_tbl := tb_3 (nth_mem _ 123 rfl)
theorem ic_X1_leastBreaking : w_code me_X1_leastBreaking ∈ lw_tbl := tb_3 (nth_mem _ 133 rfl)
theorem ic_X1_greatestHarmless : w_code me_X1_greatestHarmless ∈ lw_tbl := tb_4 (nth_mem _ 185 rfl)
theorem ic_X1_leastHarm : w_code me_X1_leastHarm ∈ lw_tbl := tb_3 (nth_mem _ 145 rfl)
theorem ic_X1_quietestTap : w_code me_X1_quietestTap ∈ lw_tbl := tb_3 (nth_mem _ 166 rfl)
theorem ic_X1_findDroppers : w_code me_X1_findDroppers ∈ lw_tbl := tb_3 (nth_mem _ 179 rfl)
theorem ic_X1_countDropping : w_code me_X1_countDropping ∈ lw_tbl := tb_3 (nth_mem _ 190 rfl)
theorem ic_X1_kindsBy : w_code me_X1_kindsBy ∈ lw_tbl := tb_3 (nth_mem _ 198 rfl)
theorem ic_X1_figuresBy : w_code me_X1_figuresBy ∈ lw_tbl := tb_3 (nth_mem _ 203 rfl)
theorem ic_X1_strengths : w_code me_X1_strengths ∈ lw_tbl := tb_4 (nth_mem _ 167 rfl)
theorem ic_X2_firstBreakingDay : w_code me_X2_firstBreakingDay ∈ lw_tbl := tb_4 (nth_mem _ 77 rfl)
theorem ic_X2_wholeBehind : w_code me_X2_wholeBehind ∈ lw_tbl := tb_4 (nth_mem _ 87 rfl)
theorem ic_X2_brokenBehindAll : w_code me_X2_brokenBehindAll ∈ lw_tbl := tb_4 (nth_mem _ 219 rfl)
theorem ic_X2_findOdds : w_code me_X2_findOdds ∈ lw_tbl := tb_4 (nth_mem _ 107 rfl)
theorem ic_X2_power : w_code me_X2_power ∈ lw_tbl := tb_4 (nth_mem _ 110 rfl)
theorem ic_X2_commonDivisor : w_code me_X2_commonDivisor ∈ lw_tbl := tb_4 (nth_mem _ 113 rfl)
theorem ic_X2_drawYears : w_code me_X2_drawYears ∈ lw_tbl := tb_5 (nth_mem _ 34 rfl)
theorem ic_X2_draw : w_code me_X2_draw ∈ lw_tbl := tb_5 (nth_mem _ 38 rfl)
theorem ic_X3_lossOf : w_code me_X3_lossOf ∈ lw_tbl := tb_2 (nth_mem _ 233 rfl)
theorem ic_X3_standsOf : w_code me_X3_standsOf ∈ lw_tbl := tb_2 (nth_mem _ 223 rfl)
theorem ic_X3_jumpBy : w_code me_X3_jumpBy ∈ lw_tbl := tb_3 (nth_mem _ 91 rfl)
theorem ic_X4_thingAt : w_code me_X4_thingAt ∈ lw_tbl := tb_4 (nth_mem _ 27 rfl)
theorem ic_X4_mildest : w_code me_X4_mildest ∈ lw_tbl := tb_4 (nth_mem _ 5 rfl)
theorem ic_X4_mostBrokenBut : w_code me_X4_mostBrokenBut ∈ lw_tbl := tb_4 (nth_mem _ 14 rfl)
theorem ic_X4_shortestWalk : w_code me_X4_shortestWalk ∈ lw_tbl := tb_4 (nth_mem _ 44 rfl)
theorem ic_X4_sortByFarm : w_code me_X4_sortByFarm ∈ lw_tbl := tb_4 (nth_mem _ 47 rfl)
theorem ic_X4_isAhead : w_code me_X4_isAhead ∈ lw_tbl := tb_4 (nth_mem _ 50 rfl)
theorem ic_X5_keep : w_code me_X5_keep ∈ lw_tbl := tb_3 (nth_mem _ 38 rfl)
theorem ic_X5_takeBack : w_code me_X5_takeBack ∈ lw_tbl := tb_3 (nth_mem _ 78 rfl)
theorem ic_X5_forget : w_code me_X5_forget ∈ lw_tbl := tb_3 (nth_mem _ 9 rfl)
theorem ic_X6_worstPlace : w_code me_X6_worstPlace ∈ lw_tbl := tb_3 (nth_mem _ 211 rfl)
theorem ic_X6_mildestCut : w_code me_X6_mildestCut ∈ lw_tbl := tb_3 (nth_mem _ 226 rfl)
theorem ic_X6_mostBroken : w_code me_X6_mostBroken ∈ lw_tbl := tb_3 (nth_mem _ 233 rfl)
theorem ic_X6_womansDrop : w_code me_X6_womansDrop ∈ lw_tbl := tb_4 (nth_mem _ 59 rfl)
theorem ic_X6_othersInSpite : w_code me_X6_othersInSpite ∈ lw_tbl := tb_4 (nth_mem _ 64 rfl)
theorem ic_X6_mostAlike : w_code me_X6_mostAlike ∈ lw_tbl := tb_4 (nth_mem _ 124 rfl)
theorem ic_X6_addUnlike : w_code me_X6_addUnlike ∈ lw_tbl := tb_4 (nth_mem _ 128 rfl)
theorem ic_X6_allHeard : w_code me_X6_allHeard ∈ lw_tbl := tb_4 (nth_mem _ 137 rfl)
theorem ic_X6_quietest : w_code me_X6_quietest ∈ lw_tbl := tb_4 (nth_mem _ 145 rfl)
theorem ic_X6_hearAll : w_code me_X6_hearAll ∈ lw_tbl := tb_4 (nth_mem _ 141 rfl)
theorem ic_X6_mostHeard : w_code me_X6_mostHeard ∈ lw_tbl := tb_4 (nth_mem _ 193 rfl)
theorem ic_X6_mendHeardMost : w_code me_X6_mendHeardMost ∈ lw_tbl := tb_4 (nth_mem _ 202 rfl)
theorem ic_X6_figureHeardMost : w_code me_X6_figureHeardMost ∈ lw_tbl := tb_4 (nth_mem _ 211 rfl)
theorem ic_X6_longestLink : w_code me_X6_longestLink ∈ lw_tbl := tb_4 (nth_mem _ 227 rfl)
theorem ic_X6_sparedBits : w_code me_X6_sparedBits ∈ lw_tbl := tb_4 (nth_mem _ 236 rfl)
theorem ic_X6_mutualTwos : w_code me_X6_mutualTwos ∈ lw_tbl := tb_5 (nth_mem _ 5 rfl)
theorem ic_X7_hear : w_code me_X7_hear ∈ lw_tbl := tb_5 (nth_mem _ 14 rfl)
theorem ic_X7_tellsJumps : w_code me_X7_tellsJumps ∈ lw_tbl := tb_3 (nth_mem _ 184 rfl)
theorem ic_X7_firstNotInPlace : w_code me_X7_firstNotInPlace ∈ lw_tbl := tb_5 (nth_mem _ 22 rfl)
theorem ic_X8_hear : w_code me_X8_hear ∈ lw_tbl := tb_2 (nth_mem _ 125 rfl)
theorem ic_X8_firstMisfit : w_code me_X8_firstMisfit ∈ lw_tbl := tb_2 (nth_mem _ 133 rfl)
theorem ic_X8_comeTo : w_code me_X8_comeTo ∈ lw_tbl := tb_2 (nth_mem _ 143 rfl)
theorem ic_X8_refusalOf : w_code me_X8_refusalOf ∈ lw_tbl := tb_2 (nth_mem _ 154 rfl)
theorem ic_X8_act : w_code me_X8_act ∈ lw_tbl := tb_2 (nth_mem _ 203 rfl)
theorem ic_X8_blowIn : w_code me_X8_blowIn ∈ lw_tbl := tb_2 (nth_mem _ 172 rfl)
theorem ic_X8_digit : w_code me_X8_digit ∈ lw_tbl := tb_2 (nth_mem _ 158 rfl)
theorem ic_X8_isDigit : w_code me_X8_isDigit ∈ lw_tbl := tb_2 (nth_mem _ 139 rfl)
theorem ic_X8_digitsBehind : w_code me_X8_digitsBehind ∈ lw_tbl := tb_2 (nth_mem _ 136 rfl)
theorem ic_X9_strike : w_code me_X9_strike ∈ lw_tbl := tb_2 (nth_mem _ 215 rfl)
theorem ic_X9_drop : w_code me_X9_drop ∈ lw_tbl := tb_2 (nth_mem _ 211 rfl)
theorem ic_X9_spread : w_code me_X9_spread ∈ lw_tbl := tb_2 (nth_mem _ 219 rfl)
theorem ic_X9_isHeardBy : w_code me_X9_isHeardBy ∈ lw_tbl := tb_3 (nth_mem _ 112 rfl)
theorem ic_X9_hasBroken : w_code me_X9_hasBroken ∈ lw_tbl := tb_3 (nth_mem _ 137 rfl)
theorem ic_X9_hearerCount : w_code me_X9_hearerCount ∈ lw_tbl := tb_3 (nth_mem _ 99 rfl)
theorem ic_X9_brokenCount : w_code me_X9_brokenCount ∈ lw_tbl := tb_3 (nth_mem _ 45 rfl)
theorem ic_X9_othersBroken : w_code me_X9_othersBroken ∈ lw_tbl := tb_4 (nth_mem _ 68 rfl)
theorem ic_X9_jumpIn : w_code me_X9_jumpIn ∈ lw_tbl := tb_3 (nth_mem _ 88 rfl)
theorem ic_X9_jumpsIn : w_code me_X9_jumpsIn ∈ lw_tbl := tb_3 (nth_mem _ 103 rfl)
theorem ic_X9_farthestIn : w_code me_X9_farthestIn ∈ lw_tbl := tb_3 (nth_mem _ 108 rfl)
theorem ic_X10_copy : w_code me_X10_copy ∈ lw_tbl := tb_2 (nth_mem _ 147 rfl)
theorem ic_X10_noThing : w_code me_X10_noThing ∈ lw_tbl := tb_2 (nth_mem _ 180 rfl)
theorem ic_X10_noLink : w_code me_X10_noLink ∈ lw_tbl := tb_2 (nth_mem _ 195 rfl)
theorem ic_X10_joinRefusal : w_code me_X10_joinRefusal ∈ lw_tbl := tb_2 (nth_mem _ 162 rfl)
theorem ic_X10_dropRefusal : w_code me_X10_dropRefusal ∈ lw_tbl := tb_2 (nth_mem _ 176 rfl)
theorem ic_X10_mendRefusal : w_code me_X10_mendRefusal ∈ lw_tbl := tb_2 (nth_mem _ 191 rfl)
theorem ic_X10_changeRefusal : w_code me_X10_changeRefusal ∈ lw_tbl := tb_2 (nth_mem _ 199 rfl)
theorem ic_X10_join : w_code me_X10_join ∈ lw_tbl := tb_2 (nth_mem _ 207 rfl)
theorem ic_X10_mend : w_code me_X10_mend ∈ lw_tbl := tb_2 (nth_mem _ 237 rfl)
theorem ic_X10_turnCut : w_code me_X10_turnCut ∈ lw_tbl := tb_3 (nth_mem _ 1 rfl)
theorem ic_X10_exchange : w_code me_X10_exchange ∈ lw_tbl := tb_3 (nth_mem _ 5 rfl)
theorem ic_X10_isBroken : w_code me_X10_isBroken ∈ lw_tbl := tb_2 (nth_mem _ 187 rfl)
theorem ic_X10_isCut : w_code me_X10_isCut ∈ lw_tbl := tb_2 (nth_mem _ 230 rfl)
theorem ic_X10_wholeBits : w_code me_X10_wholeBits ∈ lw_tbl := tb_4 (nth_mem _ 97 rfl)
theorem ic_X10_allLoss : w_code me_X10_allLoss ∈ lw_tbl := tb_5 (nth_mem _ 60 rfl)
theorem ic_X10_nextWhole : w_code me_X10_nextWhole ∈ lw_tbl := tb_4 (nth_mem _ 92 rfl)
theorem ic_X10_wayOver : w_code me_X10_wayOver ∈ lw_tbl := tb_4 (nth_mem _ 39 rfl)
theorem ic_X10_walkLength : w_code me_X10_walkLength ∈ lw_tbl := tb_4 (nth_mem _ 35 rfl)
theorem ic_X10_stretches : w_code me_X10_stretches ∈ lw_tbl := tb_4 (nth_mem _ 158 rfl)
theorem ic_X10_layInTurnUncut : w_code me_X10_layInTurnUncut ∈ lw_tbl := tb_4 (nth_mem _ 10 rfl)
theorem ic_X10_layNextOrder : w_code me_X10_layNextOrder ∈ lw_tbl := tb_4 (nth_mem _ 22 rfl)
theorem ic_X11_feed : w_code me_X11_feed ∈ lw_tbl := tb_2 (nth_mem _ 108 rfl)
theorem ic_X11_valley : w_code me_X11_valley ∈ lw_tbl := tb_2 (nth_mem _ 129 rfl)
theorem ic_X11_thingOf : w_code me_X11_thingOf ∈ lw_tbl := tb_3 (nth_mem _ 13 rfl)
theorem ic_X11_place : w_code me_X11_place ∈ lw_tbl := tb_3 (nth_mem _ 22 rfl)
theorem ic_X11_thing : w_code me_X11_thing ∈ lw_tbl := tb_3 (nth_mem _ 27 rfl)
theorem ic_X11_drops : w_code me_X11_drops ∈ lw_tbl := tb_3 (nth_mem _ 33 rfl)
theorem ic_X11_mends : w_code me_X11_mends ∈ lw_tbl := tb_3 (nth_mem _ 55 rfl)
theorem ic_X11_cuts : w_code me_X11_cuts ∈ lw_tbl := tb_3 (nth_mem _ 62 rfl)
theorem ic_X11_changes : w_code me_X11_changes ∈ lw_tbl := tb_3 (nth_mem _ 68 rfl)
theorem ic_X11_back : w_code me_X11_back ∈ lw_tbl := tb_3 (nth_mem _ 74 rfl)
theorem ic_X11_gets : w_code me_X11_gets ∈ lw_tbl := tb_3 (nth_mem _ 82 rfl)
theorem ic_X11_blow : w_code me_X11_blow ∈ lw_tbl := tb_3 (nth_mem _ 95 rfl)
theorem ic_X11_reaches : w_code me_X11_reaches ∈ lw_tbl := tb_3 (nth_mem _ 119 rfl)
theorem ic_X11_breaks : w_code me_X11_breaks ∈ lw_tbl := tb_3 (nth_mem _ 129 rfl)
theorem ic_X11_harm : w_code me_X11_harm ∈ lw_tbl := tb_3 (nth_mem _ 141 rfl)
theorem ic_X11_tap : w_code me_X11_tap ∈ lw_tbl := tb_3 (nth_mem _ 162 rfl)
theorem ic_X11_who : w_code me_X11_who ∈ lw_tbl := tb_3 (nth_mem _ 171 rfl)
theorem ic_X11_whatKind : w_code me_X11_whatKind ∈ lw_tbl := tb_3 (nth_mem _ 194 rfl)
theorem ic_X11_worst : w_code me_X11_worst ∈ lw_tbl := tb_3 (nth_mem _ 207 rfl)
theorem ic_X11_bestCut : w_code me_X11_bestCut ∈ lw_tbl := tb_3 (nth_mem _ 222 rfl)
theorem ic_X11_order : w_code me_X11_order ∈ lw_tbl := tb_4 (nth_mem _ 1 rfl)
theorem ic_X11_walk : w_code me_X11_walk ∈ lw_tbl := tb_4 (nth_mem _ 31 rfl)
theorem ic_X11_woman : w_code me_X11_woman ∈ lw_tbl := tb_4 (nth_mem _ 55 rfl)
theorem ic_X11_lasts : w_code me_X11_lasts ∈ lw_tbl := tb_4 (nth_mem _ 73 rfl)
theorem ic_X11_left : w_code me_X11_left ∈ lw_tbl := tb_4 (nth_mem _ 83 rfl)
theorem ic_X11_chance : w_code me_X11_chance ∈ lw_tbl := tb_4 (nth_mem _ 102 rfl)
theorem ic_X11_twins : w_code me_X11_twins ∈ lw_tbl := tb_4 (nth_mem _ 120 rfl)
theorem ic_X11_hum : w_code me_X11_hum ∈ lw_tbl := tb_4 (nth_mem _ 133 rfl)
theorem ic_X11_apart : w_code me_X11_apart ∈ lw_tbl := tb_4 (nth_mem _ 149 rfl)
theorem ic_X11_heaps : w_code me_X11_heaps ∈ lw_tbl := tb_4 (nth_mem _ 154 rfl)
theorem ic_X11_codes : w_code me_X11_codes ∈ lw_tbl := tb_4 (nth_mem _ 163 rfl)
theorem ic_X11_secret : w_code me_X11_secret ∈ lw_tbl := tb_4 (nth_mem _ 177 rfl)
theorem ic_X11_tough : w_code me_X11_tough ∈ lw_tbl := tb_4 (nth_mem _ 181 rfl)
theorem ic_X11_centre : w_code me_X11_centre ∈ lw_tbl := tb_4 (nth_mem _ 189 rfl)
theorem ic_X11_bestMend : w_code me_X11_bestMend ∈ lw_tbl := tb_4 (nth_mem _ 198 rfl)
theorem ic_X11_bestFigure : w_code me_X11_bestFigure ∈ lw_tbl := tb_4 (nth_mem _ 207 rfl)
theorem ic_X11_domino : w_code me_X11_domino ∈ lw_tbl := tb_4 (nth_mem _ 215 rfl)
theorem ic_X11_longest : w_code me_X11_longest ∈ lw_tbl := tb_4 (nth_mem _ 223 rfl)
theorem ic_X11_spared : w_code me_X11_spared ∈ lw_tbl := tb_4 (nth_mem _ 232 rfl)
theorem ic_X11_mutual : w_code me_X11_mutual ∈ lw_tbl := tb_5 (nth_mem _ 1 rfl)
theorem ic_X11_row : w_code me_X11_row ∈ lw_tbl := tb_5 (nth_mem _ 10 rfl)
theorem ic_X11_judge : w_code me_X11_judge ∈ lw_tbl := tb_5 (nth_mem _ 18 rfl)
theorem ic_X11_clear : w_code me_X11_clear ∈ lw_tbl := tb_5 (nth_mem _ 26 rfl)
theorem ic_X11_lots : w_code me_X11_lots ∈ lw_tbl := tb_5 (nth_mem _ 30 rfl)
theorem ic_X11_image : w_code me_X11_image ∈ lw_tbl := tb_5 (nth_mem _ 47 rfl)
theorem ic_X11_restore : w_code me_X11_restore ∈ lw_tbl := tb_5 (nth_mem _ 52 rfl)
theorem ic_X11_count : w_code me_X11_count ∈ lw_tbl := tb_5 (nth_mem _ 56 rfl)
theorem ic_X11_refuse : w_code me_X11_refuse ∈ lw_tbl := tb_2 (nth_mem _ 121 rfl)
theorem ic_X11_rowTooLong : w_code me_X11_rowTooLong ∈ lw_tbl := tb_3 (nth_mem _ 175 rfl)
theorem ic_X11_first : w_code me_X11_first ∈ lw_tbl := tb_2 (nth_mem _ 117 rfl)
theorem ic_X11_below : w_code me_X11_below ∈ lw_tbl := tb_2 (nth_mem _ 111 rfl)
theorem ic_X11_above : w_code me_X11_above ∈ lw_tbl := tb_2 (nth_mem _ 114 rfl)
theorem ic_X11_noBlow : w_code me_X11_noBlow ∈ lw_tbl := tb_2 (nth_mem _ 183 rfl)
theorem ic_X11_unknown : w_code me_X11_unknown ∈ lw_tbl := tb_2 (nth_mem _ 165 rfl)
theorem ic_X12_no : w_code me_X12_no ∈ lw_tbl := tb_5 (nth_mem _ 163 rfl)
theorem ic_X12_lowest : w_code me_X12_lowest ∈ lw_tbl := tb_6 (nth_mem _ 227 rfl)
theorem ic_X12_isIn : w_code me_X12_isIn ∈ lw_tbl := tb_5 (nth_mem _ 186 rfl)
theorem ic_X12_bound : w_code me_X12_bound ∈ lw_tbl := tb_5 (nth_mem _ 159 rfl)
theorem ic_X12_notBlow : w_code me_X12_notBlow ∈ lw_tbl := tb_6 (nth_mem _ 51 rfl)
theorem ic_X12_has : w_code me_X12_has ∈ lw_tbl := tb_5 (nth_mem _ 213 rfl)
theorem ic_X12_bits : w_code me_X12_bits ∈ lw_tbl := tb_6 (nth_mem _ 4 rfl)
theorem ic_X12_far : w_code me_X12_far ∈ lw_tbl := tb_6 (nth_mem _ 102 rfl)
theorem ic_X12_isThing : w_code me_X12_isThing ∈ lw_tbl := tb_5 (nth_mem _ 210 rfl)
theorem ic_X12_isLink : w_code me_X12_isLink ∈ lw_tbl := tb_6 (nth_mem _ 12 rfl)
theorem ic_X12_feed : w_code me_X12_feed ∈ lw_tbl := tb_5 (nth_mem _ 156 rfl)
theorem ic_X12_next : w_code me_X12_next ∈ lw_tbl := tb_5 (nth_mem _ 175 rfl)
theorem ic_X12_readsDigits : w_code me_X12_readsDigits ∈ lw_tbl := tb_5 (nth_mem _ 183 rfl)
theorem ic_X12_readsAll : w_code me_X12_readsAll ∈ lw_tbl := tb_5 (nth_mem _ 179 rfl)
theorem ic_X12_statement : w_code me_X12_statement ∈ lw_tbl := tb_5 (nth_mem _ 171 rfl)
theorem ic_X12_comesDrop : w_code me_X12_comesDrop ∈ lw_tbl := tb_5 (nth_mem _ 206 rfl)
theorem ic_X12_comesOther : w_code me_X12_comesOther ∈ lw_tbl := tb_6 (nth_mem _ 8 rfl)
theorem ic_X12_comes : w_code me_X12_comes ∈ lw_tbl := tb_5 (nth_mem _ 202 rfl)
theorem ic_X12_valley : w_code me_X12_valley ∈ lw_tbl := tb_5 (nth_mem _ 167 rfl)
theorem ic_X12_passes : w_code me_X12_passes ∈ lw_tbl := tb_5 (nth_mem _ 194 rfl)
theorem ic_X12_passOne : w_code me_X12_passOne ∈ lw_tbl := tb_5 (nth_mem _ 198 rfl)
theorem ic_X12_passesAll : w_code me_X12_passesAll ∈ lw_tbl := tb_5 (nth_mem _ 190 rfl)
theorem ic_X12_thinks : w_code me_X12_thinks ∈ lw_tbl := tb_6 (nth_mem _ 162 rfl)
theorem ic_X12_forgets : w_code me_X12_forgets ∈ lw_tbl := tb_6 (nth_mem _ 174 rfl)
theorem ic_X12_keepsBack : w_code me_X12_keepsBack ∈ lw_tbl := tb_6 (nth_mem _ 55 rfl)
theorem ic_X12_back : w_code me_X12_back ∈ lw_tbl := tb_6 (nth_mem _ 24 rfl)
theorem ic_X12_image : w_code me_X12_image ∈ lw_tbl := tb_6 (nth_mem _ 28 rfl)
theorem ic_X12_restore : w_code me_X12_restore ∈ lw_tbl := tb_6 (nth_mem _ 32 rfl)
theorem ic_X12_adds : w_code me_X12_adds ∈ lw_tbl := tb_6 (nth_mem _ 20 rfl)
theorem ic_X12_lossOf : w_code me_X12_lossOf ∈ lw_tbl := tb_5 (nth_mem _ 237 rfl)
theorem ic_X12_standsOf : w_code me_X12_standsOf ∈ lw_tbl := tb_5 (nth_mem _ 233 rfl)
theorem ic_X12_jumpOf : w_code me_X12_jumpOf ∈ lw_tbl := tb_6 (nth_mem _ 79 rfl)
theorem ic_X12_placeOf : w_code me_X12_placeOf ∈ lw_tbl := tb_5 (nth_mem _ 225 rfl)
theorem ic_X12_lands : w_code me_X12_lands ∈ lw_tbl := tb_5 (nth_mem _ 229 rfl)
theorem ic_X12_goesAlong : w_code me_X12_goesAlong ∈ lw_tbl := tb_6 (nth_mem _ 1 rfl)
theorem ic_X12_findBlow : w_code me_X12_findBlow ∈ lw_tbl := tb_5 (nth_mem _ 221 rfl)
theorem ic_X12_breaksBy : w_code me_X12_breaksBy ∈ lw_tbl := tb_5 (nth_mem _ 217 rfl)
theorem ic_X12_manyGet : w_code me_X12_manyGet ∈ lw_tbl := tb_6 (nth_mem _ 91 rfl)
theorem ic_X12_allJumps : w_code me_X12_allJumps ∈ lw_tbl := tb_6 (nth_mem _ 95 rfl)
theorem ic_X12_thingOf : w_code me_X12_thingOf ∈ lw_tbl := tb_6 (nth_mem _ 36 rfl)
theorem ic_X12_place : w_code me_X12_place ∈ lw_tbl := tb_6 (nth_mem _ 40 rfl)
theorem ic_X12_thing : w_code me_X12_thing ∈ lw_tbl := tb_6 (nth_mem _ 44 rfl)
theorem ic_X12_drops : w_code me_X12_drops ∈ lw_tbl := tb_6 (nth_mem _ 48 rfl)
theorem ic_X12_mends : w_code me_X12_mends ∈ lw_tbl := tb_6 (nth_mem _ 59 rfl)
theorem ic_X12_cuts : w_code me_X12_cuts ∈ lw_tbl := tb_6 (nth_mem _ 63 rfl)
theorem ic_X12_exchanges : w_code me_X12_exchanges ∈ lw_tbl := tb_6 (nth_mem _ 16 rfl)
theorem ic_X12_changes : w_code me_X12_changes ∈ lw_tbl := tb_6 (nth_mem _ 67 rfl)
theorem ic_X12_notTwo : w_code me_X12_notTwo ∈ lw_tbl := tb_6 (nth_mem _ 75 rfl)
theorem ic_X12_gets : w_code me_X12_gets ∈ lw_tbl := tb_6 (nth_mem _ 71 rfl)
theorem ic_X12_whoGet : w_code me_X12_whoGet ∈ lw_tbl := tb_6 (nth_mem _ 87 rfl)
theorem ic_X12_farthestFrom : w_code me_X12_farthestFrom ∈ lw_tbl := tb_6 (nth_mem _ 99 rfl)
theorem ic_X12_blow : w_code me_X12_blow ∈ lw_tbl := tb_6 (nth_mem _ 83 rfl)
theorem ic_X12_reaches : w_code me_X12_reaches ∈ lw_tbl := tb_6 (nth_mem _ 106 rfl)
theorem ic_X12_breaks : w_code me_X12_breaks ∈ lw_tbl := tb_6 (nth_mem _ 110 rfl)
theorem ic_X12_harm : w_code me_X12_harm ∈ lw_tbl := tb_6 (nth_mem _ 114 rfl)
theorem ic_X12_tap : w_code me_X12_tap ∈ lw_tbl := tb_6 (nth_mem _ 118 rfl)
theorem ic_X12_isSo : w_code me_X12_isSo ∈ lw_tbl := tb_6 (nth_mem _ 126 rfl)
theorem ic_X12_who : w_code me_X12_who ∈ lw_tbl := tb_6 (nth_mem _ 122 rfl)
theorem ic_X12_bitsFor : w_code me_X12_bitsFor ∈ lw_tbl := tb_6 (nth_mem _ 134 rfl)
theorem ic_X12_whatKind : w_code me_X12_whatKind ∈ lw_tbl := tb_6 (nth_mem _ 130 rfl)
theorem ic_X12_worstOf : w_code me_X12_worstOf ∈ lw_tbl := tb_6 (nth_mem _ 142 rfl)
theorem ic_X12_mostBroken : w_code me_X12_mostBroken ∈ lw_tbl := tb_6 (nth_mem _ 146 rfl)
theorem ic_X12_worst : w_code me_X12_worst ∈ lw_tbl := tb_6 (nth_mem _ 138 rfl)
theorem ic_X12_bestCut : w_code me_X12_bestCut ∈ lw_tbl := tb_6 (nth_mem _ 150 rfl)
theorem ic_X12_nextOrder : w_code me_X12_nextOrder ∈ lw_tbl := tb_6 (nth_mem _ 170 rfl)
theorem ic_X12_sorts : w_code me_X12_sorts ∈ lw_tbl := tb_6 (nth_mem _ 166 rfl)
theorem ic_X12_findOrder : w_code me_X12_findOrder ∈ lw_tbl := tb_6 (nth_mem _ 158 rfl)
theorem ic_X12_order : w_code me_X12_order ∈ lw_tbl := tb_6 (nth_mem _ 154 rfl)
theorem ic_X12_findShortest : w_code me_X12_findShortest ∈ lw_tbl := tb_6 (nth_mem _ 182 rfl)
theorem ic_X12_walkOf : w_code me_X12_walkOf ∈ lw_tbl := tb_6 (nth_mem _ 191 rfl)
theorem ic_X12_shortestOf : w_code me_X12_shortestOf ∈ lw_tbl := tb_6 (nth_mem _ 187 rfl)
theorem ic_X12_walked : w_code me_X12_walked ∈ lw_tbl := tb_6 (nth_mem _ 195 rfl)
theorem ic_X12_walk : w_code me_X12_walk ∈ lw_tbl := tb_6 (nth_mem _ 178 rfl)
theorem ic_X12_others : w_code me_X12_others ∈ lw_tbl := tb_6 (nth_mem _ 207 rfl)
theorem ic_X12_leftToHer : w_code me_X12_leftToHer ∈ lw_tbl := tb_6 (nth_mem _ 203 rfl)
theorem ic_X12_woman : w_code me_X12_woman ∈ lw_tbl := tb_6 (nth_mem _ 199 rfl)
theorem ic_X12_nextWhole : w_code me_X12_nextWhole ∈ lw_tbl := tb_6 (nth_mem _ 215 rfl)
theorem ic_X12_lasts : w_code me_X12_lasts ∈ lw_tbl := tb_6 (nth_mem _ 211 rfl)
theorem ic_X12_left : w_code me_X12_left ∈ lw_tbl := tb_6 (nth_mem _ 219 rfl)
theorem ic_X12_divisor : w_code me_X12_divisor ∈ lw_tbl := tb_6 (nth_mem _ 237 rfl)
theorem ic_X12_power : w_code me_X12_power ∈ lw_tbl := tb_6 (nth_mem _ 234 rfl)
theorem ic_X12_ways : w_code me_X12_ways ∈ lw_tbl := tb_6 (nth_mem _ 231 rfl)
theorem ic_X12_chance : w_code me_X12_chance ∈ lw_tbl := tb_6 (nth_mem _ 223 rfl)
theorem ic_X12_apartBy : w_code me_X12_apartBy ∈ lw_tbl := tb_7 (nth_mem _ 5 rfl)
theorem ic_X12_twins : w_code me_X12_twins ∈ lw_tbl := tb_7 (nth_mem _ 1 rfl)
theorem ic_X12_heardBy : w_code me_X12_heardBy ∈ lw_tbl := tb_7 (nth_mem _ 13 rfl)
theorem ic_X12_hum : w_code me_X12_hum ∈ lw_tbl := tb_7 (nth_mem _ 9 rfl)
theorem ic_X12_apart : w_code me_X12_apart ∈ lw_tbl := tb_7 (nth_mem _ 17 rfl)
theorem ic_X12_heaps : w_code me_X12_heaps ∈ lw_tbl := tb_7 (nth_mem _ 21 rfl)
theorem ic_X12_codesOf : w_code me_X12_codesOf ∈ lw_tbl := tb_7 (nth_mem _ 29 rfl)
theorem ic_X12_codes : w_code me_X12_codes ∈ lw_tbl := tb_7 (nth_mem _ 25 rfl)
theorem ic_X12_secret : w_code me_X12_secret ∈ lw_tbl := tb_7 (nth_mem _ 33 rfl)
theorem ic_X12_tough : w_code me_X12_tough ∈ lw_tbl := tb_7 (nth_mem _ 37 rfl)
theorem ic_X12_centre : w_code me_X12_centre ∈ lw_tbl := tb_7 (nth_mem _ 41 rfl)
theorem ic_X12_manyBy : w_code me_X12_manyBy ∈ lw_tbl := tb_7 (nth_mem _ 49 rfl)
theorem ic_X12_bestMend : w_code me_X12_bestMend ∈ lw_tbl := tb_7 (nth_mem _ 45 rfl)
theorem ic_X12_bestFigure : w_code me_X12_bestFigure ∈ lw_tbl := tb_7 (nth_mem _ 53 rfl)
theorem ic_X12_domino : w_code me_X12_domino ∈ lw_tbl := tb_7 (nth_mem _ 57 rfl)
theorem ic_X12_linkOf : w_code me_X12_linkOf ∈ lw_tbl := tb_7 (nth_mem _ 65 rfl)
theorem ic_X12_longest : w_code me_X12_longest ∈ lw_tbl := tb_7 (nth_mem _ 61 rfl)
theorem ic_X12_spared : w_code me_X12_spared ∈ lw_tbl := tb_7 (nth_mem _ 69 rfl)
theorem ic_X12_hears : w_code me_X12_hears ∈ lw_tbl := tb_7 (nth_mem _ 77 rfl)
theorem ic_X12_mutual : w_code me_X12_mutual ∈ lw_tbl := tb_7 (nth_mem _ 73 rfl)
theorem ic_X12_row : w_code me_X12_row ∈ lw_tbl := tb_7 (nth_mem _ 81 rfl)
theorem ic_X12_judge : w_code me_X12_judge ∈ lw_tbl := tb_7 (nth_mem _ 85 rfl)
theorem ic_X12_clear : w_code me_X12_clear ∈ lw_tbl := tb_7 (nth_mem _ 89 rfl)
theorem ic_X12_draw : w_code me_X12_draw ∈ lw_tbl := tb_7 (nth_mem _ 97 rfl)
theorem ic_X12_lots : w_code me_X12_lots ∈ lw_tbl := tb_7 (nth_mem _ 93 rfl)
theorem ic_X12_count : w_code me_X12_count ∈ lw_tbl := tb_7 (nth_mem _ 104 rfl)
theorem ic_J6_bitCount_0f7a4 : w_code me_J6_bitCount_0f7a4 ∈ lw_tbl := tb_3 (nth_mem _ 48 rfl)
theorem ic_J13_bitCount_95d88 : w_code me_J13_bitCount_95d88 ∈ lw_tbl := tb_4 (nth_mem _ 170 rfl)
theorem in_code_0 : ∀ q ∈ am_M0, w_code q ∈ lw_tbl := List.forall_mem_cons.mpr ⟨ic_X0_none, List.forall_mem_cons.mpr ⟨ic_X0_offerLeast, List.forall_mem_cons.mpr ⟨ic_X0_offerMost, List.forall_mem_cons.mpr ⟨ic_X0_answer, List.forall_mem_cons.mpr ⟨ic_X1_leastHeard, List.forall_mem_cons.mpr ⟨ic_X1_leastBreaking, List.forall_mem_cons.mpr ⟨ic_X1_greatestHarmless, List.forall_mem_cons.mpr ⟨ic_X1_leastHarm, List.forall_mem_cons.mpr ⟨ic_X1_quietestTap, List.forall_mem_cons.mpr ⟨ic_X1_findDroppers, List.forall_mem_cons.mpr ⟨ic_X1_countDropping, List.forall_mem_cons.mpr ⟨ic_X1_kindsBy, List.forall_mem_cons.mpr ⟨ic_X1_figuresBy, List.forall_mem_cons.mpr ⟨ic_X1_strengths, List.forall_mem_cons.mpr ⟨ic_X2_firstBreakingDay, List.forall_mem_cons.mpr ⟨ic_X2_wholeBehind, List.forall_mem_cons.mpr ⟨ic_X2_brokenBehindAll, List.forall_mem_cons.mpr ⟨ic_X2_findOdds, List.forall_mem_cons.mpr ⟨ic_X2_power, List.forall_mem_cons.mpr ⟨ic_X2_commonDivisor, List.forall_mem_cons.mpr ⟨ic_X2_drawYears, List.forall_mem_cons.mpr ⟨ic_X2_draw, List.forall_mem_cons.mpr ⟨ic_X3_lossOf, List.forall_mem_cons.mpr ⟨ic_X3_standsOf, List.forall_mem_cons.mpr ⟨ic_X3_jumpBy, List.forall_mem_cons.mpr ⟨ic_X4_thingAt, List.forall_mem_cons.mpr ⟨ic_X4_mildest, List.forall_mem_cons.mpr ⟨ic_X4_mostBrokenBut, List.forall_mem_cons.mpr ⟨ic_X4_shortestWalk, List.forall_mem_cons.mpr ⟨ic_X4_sortByFarm, List.forall_mem_cons.mpr ⟨ic_X4_isAhead, List.forall_mem_cons.mpr ⟨ic_X5_keep, List.forall_mem_cons.mpr ⟨ic_X5_takeBack, fun _ h => absurd h List.not_mem_nil⟩⟩⟩⟩⟩⟩⟩⟩⟩⟩⟩⟩⟩⟩⟩⟩⟩⟩⟩⟩⟩⟩⟩⟩⟩⟩⟩⟩⟩⟩⟩⟩⟩
theorem in_code_1 : ∀ q ∈ am_M1, w_code q ∈ lw_tbl := List.forall_mem_cons.mpr ⟨ic_X5_forget, List.forall_mem_cons.mpr ⟨ic_X6_worstPlace, List.forall_mem_cons.mpr ⟨ic_X6_mildestCut, List.forall_mem_cons.mpr ⟨ic_X6_mostBroken, List.forall_mem_cons.mpr ⟨ic_X6_womansDrop, List.forall_mem_cons.mpr ⟨ic_X6_othersInSpite, List.forall_mem_cons.mpr ⟨ic_X6_mostAlike, List.forall_mem_cons.mpr ⟨ic_X6_addUnlike, List.forall_mem_cons.mpr ⟨ic_X6_allHeard, List.forall_mem_cons.mpr ⟨ic_X6_quietest, List.forall_mem_cons.mpr ⟨ic_X6_hearAll, List.forall_mem_cons.mpr ⟨ic_X6_mostHeard, List.forall_mem_cons.mpr ⟨ic_X6_mendHeardMost, List.forall_mem_cons.mpr ⟨ic_X6_figureHeardMost, List.forall_mem_cons.mpr ⟨ic_X6_longestLink, List.forall_mem_cons.mpr ⟨ic_X6_sparedBits, List.forall_mem_cons.mpr ⟨ic_X6_mutualTwos, List.forall_mem_cons.mpr ⟨ic_X7_hear, List.forall_mem_cons.mpr ⟨ic_X7_tellsJumps, List.forall_mem_cons.mpr ⟨ic_X7_firstNotInPlace, List.forall_mem_cons.mpr ⟨ic_X8_hear, List.forall_mem_cons.mpr ⟨ic_X8_firstMisfit, List.forall_mem_cons.mpr ⟨ic_X8_comeTo, List.forall_mem_cons.mpr ⟨ic_X8_refusalOf, List.forall_mem_cons.mpr ⟨ic_X8_act, List.forall_mem_cons.mpr ⟨ic_X8_blowIn, List.forall_mem_cons.mpr ⟨ic_X8_digit, List.forall_mem_cons.mpr ⟨ic_X8_isDigit, List.forall_mem_cons.mpr ⟨ic_X8_digitsBehind, List.forall_mem_cons.mpr ⟨ic_X9_strike, List.forall_mem_cons.mpr ⟨ic_X9_drop, List.forall_mem_cons.mpr ⟨ic_X9_spread, List.forall_mem_cons.mpr ⟨ic_X9_isHeardBy, fun _ h => absurd h List.not_mem_nil⟩⟩⟩⟩⟩⟩⟩⟩⟩⟩⟩⟩⟩⟩⟩⟩⟩⟩⟩⟩⟩⟩⟩⟩⟩⟩⟩⟩⟩⟩⟩⟩⟩
theorem in_code_2 : ∀ q ∈ am_M2, w_code q ∈ lw_tbl := List.forall_mem_cons.mpr ⟨ic_X9_hasBroken, List.forall_mem_cons.mpr ⟨ic_X9_hearerCount, List.forall_mem_cons.mpr ⟨ic_X9_brokenCount, List.forall_mem_cons.mpr ⟨ic_X9_othersBroken, List.forall_mem_cons.mpr ⟨ic_X9_jumpIn, List.forall_mem_cons.mpr ⟨ic_X9_jumpsIn, List.forall_mem_cons.mpr ⟨ic_X9_farthestIn, List.forall_mem_cons.mpr ⟨ic_X10_copy, List.forall_mem_cons.mpr ⟨ic_X10_noThing, List.forall_mem_cons.mpr ⟨ic_X10_noLink, List.forall_mem_cons.mpr ⟨ic_X10_joinRefusal, List.forall_mem_cons.mpr ⟨ic_X10_dropRefusal, List.forall_mem_cons.mpr ⟨ic_X10_mendRefusal, List.forall_mem_cons.mpr ⟨ic_X10_changeRefusal, List.forall_mem_cons.mpr ⟨ic_X10_join, List.forall_mem_cons.mpr ⟨ic_X10_mend, List.forall_mem_cons.mpr ⟨ic_X10_turnCut, List.forall_mem_cons.mpr ⟨ic_X10_exchange, List.forall_mem_cons.mpr ⟨ic_X10_isBroken, List.forall_mem_cons.mpr ⟨ic_X10_isCut, List.forall_mem_cons.mpr ⟨ic_X10_wholeBits, List.forall_mem_cons.mpr ⟨ic_X10_allLoss, List.forall_mem_cons.mpr ⟨ic_X10_nextWhole, List.forall_mem_cons.mpr ⟨ic_X10_wayOver, List.forall_mem_cons.mpr ⟨ic_X10_walkLength, List.forall_mem_cons.mpr ⟨ic_X10_stretches, List.forall_mem_cons.mpr ⟨ic_X10_layInTurnUncut, List.forall_mem_cons.mpr ⟨ic_X10_layNextOrder, List.forall_mem_cons.mpr ⟨ic_X11_feed, List.forall_mem_cons.mpr ⟨ic_X11_valley, List.forall_mem_cons.mpr ⟨ic_X11_thingOf, List.forall_mem_cons.mpr ⟨ic_X11_place, List.forall_mem_cons.mpr ⟨ic_X11_thing, fun _ h => absurd h List.not_mem_nil⟩⟩⟩⟩⟩⟩⟩⟩⟩⟩⟩⟩⟩⟩⟩⟩⟩⟩⟩⟩⟩⟩⟩⟩⟩⟩⟩⟩⟩⟩⟩⟩⟩
theorem in_code_3 : ∀ q ∈ am_M3, w_code q ∈ lw_tbl := List.forall_mem_cons.mpr ⟨ic_X11_drops, List.forall_mem_cons.mpr ⟨ic_X11_mends, List.forall_mem_cons.mpr ⟨ic_X11_cuts, List.forall_mem_cons.mpr ⟨ic_X11_changes, List.forall_mem_cons.mpr ⟨ic_X11_back, List.forall_mem_cons.mpr ⟨ic_X11_gets, List.forall_mem_cons.mpr ⟨ic_X11_blow, List.forall_mem_cons.mpr ⟨ic_X11_reaches, List.forall_mem_cons.mpr ⟨ic_X11_breaks, List.forall_mem_cons.mpr ⟨ic_X11_harm, List.forall_mem_cons.mpr ⟨ic_X11_tap, List.forall_mem_cons.mpr ⟨ic_X11_who, List.forall_mem_cons.mpr ⟨ic_X11_whatKind, List.forall_mem_cons.mpr ⟨ic_X11_worst, List.forall_mem_cons.mpr ⟨ic_X11_bestCut, List.forall_mem_cons.mpr ⟨ic_X11_order, List.forall_mem_cons.mpr ⟨ic_X11_walk, List.forall_mem_cons.mpr ⟨ic_X11_woman, List.forall_mem_cons.mpr ⟨ic_X11_lasts, List.forall_mem_cons.mpr ⟨ic_X11_left, List.forall_mem_cons.mpr ⟨ic_X11_chance, List.forall_mem_cons.mpr ⟨ic_X11_twins, List.forall_mem_cons.mpr ⟨ic_X11_hum, List.forall_mem_cons.mpr ⟨ic_X11_apart, List.forall_mem_cons.mpr ⟨ic_X11_heaps, List.forall_mem_cons.mpr ⟨ic_X11_codes, List.forall_mem_cons.mpr ⟨ic_X11_secret, List.forall_mem_cons.mpr ⟨ic_X11_tough, List.forall_mem_cons.mpr ⟨ic_X11_centre, List.forall_mem_cons.mpr ⟨ic_X11_bestMend, List.forall_mem_cons.mpr ⟨ic_X11_bestFigure, List.forall_mem_cons.mpr ⟨ic_X11_domino, List.forall_mem_cons.mpr ⟨ic_X11_longest, fun _ h => absurd h List.not_mem_nil⟩⟩⟩⟩⟩⟩⟩⟩⟩⟩⟩⟩⟩⟩⟩⟩⟩⟩⟩⟩⟩⟩⟩⟩⟩⟩⟩⟩⟩⟩⟩⟩⟩
theorem in_code_4 : ∀ q ∈ am_M4, w_code q ∈ lw_tbl := List.forall_mem_cons.mpr ⟨ic_X11_spared, List.forall_mem_cons.mpr ⟨ic_X11_mutual, List.forall_mem_cons.mpr ⟨ic_X11_row, List.forall_mem_cons.mpr ⟨ic_X11_judge, List.forall_mem_cons.mpr ⟨ic_X11_clear, List.forall_mem_cons.mpr ⟨ic_X11_lots, List.forall_mem_cons.mpr ⟨ic_X11_image, List.forall_mem_cons.mpr ⟨ic_X11_restore, List.forall_mem_cons.mpr ⟨ic_X11_count, List.forall_mem_cons.mpr ⟨ic_X11_refuse, List.forall_mem_cons.mpr ⟨ic_X11_rowTooLong, List.forall_mem_cons.mpr ⟨ic_X11_first, List.forall_mem_cons.mpr ⟨ic_X11_below, List.forall_mem_cons.mpr ⟨ic_X11_above, List.forall_mem_cons.mpr ⟨ic_X11_noBlow, List.forall_mem_cons.mpr ⟨ic_X11_unknown, List.forall_mem_cons.mpr ⟨ic_X12_no, List.forall_mem_cons.mpr ⟨ic_X12_lowest, List.forall_mem_cons.mpr ⟨ic_X12_isIn, List.forall_mem_cons.mpr ⟨ic_X12_bound, List.forall_mem_cons.mpr ⟨ic_X12_notBlow, List.forall_mem_cons.mpr ⟨ic_X12_has, List.forall_mem_cons.mpr ⟨ic_X12_bits, List.forall_mem_cons.mpr ⟨ic_X12_far, List.forall_mem_cons.mpr ⟨ic_X12_isThing, List.forall_mem_cons.mpr ⟨ic_X12_isLink, List.forall_mem_cons.mpr ⟨ic_X12_feed, List.forall_mem_cons.mpr ⟨ic_X12_next, List.forall_mem_cons.mpr ⟨ic_X12_readsDigits, List.forall_mem_cons.mpr ⟨ic_X12_readsAll, List.forall_mem_cons.mpr ⟨ic_X12_statement, List.forall_mem_cons.mpr ⟨ic_X12_comesDrop, List.forall_mem_cons.mpr ⟨ic_X12_comesOther, fun _ h => absurd h List.not_mem_nil⟩⟩⟩⟩⟩⟩⟩⟩⟩⟩⟩⟩⟩⟩⟩⟩⟩⟩⟩⟩⟩⟩⟩⟩⟩⟩⟩⟩⟩⟩⟩⟩⟩
theorem in_code_5 : ∀ q ∈ am_M5, w_code q ∈ lw_tbl := List.forall_mem_cons.mpr ⟨ic_X12_comes, List.forall_mem_cons.mpr ⟨ic_X12_valley, List.forall_mem_cons.mpr ⟨ic_X12_passes, List.forall_mem_cons.mpr ⟨ic_X12_passOne, List.forall_mem_cons.mpr ⟨ic_X12_passesAll, List.forall_mem_cons.mpr ⟨ic_X12_thinks, List.forall_mem_cons.mpr ⟨ic_X12_forgets, List.forall_mem_cons.mpr ⟨ic_X12_keepsBack, List.forall_mem_cons.mpr ⟨ic_X12_back, List.forall_mem_cons.mpr ⟨ic_X12_image, List.forall_mem_cons.mpr ⟨ic_X12_restore, List.forall_mem_cons.mpr ⟨ic_X12_adds, List.forall_mem_cons.mpr ⟨ic_X12_lossOf, List.forall_mem_cons.mpr ⟨ic_X12_standsOf, List.forall_mem_cons.mpr ⟨ic_X12_jumpOf, List.forall_mem_cons.mpr ⟨ic_X12_placeOf, List.forall_mem_cons.mpr ⟨ic_X12_lands, List.forall_mem_cons.mpr ⟨ic_X12_goesAlong, List.forall_mem_cons.mpr ⟨ic_X12_findBlow, List.forall_mem_cons.mpr ⟨ic_X12_breaksBy, List.forall_mem_cons.mpr ⟨ic_X12_manyGet, List.forall_mem_cons.mpr ⟨ic_X12_allJumps, List.forall_mem_cons.mpr ⟨ic_X12_thingOf, List.forall_mem_cons.mpr ⟨ic_X12_place, List.forall_mem_cons.mpr ⟨ic_X12_thing, List.forall_mem_cons.mpr ⟨ic_X12_drops, List.forall_mem_cons.mpr ⟨ic_X12_mends, List.forall_mem_cons.mpr ⟨ic_X12_cuts, List.forall_mem_cons.mpr ⟨ic_X12_exchanges, List.forall_mem_cons.mpr ⟨ic_X12_changes, List.forall_mem_cons.mpr ⟨ic_X12_notTwo, List.forall_mem_cons.mpr ⟨ic_X12_gets, List.forall_mem_cons.mpr ⟨ic_X12_whoGet, fun _ h => absurd h List.not_mem_nil⟩⟩⟩⟩⟩⟩⟩⟩⟩⟩⟩⟩⟩⟩⟩⟩⟩⟩⟩⟩⟩⟩⟩⟩⟩⟩⟩⟩⟩⟩⟩⟩⟩
theorem in_code_6 : ∀ q ∈ am_M6, w_code q ∈ lw_tbl := List.forall_mem_cons.mpr ⟨ic_X12_farthestFrom, List.forall_mem_cons.mpr ⟨ic_X12_blow, List.forall_mem_cons.mpr ⟨ic_X12_reaches, List.forall_mem_cons.mpr ⟨ic_X12_breaks, List.forall_mem_cons.mpr ⟨ic_X12_harm, List.forall_mem_cons.mpr ⟨ic_X12_tap, List.forall_mem_cons.mpr ⟨ic_X12_isSo, List.forall_mem_cons.mpr ⟨ic_X12_who, List.forall_mem_cons.mpr ⟨ic_X12_bitsFor, List.forall_mem_cons.mpr ⟨ic_X12_whatKind, List.forall_mem_cons.mpr ⟨ic_X12_worstOf, List.forall_mem_cons.mpr ⟨ic_X12_mostBroken, List.forall_mem_cons.mpr ⟨ic_X12_worst, List.forall_mem_cons.mpr ⟨ic_X12_bestCut, List.forall_mem_cons.mpr ⟨ic_X12_nextOrder, List.forall_mem_cons.mpr ⟨ic_X12_sorts, List.forall_mem_cons.mpr ⟨ic_X12_findOrder, List.forall_mem_cons.mpr ⟨ic_X12_order, List.forall_mem_cons.mpr ⟨ic_X12_findShortest, List.forall_mem_cons.mpr ⟨ic_X12_walkOf, List.forall_mem_cons.mpr ⟨ic_X12_shortestOf, List.forall_mem_cons.mpr ⟨ic_X12_walked, List.forall_mem_cons.mpr ⟨ic_X12_walk, List.forall_mem_cons.mpr ⟨ic_X12_others, List.forall_mem_cons.mpr ⟨ic_X12_leftToHer, List.forall_mem_cons.mpr ⟨ic_X12_woman, List.forall_mem_cons.mpr ⟨ic_X12_nextWhole, List.forall_mem_cons.mpr ⟨ic_X12_lasts, List.forall_mem_cons.mpr ⟨ic_X12_left, List.forall_mem_cons.mpr ⟨ic_X12_divisor, List.forall_mem_cons.mpr ⟨ic_X12_power, List.forall_mem_cons.mpr ⟨ic_X12_ways, List.forall_mem_cons.mpr ⟨ic_X12_chance, fun _ h => absurd h List.not_mem_nil⟩⟩⟩⟩⟩⟩⟩⟩⟩⟩⟩⟩⟩⟩⟩⟩⟩⟩⟩⟩⟩⟩⟩⟩⟩⟩⟩⟩⟩⟩⟩⟩⟩
theorem in_code_7 : ∀ q ∈ am_M7, w_code q ∈ lw_tbl := List.forall_mem_cons.mpr ⟨ic_X12_apartBy, List.forall_mem_cons.mpr ⟨ic_X12_twins, List.forall_mem_cons.mpr ⟨ic_X12_heardBy, List.forall_mem_cons.mpr ⟨ic_X12_hum, List.forall_mem_cons.mpr ⟨ic_X12_apart, List.forall_mem_cons.mpr ⟨ic_X12_heaps, List.forall_mem_cons.mpr ⟨ic_X12_codesOf, List.forall_mem_cons.mpr ⟨ic_X12_codes, List.forall_mem_cons.mpr ⟨ic_X12_secret, List.forall_mem_cons.mpr ⟨ic_X12_tough, List.forall_mem_cons.mpr ⟨ic_X12_centre, List.forall_mem_cons.mpr ⟨ic_X12_manyBy, List.forall_mem_cons.mpr ⟨ic_X12_bestMend, List.forall_mem_cons.mpr ⟨ic_X12_bestFigure, List.forall_mem_cons.mpr ⟨ic_X12_domino, List.forall_mem_cons.mpr ⟨ic_X12_linkOf, List.forall_mem_cons.mpr ⟨ic_X12_longest, List.forall_mem_cons.mpr ⟨ic_X12_spared, List.forall_mem_cons.mpr ⟨ic_X12_hears, List.forall_mem_cons.mpr ⟨ic_X12_mutual, List.forall_mem_cons.mpr ⟨ic_X12_row, List.forall_mem_cons.mpr ⟨ic_X12_judge, List.forall_mem_cons.mpr ⟨ic_X12_clear, List.forall_mem_cons.mpr ⟨ic_X12_draw, List.forall_mem_cons.mpr ⟨ic_X12_lots, List.forall_mem_cons.mpr ⟨ic_X12_count, List.forall_mem_cons.mpr ⟨ic_J6_bitCount_0f7a4, List.forall_mem_cons.mpr ⟨ic_J13_bitCount_95d88, fun _ h => absurd h List.not_mem_nil⟩⟩⟩⟩⟩⟩⟩⟩⟩⟩⟩⟩⟩⟩⟩⟩⟩⟩⟩⟩⟩⟩⟩⟩⟩⟩⟩⟩
theorem in_code : ∀ q ∈ am_MT, w_code q ∈ lw_tbl := by
  intro q h
  simp only [am_MT, List.mem_append] at h
  rcases h with h | h | h | h | h | h | h | h
  · exact in_code_0 q h
  · exact in_code_1 q h
  · exact in_code_2 q h
  · exact in_code_3 q h
  · exact in_code_4 q h
  · exact in_code_5 q h
  · exact in_code_6 q h
  · exact in_code_7 q h
end
section
/-! THE ABSTRACT MACHINE: one step as a predicate, over a heap of numbered cells -/
def am_g : AL → Nat → (Value → Prop) → Prop
  | [], _, _ => False
  | some v :: _, 0, k => k v
  | none :: _, 0, _ => False
  | _ :: t, n + 1, k => am_g t n k
def am_nl (o : Option Value) (k : Option Value → Prop) : Prop := match o with
  | none => k none
  | some v => match v with
    | .long _ => k none
    | .double _ => k none
    | v => k (some v)
def am_st : AL → Nat → Value → (AL → Prop) → Prop
  | [], _, _, _ => False
  | _ :: t, 0, v, k => k (some v :: t)
  | o :: t, n + 1, v, k => match n with
    | 0 => match t with
      | [] => False
      | _ :: t2 => am_nl o (fun o2 => k (o2 :: some v :: t2))
    | _ + 1 => am_st t n v (fun t2 => k (o :: t2))
def am_st2 : AL → Nat → Value → (AL → Prop) → Prop
  | [], _, _, _ => False
  | _ :: t, 0, v, k => match t with
    | [] => False
    | _ :: t2 => k (some v :: none :: t2)
  | o :: t, n + 1, v, k => match n with
    | 0 => match t with
      | _ :: _ :: t2 => am_nl o (fun o2 => k (o2 :: some v :: none :: t2))
      | _ => False
    | _ + 1 => am_st2 t n v (fun t2 => k (o :: t2))
def am_pad : Nat → (AL → Prop) → Prop
  | 0, k => k []
  | n + 1, k => am_pad n (fun t => k (none :: t))
def am_ent : List Value → Nat → (AL → Prop) → Prop
  | [], n, k => am_pad n k
  | v :: vs, n, k => match v with
    | .long x => match n with
      | m + 2 => am_ent vs m (fun t => k (some (.long x) :: none :: t))
      | _ => False
    | .double _ => False
    | v => match n with
      | m + 1 => am_ent vs m (fun t => k (some v :: t))
      | _ => False
def am_hg : AH → Nat → (AC → Prop) → Prop
  | [], _, _ => False
  | c :: _, 0, k => k c
  | _ :: t, n + 1, k => am_hg t n k
def am_hs : AH → Nat → AC → (AH → Prop) → Prop
  | [], _, _, _ => False
  | _ :: t, 0, c, k => k (c :: t)
  | a :: t, n + 1, c, k => am_hs t n c (fun t2 => k (a :: t2))
def am_fg : List Value → Nat → (Value → Prop) → Prop
  | [], _, _ => False
  | v :: _, 0, k => k v
  | _ :: t, n + 1, k => am_fg t n k
def am_fs : List Value → Nat → Value → (List Value → Prop) → Prop
  | [], _, _, _ => False
  | _ :: t, 0, v, k => k (v :: t)
  | a :: t, n + 1, v, k => am_fs t n v (fun t2 => k (a :: t2))
def am_pop : Nat → List Value → List Value → (List Value → List Value → Prop) → Prop
  | 0, S, acc, k => k acc S
  | _ + 1, [], _, _ => False
  | n + 1, v :: S, acc, k => am_pop n S (v :: acc) k
def am_cat : List Value → Nat
  | [] => 0
  | v :: t => v.category + am_cat t
def am_psh (r : Option Value) (S : List Value) : List Value := match r with
  | none => S
  | some v => v :: S
def am_pv (t : Nat) (v : Value) (P : Prop) : Prop := match t with
  | 0 => match v with
    | .int _ => P
    | _ => False
  | 1 => match v with
    | .long _ => P
    | _ => False
  | 2 => match v with
    | .int x => (x = 0 ∨ x = 1) ∧ P
    | _ => False
  | _ => False
def am_b (c A B : Prop) : Prop := (c → A) ∧ (¬ c → B)
def am_c1 (c : Jvm.ClassFile.Cond) (x : Int32) (A B : Prop) : Prop := match c with
  | .eq => am_b (x = 0) A B
  | .ne => am_b (x = 0) B A
  | .lt => am_b (x < 0) A B
  | .ge => am_b (0 ≤ x) A B
  | .gt => am_b (0 < x) A B
  | .le => am_b (x ≤ 0) A B
def am_c2 (c : Jvm.ClassFile.Cond) (x y : Int32) (A B : Prop) : Prop := match c with
  | .eq => am_b (x = y) A B
  | .ne => am_b (x = y) B A
  | .lt => am_b (x < y) A B
  | .ge => am_b (y ≤ x) A B
  | .gt => am_b (y < x) A B
  | .le => am_b (x ≤ y) A B
def am_tab (x : Int32) : Nat → List Int → (Nat → Prop) → Prop → Prop
  | _, [], _, D => D
  | c, t :: ts, J, D => am_b (x = nI c) (J t.toNat) (am_tab x (c + 1) ts J D)
def am_lkp (x : Int32) : List (Int × Int) → (Nat → Prop) → Prop → Prop
  | [], _, D => D
  | q :: ts, J, D => am_b (x = nI q.1.toNat) (J q.2.toNat) (am_lkp x ts J D)
def am_inc (x : Int32) (n : Int) : Int32 := match n with
  | .ofNat k => x + nI k
  | .negSucc k => x - nI (k + 1)
def am_i0 (nx : AL → List Value → AH → Prop) (L : AL) (S : List Value) (h : AH) : Prop := match S with
  | .int n :: .int dp :: .ref b :: .int sp :: .ref a :: S => bif Nat.ble (am_cat S) 8 then
    am_hg h a (fun c0 => am_hg h b (fun c1 => match c0 with
      | .inl (n0, f) => match c1 with
        | .inl (n1, g) => ((¬ sp < 0) ∧ (¬ dp < 0) ∧ (¬ n < 0) ∧ sp.toNatClampNeg + n.toNatClampNeg ≤ n0 ∧ dp.toNatClampNeg + n.toNatClampNeg ≤ n1) ∧
          am_hs h b (.inl (n1, va_cpy f g sp.toNatClampNeg dp.toNatClampNeg n.toNatClampNeg)) (fun h => nx L S h)
        | _ => False
      | _ => False)) else False
  | _ => False
def am_i1 (nx : AL → List Value → AH → Prop) (L : AL) (S : List Value) (h : AH) : Prop := match S with
  | .int y :: .int x :: S => bif Nat.ble (am_cat S) 8 then nx L (.int (if x < y then y else x) :: S) h else False
  | _ => False
def am_i2 (nx : AL → List Value → AH → Prop) (L : AL) (S : List Value) (h : AH) : Prop := match S with
  | .int y :: .int x :: S => bif Nat.ble (am_cat S) 8 then nx L (.int (if y < x then y else x) :: S) h else False
  | _ => False
def am_i3 (nx : AL → List Value → AH → Prop) (L : AL) (S : List Value) (h : AH) : Prop := match S with
  | .int x :: S => bif Nat.ble (am_cat S) 8 then nx L (.int (if 0 ≤ x then x else 0 - x) :: S) h else False
  | _ => False
def am_i4 (nx : AL → List Value → AH → Prop) (L : AL) (S : List Value) (h : AH) : Prop := match S with
  | .long y :: .long x :: S => bif Nat.ble (am_cat S) 8 then nx L (.long (if y < x then x else y) :: S) h else False
  | _ => False
def am_stp (ri : Instr) (nx : AL → List Value → AH → Prop) (J : Nat → AL → List Value → AH → Prop) (C : Nat → List Value → AL → List Value → AH → Prop) (R : Option Value → AH → Prop) (L : AL) (S : List Value) (h : AH) : Prop :=
  match ri with
  | .iload i => am_g L i (fun v => match v with | .int x => nx L (.int x :: S) h | _ => False)
  | .lload i => am_g L i (fun v => match v with | .long x => nx L (.long x :: S) h | _ => False)
  | .aload i => am_g L i (fun v => match v with | .ref x => nx L (.ref x :: S) h | _ => False)
  | .istore i => match S with | .int x :: S => am_st L i (.int x) (fun L => nx L S h) | _ => False
  | .astore i => match S with | .ref x :: S => am_st L i (.ref x) (fun L => nx L S h) | _ => False
  | .lstore i => match S with | .long x :: S => am_st2 L i (.long x) (fun L => nx L S h) | _ => False
  | .iinc i n => am_g L i (fun v => match v with | .int x => am_st L i (.int (am_inc x n)) (fun L => nx L S h) | _ => False)
  | .anewarray n => nx L (.int (nI n) :: S) h
  | .iconst n => nx L (.int (Int32.ofInt n) :: S) h
  | .ldc2_w n => nx L (.long (Int64.ofNat n) :: S) h
  | .iadd => match S with | .int y :: .int x :: S => nx L (.int (x + y) :: S) h | _ => False
  | .isub => match S with | .int y :: .int x :: S => nx L (.int (x - y) :: S) h | _ => False
  | .imul => match S with | .int y :: .int x :: S => nx L (.int (x * y) :: S) h | _ => False
  | .iand => match S with | .int y :: .int x :: S => nx L (.int (x &&& y) :: S) h | _ => False
  | .ior => match S with | .int y :: .int x :: S => nx L (.int (x ||| y) :: S) h | _ => False
  | .ixor => match S with | .int y :: .int x :: S => nx L (.int (x ^^^ y) :: S) h | _ => False
  | .idiv => match S with | .int y :: .int x :: S => (¬ y = 0) ∧ nx L (.int (x / y) :: S) h | _ => False
  | .irem => match S with | .int y :: .int x :: S => (¬ y = 0) ∧ nx L (.int (x - x / y * y) :: S) h | _ => False
  | .ineg => match S with | .int x :: S => nx L (.int (-x) :: S) h | _ => False
  | .ishl => match S with | .int y :: .int x :: S => nx L (.int (x <<< (y &&& 31)) :: S) h | _ => False
  | .ishr => match S with | .int y :: .int x :: S => nx L (.int (x >>> (y &&& 31)) :: S) h | _ => False
  | .iushr => match S with | .int y :: .int x :: S => nx L (.int (x.toUInt32 >>> (y.toUInt32 &&& Int32.toUInt32 31)).toInt32 :: S) h | _ => False
  | .ladd => match S with | .long y :: .long x :: S => nx L (.long (x + y) :: S) h | _ => False
  | .lsub => match S with | .long y :: .long x :: S => nx L (.long (x - y) :: S) h | _ => False
  | .lmul => match S with | .long y :: .long x :: S => nx L (.long (x * y) :: S) h | _ => False
  | .land => match S with | .long y :: .long x :: S => nx L (.long (x &&& y) :: S) h | _ => False
  | .lor => match S with | .long y :: .long x :: S => nx L (.long (x ||| y) :: S) h | _ => False
  | .ldiv => match S with | .long y :: .long x :: S => (¬ y = 0) ∧ nx L (.long (x / y) :: S) h | _ => False
  | .lrem => match S with | .long y :: .long x :: S => (¬ y = 0) ∧ nx L (.long (x - x / y * y) :: S) h | _ => False
  | .lshl => match S with | .int y :: .long x :: S => nx L (.long (x <<< (y.toInt64 &&& 63)) :: S) h | _ => False
  | .lshr => match S with | .int y :: .long x :: S => nx L (.long (x >>> (y.toInt64 &&& 63)) :: S) h | _ => False
  | .lushr => match S with | .int y :: .long x :: S => nx L (.long (x.toUInt64 >>> (y.toInt64.toUInt64 &&& Int64.toUInt64 63)).toInt64 :: S) h | _ => False
  | .i2l => match S with | .int x :: S => nx L (.long x.toInt64 :: S) h | _ => False
  | .l2i => match S with | .long x :: S => nx L (.int x.toInt32 :: S) h | _ => False
  | .lcmp => match S with | .long y :: .long x :: S => nx L (.int (lg_cmp x y) :: S) h | _ => False
  | .dup => match S with
    | .int x :: S => nx L (.int x :: .int x :: S) h
    | .ref x :: S => nx L (.ref x :: .ref x :: S) h
    | _ => False
  | .dup2 => match S with
    | .long x :: S => nx L (.long x :: .long x :: S) h
    | .int y :: .ref x :: S => nx L (.int y :: .ref x :: .int y :: .ref x :: S) h
    | _ => False
  | .pop => match S with
    | .int _ :: S => nx L S h
    | .ref _ :: S => nx L S h
    | _ => False
  | .if_icmp c t => match S with | .int y :: .int x :: S => am_c2 c x y (J t.toNat L S h) (nx L S h) | _ => False
  | .ifCond c t => match S with | .int x :: S => am_c1 c x (J t.toNat L S h) (nx L S h) | _ => False
  | .goto t => J t.toNat L S h
  | .tableswitch d lo _ ts => match S with | .int x :: S => am_tab x lo.toNat ts.toList (fun t => J t L S h) (J d.toNat L S h) | _ => False
  | .lookupswitch d ps => match S with | .int x :: S => am_lkp x ps.toList (fun t => J t L S h) (J d.toNat L S h) | _ => False
  | .getfield r => match S with
    | .ref a :: S => am_hg h a (fun c => match c with
      | .inr (.inr (ci, fs)) => bif Nat.beq ci (r / 100) then am_fg fs (r % 100) (fun v => nx L (v :: S) h) else False
      | _ => False)
    | _ => False
  | .putfield r => match S with
    | v :: .ref a :: S => am_hg h a (fun c => match c with
      | .inr (.inr (ci, fs)) => bif Nat.beq ci (r % 10000 / 100) then am_pv (r / 10000) v (am_fs fs (r % 100) v (fun fs => am_hs h a (.inr (.inr (ci, fs))) (fun h => nx L S h))) else False
      | _ => False)
    | _ => False
  | .iaload => match S with
    | .int i :: .ref a :: S => am_hg h a (fun c => match c with
      | .inl (n, f) => vp_in i n ∧ nx L (.int (f i.toNatClampNeg) :: S) h
      | _ => False)
    | _ => False
  | .iastore => match S with
    | .int x :: .int i :: .ref a :: S => am_hg h a (fun c => match c with
      | .inl (n, f) => vp_in i n ∧ am_hs h a (.inl (n, upd f i.toNatClampNeg x)) (fun h => nx L S h)
      | _ => False)
    | _ => False
  | .aaload => match S with
    | .int i :: .ref a :: S => am_hg h a (fun c => match c with
      | .inr (.inl (n, f)) => vp_in i n ∧ (match f i.toNatClampNeg with
        | some q => nx L (.ref q :: S) h
        | none => False)
      | _ => False)
    | _ => False
  | .arraylength => match S with
    | .ref a :: S => am_hg h a (fun c => match c with
      | .inl (n, _) => nx L (.int (nI n) :: S) h
      | _ => False)
    | _ => False
  | .invokeinterface r n => am_pop n S [] (fun args S => bif Nat.ble (am_cat S) 8 then (match r % 100 with
      | 0 => C (r / 100) args L S h
      | c + 1 => match args with
        | .ref a :: _ => am_hg h a (fun q => match q with
          | .inr (.inr (ci, _)) => bif Nat.beq ci c then C (r / 100) args L S h else False
          | _ => False)
        | _ => False) else False)
  | .invokedynamic t => match t with
    | 0 => am_i0 nx L S h
    | 1 => am_i1 nx L S h
    | 2 => am_i2 nx L S h
    | 3 => am_i3 nx L S h
    | 4 => am_i4 nx L S h
    | _ => False
  | .ireturn => match S with | [.int x] => R (some (.int x)) h | _ => False
  | .dreturn => match S with | [.int x] => (x = 0 ∨ x = 1) ∧ R (some (.int x)) h | _ => False
  | .lreturn => match S with | [.long x] => R (some (.long x)) h | _ => False
  | .areturn => match S with | [.ref x] => R (some (.ref x)) h | _ => False
  | .return_ => match S with | [] => R none h | _ => False
  | _ => False
/-! how a resolved step stands for what the bytes say -/
def am_k4 (i : Nat) (f : Fin 4 → Instr) (raw : Instr) (len : Nat) : Bool := if h : i < 4 then decide (raw = f ⟨i, h⟩) && Nat.beq len 1 else false
def am_const (o : Nat) (raw : Instr) (len : Nat) (v : Int) : Bool := match raw with
  | .iconst n => Nat.beq len 1 && decide (Int32.ofInt n = Int32.ofInt v)
  | .bipush n => Nat.beq len 2 && decide ((Int8.ofInt n).toInt32 = Int32.ofInt v)
  | .sipush n => Nat.beq len 3 && decide ((Int16.ofInt n).toInt32 = Int32.ofInt v)
  | .ldc i => Nat.beq len 2 && decide ((o, i, v) ∈ am_CL)
  | .ldc_w i => Nat.beq len 3 && decide ((o, i, v) ∈ am_CL)
  | _ => false
def am_constL (o : Nat) (raw : Instr) (len : Nat) (v : Nat) : Bool := match raw with
  | .lconst n => Nat.beq len 1 && Nat.beq n.val v
  | .ldc2_w i => Nat.beq len 3 && decide ((o, i, v) ∈ am_LL)
  | _ => false
def am_off (pc : Nat) (off t : Int) : Bool := decide ((pc : Int) + off = (t.toNat : Int))
def am_inv (o : Nat) (raw : Instr) (len : Nat) (r n : Nat) : Bool := match raw with
  | .invokevirtual i => Nat.beq len 3 && (decide ((o, i, r / 100) ∈ am_ML) && (decide (nth am_PN (r / 100) = some n) && (Nat.blt 0 (r % 100) && (Nat.blt 0 n && decide (nth am_CI (r / 100) = some (r % 100))))))
  | .invokestatic i => Nat.beq len 3 && ((decide ((o, i, r / 100) ∈ am_ML) || decide ((o, i, r / 100) ∈ am_NL)) && (decide (nth am_PN (r / 100) = some n) && (Nat.beq (r % 100) 0 && decide (nth am_CI (r / 100) = some 0))))
  | _ => false
def am_fld (o : Nat) (raw : Instr) (len : Nat) (r : Nat) : Bool := match raw with
  | .getfield i => Nat.beq len 3 && decide ((o, i, r / 100, r % 100) ∈ am_FL)
  | _ => false
def am_tag (t : Nat) : FieldType := match t with
  | 0 => .int
  | 1 => .long
  | _ => .boolean
def am_pfl (o : Nat) (raw : Instr) (len : Nat) (r : Nat) : Bool := match raw with
  | .putfield i => Nat.beq len 3 && (decide ((o, i, r % 10000 / 100, r % 100) ∈ am_FL) && (match nth am_cl (r % 10000 / 100) with
    | some q => !(q.2.1 (r % 100)).2.2.2 && decide (parseFieldDescriptor (q.2.1 (r % 100)).2.2.1 = some (am_tag (r / 10000)))
    | none => false))
  | _ => false
def am_brr (pc : Nat) (raw : Instr) (len : Nat) (ri : Instr) : Bool := match raw with
  | .if_icmp c off => match ri with | .if_icmp c2 t => Nat.beq len 3 && (decide (c = c2) && am_off pc off t) | _ => false
  | .ifCond c off => match ri with | .ifCond c2 t => Nat.beq len 3 && (decide (c = c2) && am_off pc off t) | _ => false
  | .goto off => match ri with | .goto t => Nat.beq len 3 && am_off pc off t | _ => false
  | .tableswitch d lo hi offs => match ri with
    | .tableswitch d2 lo2 _ ts => am_off pc d d2 && (decide (lo = lo2) && (decide (0 ≤ lo) && (decide (hi < 1000) && (decide ((offs.size : Int) = hi + 1 - lo) && (Nat.beq ts.size offs.size && (List.zip offs.toList ts.toList).all (fun q => am_off pc q.1 q.2))))))
    | _ => false
  | .lookupswitch d ps => match ri with
    | .lookupswitch d2 qs => am_off pc d d2 && (Nat.beq ps.size qs.size && ((List.zip ps.toList qs.toList).all (fun q => decide (q.1.1 = q.2.1) && (decide (0 ≤ q.1.1) && (decide (q.1.1 < 1000) && am_off pc q.1.2 q.2.2))) && (ps.toList.zip (ps.toList.drop 1)).all (fun (a, next) => decide (a.1 < next.1))))
    | _ => false
  | _ => false
def am_ok (o : Nat) (ret : Option FieldType) (pc : Nat) (ri : Instr) (len : Nat) (raw : Instr) : Bool := match ri with
  | .iload i => am_k4 i .iload_n raw len || (decide (raw = .iload i) && Nat.beq len 2)
  | .lload i => am_k4 i .lload_n raw len || (decide (raw = .lload i) && Nat.beq len 2)
  | .aload i => am_k4 i .aload_n raw len || (decide (raw = .aload i) && Nat.beq len 2)
  | .istore i => am_k4 i .istore_n raw len || (decide (raw = .istore i) && Nat.beq len 2)
  | .lstore i => am_k4 i .lstore_n raw len || (decide (raw = .lstore i) && Nat.beq len 2)
  | .astore i => am_k4 i .astore_n raw len || (decide (raw = .astore i) && Nat.beq len 2)
  | .iinc i n => decide (raw = .iinc i n) && Nat.beq len 3
  | .anewarray n => am_const o raw len (n : Int)
  | .iconst n => am_const o raw len n
  | .ldc2_w n => am_constL o raw len n
  | .if_icmp c t => am_brr pc raw len (.if_icmp c t)
  | .ifCond c t => am_brr pc raw len (.ifCond c t)
  | .goto t => am_brr pc raw len (.goto t)
  | .tableswitch d lo hi ts => am_brr pc raw len (.tableswitch d lo hi ts)
  | .lookupswitch d ps => am_brr pc raw len (.lookupswitch d ps)
  | .getfield r => am_fld o raw len r
  | .putfield r => am_pfl o raw len r
  | .invokeinterface r n => am_inv o raw len r n
  | .invokedynamic t => match raw with
    | .invokestatic i => Nat.beq len 3 && (match t with
      | 0 => decide ((o, i) ∈ am_AL)
      | t => decide ((o, i, t) ∈ am_XL) && Nat.blt t 5)
    | _ => false
  | .ireturn => decide (raw = .ireturn) && (Nat.beq len 1 && decide (ret = some .int))
  | .dreturn => decide (raw = .ireturn) && (Nat.beq len 1 && decide (ret = some .boolean))
  | .lreturn => decide (raw = .lreturn) && (Nat.beq len 1 && decide (ret = some .long))
  | .areturn => decide (raw = .areturn) && (Nat.beq len 1 && (match ret with | some (.object _) => true | _ => false))
  | .return_ => decide (raw = .return_) && (Nat.beq len 1 && decide (ret = none))
  | ri => decide (raw = ri) && Nat.beq len 1
def am_okE (q : ME) (e : AE) : Bool := am_ok q.2.2.2.2.2.1 q.2.2.2.1 e.1 e.2.1 e.2.2.1 e.2.2.2 && decide (decode q.2.1 e.1 = .ok (e.2.2.2, e.2.2.1))
/-- a call fits into the caller's room -/
def am_fit (q : ME) (e : AE) : Bool := match e.2.1 with
  | .invokeinterface r _ => match nth am_MT (r / 100) with
    | some y => Nat.ble (y.2.2.2.2.2.2.1 + 1) q.2.2.2.2.2.2.1 && Nat.ble (8 + (y.2.2.1 + 11) + y.2.2.2.2.2.2.2.1) q.2.2.2.2.2.2.2.1
    | none => false
  | .invokedynamic _ => Nat.ble 1 q.2.2.2.2.2.2.1 && Nat.ble 26 q.2.2.2.2.2.2.2.1
  | _ => true
def am_okM (q : ME) : Bool := q.2.2.2.2.2.2.2.2.all (fun e => am_okE q e && am_fit q e)
def am_okN (q : ME) : Bool := decide (q.1.cls = am_cn q.2.2.2.2.2.1) && (plainName q.1.cls && (decide (q.1.cls ≠ "java/lang/invoke/MethodHandle") && decide (q.1.cls ≠ "java/lang/invoke/VarHandle")))
end
section
set_option maxRecDepth 100000 in
theorem ok_X0_none : am_okM me_X0_none = true := by decide +kernel
set_option maxRecDepth 100000 in
theorem ok_X0_offerLeast : am_okM me_X0_offerLeast = true := by decide +kernel
set_option maxRecDepth 100000 in
theorem ok_X0_offerMost : am_okM me_X0_offerMost = true := by decide +kernel
set_option maxRecDepth 100000 in
theorem ok_X0_answer : am_okM me_X0_answer = true := by decide +kernel
set_option maxRecDepth 100000 in
theorem ok_X1_leastHeard : am_okM me_X1_leastHeard = true := by decide +kernel
set_option maxRecDepth 100000 in
theorem ok_X1_leastBreaking : am_okM me_X1_leastBreaking = true := by decide +kernel
set_option maxRecDepth 100000 in
theorem ok_X1_greatestHarmless : am_okM me_X1_greatestHarmless = true := by decide +kernel
set_option maxRecDepth 100000 in
theorem ok_X1_leastHarm : am_okM me_X1_leastHarm = true := by decide +kernel
set_option maxRecDepth 100000 in
theorem ok_X1_quietestTap : am_okM me_X1_quietestTap = true := by decide +kernel
set_option maxRecDepth 100000 in
theorem ok_X1_findDroppers : am_okM me_X1_findDroppers = true := by decide +kernel
set_option maxRecDepth 100000 in
theorem ok_X1_countDropping : am_okM me_X1_countDropping = true := by decide +kernel
set_option maxRecDepth 100000 in
theorem ok_X1_kindsBy : am_okM me_X1_kindsBy = true := by decide +kernel
set_option maxRecDepth 100000 in
theorem ok_X1_figuresBy : am_okM me_X1_figuresBy = true := by decide +kernel
set_option maxRecDepth 100000 in
theorem ok_X1_strengths : am_okM me_X1_strengths = true := by decide +kernel
set_option maxRecDepth 100000 in
theorem ok_X2_firstBreakingDay : am_okM me_X2_firstBreakingDay = true := by decide +kernel
set_option maxRecDepth 100000 in
theorem ok_X2_wholeBehind : am_okM me_X2_wholeBehind = true := by decide +kernel
set_option maxRecDepth 100000 in
theorem ok_X2_brokenBehindAll : am_okM me_X2_brokenBehindAll = true := by decide +kernel
set_option maxRecDepth 100000 in
theorem ok_X2_findOdds : am_okM me_X2_findOdds = true := by decide +kernel
set_option maxRecDepth 100000 in
theorem ok_X2_power : am_okM me_X2_power = true := by decide +kernel
set_option maxRecDepth 100000 in
theorem ok_X2_commonDivisor : am_okM me_X2_commonDivisor = true := by decide +kernel
set_option maxRecDepth 100000 in
theorem ok_X2_drawYears : am_okM me_X2_drawYears = true := by decide +kernel
set_option maxRecDepth 100000 in
theorem ok_X2_draw : am_okM me_X2_draw = true := by decide +kernel
set_option maxRecDepth 100000 in
theorem ok_X3_lossOf : am_okM me_X3_lossOf = true := by decide +kernel
set_option maxRecDepth 100000 in
theorem ok_X3_standsOf : am_okM me_X3_standsOf = true := by decide +kernel
set_option maxRecDepth 100000 in
theorem ok_X3_jumpBy : am_okM me_X3_jumpBy = true := by decide +kernel
set_option maxRecDepth 100000 in
theorem ok_X4_thingAt : am_okM me_X4_thingAt = true := by decide +kernel
set_option maxRecDepth 100000 in
theorem ok_X4_mildest : am_okM me_X4_mildest = true := by decide +kernel
set_option maxRecDepth 100000 in
theorem ok_X4_mostBrokenBut : am_okM me_X4_mostBrokenBut = true := by decide +kernel
set_option maxRecDepth 100000 in
theorem ok_X4_shortestWalk : am_okM me_X4_shortestWalk = true := by decide +kernel
set_option maxRecDepth 100000 in
theorem ok_X4_sortByFarm : am_okM me_X4_sortByFarm = true := by decide +kernel
set_option maxRecDepth 100000 in
theorem ok_X4_isAhead : am_okM me_X4_isAhead = true := by decide +kernel
set_option maxRecDepth 100000 in
theorem ok_X5_keep : am_okM me_X5_keep = true := by decide +kernel
set_option maxRecDepth 100000 in
theorem ok_X5_takeBack : am_okM me_X5_takeBack = true := by decide +kernel
set_option maxRecDepth 100000 in
theorem ok_X5_forget : am_okM me_X5_forget = true := by decide +kernel
set_option maxRecDepth 100000 in
theorem ok_X6_worstPlace : am_okM me_X6_worstPlace = true := by decide +kernel
set_option maxRecDepth 100000 in
theorem ok_X6_mildestCut : am_okM me_X6_mildestCut = true := by decide +kernel
set_option maxRecDepth 100000 in
theorem ok_X6_mostBroken : am_okM me_X6_mostBroken = true := by decide +kernel
set_option maxRecDepth 100000 in
theorem ok_X6_womansDrop : am_okM me_X6_womansDrop = true := by decide +kernel
set_option maxRecDepth 100000 in
theorem ok_X6_othersInSpite : am_okM me_X6_othersInSpite = true := by decide +kernel
set_option maxRecDepth 100000 in
theorem ok_X6_mostAlike : am_okM me_X6_mostAlike = true := by decide +kernel
set_option maxRecDepth 100000 in
theorem ok_X6_addUnlike : am_okM me_X6_addUnlike = true := by decide +kernel
set_option maxRecDepth 100000 in
theorem ok_X6_allHeard : am_okM me_X6_allHeard = true := by decide +kernel
set_option maxRecDepth 100000 in
theorem ok_X6_quietest : am_okM me_X6_quietest = true := by decide +kernel
set_option maxRecDepth 100000 in
theorem ok_X6_hearAll : am_okM me_X6_hearAll = true := by decide +kernel
set_option maxRecDepth 100000 in
theorem ok_X6_mostHeard : am_okM me_X6_mostHeard = true := by decide +kernel
set_option maxRecDepth 100000 in
theorem ok_X6_mendHeardMost : am_okM me_X6_mendHeardMost = true := by decide +kernel
set_option maxRecDepth 100000 in
theorem ok_X6_figureHeardMost : am_okM me_X6_figureHeardMost = true := by decide +kernel
set_option maxRecDepth 100000 in
theorem ok_X6_longestLink : am_okM me_X6_longestLink = true := by decide +kernel
set_option maxRecDepth 100000 in
theorem ok_X6_sparedBits : am_okM me_X6_sparedBits = true := by decide +kernel
set_option maxRecDepth 100000 in
theorem ok_X6_mutualTwos : am_okM me_X6_mutualTwos = true := by decide +kernel
set_option maxRecDepth 100000 in
theorem ok_X7_hear : am_okM me_X7_hear = true := by decide +kernel
set_option maxRecDepth 100000 in
theorem ok_X7_tellsJumps : am_okM me_X7_tellsJumps = true := by decide +kernel
set_option maxRecDepth 100000 in
theorem ok_X7_firstNotInPlace : am_okM me_X7_firstNotInPlace = true := by decide +kernel
set_option maxRecDepth 100000 in
theorem ok_X8_hear : am_okM me_X8_hear = true := by decide +kernel
set_option maxRecDepth 100000 in
theorem ok_X8_firstMisfit : am_okM me_X8_firstMisfit = true := by decide +kernel
set_option maxRecDepth 100000 in
theorem ok_X8_comeTo : am_okM me_X8_comeTo = true := by decide +kernel
set_option maxRecDepth 100000 in
theorem ok_X8_refusalOf : am_okM me_X8_refusalOf = true := by decide +kernel
set_option maxRecDepth 100000 in
theorem ok_X8_act : am_okM me_X8_act = true := by decide +kernel
set_option maxRecDepth 100000 in
theorem ok_X8_blowIn : am_okM me_X8_blowIn = true := by decide +kernel
set_option maxRecDepth 100000 in
theorem ok_X8_digit : am_okM me_X8_digit = true := by decide +kernel
set_option maxRecDepth 100000 in
theorem ok_X8_isDigit : am_okM me_X8_isDigit = true := by decide +kernel
set_option maxRecDepth 100000 in
theorem ok_X8_digitsBehind : am_okM me_X8_digitsBehind = true := by decide +kernel
set_option maxRecDepth 100000 in
theorem ok_X9_strike : am_okM me_X9_strike = true := by decide +kernel
set_option maxRecDepth 100000 in
theorem ok_X9_drop : am_okM me_X9_drop = true := by decide +kernel
set_option maxRecDepth 100000 in
theorem ok_X9_spread : am_okM me_X9_spread = true := by decide +kernel
set_option maxRecDepth 100000 in
theorem ok_X9_isHeardBy : am_okM me_X9_isHeardBy = true := by decide +kernel
set_option maxRecDepth 100000 in
theorem ok_X9_hasBroken : am_okM me_X9_hasBroken = true := by decide +kernel
set_option maxRecDepth 100000 in
theorem ok_X9_hearerCount : am_okM me_X9_hearerCount = true := by decide +kernel
set_option maxRecDepth 100000 in
theorem ok_X9_brokenCount : am_okM me_X9_brokenCount = true := by decide +kernel
set_option maxRecDepth 100000 in
theorem ok_X9_othersBroken : am_okM me_X9_othersBroken = true := by decide +kernel
set_option maxRecDepth 100000 in
theorem ok_X9_jumpIn : am_okM me_X9_jumpIn = true := by decide +kernel
set_option maxRecDepth 100000 in
theorem ok_X9_jumpsIn : am_okM me_X9_jumpsIn = true := by decide +kernel
set_option maxRecDepth 100000 in
theorem ok_X9_farthestIn : am_okM me_X9_farthestIn = true := by decide +kernel
set_option maxRecDepth 100000 in
theorem ok_X10_copy : am_okM me_X10_copy = true := by decide +kernel
set_option maxRecDepth 100000 in
theorem ok_X10_noThing : am_okM me_X10_noThing = true := by decide +kernel
set_option maxRecDepth 100000 in
theorem ok_X10_noLink : am_okM me_X10_noLink = true := by decide +kernel
set_option maxRecDepth 100000 in
theorem ok_X10_joinRefusal : am_okM me_X10_joinRefusal = true := by decide +kernel
set_option maxRecDepth 100000 in
theorem ok_X10_dropRefusal : am_okM me_X10_dropRefusal = true := by decide +kernel
set_option maxRecDepth 100000 in
theorem ok_X10_mendRefusal : am_okM me_X10_mendRefusal = true := by decide +kernel
set_option maxRecDepth 100000 in
theorem ok_X10_changeRefusal : am_okM me_X10_changeRefusal = true := by decide +kernel
set_option maxRecDepth 100000 in
theorem ok_X10_join : am_okM me_X10_join = true := by decide +kernel
set_option maxRecDepth 100000 in
theorem ok_X10_mend : am_okM me_X10_mend = true := by decide +kernel
set_option maxRecDepth 100000 in
theorem ok_X10_turnCut : am_okM me_X10_turnCut = true := by decide +kernel
set_option maxRecDepth 100000 in
theorem ok_X10_exchange : am_okM me_X10_exchange = true := by decide +kernel
set_option maxRecDepth 100000 in
theorem ok_X10_isBroken : am_okM me_X10_isBroken = true := by decide +kernel
set_option maxRecDepth 100000 in
theorem ok_X10_isCut : am_okM me_X10_isCut = true := by decide +kernel
set_option maxRecDepth 100000 in
theorem ok_X10_wholeBits : am_okM me_X10_wholeBits = true := by decide +kernel
set_option maxRecDepth 100000 in
theorem ok_X10_allLoss : am_okM me_X10_allLoss = true := by decide +kernel
set_option maxRecDepth 100000 in
theorem ok_X10_nextWhole : am_okM me_X10_nextWhole = true := by decide +kernel
set_option maxRecDepth 100000 in
theorem ok_X10_wayOver : am_okM me_X10_wayOver = true := by decide +kernel
set_option maxRecDepth 100000 in
theorem ok_X10_walkLength : am_okM me_X10_walkLength = true := by decide +kernel
set_option maxRecDepth 100000 in
theorem ok_X10_stretches : am_okM me_X10_stretches = true := by decide +kernel
set_option maxRecDepth 100000 in
theorem ok_X10_layInTurnUncut : am_okM me_X10_layInTurnUncut = true := by decide +kernel
set_option maxRecDepth 100000 in
theorem ok_X10_layNextOrder : am_okM me_X10_layNextOrder = true := by decide +kernel
set_option maxRecDepth 100000 in
theorem ok_X11_feed : am_okM me_X11_feed = true := by decide +kernel
set_option maxRecDepth 100000 in
theorem ok_X11_valley : am_okM me_X11_valley = true := by decide +kernel
set_option maxRecDepth 100000 in
theorem ok_X11_thingOf : am_okM me_X11_thingOf = true := by decide +kernel
set_option maxRecDepth 100000 in
theorem ok_X11_place : am_okM me_X11_place = true := by decide +kernel
set_option maxRecDepth 100000 in
theorem ok_X11_thing : am_okM me_X11_thing = true := by decide +kernel
set_option maxRecDepth 100000 in
theorem ok_X11_drops : am_okM me_X11_drops = true := by decide +kernel
set_option maxRecDepth 100000 in
theorem ok_X11_mends : am_okM me_X11_mends = true := by decide +kernel
set_option maxRecDepth 100000 in
theorem ok_X11_cuts : am_okM me_X11_cuts = true := by decide +kernel
set_option maxRecDepth 100000 in
theorem ok_X11_changes : am_okM me_X11_changes = true := by decide +kernel
set_option maxRecDepth 100000 in
theorem ok_X11_back : am_okM me_X11_back = true := by decide +kernel
set_option maxRecDepth 100000 in
theorem ok_X11_gets : am_okM me_X11_gets = true := by decide +kernel
set_option maxRecDepth 100000 in
theorem ok_X11_blow : am_okM me_X11_blow = true := by decide +kernel
set_option maxRecDepth 100000 in
theorem ok_X11_reaches : am_okM me_X11_reaches = true := by decide +kernel
set_option maxRecDepth 100000 in
theorem ok_X11_breaks : am_okM me_X11_breaks = true := by decide +kernel
set_option maxRecDepth 100000 in
theorem ok_X11_harm : am_okM me_X11_harm = true := by decide +kernel
set_option maxRecDepth 100000 in
theorem ok_X11_tap : am_okM me_X11_tap = true := by decide +kernel
set_option maxRecDepth 100000 in
theorem ok_X11_who : am_okM me_X11_who = true := by decide +kernel
set_option maxRecDepth 100000 in
theorem ok_X11_whatKind : am_okM me_X11_whatKind = true := by decide +kernel
set_option maxRecDepth 100000 in
theorem ok_X11_worst : am_okM me_X11_worst = true := by decide +kernel
set_option maxRecDepth 100000 in
theorem ok_X11_bestCut : am_okM me_X11_bestCut = true := by decide +kernel
set_option maxRecDepth 100000 in
theorem ok_X11_order : am_okM me_X11_order = true := by decide +kernel
set_option maxRecDepth 100000 in
theorem ok_X11_walk : am_okM me_X11_walk = true := by decide +kernel
set_option maxRecDepth 100000 in
theorem ok_X11_woman : am_okM me_X11_woman = true := by decide +kernel
set_option maxRecDepth 100000 in
theorem ok_X11_lasts : am_okM me_X11_lasts = true := by decide +kernel
set_option maxRecDepth 100000 in
theorem ok_X11_left : am_okM me_X11_left = true := by decide +kernel
set_option maxRecDepth 100000 in
theorem ok_X11_chance : am_okM me_X11_chance = true := by decide +kernel
set_option maxRecDepth 100000 in
theorem ok_X11_twins : am_okM me_X11_twins = true := by decide +kernel
set_option maxRecDepth 100000 in
theorem ok_X11_hum : am_okM me_X11_hum = true := by decide +kernel
set_option maxRecDepth 100000 in
theorem ok_X11_apart : am_okM me_X11_apart = true := by decide +kernel
set_option maxRecDepth 100000 in
theorem ok_X11_heaps : am_okM me_X11_heaps = true := by decide +kernel
set_option maxRecDepth 100000 in
theorem ok_X11_codes : am_okM me_X11_codes = true := by decide +kernel
set_option maxRecDepth 100000 in
theorem ok_X11_secret : am_okM me_X11_secret = true := by decide +kernel
set_option maxRecDepth 100000 in
theorem ok_X11_tough : am_okM me_X11_tough = true := by decide +kernel
set_option maxRecDepth 100000 in
theorem ok_X11_centre : am_okM me_X11_centre = true := by decide +kernel
set_option maxRecDepth 100000 in
theorem ok_X11_bestMend : am_okM me_X11_bestMend = true := by decide +kernel
set_option maxRecDepth 100000 in
theorem ok_X11_bestFigure : am_okM me_X11_bestFigure = true := by decide +kernel
set_option maxRecDepth 100000 in
theorem ok_X11_domino : am_okM me_X11_domino = true := by decide +kernel
set_option maxRecDepth 100000 in
theorem ok_X11_longest : am_okM me_X11_longest = true := by decide +kernel
set_option maxRecDepth 100000 in
theorem ok_X11_spared : am_okM me_X11_spared = true := by decide +kernel
set_option maxRecDepth 100000 in
theorem ok_X11_mutual : am_okM me_X11_mutual = true := by decide +kernel
set_option maxRecDepth 100000 in
theorem ok_X11_row : am_okM me_X11_row = true := by decide +kernel
set_option maxRecDepth 100000 in
theorem ok_X11_judge : am_okM me_X11_judge = true := by decide +kernel
set_option maxRecDepth 100000 in
theorem ok_X11_clear : am_okM me_X11_clear = true := by decide +kernel
set_option maxRecDepth 100000 in
theorem ok_X11_lots : am_okM me_X11_lots = true := by decide +kernel
set_option maxRecDepth 100000 in
theorem ok_X11_image : am_okM me_X11_image = true := by decide +kernel
set_option maxRecDepth 100000 in
theorem ok_X11_restore : am_okM me_X11_restore = true := by decide +kernel
set_option maxRecDepth 100000 in
theorem ok_X11_count : am_okM me_X11_count = true := by decide +kernel
set_option maxRecDepth 100000 in
theorem ok_X11_refuse : am_okM me_X11_refuse = true := by decide +kernel
set_option maxRecDepth 100000 in
theorem ok_X11_rowTooLong : am_okM me_X11_rowTooLong = true := by decide +kernel
set_option maxRecDepth 100000 in
theorem ok_X11_first : am_okM me_X11_first = true := by decide +kernel
set_option maxRecDepth 100000 in
theorem ok_X11_below : am_okM me_X11_below = true := by decide +kernel
set_option maxRecDepth 100000 in
theorem ok_X11_above : am_okM me_X11_above = true := by decide +kernel
set_option maxRecDepth 100000 in
theorem ok_X11_noBlow : am_okM me_X11_noBlow = true := by decide +kernel
set_option maxRecDepth 100000 in
theorem ok_X11_unknown : am_okM me_X11_unknown = true := by decide +kernel
set_option maxRecDepth 100000 in
theorem ok_X12_no : am_okM me_X12_no = true := by decide +kernel
set_option maxRecDepth 100000 in
theorem ok_X12_lowest : am_okM me_X12_lowest = true := by decide +kernel
set_option maxRecDepth 100000 in
theorem ok_X12_isIn : am_okM me_X12_isIn = true := by decide +kernel
set_option maxRecDepth 100000 in
theorem ok_X12_bound : am_okM me_X12_bound = true := by decide +kernel
set_option maxRecDepth 100000 in
theorem ok_X12_notBlow : am_okM me_X12_notBlow = true := by decide +kernel
set_option maxRecDepth 100000 in
theorem ok_X12_has : am_okM me_X12_has = true := by decide +kernel
set_option maxRecDepth 100000 in
theorem ok_X12_bits : am_okM me_X12_bits = true := by decide +kernel
set_option maxRecDepth 100000 in
theorem ok_X12_far : am_okM me_X12_far = true := by decide +kernel
set_option maxRecDepth 100000 in
theorem ok_X12_isThing : am_okM me_X12_isThing = true := by decide +kernel
set_option maxRecDepth 100000 in
theorem ok_X12_isLink : am_okM me_X12_isLink = true := by decide +kernel
set_option maxRecDepth 100000 in
theorem ok_X12_feed : am_okM me_X12_feed = true := by decide +kernel
set_option maxRecDepth 100000 in
theorem ok_X12_next : am_okM me_X12_next = true := by decide +kernel
set_option maxRecDepth 100000 in
theorem ok_X12_readsDigits : am_okM me_X12_readsDigits = true := by decide +kernel
set_option maxRecDepth 100000 in
theorem ok_X12_readsAll : am_okM me_X12_readsAll = true := by decide +kernel
set_option maxRecDepth 100000 in
theorem ok_X12_statement : am_okM me_X12_statement = true := by decide +kernel
set_option maxRecDepth 100000 in
theorem ok_X12_comesDrop : am_okM me_X12_comesDrop = true := by decide +kernel
set_option maxRecDepth 100000 in
theorem ok_X12_comesOther : am_okM me_X12_comesOther = true := by decide +kernel
set_option maxRecDepth 100000 in
theorem ok_X12_comes : am_okM me_X12_comes = true := by decide +kernel
set_option maxRecDepth 100000 in
theorem ok_X12_valley : am_okM me_X12_valley = true := by decide +kernel
set_option maxRecDepth 100000 in
theorem ok_X12_passes : am_okM me_X12_passes = true := by decide +kernel
set_option maxRecDepth 100000 in
theorem ok_X12_passOne : am_okM me_X12_passOne = true := by decide +kernel
set_option maxRecDepth 100000 in
theorem ok_X12_passesAll : am_okM me_X12_passesAll = true := by decide +kernel
set_option maxRecDepth 100000 in
theorem ok_X12_thinks : am_okM me_X12_thinks = true := by decide +kernel
set_option maxRecDepth 100000 in
theorem ok_X12_forgets : am_okM me_X12_forgets = true := by decide +kernel
set_option maxRecDepth 100000 in
theorem ok_X12_keepsBack : am_okM me_X12_keepsBack = true := by decide +kernel
set_option maxRecDepth 100000 in
theorem ok_X12_back : am_okM me_X12_back = true := by decide +kernel
set_option maxRecDepth 100000 in
theorem ok_X12_image : am_okM me_X12_image = true := by decide +kernel
set_option maxRecDepth 100000 in
theorem ok_X12_restore : am_okM me_X12_restore = true := by decide +kernel
set_option maxRecDepth 100000 in
theorem ok_X12_adds : am_okM me_X12_adds = true := by decide +kernel
set_option maxRecDepth 100000 in
theorem ok_X12_lossOf : am_okM me_X12_lossOf = true := by decide +kernel
set_option maxRecDepth 100000 in
theorem ok_X12_standsOf : am_okM me_X12_standsOf = true := by decide +kernel
set_option maxRecDepth 100000 in
theorem ok_X12_jumpOf : am_okM me_X12_jumpOf = true := by decide +kernel
set_option maxRecDepth 100000 in
theorem ok_X12_placeOf : am_okM me_X12_placeOf = true := by decide +kernel
set_option maxRecDepth 100000 in
theorem ok_X12_lands : am_okM me_X12_lands = true := by decide +kernel
set_option maxRecDepth 100000 in
theorem ok_X12_goesAlong : am_okM me_X12_goesAlong = true := by decide +kernel
set_option maxRecDepth 100000 in
theorem ok_X12_findBlow : am_okM me_X12_findBlow = true := by decide +kernel
set_option maxRecDepth 100000 in
theorem ok_X12_breaksBy : am_okM me_X12_breaksBy = true := by decide +kernel
set_option maxRecDepth 100000 in
theorem ok_X12_manyGet : am_okM me_X12_manyGet = true := by decide +kernel
set_option maxRecDepth 100000 in
theorem ok_X12_allJumps : am_okM me_X12_allJumps = true := by decide +kernel
set_option maxRecDepth 100000 in
theorem ok_X12_thingOf : am_okM me_X12_thingOf = true := by decide +kernel
set_option maxRecDepth 100000 in
theorem ok_X12_place : am_okM me_X12_place = true := by decide +kernel
set_option maxRecDepth 100000 in
theorem ok_X12_thing : am_okM me_X12_thing = true := by decide +kernel
set_option maxRecDepth 100000 in
theorem ok_X12_drops : am_okM me_X12_drops = true := by decide +kernel
set_option maxRecDepth 100000 in
theorem ok_X12_mends : am_okM me_X12_mends = true := by decide +kernel
set_option maxRecDepth 100000 in
theorem ok_X12_cuts : am_okM me_X12_cuts = true := by decide +kernel
set_option maxRecDepth 100000 in
theorem ok_X12_exchanges : am_okM me_X12_exchanges = true := by decide +kernel
set_option maxRecDepth 100000 in
theorem ok_X12_changes : am_okM me_X12_changes = true := by decide +kernel
set_option maxRecDepth 100000 in
theorem ok_X12_notTwo : am_okM me_X12_notTwo = true := by decide +kernel
set_option maxRecDepth 100000 in
theorem ok_X12_gets : am_okM me_X12_gets = true := by decide +kernel
set_option maxRecDepth 100000 in
theorem ok_X12_whoGet : am_okM me_X12_whoGet = true := by decide +kernel
set_option maxRecDepth 100000 in
theorem ok_X12_farthestFrom : am_okM me_X12_farthestFrom = true := by decide +kernel
set_option maxRecDepth 100000 in
theorem ok_X12_blow : am_okM me_X12_blow = true := by decide +kernel
set_option maxRecDepth 100000 in
theorem ok_X12_reaches : am_okM me_X12_reaches = true := by decide +kernel
set_option maxRecDepth 100000 in
theorem ok_X12_breaks : am_okM me_X12_breaks = true := by decide +kernel
set_option maxRecDepth 100000 in
theorem ok_X12_harm : am_okM me_X12_harm = true := by decide +kernel
set_option maxRecDepth 100000 in
theorem ok_X12_tap : am_okM me_X12_tap = true := by decide +kernel
set_option maxRecDepth 100000 in
theorem ok_X12_isSo : am_okM me_X12_isSo = true := by decide +kernel
set_option maxRecDepth 100000 in
theorem ok_X12_who : am_okM me_X12_who = true := by decide +kernel
set_option maxRecDepth 100000 in
theorem ok_X12_bitsFor : am_okM me_X12_bitsFor = true := by decide +kernel
set_option maxRecDepth 100000 in
theorem ok_X12_whatKind : am_okM me_X12_whatKind = true := by decide +kernel
set_option maxRecDepth 100000 in
theorem ok_X12_worstOf : am_okM me_X12_worstOf = true := by decide +kernel
set_option maxRecDepth 100000 in
theorem ok_X12_mostBroken : am_okM me_X12_mostBroken = true := by decide +kernel
set_option maxRecDepth 100000 in
theorem ok_X12_worst : am_okM me_X12_worst = true := by decide +kernel
set_option maxRecDepth 100000 in
theorem ok_X12_bestCut : am_okM me_X12_bestCut = true := by decide +kernel
set_option maxRecDepth 100000 in
theorem ok_X12_nextOrder : am_okM me_X12_nextOrder = true := by decide +kernel
set_option maxRecDepth 100000 in
theorem ok_X12_sorts : am_okM me_X12_sorts = true := by decide +kernel
set_option maxRecDepth 100000 in
theorem ok_X12_findOrder : am_okM me_X12_findOrder = true := by decide +kernel
set_option maxRecDepth 100000 in
theorem ok_X12_order : am_okM me_X12_order = true := by decide +kernel
set_option maxRecDepth 100000 in
theorem ok_X12_findShortest : am_okM me_X12_findShortest = true := by decide +kernel
set_option maxRecDepth 100000 in
theorem ok_X12_walkOf : am_okM me_X12_walkOf = true := by decide +kernel
set_option maxRecDepth 100000 in
theorem ok_X12_shortestOf : am_okM me_X12_shortestOf = true := by decide +kernel
set_option maxRecDepth 100000 in
theorem ok_X12_walked : am_okM me_X12_walked = true := by decide +kernel
set_option maxRecDepth 100000 in
theorem ok_X12_walk : am_okM me_X12_walk = true := by decide +kernel
set_option maxRecDepth 100000 in
theorem ok_X12_others : am_okM me_X12_others = true := by decide +kernel
set_option maxRecDepth 100000 in
theorem ok_X12_leftToHer : am_okM me_X12_leftToHer = true := by decide +kernel
set_option maxRecDepth 100000 in
theorem ok_X12_woman : am_okM me_X12_woman = true := by decide +kernel
set_option maxRecDepth 100000 in
theorem ok_X12_nextWhole : am_okM me_X12_nextWhole = true := by decide +kernel
set_option maxRecDepth 100000 in
theorem ok_X12_lasts : am_okM me_X12_lasts = true := by decide +kernel
set_option maxRecDepth 100000 in
theorem ok_X12_left : am_okM me_X12_left = true := by decide +kernel
set_option maxRecDepth 100000 in
theorem ok_X12_divisor : am_okM me_X12_divisor = true := by decide +kernel
set_option maxRecDepth 100000 in
theorem ok_X12_power : am_okM me_X12_power = true := by decide +kernel
set_option maxRecDepth 100000 in
theorem ok_X12_ways : am_okM me_X12_ways = true := by decide +kernel
set_option maxRecDepth 100000 in
theorem ok_X12_chance : am_okM me_X12_chance = true := by decide +kernel
set_option maxRecDepth 100000 in
theorem ok_X12_apartBy : am_okM me_X12_apartBy = true := by decide +kernel
set_option maxRecDepth 100000 in
theorem ok_X12_twins : am_okM me_X12_twins = true := by decide +kernel
set_option maxRecDepth 100000 in
theorem ok_X12_heardBy : am_okM me_X12_heardBy = true := by decide +kernel
set_option maxRecDepth 100000 in
theorem ok_X12_hum : am_okM me_X12_hum = true := by decide +kernel
set_option maxRecDepth 100000 in
theorem ok_X12_apart : am_okM me_X12_apart = true := by decide +kernel
set_option maxRecDepth 100000 in
theorem ok_X12_heaps : am_okM me_X12_heaps = true := by decide +kernel
set_option maxRecDepth 100000 in
theorem ok_X12_codesOf : am_okM me_X12_codesOf = true := by decide +kernel
set_option maxRecDepth 100000 in
theorem ok_X12_codes : am_okM me_X12_codes = true := by decide +kernel
set_option maxRecDepth 100000 in
theorem ok_X12_secret : am_okM me_X12_secret = true := by decide +kernel
set_option maxRecDepth 100000 in
theorem ok_X12_tough : am_okM me_X12_tough = true := by decide +kernel
set_option maxRecDepth 100000 in
theorem ok_X12_centre : am_okM me_X12_centre = true := by decide +kernel
set_option maxRecDepth 100000 in
theorem ok_X12_manyBy : am_okM me_X12_manyBy = true := by decide +kernel
set_option maxRecDepth 100000 in
theorem ok_X12_bestMend : am_okM me_X12_bestMend = true := by decide +kernel
set_option maxRecDepth 100000 in
theorem ok_X12_bestFigure : am_okM me_X12_bestFigure = true := by decide +kernel
set_option maxRecDepth 100000 in
theorem ok_X12_domino : am_okM me_X12_domino = true := by decide +kernel
set_option maxRecDepth 100000 in
theorem ok_X12_linkOf : am_okM me_X12_linkOf = true := by decide +kernel
set_option maxRecDepth 100000 in
theorem ok_X12_longest : am_okM me_X12_longest = true := by decide +kernel
set_option maxRecDepth 100000 in
theorem ok_X12_spared : am_okM me_X12_spared = true := by decide +kernel
set_option maxRecDepth 100000 in
theorem ok_X12_hears : am_okM me_X12_hears = true := by decide +kernel
set_option maxRecDepth 100000 in
theorem ok_X12_mutual : am_okM me_X12_mutual = true := by decide +kernel
set_option maxRecDepth 100000 in
theorem ok_X12_row : am_okM me_X12_row = true := by decide +kernel
set_option maxRecDepth 100000 in
theorem ok_X12_judge : am_okM me_X12_judge = true := by decide +kernel
set_option maxRecDepth 100000 in
theorem ok_X12_clear : am_okM me_X12_clear = true := by decide +kernel
set_option maxRecDepth 100000 in
theorem ok_X12_draw : am_okM me_X12_draw = true := by decide +kernel
set_option maxRecDepth 100000 in
theorem ok_X12_lots : am_okM me_X12_lots = true := by decide +kernel
set_option maxRecDepth 100000 in
theorem ok_X12_count : am_okM me_X12_count = true := by decide +kernel
set_option maxRecDepth 100000 in
theorem ok_J6_bitCount_0f7a4 : am_okM me_J6_bitCount_0f7a4 = true := by decide +kernel
set_option maxRecDepth 100000 in
theorem ok_J13_bitCount_95d88 : am_okM me_J13_bitCount_95d88 = true := by decide +kernel
end
section
/-! the abstract machine's readers and writers, as facts -/
theorem nth_eq {α : Type} : ∀ (l : List α) (n : Nat), nth l n = l[n]?
  | [], n => by simp [nth]
  | _ :: _, 0 => by simp [nth]
  | _ :: l, n + 1 => by simp [nth, nth_eq l n]
theorem am_g_sp : ∀ (L : AL) (i : Nat) (k : Value → Prop), am_g L i k → ∃ v, L[i]? = some (some v) ∧ k v
  | [], _, _, h => h.elim
  | some v :: _, 0, k, h => ⟨v, rfl, h⟩
  | none :: _, 0, _, h => h.elim
  | _ :: t, n + 1, k, h => by
    obtain ⟨v, h1, h2⟩ := am_g_sp t n k (by simpa [am_g] using h)
    exact ⟨v, by simpa using h1, h2⟩
theorem am_nl_sp (o : Option Value) (k : Option Value → Prop) (h : am_nl o k) : ∃ o2, k o2 ∧ ∀ v, o2 = some v → o = some v ∧ ¬ v.category = 2 := by
  cases o with
  | none => exact ⟨none, h, fun v hv => by cases hv⟩
  | some w =>
    cases w <;> first
      | exact ⟨none, h, fun v hv => by cases hv⟩
      | exact ⟨some _, h, fun v hv => by cases hv; exact ⟨rfl, by simp [Value.category]⟩⟩
/-- what a store of one word leaves -/
def am_S1 (L : AL) (i : Nat) (v : Value) (L2 : AL) : Prop := L2.length = L.length ∧ i < L.length ∧ ∀ (j : Nat) (w : Value), L2[j]? = some (some w) → (j = i ∧ w = v) ∨ (j ≠ i ∧ L[j]? = some (some w) ∧ ¬ (j + 1 = i ∧ w.category = 2))
theorem am_st_sp : ∀ (i : Nat) (L : AL) (v : Value) (k : AL → Prop), am_st L i v k → ∃ L2, k L2 ∧ am_S1 L i v L2
  | 0, [], _, _, h => h.elim
  | _ + 1, [], _, _, h => h.elim
  | 0, o :: t, v, k, h => by
    refine ⟨some v :: t, h, by simp, by simp, fun j w hw => ?_⟩
    cases j with
    | zero => simp at hw; exact Or.inl ⟨rfl, hw.symm⟩
    | succ j => exact Or.inr ⟨by omega, by simpa using hw, by omega⟩
  | 1, [_], _, _, h => h.elim
  | 1, o :: o1 :: t, v, k, h => by
    obtain ⟨o2, h1, h2⟩ := am_nl_sp o _ (show am_nl o (fun o2 => k (o2 :: some v :: t)) from h)
    refine ⟨o2 :: some v :: t, h1, by simp, by simp, fun j w hw => ?_⟩
    match j, hw with
    | 0, hw =>
      simp at hw
      obtain ⟨h3, h4⟩ := h2 w hw
      exact Or.inr ⟨by omega, by simp [h3], fun q => h4 q.2⟩
    | 1, hw => simp at hw; exact Or.inl ⟨rfl, hw.symm⟩
    | j + 2, hw => exact Or.inr ⟨by omega, by simpa using hw, by omega⟩
  | n + 2, o :: t, v, k, h => by
    obtain ⟨L2, h1, h2, h3, h4⟩ := am_st_sp (n + 1) t v _ (show am_st t (n + 1) v _ from h)
    refine ⟨o :: L2, h1, by simp [h2], by simp; omega, fun j w hw => ?_⟩
    cases j with
    | zero => exact Or.inr ⟨by omega, by simpa using hw, by omega⟩
    | succ j =>
      rcases h4 j w (by simpa using hw) with ⟨h5, h6⟩ | ⟨h5, h6, h7⟩
      · exact Or.inl ⟨by omega, h6⟩
      · exact Or.inr ⟨by omega, by simpa using h6, fun q => h7 ⟨by omega, q.2⟩⟩
/-- what a store of two words leaves -/
def am_S2 (L : AL) (i : Nat) (v : Value) (L2 : AL) : Prop := L2.length = L.length ∧ i + 1 < L.length ∧ ∀ (j : Nat) (w : Value), L2[j]? = some (some w) → (j = i ∧ w = v) ∨ (j ≠ i ∧ j ≠ i + 1 ∧ L[j]? = some (some w) ∧ ¬ (j + 1 = i ∧ w.category = 2))
theorem am_st2_sp : ∀ (i : Nat) (L : AL) (v : Value) (k : AL → Prop), am_st2 L i v k → ∃ L2, k L2 ∧ am_S2 L i v L2
  | 0, [], _, _, h => h.elim
  | _ + 1, [], _, _, h => h.elim
  | 0, [_], _, _, h => h.elim
  | 0, o :: o1 :: t, v, k, h => by
    refine ⟨some v :: none :: t, h, by simp, by simp, fun j w hw => ?_⟩
    match j, hw with
    | 0, hw => simp at hw; exact Or.inl ⟨rfl, hw.symm⟩
    | 1, hw => simp at hw
    | j + 2, hw => exact Or.inr ⟨by omega, by omega, by simpa using hw, by omega⟩
  | 1, [_], _, _, h => h.elim
  | 1, [_, _], _, _, h => h.elim
  | 1, o :: o1 :: o3 :: t, v, k, h => by
    obtain ⟨o2, h1, h2⟩ := am_nl_sp o _ (show am_nl o (fun o2 => k (o2 :: some v :: none :: t)) from h)
    refine ⟨o2 :: some v :: none :: t, h1, by simp, by simp, fun j w hw => ?_⟩
    match j, hw with
    | 0, hw =>
      simp at hw
      obtain ⟨h3, h4⟩ := h2 w hw
      exact Or.inr ⟨by omega, by omega, by simp [h3], fun q => h4 q.2⟩
    | 1, hw => simp at hw; exact Or.inl ⟨rfl, hw.symm⟩
    | 2, hw => simp at hw
    | j + 3, hw => exact Or.inr ⟨by omega, by omega, by simpa using hw, by omega⟩
  | n + 2, o :: t, v, k, h => by
    obtain ⟨L2, h1, h2, h3, h4⟩ := am_st2_sp (n + 1) t v _ (show am_st2 t (n + 1) v _ from h)
    refine ⟨o :: L2, h1, by simp [h2], by simp; omega, fun j w hw => ?_⟩
    cases j with
    | zero => exact Or.inr ⟨by omega, by omega, by simpa using hw, by omega⟩
    | succ j =>
      rcases h4 j w (by simpa using hw) with ⟨h5, h6⟩ | ⟨h5, h5b, h6, h7⟩
      · exact Or.inl ⟨by omega, h6⟩
      · exact Or.inr ⟨by omega, by omega, by simpa using h6, fun q => h7 ⟨by omega, q.2⟩⟩
theorem am_hg_sp : ∀ (h : AH) (a : Nat) (k : AC → Prop), am_hg h a k → ∃ c, h[a]? = some c ∧ k c
  | [], _, _, q => q.elim
  | c :: _, 0, _, q => ⟨c, rfl, q⟩
  | _ :: t, n + 1, k, q => by
    obtain ⟨c, h1, h2⟩ := am_hg_sp t n k (by simpa [am_hg] using q)
    exact ⟨c, by simpa using h1, h2⟩
theorem am_hs_sp : ∀ (h : AH) (a : Nat) (c : AC) (k : AH → Prop), am_hs h a c k → k (h.set a c) ∧ a < h.length
  | [], _, _, _, q => q.elim
  | _ :: _, 0, _, _, q => ⟨by simpa [am_hs] using q, by simp⟩
  | x :: t, n + 1, c, k, q => by
    obtain ⟨h1, h2⟩ := am_hs_sp t n c _ (by simpa [am_hs] using q)
    exact ⟨by simpa using h1, by simp; omega⟩
theorem am_fg_sp : ∀ (h : List Value) (a : Nat) (k : Value → Prop), am_fg h a k → ∃ c, h[a]? = some c ∧ k c
  | [], _, _, q => q.elim
  | c :: _, 0, _, q => ⟨c, rfl, q⟩
  | _ :: t, n + 1, k, q => by
    obtain ⟨c, h1, h2⟩ := am_fg_sp t n k (by simpa [am_fg] using q)
    exact ⟨c, by simpa using h1, h2⟩
theorem am_fs_sp : ∀ (h : List Value) (a : Nat) (c : Value) (k : List Value → Prop), am_fs h a c k → k (h.set a c) ∧ a < h.length
  | [], _, _, _, q => q.elim
  | _ :: _, 0, _, _, q => ⟨by simpa [am_fs] using q, by simp⟩
  | x :: t, n + 1, c, k, q => by
    obtain ⟨h1, h2⟩ := am_fs_sp t n c _ (by simpa [am_fs] using q)
    exact ⟨by simpa using h1, by simp; omega⟩
theorem am_pop_sp : ∀ (n : Nat) (S acc : List Value) (k : List Value → List Value → Prop), am_pop n S acc k → ∃ a r, S = a ++ r ∧ a.length = n ∧ k (a.reverse ++ acc) r
  | 0, S, acc, k, h => ⟨[], S, rfl, rfl, by simpa [am_pop] using h⟩
  | _ + 1, [], _, _, h => h.elim
  | n + 1, v :: S, acc, k, h => by
    obtain ⟨a, r, h1, h2, h3⟩ := am_pop_sp n S (v :: acc) k h
    exact ⟨v :: a, r, by simp [h1], by simp [h2], by simpa using h3⟩
theorem am_cat_eq : ∀ S : List Value, (S.map fun v => v.category).sum = am_cat S
  | [] => rfl
  | v :: t => by simp [am_cat, am_cat_eq t]
/-- the values out of the abstract heap, as they are on the machine -/
def am_cv (ad : Nat → Nat) : Value → Value
  | .ref a => .ref (ad a)
  | v => v
theorem am_cv_cat (ad : Nat → Nat) (v : Value) : (am_cv ad v).category = v.category := by cases v <;> rfl
theorem am_cat_cv (ad : Nat → Nat) : ∀ S : List Value, am_cat (S.map (am_cv ad)) = am_cat S
  | [] => rfl
  | v :: t => by simp [am_cat, am_cv_cat, am_cat_cv ad t]
def am_c (ad : Nat → Nat) (cI cW : ClassId) : AC → va_E
  | .inl q => .inl (cI, q.1, .inl q.2)
  | .inr (.inl q) => .inl (cW, q.1, .inr (.inr (.inr (.inr (fun k => (q.2 k).map ad)))))
  | .inr (.inr q) => .inr (q.1, q.2.map (am_cv ad))
def am_wi (ad : Nat → Nat) (cI cW : ClassId) : Nat → AH → va_W
  | _, [] => []
  | i, c :: t => (ad i, am_c ad cI cW c) :: am_wi ad cI cW (i + 1) t
abbrev am_w (ad : Nat → Nat) (cI cW : ClassId) (h : AH) : va_W := am_wi ad cI cW 0 h
theorem am_wi_at (ad : Nat → Nat) (cI cW : ClassId) : ∀ (h : AH) (i j : Nat), (am_wi ad cI cW i h)[j]? = (h[j]?).map (fun c => (ad (i + j), am_c ad cI cW c))
  | [], _, _ => by simp [am_wi]
  | c :: t, i, 0 => by simp [am_wi]
  | c :: t, i, j + 1 => by
    have := am_wi_at ad cI cW t (i + 1) j
    simp only [am_wi, List.getElem?_cons_succ, this]
    rw [show i + 1 + j = i + (j + 1) by omega]
theorem am_wi_set (ad : Nat → Nat) (cI cW : ClassId) : ∀ (h : AH) (i j : Nat) (c : AC), (am_wi ad cI cW i h).set j (ad (i + j), am_c ad cI cW c) = am_wi ad cI cW i (h.set j c)
  | [], _, _, _ => by simp [am_wi]
  | _ :: t, i, 0, c => by simp [am_wi]
  | _ :: t, i, j + 1, c => by
    have := am_wi_set ad cI cW t (i + 1) j c
    simp only [am_wi, List.set_cons_succ]
    rw [← this, show i + 1 + j = i + (j + 1) by omega]
theorem am_w_at {ad : Nat → Nat} {cI cW : ClassId} {h : AH} {a : Nat} {c : AC} (q : h[a]? = some c) : (am_w ad cI cW h)[a]? = some (ad a, am_c ad cI cW c) := by
  rw [am_w, am_wi_at, q]
  simp
theorem am_w_set {ad : Nat → Nat} {cI cW : ClassId} {h : AH} {a : Nat} {c : AC} : (am_w ad cI cW h).set a (ad a, am_c ad cI cW c) = am_w ad cI cW (h.set a c) := by
  have := am_wi_set ad cI cW h 0 a c
  rwa [Nat.zero_add] at this
/-- the addresses are apart and lie in A -/
def am_Ax (ad : Nat → Nat) (A : Nat → Prop) (n : Nat) : Prop := (∀ i j, i < n → j < n → ad i = ad j → i = j) ∧ ∀ i, i < n → A (ad i)
theorem am_Ax_D {ad : Nat → Nat} {A : Nat → Prop} {cI cW : ClassId} {h : AH} (q : am_Ax ad A h.length) : va_D A (am_w ad cI cW h) := by
  have key : ∀ (k : Nat) (x : Nat × va_E), (am_w ad cI cW h)[k]? = some x → k < h.length ∧ x.1 = ad k := by
    intro k x hx
    rw [am_w, am_wi_at] at hx
    obtain ⟨c, h1, rfl⟩ := Option.map_eq_some_iff.mp hx
    exact ⟨(List.getElem?_eq_some_iff.mp h1).1, by simp⟩
  refine ⟨fun i j x y hi hj hxy => ?_, fun k x hx => ?_⟩
  · obtain ⟨a1, a2⟩ := key i x hi
    obtain ⟨b1, b2⟩ := key j y hj
    exact q.1 i j a1 b1 (by rw [← a2, ← b2, hxy])
  · obtain ⟨a1, a2⟩ := key k x hx
    rw [a2]
    exact q.2 k a1
/-- the locals on the machine hold what the abstract ones tell -/
def am_lr (ad : Nat → Nat) (ls : Array Slot) (nL : Nat) (L : AL) : Prop := ls.size = nL ∧ lv_wf ls ∧ L.length = nL ∧ ∀ (i : Nat) (v : Value), L[i]? = some (some v) → ls[i]? = some (.val (am_cv ad v))
def am_as (ad : Nat → Nat) : Nat → AL → List (Nat × Value)
  | _, [] => []
  | i, none :: t => am_as ad (i + 1) t
  | i, some v :: t => (i, am_cv ad v) :: am_as ad (i + 1) t
theorem am_as_mem (ad : Nat → Nat) : ∀ (L : AL) (i : Nat) (x : Nat × Value), x ∈ am_as ad i L ↔ ∃ j v, L[j]? = some (some v) ∧ x = (i + j, am_cv ad v)
  | [], i, x => by simp [am_as]
  | none :: t, i, x => by
    rw [am_as, am_as_mem ad t (i + 1) x]
    constructor
    · rintro ⟨j, v, h1, h2⟩
      exact ⟨j + 1, v, by simpa using h1, by rw [h2]; congr 1; omega⟩
    · rintro ⟨j, v, h1, h2⟩
      cases j with
      | zero => simp at h1
      | succ j => exact ⟨j, v, by simpa using h1, by rw [h2]; congr 1; omega⟩
  | some w :: t, i, x => by
    rw [am_as, List.mem_cons, am_as_mem ad t (i + 1) x]
    constructor
    · rintro (h | ⟨j, v, h1, h2⟩)
      · exact ⟨0, w, rfl, by simpa using h⟩
      · exact ⟨j + 1, v, by simpa using h1, by rw [h2]; congr 1; omega⟩
    · rintro ⟨j, v, h1, h2⟩
      cases j with
      | zero =>
        simp at h1
        subst h1
        exact Or.inl (by simpa using h2)
      | succ j => exact Or.inr ⟨j, v, by simpa using h1, by rw [h2]; congr 1; omega⟩
theorem am_lr_has {ad : Nat → Nat} {ls : Array Slot} {nL : Nat} {L : AL} (h : am_lr ad ls nL L) : lv_has ls nL (am_as ad 0 L) := by
  refine ⟨h.1, h.2.1, fun q hq => ?_⟩
  obtain ⟨j, v, h1, rfl⟩ := (am_as_mem ad L 0 q).mp hq
  simpa using h.2.2.2 j v h1
theorem am_lr_st {ad : Nat → Nat} {ls2 : Array Slot} {nL i : Nat} {L L2 : AL} {v : Value} (hl : L.length = nL) (h2 : am_S1 L i v L2) (h : lv_has ls2 nL ((i, am_cv ad v) :: (am_as ad 0 L).filter (fun q => !(q.1 == i) && !(q.1 + 1 == i && q.2.category == 2)))) : am_lr ad ls2 nL L2 := by
  obtain ⟨a1, a2, a3⟩ := h
  obtain ⟨b1, b2, b3⟩ := h2
  refine ⟨a1, a2, b1.trans hl, fun j w hw => ?_⟩
  rcases b3 j w hw with ⟨rfl, rfl⟩ | ⟨c1, c2, c3⟩
  · exact a3 (j, am_cv ad w) List.mem_cons_self
  · refine a3 (j, am_cv ad w) (List.mem_cons_of_mem _ (List.mem_filter.mpr ⟨(am_as_mem ad L 0 _).mpr ⟨j, w, c2, by simp⟩, ?_⟩))
    simp only [am_cv_cat]
    simp only [Bool.and_eq_true, Bool.not_eq_true', beq_eq_false_iff_ne, ne_eq, Bool.and_eq_false_iff]
    refine ⟨c1, ?_⟩
    by_cases d : j + 1 = i
    · exact Or.inr (fun q => c3 ⟨d, q⟩)
    · exact Or.inl d
theorem am_lr_st2 {ad : Nat → Nat} {ls2 : Array Slot} {nL i : Nat} {L L2 : AL} {v : Value} (hl : L.length = nL) (h2 : am_S2 L i v L2) (h : lv_has ls2 nL ((i, am_cv ad v) :: (am_as ad 0 L).filter (fun q => !(q.1 == i) && (!(q.1 == i + 1) && !(q.1 + 1 == i && q.2.category == 2))))) : am_lr ad ls2 nL L2 := by
  obtain ⟨a1, a2, a3⟩ := h
  obtain ⟨b1, b2, b3⟩ := h2
  refine ⟨a1, a2, b1.trans hl, fun j w hw => ?_⟩
  rcases b3 j w hw with ⟨rfl, rfl⟩ | ⟨c1, c1b, c2, c3⟩
  · exact a3 (j, am_cv ad w) List.mem_cons_self
  · refine a3 (j, am_cv ad w) (List.mem_cons_of_mem _ (List.mem_filter.mpr ⟨(am_as_mem ad L 0 _).mpr ⟨j, w, c2, by simp⟩, ?_⟩))
    simp only [am_cv_cat]
    simp only [Bool.and_eq_true, Bool.not_eq_true', beq_eq_false_iff_ne, ne_eq, Bool.and_eq_false_iff]
    refine ⟨c1, c1b, ?_⟩
    by_cases d : j + 1 = i
    · exact Or.inr (fun q => c3 ⟨d, q⟩)
    · exact Or.inl d
theorem am_pad_sp : ∀ (n : Nat) (k : AL → Prop), am_pad n k → k (List.replicate n none)
  | 0, _, h => h
  | n + 1, k, h => by
    have := am_pad_sp n _ h
    simpa [List.replicate_succ] using this
/-- the entry's locals -/
theorem am_ent_sp (ad : Nat → Nat) : ∀ (vs : List Value) (n : Nat) (k : AL → Prop), am_ent vs n k → ∃ L, k L ∧ L.length = n ∧ (lg_sl (vs.map (am_cv ad))).length ≤ n ∧ ∀ (b : Nat) (j : Nat) (v : Value), L[j]? = some (some v) → (b + j, am_cv ad v) ∈ lv_args b (vs.map (am_cv ad))
  | [], n, k, h => ⟨_, am_pad_sp n k h, by simp, by simp [lg_sl], fun b j v hv => by simp [List.getElem?_replicate] at hv⟩
  | v :: vs, n, k, h => by
    have one : ∀ (w : Value), am_cv ad w = am_cv ad v → ¬ v.category = 2 → w = v → (∃ m, n = m + 1 ∧ am_ent vs m (fun t => k (some w :: t))) → ∃ L, k L ∧ L.length = n ∧ (lg_sl ((v :: vs).map (am_cv ad))).length ≤ n ∧ ∀ (b : Nat) (j : Nat) (u : Value), L[j]? = some (some u) → (b + j, am_cv ad u) ∈ lv_args b ((v :: vs).map (am_cv ad)) := by
      rintro w - hc rfl ⟨m, rfl, hm⟩
      obtain ⟨L, h1, h2, h3, h4⟩ := am_ent_sp ad vs m _ hm
      refine ⟨some w :: L, h1, by simp [h2], ?_, fun b j u hu => ?_⟩
      · simp only [lg_sl, List.map_cons, List.flatMap_cons, am_cv_cat, if_neg hc] at h3 ⊢
        simp only [List.length_append, List.length_cons, List.length_nil]
        omega
      · simp only [List.map_cons, lv_args, am_cv_cat, if_neg hc]
        cases j with
        | zero => simp at hu; subst hu; simp
        | succ j =>
          have := h4 (b + 1) j u (by simpa using hu)
          rw [show b + 1 + j = b + (j + 1) by omega] at this
          exact List.mem_cons_of_mem _ this
    cases v with
    | long x =>
      match n, h with
      | m + 2, h =>
        obtain ⟨L, h1, h2, h3, h4⟩ := am_ent_sp ad vs m _ h
        refine ⟨some (.long x) :: none :: L, h1, by simp [h2], ?_, fun b j u hu => ?_⟩
        · simp only [lg_sl, List.map_cons, List.flatMap_cons, am_cv, Value.category] at h3 ⊢
          simp only [List.length_append, if_pos, List.length_cons, List.length_nil]
          omega
        · simp only [List.map_cons, lv_args, am_cv, Value.category, if_pos]
          match j, hu with
          | 0, hu => simp at hu; subst hu; simp [am_cv]
          | 1, hu => simp at hu
          | j + 2, hu =>
            have := h4 (b + 2) j u (by simpa using hu)
            rw [show b + 2 + j = b + (j + 2) by omega] at this
            exact List.mem_cons_of_mem _ this
      | 0, h => exact h.elim
      | 1, h => exact h.elim
    | double x => exact h.elim
    | int x =>
      cases n with
      | zero => exact h.elim
      | succ m => exact one _ rfl (by simp [Value.category]) rfl ⟨m, rfl, h⟩
    | float x =>
      cases n with
      | zero => exact h.elim
      | succ m => exact one _ rfl (by simp [Value.category]) rfl ⟨m, rfl, h⟩
    | null =>
      cases n with
      | zero => exact h.elim
      | succ m => exact one _ rfl (by simp [Value.category]) rfl ⟨m, rfl, h⟩
    | ref x =>
      cases n with
      | zero => exact h.elim
      | succ m => exact one _ rfl (by simp [Value.category]) rfl ⟨m, rfl, h⟩
    | retAddr x =>
      cases n with
      | zero => exact h.elim
      | succ m => exact one _ rfl (by simp [Value.category]) rfl ⟨m, rfl, h⟩
end
section
/-! a step is monotone in what comes behind it -/
theorem am_g_mo : ∀ (L : AL) (i : Nat) {k k2 : Value → Prop}, (∀ v, k v → k2 v) → am_g L i k → am_g L i k2
  | [], _, _, _, _, h => h
  | some _ :: _, 0, _, _, f, h => f _ h
  | none :: _, 0, _, _, _, h => h
  | some _ :: t, n + 1, _, _, f, h => am_g_mo t n f h
  | none :: t, n + 1, _, _, f, h => am_g_mo t n f h
theorem am_nl_mo (o : Option Value) {k k2 : Option Value → Prop} (f : ∀ v, k v → k2 v) (h : am_nl o k) : am_nl o k2 := by
  cases o with
  | none => exact f _ h
  | some w => cases w <;> exact f _ h
theorem am_st_mo : ∀ (i : Nat) (L : AL) (v : Value) {k k2 : AL → Prop}, (∀ L, k L → k2 L) → am_st L i v k → am_st L i v k2
  | 0, [], _, _, _, _, h => h
  | _ + 1, [], _, _, _, _, h => h
  | 0, _ :: _, _, _, _, f, h => f _ h
  | 1, [_], _, _, _, _, h => h
  | 1, o :: _ :: t, v, k, k2, f, h => am_nl_mo o (k := fun o2 => k (o2 :: some v :: t)) (k2 := fun o2 => k2 (o2 :: some v :: t)) (fun _ q => f _ q) h
  | n + 2, o :: t, v, k, k2, f, h => am_st_mo (n + 1) t v (k := fun t2 => k (o :: t2)) (k2 := fun t2 => k2 (o :: t2)) (fun _ q => f _ q) h
theorem am_st2_mo : ∀ (i : Nat) (L : AL) (v : Value) {k k2 : AL → Prop}, (∀ L, k L → k2 L) → am_st2 L i v k → am_st2 L i v k2
  | 0, [], _, _, _, _, h => h
  | _ + 1, [], _, _, _, _, h => h
  | 0, [_], _, _, _, _, h => h
  | 0, _ :: _ :: _, _, _, _, f, h => f _ h
  | 1, [_], _, _, _, _, h => h
  | 1, [_, _], _, _, _, _, h => h
  | 1, o :: _ :: _ :: t, v, k, k2, f, h => am_nl_mo o (k := fun o2 => k (o2 :: some v :: none :: t)) (k2 := fun o2 => k2 (o2 :: some v :: none :: t)) (fun _ q => f _ q) h
  | n + 2, o :: t, v, k, k2, f, h => am_st2_mo (n + 1) t v (k := fun t2 => k (o :: t2)) (k2 := fun t2 => k2 (o :: t2)) (fun _ q => f _ q) h
theorem am_pad_mo : ∀ (n : Nat) {k k2 : AL → Prop}, (∀ L, k L → k2 L) → am_pad n k → am_pad n k2
  | 0, _, _, f, h => f _ h
  | n + 1, k, k2, f, h => am_pad_mo n (k := fun t => k (none :: t)) (k2 := fun t => k2 (none :: t)) (fun _ q => f _ q) h
theorem am_ent_mo : ∀ (vs : List Value) (n : Nat) {k k2 : AL → Prop}, (∀ L, k L → k2 L) → am_ent vs n k → am_ent vs n k2
  | [], n, _, _, f, h => am_pad_mo n f h
  | v :: vs, n, k, k2, f, h => by
    cases v with
    | long x =>
      match n, h with
      | m + 2, h => exact am_ent_mo vs m (k := fun t => k (some (.long x) :: none :: t)) (k2 := fun t => k2 (some (.long x) :: none :: t)) (fun _ q => f _ q) h
      | 0, h => exact h.elim
      | 1, h => exact h.elim
    | double x => exact h.elim
    | int x =>
      cases n with
      | zero => exact h.elim
      | succ m => exact am_ent_mo vs m (k := fun t => k (some (.int x) :: t)) (k2 := fun t => k2 (some (.int x) :: t)) (fun _ q => f _ q) h
    | float x =>
      cases n with
      | zero => exact h.elim
      | succ m => exact am_ent_mo vs m (k := fun t => k (some (.float x) :: t)) (k2 := fun t => k2 (some (.float x) :: t)) (fun _ q => f _ q) h
    | null =>
      cases n with
      | zero => exact h.elim
      | succ m => exact am_ent_mo vs m (k := fun t => k (some .null :: t)) (k2 := fun t => k2 (some .null :: t)) (fun _ q => f _ q) h
    | ref x =>
      cases n with
      | zero => exact h.elim
      | succ m => exact am_ent_mo vs m (k := fun t => k (some (.ref x) :: t)) (k2 := fun t => k2 (some (.ref x) :: t)) (fun _ q => f _ q) h
    | retAddr x =>
      cases n with
      | zero => exact h.elim
      | succ m => exact am_ent_mo vs m (k := fun t => k (some (.retAddr x) :: t)) (k2 := fun t => k2 (some (.retAddr x) :: t)) (fun _ q => f _ q) h
theorem am_hg_mo : ∀ (h : AH) (a : Nat) {k k2 : AC → Prop}, (∀ c, k c → k2 c) → am_hg h a k → am_hg h a k2
  | [], _, _, _, _, h => h
  | _ :: _, 0, _, _, f, h => f _ h
  | _ :: t, n + 1, _, _, f, h => am_hg_mo t n f h
theorem am_hs_mo : ∀ (h : AH) (a : Nat) (c : AC) {k k2 : AH → Prop}, (∀ h, k h → k2 h) → am_hs h a c k → am_hs h a c k2
  | [], _, _, _, _, _, h => h
  | _ :: _, 0, _, _, _, f, h => f _ h
  | x :: t, n + 1, c, k, k2, f, h => am_hs_mo t n c (k := fun t2 => k (x :: t2)) (k2 := fun t2 => k2 (x :: t2)) (fun _ q => f _ q) h
theorem am_fg_mo : ∀ (h : List Value) (a : Nat) {k k2 : Value → Prop}, (∀ c, k c → k2 c) → am_fg h a k → am_fg h a k2
  | [], _, _, _, _, h => h
  | _ :: _, 0, _, _, f, h => f _ h
  | _ :: t, n + 1, _, _, f, h => am_fg_mo t n f h
theorem am_fs_mo : ∀ (h : List Value) (a : Nat) (c : Value) {k k2 : List Value → Prop}, (∀ h, k h → k2 h) → am_fs h a c k → am_fs h a c k2
  | [], _, _, _, _, _, h => h
  | _ :: _, 0, _, _, _, f, h => f _ h
  | x :: t, n + 1, c, k, k2, f, h => am_fs_mo t n c (k := fun t2 => k (x :: t2)) (k2 := fun t2 => k2 (x :: t2)) (fun _ q => f _ q) h
theorem am_pop_mo : ∀ (n : Nat) (S acc : List Value) {k k2 : List Value → List Value → Prop}, (∀ a b, k a b → k2 a b) → am_pop n S acc k → am_pop n S acc k2
  | 0, _, _, _, _, f, h => f _ _ h
  | _ + 1, [], _, _, _, _, h => h
  | n + 1, v :: S, acc, _, _, f, h => am_pop_mo n S (v :: acc) f h
theorem am_b_mo {c A B A2 B2 : Prop} (f : A → A2) (g : B → B2) (h : am_b c A B) : am_b c A2 B2 := ⟨fun q => f (h.1 q), fun q => g (h.2 q)⟩
theorem am_c1_mo {A B A2 B2 : Prop} (c : Jvm.ClassFile.Cond) (x : Int32) (f : A → A2) (g : B → B2) (h : am_c1 c x A B) : am_c1 c x A2 B2 := by
  cases c <;> first | exact am_b_mo f g h | exact am_b_mo g f h
theorem am_c2_mo {A B A2 B2 : Prop} (c : Jvm.ClassFile.Cond) (x y : Int32) (f : A → A2) (g : B → B2) (h : am_c2 c x y A B) : am_c2 c x y A2 B2 := by
  cases c <;> first | exact am_b_mo f g h | exact am_b_mo g f h
theorem am_tab_mo (x : Int32) {J J2 : Nat → Prop} {D D2 : Prop} (f : ∀ t, J t → J2 t) (g : D → D2) : ∀ (ts : List Int) (c : Nat), am_tab x c ts J D → am_tab x c ts J2 D2
  | [], _, h => g h
  | _ :: ts, c, h => am_b_mo (f _) (am_tab_mo x f g ts (c + 1)) h
theorem am_lkp_mo (x : Int32) {J J2 : Nat → Prop} {D D2 : Prop} (f : ∀ t, J t → J2 t) (g : D → D2) : ∀ (ts : List (Int × Int)), am_lkp x ts J D → am_lkp x ts J2 D2
  | [], h => g h
  | _ :: ts, h => am_b_mo (f _) (am_lkp_mo x f g ts) h
theorem am_pv_mo {t : Nat} {v : Value} {P P2 : Prop} (f : P → P2) (h : am_pv t v P) : am_pv t v P2 := by
  match t, h with
  | 0, h => cases v <;> first | exact f h | exact h.elim
  | 1, h => cases v <;> first | exact f h | exact h.elim
  | 2, h => cases v <;> first | exact ⟨h.1, f h.2⟩ | exact h.elim
  | _ + 3, h => exact h.elim
theorem am_if_mo {b : Bool} {P P2 : Prop} (f : P → P2) (h : bif b then P else False) : bif b then P2 else False := by
  cases b
  · exact h
  · exact f h
section MO
variable {nx nx2 : AL → List Value → AH → Prop} {J J2 : Nat → AL → List Value → AH → Prop} {C C2 : Nat → List Value → AL → List Value → AH → Prop} {Rr R2 : Option Value → AH → Prop} {L : AL} {S : List Value} {h : AH}
theorem am_stp_mo (f : ∀ L S h, nx L S h → nx2 L S h) (fj : ∀ t L S h, J t L S h → J2 t L S h) (fc : ∀ t a L S h, C t a L S h → C2 t a L S h) (fr : ∀ r h, Rr r h → R2 r h) : ∀ ri : Instr, am_stp ri nx J C Rr L S h → am_stp ri nx2 J2 C2 R2 L S h := by
  have spl : ∀ (T : Value → Prop) (T2 : Value → Prop), (∀ v, T v → T2 v) → ∀ i, am_g L i T → am_g L i T2 := fun T T2 q i hq => am_g_mo L i q hq
  intro ri H
  cases ri with
  | iload i =>
    exact am_g_mo L i (fun v hv => by cases v <;> first | exact f _ _ _ hv | exact hv.elim) H
  | lload i =>
    exact am_g_mo L i (fun v hv => by cases v <;> first | exact f _ _ _ hv | exact hv.elim) H
  | aload i =>
    exact am_g_mo L i (fun v hv => by cases v <;> first | exact f _ _ _ hv | exact hv.elim) H
  | istore i =>
    dsimp only [am_stp] at H ⊢
    split at H
    · exact am_st_mo i L _ (fun _ q => f _ _ _ q) H
    · exact H.elim
  | astore i =>
    dsimp only [am_stp] at H ⊢
    split at H
    · exact am_st_mo i L _ (fun _ q => f _ _ _ q) H
    · exact H.elim
  | lstore i =>
    dsimp only [am_stp] at H ⊢
    split at H
    · exact am_st2_mo i L _ (fun _ q => f _ _ _ q) H
    · exact H.elim
  | iinc i k =>
    exact am_g_mo L i (fun v hv => by cases v <;> first | exact am_st_mo i L _ (fun _ q => f _ _ _ q) hv | exact hv.elim) H
  | anewarray k =>
    exact f _ _ _ H
  | iconst k =>
    exact f _ _ _ H
  | ldc2_w k =>
    exact f _ _ _ H
  | iadd =>
    dsimp only [am_stp] at H ⊢
    split at H
    · exact f _ _ _ H
    · exact H.elim
  | isub =>
    dsimp only [am_stp] at H ⊢
    split at H
    · exact f _ _ _ H
    · exact H.elim
  | imul =>
    dsimp only [am_stp] at H ⊢
    split at H
    · exact f _ _ _ H
    · exact H.elim
  | iand =>
    dsimp only [am_stp] at H ⊢
    split at H
    · exact f _ _ _ H
    · exact H.elim
  | ior =>
    dsimp only [am_stp] at H ⊢
    split at H
    · exact f _ _ _ H
    · exact H.elim
  | ixor =>
    dsimp only [am_stp] at H ⊢
    split at H
    · exact f _ _ _ H
    · exact H.elim
  | ineg =>
    dsimp only [am_stp] at H ⊢
    split at H
    · exact f _ _ _ H
    · exact H.elim
  | ishl =>
    dsimp only [am_stp] at H ⊢
    split at H
    · exact f _ _ _ H
    · exact H.elim
  | ishr =>
    dsimp only [am_stp] at H ⊢
    split at H
    · exact f _ _ _ H
    · exact H.elim
  | iushr =>
    dsimp only [am_stp] at H ⊢
    split at H
    · exact f _ _ _ H
    · exact H.elim
  | ladd =>
    dsimp only [am_stp] at H ⊢
    split at H
    · exact f _ _ _ H
    · exact H.elim
  | lsub =>
    dsimp only [am_stp] at H ⊢
    split at H
    · exact f _ _ _ H
    · exact H.elim
  | lmul =>
    dsimp only [am_stp] at H ⊢
    split at H
    · exact f _ _ _ H
    · exact H.elim
  | land =>
    dsimp only [am_stp] at H ⊢
    split at H
    · exact f _ _ _ H
    · exact H.elim
  | lor =>
    dsimp only [am_stp] at H ⊢
    split at H
    · exact f _ _ _ H
    · exact H.elim
  | lshl =>
    dsimp only [am_stp] at H ⊢
    split at H
    · exact f _ _ _ H
    · exact H.elim
  | lshr =>
    dsimp only [am_stp] at H ⊢
    split at H
    · exact f _ _ _ H
    · exact H.elim
  | lushr =>
    dsimp only [am_stp] at H ⊢
    split at H
    · exact f _ _ _ H
    · exact H.elim
  | i2l =>
    dsimp only [am_stp] at H ⊢
    split at H
    · exact f _ _ _ H
    · exact H.elim
  | l2i =>
    dsimp only [am_stp] at H ⊢
    split at H
    · exact f _ _ _ H
    · exact H.elim
  | lcmp =>
    dsimp only [am_stp] at H ⊢
    split at H
    · exact f _ _ _ H
    · exact H.elim
  | idiv =>
    dsimp only [am_stp] at H ⊢
    split at H
    · exact ⟨H.1, f _ _ _ H.2⟩
    · exact H.elim
  | irem =>
    dsimp only [am_stp] at H ⊢
    split at H
    · exact ⟨H.1, f _ _ _ H.2⟩
    · exact H.elim
  | ldiv =>
    dsimp only [am_stp] at H ⊢
    split at H
    · exact ⟨H.1, f _ _ _ H.2⟩
    · exact H.elim
  | lrem =>
    dsimp only [am_stp] at H ⊢
    split at H
    · exact ⟨H.1, f _ _ _ H.2⟩
    · exact H.elim
  | dup =>
    dsimp only [am_stp] at H ⊢
    split at H
    · exact f _ _ _ H
    · exact f _ _ _ H
    · exact H.elim
  | dup2 =>
    dsimp only [am_stp] at H ⊢
    split at H
    · exact f _ _ _ H
    · exact f _ _ _ H
    · exact H.elim
  | pop =>
    dsimp only [am_stp] at H ⊢
    split at H
    · exact f _ _ _ H
    · exact f _ _ _ H
    · exact H.elim
  | if_icmp c t =>
    dsimp only [am_stp] at H ⊢
    split at H
    · exact am_c2_mo c _ _ (fj _ _ _ _) (f _ _ _) H
    · exact H.elim
  | ifCond c t =>
    dsimp only [am_stp] at H ⊢
    split at H
    · exact am_c1_mo c _ (fj _ _ _ _) (f _ _ _) H
    · exact H.elim
  | goto t =>
    exact fj _ _ _ _ H
  | tableswitch d lo hi ts =>
    dsimp only [am_stp] at H ⊢
    split at H
    · exact am_tab_mo _ (fun t q => fj _ _ _ _ q) (fj _ _ _ _) _ _ H
    · exact H.elim
  | lookupswitch d ps =>
    dsimp only [am_stp] at H ⊢
    split at H
    · exact am_lkp_mo _ (fun t q => fj _ _ _ _ q) (fj _ _ _ _) _ H
    · exact H.elim
  | getfield r =>
    dsimp only [am_stp] at H ⊢
    split at H
    · refine am_hg_mo h _ (fun c hc => ?_) H
      split at hc
      · exact am_if_mo (am_fg_mo _ _ (fun v q => f _ _ _ q)) hc
      · exact hc.elim
    · exact H.elim
  | putfield r =>
    dsimp only [am_stp] at H ⊢
    split at H
    · refine am_hg_mo h _ (fun c hc => ?_) H
      split at hc
      · exact am_if_mo (am_pv_mo (am_fs_mo _ _ _ (fun fs q => am_hs_mo h _ _ (fun h q => f _ _ _ q) q))) hc
      · exact hc.elim
    · exact H.elim
  | iaload =>
    dsimp only [am_stp] at H ⊢
    split at H
    · refine am_hg_mo h _ (fun c hc => ?_) H
      split at hc
      · exact ⟨hc.1, f _ _ _ hc.2⟩
      · exact hc.elim
    · exact H.elim
  | iastore =>
    dsimp only [am_stp] at H ⊢
    split at H
    · refine am_hg_mo h _ (fun c hc => ?_) H
      split at hc
      · exact ⟨hc.1, am_hs_mo h _ _ (fun h q => f _ _ _ q) hc.2⟩
      · exact hc.elim
    · exact H.elim
  | aaload =>
    dsimp only [am_stp] at H ⊢
    split at H
    · refine am_hg_mo h _ (fun c hc => ?_) H
      split at hc
      · refine ⟨hc.1, ?_⟩
        have h2 := hc.2
        split at h2
        · exact f _ _ _ h2
        · exact h2.elim
      · exact hc.elim
    · exact H.elim
  | arraylength =>
    dsimp only [am_stp] at H ⊢
    split at H
    · refine am_hg_mo h _ (fun c hc => ?_) H
      split at hc
      · exact f _ _ _ hc
      · exact hc.elim
    · exact H.elim
  | invokeinterface r k =>
    refine am_pop_mo k S [] (fun a b hq => am_if_mo (fun hz => ?_) hq) H
    split at hz
    · exact fc _ _ _ _ _ hz
    · split at hz
      · refine am_hg_mo h _ (fun c hc => ?_) hz
        split at hc
        · exact am_if_mo (fc _ _ _ _ _) hc
        · exact hc.elim
      · exact hz.elim
  | invokedynamic k =>
    match k, H with
    | 0, H =>
      have H : am_i0 nx L S h := H
      show am_i0 nx2 L S h
      unfold am_i0 at H ⊢
      split at H
      · refine am_if_mo (fun hz => am_hg_mo h _ (fun c0 h0 => am_hg_mo h _ (fun c1 h1 => ?_) h0) hz) H
        split at h1
        · split at h1
          · exact ⟨h1.1, am_hs_mo h _ _ (fun h q => f _ _ _ q) h1.2⟩
          · exact h1.elim
        · exact h1.elim
      · exact H.elim
    | 1, H =>
      have H : am_i1 nx L S h := H
      show am_i1 nx2 L S h
      unfold am_i1 at H ⊢
      split at H
      · exact am_if_mo (f _ _ _) H
      · exact H.elim
    | 2, H =>
      have H : am_i2 nx L S h := H
      show am_i2 nx2 L S h
      unfold am_i2 at H ⊢
      split at H
      · exact am_if_mo (f _ _ _) H
      · exact H.elim
    | 3, H =>
      have H : am_i3 nx L S h := H
      show am_i3 nx2 L S h
      unfold am_i3 at H ⊢
      split at H
      · exact am_if_mo (f _ _ _) H
      · exact H.elim
    | 4, H =>
      have H : am_i4 nx L S h := H
      show am_i4 nx2 L S h
      unfold am_i4 at H ⊢
      split at H
      · exact am_if_mo (f _ _ _) H
      · exact H.elim
    | _ + 5, H => exact H.elim
  | ireturn =>
    dsimp only [am_stp] at H ⊢
    split at H
    · exact fr _ _ H
    · exact H.elim
  | lreturn =>
    dsimp only [am_stp] at H ⊢
    split at H
    · exact fr _ _ H
    · exact H.elim
  | areturn =>
    dsimp only [am_stp] at H ⊢
    split at H
    · exact fr _ _ H
    · exact H.elim
  | return_ =>
    dsimp only [am_stp] at H ⊢
    split at H
    · exact fr _ _ H
    · exact H.elim
  | dreturn =>
    dsimp only [am_stp] at H ⊢
    split at H
    · exact ⟨H.1, fr _ _ H.2⟩
    · exact H.elim
  | _ => exact H.elim
end MO
end
section
/-! THE ABSTRACT MACHINE IS SOUND: what it shows, the machine does -/
def am_TS : List Jvm.Cond := lw_tbl.filter goodWord
theorem am_ts {w : Jvm.Cond} (h : w ∈ lw_tbl) (g : goodWord w = true) : w ∈ am_TS := List.mem_filter.mpr ⟨h, g⟩
theorem am_ts_good : ∀ w ∈ am_TS, goodWord w = true := fun w h => (List.mem_filter.mp h).2
def am_ty (cI cW : ClassId) : List (ClassId × FieldType) := [(cI, .int), (cW, .object "RivetedSisters$Wire")]
def am_NW (U : State) : Prop := ∀ e ∈ am_NL, va_Nw (w_nl e) U
def am_ws (q : ME) : List Jvm.Cond := w_code q :: am_TS
def am_rm (q : ME) : Room := { frames := q.2.2.2.2.2.2.1, cells := 0, slots := 0, locals := q.2.2.2.2.2.2.2.1 }
def am_Q (D : va_G) (ad : Nat → Nat) (cI cW : ClassId) (A : Nat → Prop) (n : Nat) (K : Option Value → AH → Prop) : Array Value → State → Outcome → State → Prop := fun _ st o t =>
  ∃ (r : Option Value) (h : AH), o = .returned (r.map (am_cv ad)) ∧ K r h ∧ h.length = n ∧ va_P D am_cl (am_w ad cI cW h) t.heap ∧ va_F A st t
def am_Cx (p : Program) (s : State) (m : MethodId) (args : Array Value) (meth : Method) (c : Code) (D : va_G) (cI cW : ClassId) (q : ME) : Prop :=
  p.tables.exec = Jvm.exec ∧ c.code = q.2.1 ∧ meth.sig.returnType = q.2.2.2.1 ∧ c.maxLocals = q.2.2.1 ∧ s.vm.findClass (am_cn q.2.2.2.2.2.1) = some m.cls ∧ (∀ w ∈ am_TS, w.before args s = true) ∧ meth.locks = false ∧ va_K D am_cl (am_ty cI cW) s ∧ am_NW s
def am_Dx (ad : Nat → Nat) (A : Nat → Prop) (n : Nat) (s : State) : Prop := am_Ax ad A n ∧ ∀ x, s.heap.size ≤ x → A x
def am_G (p : Program) (l : Launch) (e : Env) (R : Room) (s : State) (m : MethodId) (args : Array Value) (below : List Frame) (meth : Method) (c : Code) (Q : State → Prop) (D : va_G) (ad : Nat → Nat) (cI cW : ClassId) (A : Nat → Prop) (n : Nat) (q : ME) (pc : Nat) (L : AL) (S : List Value) (h : AH) : Prop :=
  ∀ (H : Heap) (locs : List Loc) (ls : Array Slot), va_P D am_cl (am_w ad cI cW h) H → va_S A s.heap H locs → h.length = n → am_lr ad ls q.2.2.1 L → W p l e R s m args below meth c H locs 0 0 Q (F0 m pc ls (S.map (am_cv ad)))
/-- one table entry at a time: what is shown of a code -/
def am_SP (l : Launch) (D : va_G) (ad : Nat → Nat) (cI cW : ClassId) (k pc : Nat) (L : AL) (S : List Value) (h : AH) (K : Option Value → AH → Prop) : Prop :=
  ∀ q, nth am_MT k = some q → ∀ (p : Program) (e : Env) (s : State) (m : MethodId) (args : Array Value) (below : List Frame) (meth : Method) (c : Code), am_Cx p s m args meth c D cI cW q → ∀ A : Nat → Prop, am_Dx ad A h.length s →
    am_G p l e (am_rm q) s m args below meth c (MQ below (am_Q D ad cI cW A h.length K) args s 0 0 A) D ad cI cW A h.length q pc L S h
theorem W.mono {p : Program} {l : Launch} {e : Env} {R : Room} {s : State} {m : MethodId} {args : Array Value} {below : List Frame} {meth : Method} {c : Code} {H : Heap} {locs : List Loc} {cells slots : Nat} {Q Q2 : State → Prop} {g : JFrame} (f : ∀ t, Q t → Q2 t) (h : W p l e R s m args below meth c H locs cells slots Q g) : W p l e R s m args below meth c H locs cells slots Q2 g := by
  intro T hT X
  obtain ⟨t, a, b⟩ := h T hT X
  exact ⟨t, a, f t b⟩
theorem am_SP_mo {l : Launch} {D : va_G} {ad : Nat → Nat} {cI cW : ClassId} {k pc : Nat} {L : AL} {S : List Value} {h : AH} {K K2 : Option Value → AH → Prop} (f : ∀ r h, K r h → K2 r h) (H : am_SP l D ad cI cW k pc L S h K) : am_SP l D ad cI cW k pc L S h K2 := by
  intro q hq p e s m args below meth c X A hA H2 locs ls hP hS hn hl
  refine W.mono ?_ (H q hq p e s m args below meth c X A hA H2 locs ls hP hS hn hl)
  rintro t ⟨o, h1, h2, ⟨r, h', h3, h4, h5, h6, h7⟩, h8⟩
  exact ⟨o, h1, h2, ⟨r, h', h3, f _ _ h4, h5, h6, h7⟩, h8⟩
/-! the tables' facts, entry by entry -/
def am_zip : List (ME × Nat × Nat) := List.zip am_MT (List.zip am_PN am_CI)
def am_okZ (x : ME × Nat × Nat) : Bool := am_okN x.1 && (match x.2.2 with
  | 0 => x.1.2.2.2.2.1 && decide ((parseMethodDescriptor x.1.1.desc).map (fun d => d.parameters.length) = some x.2.1)
  | c + 1 => !x.1.2.2.2.2.1 && (decide ((parseMethodDescriptor x.1.1.desc).map (fun d => d.parameters.length) = some (x.2.1 - 1)) && (match nth am_cl c with
    | some z => decide (z.1 = x.1.1.cls)
    | none => false)))
set_option maxRecDepth 100000 in
theorem am_zip_ok : am_zip.all am_okZ = true := by decide +kernel
set_option maxRecDepth 100000 in
theorem am_lens : am_PN.length = am_MT.length ∧ am_CI.length = am_MT.length := by decide +kernel
theorem nth_zip {α β : Type} : ∀ (a : List α) (b : List β) (n : Nat) {x : α} {y : β}, nth a n = some x → nth b n = some y → nth (List.zip a b) n = some (x, y)
  | [], _, _, _, _, h, _ => by simp [nth] at h
  | _ :: _, [], _, _, _, _, h => by simp [nth] at h
  | _ :: _, _ :: _, 0, _, _, h, h2 => by simp [nth] at h h2; simp [nth, h, h2]
  | _ :: a, _ :: b, n + 1, _, _, h, h2 => by
    simp only [List.zip_cons_cons, nth] at h h2 ⊢
    exact nth_zip a b n h h2
theorem am_ok_at {k : Nat} {q : ME} (h : nth am_MT k = some q) : am_okN q = true := by
  have hl : k < am_MT.length := by
    rw [nth_eq] at h
    exact (List.getElem?_eq_some_iff.mp h).1
  have h1 : nth am_PN k = some (am_PN[k]'(by rw [am_lens.1]; exact hl)) := by rw [nth_eq]; exact List.getElem?_eq_getElem _
  have h2 : nth am_CI k = some (am_CI[k]'(by rw [am_lens.2]; exact hl)) := by rw [nth_eq]; exact List.getElem?_eq_getElem _
  have h3 := nth_zip _ _ k h (nth_zip _ _ k h1 h2)
  have h4 := List.all_eq_true.mp am_zip_ok _ (nth_mem _ _ h3)
  exact (Bool.and_eq_true_iff.mp h4).1
theorem am_ok_zip {k n c : Nat} {q : ME} (h : nth am_MT k = some q) (h1 : nth am_PN k = some n) (h2 : nth am_CI k = some c) : am_okZ (q, n, c) = true :=
  List.all_eq_true.mp am_zip_ok _ (nth_mem _ _ (nth_zip _ _ k h (nth_zip _ _ k h1 h2)))
theorem am_code_ts {k : Nat} {q : ME} (h : nth am_MT k = some q) : w_code q ∈ am_TS := am_ts (in_code q (nth_mem _ _ h)) rfl
theorem am_kind_ts {k : Nat} {q : ME} (h : nth am_MT k = some q) : w_kind q ∈ am_TS := am_ts (in_kind _ (List.mem_map_of_mem (nth_mem _ _ h))) (by unfold w_kind; split <;> rfl)
theorem am_sel_ts {k : Nat} {q : ME} (h : nth am_MT k = some q) : w_sel q ∈ am_TS := am_ts (in_sel _ (List.mem_map_of_mem (nth_mem _ _ h))) (by unfold w_sel; split <;> rfl)
theorem am_ini_ts {k : Nat} {q : ME} (h : nth am_MT k = some q) : w_ini q ∈ am_TS := am_ts (in_ini _ (List.mem_map_of_mem (nth_mem _ _ h))) rfl
theorem am_good_ws {k : Nat} {q : ME} (h : nth am_MT k = some q) : GoodIn am_TS (am_ws q) := by
  intro w hw
  rcases List.mem_cons.mp hw with rfl | hw
  · exact ⟨am_code_ts h, good_of_word rfl⟩
  · exact ⟨hw, good_of_word (am_ts_good w hw)⟩
theorem am_u_good (C : String) (T : u_T) (N : Nat) : ∀ w ∈ u_ws C T N, goodWord w = true := by
  intro w hw
  obtain ⟨k, -, rfl⟩ := List.mem_map.mp hw
  unfold u_lay
  split <;> rfl
/-- a class of the worlds: its words, its fields' types, its fields' names -/
def am_clok (z : vw_C) : Prop := (∀ w ∈ u_ws z.1 z.2.1 z.2.2, w ∈ am_TS) ∧ ∃ ty : Nat → FieldType, (∀ k, k < z.2.2 → parseFieldDescriptor (z.2.1 k).2.2.1 = some (ty k)) ∧ ∀ a, a < z.2.2 → ∀ b, b < z.2.2 → a ≠ b → (z.2.1 a).2.1 ≠ (z.2.1 b).2.1
theorem am_cl_0 : am_clok ("RivetedSisters$Best", am_F0, 2) := ⟨fun w h => am_ts (in_u0 w h) (am_u_good _ _ _ w h), am_Y0, by decide +kernel, by decide +kernel⟩
theorem am_cl_1 : am_clok ("RivetedSisters$Echoes", am_F1, 6) := ⟨fun w h => am_ts (in_u1 w h) (am_u_good _ _ _ w h), am_Y1, by decide +kernel, by decide +kernel⟩
theorem am_cl_2 : am_clok ("RivetedSisters$Futures", am_F2, 7) := ⟨fun w h => am_ts (in_u2 w h) (am_u_good _ _ _ w h), am_Y2, by decide +kernel, by decide +kernel⟩
theorem am_cl_3 : am_clok ("RivetedSisters$Orders", am_F3, 4) := ⟨fun w h => am_ts (in_u3 w h) (am_u_good _ _ _ w h), am_Y3, by decide +kernel, by decide +kernel⟩
theorem am_cl_4 : am_clok ("RivetedSisters$Past", am_F4, 3) := ⟨fun w h => am_ts (in_u4 w h) (am_u_good _ _ _ w h), am_Y4, by decide +kernel, by decide +kernel⟩
theorem am_cl_5 : am_clok ("RivetedSisters$Plans", am_F5, 5) := ⟨fun w h => am_ts (in_u5 w h) (am_u_good _ _ _ w h), am_Y5, by decide +kernel, by decide +kernel⟩
theorem am_cl_6 : am_clok ("RivetedSisters$Row", am_F6, 2) := ⟨fun w h => am_ts (in_u6 w h) (am_u_good _ _ _ w h), am_Y6, by decide +kernel, by decide +kernel⟩
theorem am_cl_7 : am_clok ("RivetedSisters$Valley", am_F7, 4) := ⟨fun w h => am_ts (in_u7 w h) (am_u_good _ _ _ w h), am_Y7, by decide +kernel, by decide +kernel⟩
theorem am_cl_8 : am_clok ("RivetedSisters$Wave", am_F8, 3) := ⟨fun w h => am_ts (in_u8 w h) (am_u_good _ _ _ w h), am_Y8, by decide +kernel, by decide +kernel⟩
theorem am_cl_9 : am_clok ("RivetedSisters$Wire", am_F9, 9) := ⟨fun w h => am_ts (in_u9 w h) (am_u_good _ _ _ w h), am_Y9, by decide +kernel, by decide +kernel⟩
theorem am_cl_10 : am_clok ("RivetedSisters", am_F10, 12) := ⟨fun w h => am_ts (in_u10 w h) (am_u_good _ _ _ w h), am_Y10, by decide +kernel, by decide +kernel⟩
theorem am_cl_11 : am_clok ("RivetedSistersModel", am_F11, 28) := ⟨fun w h => am_ts (in_u11 w h) (am_u_good _ _ _ w h), am_Y11, by decide +kernel, by decide +kernel⟩
theorem am_cl_ok : ∀ z ∈ am_cl, am_clok z := List.forall_mem_cons.mpr ⟨am_cl_0, List.forall_mem_cons.mpr ⟨am_cl_1, List.forall_mem_cons.mpr ⟨am_cl_2, List.forall_mem_cons.mpr ⟨am_cl_3, List.forall_mem_cons.mpr ⟨am_cl_4, List.forall_mem_cons.mpr ⟨am_cl_5, List.forall_mem_cons.mpr ⟨am_cl_6, List.forall_mem_cons.mpr ⟨am_cl_7, List.forall_mem_cons.mpr ⟨am_cl_8, List.forall_mem_cons.mpr ⟨am_cl_9, List.forall_mem_cons.mpr ⟨am_cl_10, List.forall_mem_cons.mpr ⟨am_cl_11, fun _ h => absurd h List.not_mem_nil⟩⟩⟩⟩⟩⟩⟩⟩⟩⟩⟩⟩
def am_FLok (e : Nat × Nat × Nat × Nat) : Bool := match nth am_cl e.2.2.1 with
  | some z => Nat.blt e.2.2.2 z.2.2
  | none => false
theorem am_FL_ok : am_FL.all am_FLok = true := by decide +kernel
theorem am_fl_at {o i c k : Nat} (h : (o, i, c, k) ∈ am_FL) : ∃ z : vw_C, nth am_cl c = some z ∧ k < z.2.2 ∧ Jvm.Cond.fieldLink (am_cn o) i (z.2.1 k).1 (z.2.1 k).2.1 (z.2.1 k).2.2.1 ∈ am_TS ∧ am_clok z := by
  have h1 := List.all_eq_true.mp am_FL_ok _ h
  have h2 := in_fl _ (List.mem_map_of_mem (f := w_fl) h)
  unfold am_FLok at h1
  unfold w_fl at h2
  split at h1
  · rename_i z hz
    rw [hz] at h2
    exact ⟨z, hz, by simpa using h1, am_ts h2 rfl, am_cl_ok z (nth_mem _ _ hz)⟩
  · cases h1
theorem am_ml_at {o i k : Nat} {q : ME} (h : (o, i, k) ∈ am_ML) (hq : nth am_MT k = some q) : Jvm.Cond.methodLink (am_cn o) i q.1 ∈ am_TS := by
  have h2 := in_ml _ (List.mem_map_of_mem (f := w_ml) h)
  unfold w_ml at h2
  simp only [hq] at h2
  exact am_ts h2 rfl
theorem am_nl_at {o i k : Nat} {q : ME} {U : State} (h : (o, i, k) ∈ am_NL) (hq : nth am_MT k = some q) (hN : am_NW U) : va_Nw (.methodLinkNest (am_cn o) i q.1 "RivetedSisters") U := by
  have h2 := hN _ h
  unfold w_nl at h2
  simpa only [hq] using h2
theorem am_NW_warm {s U : State} (hW : s.WarmedH U.vm) (h : am_NW s) : am_NW U := by
  intro e he
  have h2 := h e he
  unfold w_nl at h2 ⊢
  split at h2
  · exact va_Nw.warmM hW h2
  · rfl
theorem am_NW_same {s U : State} (hv : s.vm = U.vm) (h : am_NW s) : am_NW U := by
  intro e he
  have h2 := h e he
  unfold w_nl at h2 ⊢
  split at h2
  · exact va_Nw.same rfl hv h2
  · rfl
theorem am_cl_const {o i : Nat} {v : Int} (h : (o, i, v) ∈ am_CL) : Jvm.Cond.constant (am_cn o) i (Int32.ofInt v) ∈ am_TS := am_ts (in_cl _ (List.mem_map_of_mem (f := w_cl) h)) rfl
theorem am_ll_const {o i v : Nat} (h : (o, i, v) ∈ am_LL) : Jvm.Cond.constantLong (am_cn o) i (Int64.ofNat v) ∈ am_TS := am_ts (in_ll _ (List.mem_map_of_mem (f := w_ll) h)) rfl
theorem am_al_link {o i : Nat} (h : (o, i) ∈ am_AL) : Jvm.Cond.methodLink (am_cn o) i arraycopyName ∈ am_TS := am_ts (in_al _ (List.mem_map_of_mem (f := w_al) h)) rfl
theorem am_ofInt (k : Nat) : Int32.ofInt (k : Int) = nI k := by
  apply Int32.toBitVec_inj.mp
  simp [nI]
theorem am_inc_eq (x : Int32) (n : Int) : x + Int32.ofInt n = am_inc x n := by
  cases n with
  | ofNat k => exact congrArg (x + ·) (am_ofInt k)
  | negSucc k =>
    show x + Int32.ofInt (Int.negSucc k) = x - nI (k + 1)
    rw [← am_ofInt, Int.negSucc_eq, Int32.ofInt_neg, Int32.sub_eq_add_neg]
    rfl
theorem am_if_sp {b : Bool} {P : Prop} (h : bif b then P else False) : b = true ∧ P := by
  cases b
  · exact h.elim
  · exact ⟨rfl, h⟩
theorem am_k4_sp {i : Nat} {f : Fin 4 → Instr} {raw : Instr} {len : Nat} (h : am_k4 i f raw len = true) : ∃ k : Fin 4, (k : Nat) = i ∧ raw = f k ∧ len = 1 := by
  unfold am_k4 at h
  split at h
  · rename_i hi
    simp only [Bool.and_eq_true, decide_eq_true_eq] at h
    exact ⟨⟨i, hi⟩, rfl, h.1, Nat.eq_of_beq_eq_true h.2⟩
  · cases h
theorem am_eq_sp {a b : Instr} {len n : Nat} (h : (decide (a = b) && Nat.beq len n) = true) : a = b ∧ len = n := by
  simp only [Bool.and_eq_true, decide_eq_true_eq] at h
  exact ⟨h.1, Nat.eq_of_beq_eq_true h.2⟩
theorem am_off_sp {pc : Nat} {off t : Int} (h : am_off pc off t = true) : (pc : Int) + off = (t.toNat : Int) := by simpa [am_off] using h
section RW
variable {p : Program} {l : Launch} {e : Env} {R : Room} {s : State} {m : MethodId} {args : Array Value} {below : List Frame} {meth : Method} {c : Code} {Q : State → Prop} {D : va_G} {ad : Nat → Nat} {cI cW : ClassId} {A : Nat → Prop} {n : Nat} {q : ME} {pc len : Nat} {raw : Instr} {L : AL} {S : List Value} {h : AH}
theorem am_r_iload (X : am_Cx p s m args meth c D cI cW q) (hd : decode q.2.1 pc = .ok (raw, len)) {i : Nat} (ho : (am_k4 i .iload_n raw len || (decide (raw = .iload i) && Nat.beq len 2)) = true) (hs : am_g L i (fun v => match v with | .int x => am_G p l e R s m args below meth c Q D ad cI cW A n q (pc + len) L (.int x :: S) h | _ => False)) : am_G p l e R s m args below meth c Q D ad cI cW A n q pc L S h := by
  obtain ⟨hx, hb, hr, hml, hown, hts, hlk, hK, hNW⟩ := X
  obtain ⟨v, h1, h2⟩ := am_g_sp _ _ _ hs
  cases v with
  | int x =>
    intro H locs ls hP hS hn hl
    have h3 := hl.2.2.2 i _ h1
    have h4 := h2 H locs ls hP hS hn hl
    rcases Bool.or_eq_true_iff.mp ho with h5 | h5
    · obtain ⟨k, h6, rfl, rfl⟩ := am_k4_sp h5
      exact lv_iload_n hx hb hd h6 h3 h4
    · obtain ⟨rfl, rfl⟩ := am_eq_sp h5
      exact lv_iload hx hb hd h3 h4
  | _ => exact h2.elim
theorem am_r_lload (X : am_Cx p s m args meth c D cI cW q) (hd : decode q.2.1 pc = .ok (raw, len)) {i : Nat} (ho : (am_k4 i .lload_n raw len || (decide (raw = .lload i) && Nat.beq len 2)) = true) (hs : am_g L i (fun v => match v with | .long x => am_G p l e R s m args below meth c Q D ad cI cW A n q (pc + len) L (.long x :: S) h | _ => False)) : am_G p l e R s m args below meth c Q D ad cI cW A n q pc L S h := by
  obtain ⟨hx, hb, hr, hml, hown, hts, hlk, hK, hNW⟩ := X
  obtain ⟨v, h1, h2⟩ := am_g_sp _ _ _ hs
  cases v with
  | long x =>
    intro H locs ls hP hS hn hl
    have h3 := hl.2.2.2 i _ h1
    have h4 := h2 H locs ls hP hS hn hl
    rcases Bool.or_eq_true_iff.mp ho with h5 | h5
    · obtain ⟨k, h6, rfl, rfl⟩ := am_k4_sp h5
      exact lv_lload_n hx hb hd h6 h3 h4
    · obtain ⟨rfl, rfl⟩ := am_eq_sp h5
      exact lv_lload hx hb hd h3 h4
  | _ => exact h2.elim
theorem am_r_aload (X : am_Cx p s m args meth c D cI cW q) (hd : decode q.2.1 pc = .ok (raw, len)) {i : Nat} (ho : (am_k4 i .aload_n raw len || (decide (raw = .aload i) && Nat.beq len 2)) = true) (hs : am_g L i (fun v => match v with | .ref x => am_G p l e R s m args below meth c Q D ad cI cW A n q (pc + len) L (.ref x :: S) h | _ => False)) : am_G p l e R s m args below meth c Q D ad cI cW A n q pc L S h := by
  obtain ⟨hx, hb, hr, hml, hown, hts, hlk, hK, hNW⟩ := X
  obtain ⟨v, h1, h2⟩ := am_g_sp _ _ _ hs
  cases v with
  | ref x =>
    intro H locs ls hP hS hn hl
    have h3 := hl.2.2.2 i _ h1
    have h4 := h2 H locs ls hP hS hn hl
    rcases Bool.or_eq_true_iff.mp ho with h5 | h5
    · obtain ⟨k, h6, rfl, rfl⟩ := am_k4_sp h5
      exact lv_aload_n hx hb hd h6 h3 h4
    · obtain ⟨rfl, rfl⟩ := am_eq_sp h5
      exact lv_aload hx hb hd h3 h4
  | _ => exact h2.elim
theorem am_r_istore (X : am_Cx p s m args meth c D cI cW q) (hd : decode q.2.1 pc = .ok (raw, len)) {i : Nat} (ho : (am_k4 i .istore_n raw len || (decide (raw = .istore i) && Nat.beq len 2)) = true) (hs : match S with | .int x :: S => am_st L i (.int x) (fun L => am_G p l e R s m args below meth c Q D ad cI cW A n q (pc + len) L S h) | _ => False) : am_G p l e R s m args below meth c Q D ad cI cW A n q pc L S h := by
  obtain ⟨hx, hb, hr, hml, hown, hts, hlk, hK, hNW⟩ := X
  split at hs
  · rename_i x S2
    obtain ⟨L2, h1, h2⟩ := am_st_sp _ _ _ _ hs
    intro H locs ls hP hS hn hl
    have hi : i < q.2.2.1 := by have := h2.2.1; have := hl.2.2.1; omega
    rcases Bool.or_eq_true_iff.mp ho with h5 | h5
    · obtain ⟨k, h6, rfl, rfl⟩ := am_k4_sp h5
      exact lv_istore_n hx hb hd h6 (am_lr_has hl) hi rfl (fun ls2 h7 => h1 H locs ls2 hP hS hn (am_lr_st hl.2.2.1 h2 h7))
    · obtain ⟨rfl, rfl⟩ := am_eq_sp h5
      exact lv_istore hx hb hd (am_lr_has hl) hi rfl (fun ls2 h7 => h1 H locs ls2 hP hS hn (am_lr_st hl.2.2.1 h2 h7))
  · exact hs.elim
theorem am_r_astore (X : am_Cx p s m args meth c D cI cW q) (hd : decode q.2.1 pc = .ok (raw, len)) {i : Nat} (ho : (am_k4 i .astore_n raw len || (decide (raw = .astore i) && Nat.beq len 2)) = true) (hs : match S with | .ref x :: S => am_st L i (.ref x) (fun L => am_G p l e R s m args below meth c Q D ad cI cW A n q (pc + len) L S h) | _ => False) : am_G p l e R s m args below meth c Q D ad cI cW A n q pc L S h := by
  obtain ⟨hx, hb, hr, hml, hown, hts, hlk, hK, hNW⟩ := X
  split at hs
  · rename_i x S2
    obtain ⟨L2, h1, h2⟩ := am_st_sp _ _ _ _ hs
    intro H locs ls hP hS hn hl
    have hi : i < q.2.2.1 := by have := h2.2.1; have := hl.2.2.1; omega
    rcases Bool.or_eq_true_iff.mp ho with h5 | h5
    · obtain ⟨k, h6, rfl, rfl⟩ := am_k4_sp h5
      exact lv_astore_n hx hb hd h6 (am_lr_has hl) hi rfl (fun ls2 h7 => h1 H locs ls2 hP hS hn (am_lr_st hl.2.2.1 h2 h7))
    · obtain ⟨rfl, rfl⟩ := am_eq_sp h5
      exact lv_astore hx hb hd (am_lr_has hl) hi rfl (fun ls2 h7 => h1 H locs ls2 hP hS hn (am_lr_st hl.2.2.1 h2 h7))
  · exact hs.elim
theorem am_r_lstore (X : am_Cx p s m args meth c D cI cW q) (hd : decode q.2.1 pc = .ok (raw, len)) {i : Nat} (ho : (am_k4 i .lstore_n raw len || (decide (raw = .lstore i) && Nat.beq len 2)) = true) (hs : match S with | .long x :: S => am_st2 L i (.long x) (fun L => am_G p l e R s m args below meth c Q D ad cI cW A n q (pc + len) L S h) | _ => False) : am_G p l e R s m args below meth c Q D ad cI cW A n q pc L S h := by
  obtain ⟨hx, hb, hr, hml, hown, hts, hlk, hK, hNW⟩ := X
  split at hs
  · rename_i x S2
    obtain ⟨L2, h1, h2⟩ := am_st2_sp _ _ _ _ hs
    intro H locs ls hP hS hn hl
    have hi : i + 1 < q.2.2.1 := by have := h2.2.1; have := hl.2.2.1; omega
    rcases Bool.or_eq_true_iff.mp ho with h5 | h5
    · obtain ⟨k, h6, rfl, rfl⟩ := am_k4_sp h5
      exact lv_lstore_n hx hb hd h6 (am_lr_has hl) hi rfl (fun ls2 h7 => h1 H locs ls2 hP hS hn (am_lr_st2 hl.2.2.1 h2 h7))
    · obtain ⟨rfl, rfl⟩ := am_eq_sp h5
      exact lv_lstore hx hb hd (am_lr_has hl) hi rfl (fun ls2 h7 => h1 H locs ls2 hP hS hn (am_lr_st2 hl.2.2.1 h2 h7))
  · exact hs.elim
theorem am_r_iinc (X : am_Cx p s m args meth c D cI cW q) (hd : decode q.2.1 pc = .ok (raw, len)) {i : Nat} {k : Int} (ho : (decide (raw = .iinc i k) && Nat.beq len 3) = true) (hs : am_g L i (fun v => match v with | .int x => am_st L i (.int (am_inc x k)) (fun L => am_G p l e R s m args below meth c Q D ad cI cW A n q (pc + len) L S h) | _ => False)) : am_G p l e R s m args below meth c Q D ad cI cW A n q pc L S h := by
  obtain ⟨hx, hb, hr, hml, hown, hts, hlk, hK, hNW⟩ := X
  obtain ⟨v, h1, h2⟩ := am_g_sp _ _ _ hs
  cases v with
  | int x =>
    obtain ⟨L2, h3, h4⟩ := am_st_sp _ _ _ _ h2
    intro H locs ls hP hS hn hl
    obtain ⟨rfl, rfl⟩ := am_eq_sp ho
    have hi : i < q.2.2.1 := by have := h4.2.1; have := hl.2.2.1; omega
    obtain ⟨j, hj⟩ := List.getElem?_of_mem ((am_as_mem ad L 0 _).mpr ⟨i, _, h1, rfl⟩)
    rw [Nat.zero_add] at hj
    exact lv_iinc hx hb hd (am_lr_has hl) hj (am_inc_eq x k) hi rfl (fun ls2 h7 => h3 H locs ls2 hP hS hn (am_lr_st hl.2.2.1 h4 h7))
  | _ => exact h2.elim
theorem am_r_const (X : am_Cx p s m args meth c D cI cW q) (hd : decode q.2.1 pc = .ok (raw, len)) {v : Int} {w : Int32} (hw : w = Int32.ofInt v) (ho : am_const q.2.2.2.2.2.1 raw len v = true) (hs : am_G p l e R s m args below meth c Q D ad cI cW A n q (pc + len) L (.int w :: S) h) : am_G p l e R s m args below meth c Q D ad cI cW A n q pc L S h := by
  obtain ⟨hx, hb, hr, hml, hown, hts, hlk, hK, hNW⟩ := X
  intro H locs ls hP hS hn hl
  have h4 := hs H locs ls hP hS hn hl
  subst hw
  unfold am_const at ho
  split at ho <;> first | (cases ho; done) | simp only [Bool.and_eq_true, decide_eq_true_eq] at ho
  · obtain rfl := Nat.eq_of_beq_eq_true ho.1
    exact lv_iconst hx hb hd ho.2 h4
  · obtain rfl := Nat.eq_of_beq_eq_true ho.1
    exact lv_bipush hx hb hd ho.2 h4
  · obtain rfl := Nat.eq_of_beq_eq_true ho.1
    exact lv_sipush hx hb hd ho.2 h4
  · obtain rfl := Nat.eq_of_beq_eq_true ho.1
    exact lv_ldc hx hb hown (hts _ (am_cl_const ho.2)) hd h4
  · obtain rfl := Nat.eq_of_beq_eq_true ho.1
    exact lv_ldcw hx hb hown (hts _ (am_cl_const ho.2)) hd h4
theorem am_r_constL (X : am_Cx p s m args meth c D cI cW q) (hd : decode q.2.1 pc = .ok (raw, len)) {v : Nat} (ho : am_constL q.2.2.2.2.2.1 raw len v = true) (hs : am_G p l e R s m args below meth c Q D ad cI cW A n q (pc + len) L (.long (Int64.ofNat v) :: S) h) : am_G p l e R s m args below meth c Q D ad cI cW A n q pc L S h := by
  obtain ⟨hx, hb, hr, hml, hown, hts, hlk, hK, hNW⟩ := X
  intro H locs ls hP hS hn hl
  have h4 := hs H locs ls hP hS hn hl
  unfold am_constL at ho
  split at ho <;> first | (cases ho; done) | simp only [Bool.and_eq_true, decide_eq_true_eq] at ho
  · obtain rfl := Nat.eq_of_beq_eq_true ho.1
    obtain rfl := Nat.eq_of_beq_eq_true ho.2
    exact lv_lconst hx hb hd rfl h4
  · obtain rfl := Nat.eq_of_beq_eq_true ho.1
    exact lv_ldc2 hx hb hown (hts _ (am_ll_const ho.2)) hd h4
theorem am_r_iadd (X : am_Cx p s m args meth c D cI cW q) (hd : decode q.2.1 pc = .ok (raw, len)) (ho : (decide (raw = .iadd) && Nat.beq len 1) = true) (hs : match S with | .int y :: .int x :: S => am_G p l e R s m args below meth c Q D ad cI cW A n q (pc + len) L (.int (x + y) :: S) h | _ => False) : am_G p l e R s m args below meth c Q D ad cI cW A n q pc L S h := by
  obtain ⟨hx, hb, hr, hml, hown, hts, hlk, hK, hNW⟩ := X
  split at hs
  · intro H locs ls hP hS hn hl
    have h4 := hs H locs ls hP hS hn hl
    obtain ⟨rfl, rfl⟩ := am_eq_sp ho
    exact lv_iadd hx hb hd h4
  · exact hs.elim
theorem am_r_isub (X : am_Cx p s m args meth c D cI cW q) (hd : decode q.2.1 pc = .ok (raw, len)) (ho : (decide (raw = .isub) && Nat.beq len 1) = true) (hs : match S with | .int y :: .int x :: S => am_G p l e R s m args below meth c Q D ad cI cW A n q (pc + len) L (.int (x - y) :: S) h | _ => False) : am_G p l e R s m args below meth c Q D ad cI cW A n q pc L S h := by
  obtain ⟨hx, hb, hr, hml, hown, hts, hlk, hK, hNW⟩ := X
  split at hs
  · intro H locs ls hP hS hn hl
    have h4 := hs H locs ls hP hS hn hl
    obtain ⟨rfl, rfl⟩ := am_eq_sp ho
    exact lv_isub hx hb hd h4
  · exact hs.elim
theorem am_r_imul (X : am_Cx p s m args meth c D cI cW q) (hd : decode q.2.1 pc = .ok (raw, len)) (ho : (decide (raw = .imul) && Nat.beq len 1) = true) (hs : match S with | .int y :: .int x :: S => am_G p l e R s m args below meth c Q D ad cI cW A n q (pc + len) L (.int (x * y) :: S) h | _ => False) : am_G p l e R s m args below meth c Q D ad cI cW A n q pc L S h := by
  obtain ⟨hx, hb, hr, hml, hown, hts, hlk, hK, hNW⟩ := X
  split at hs
  · intro H locs ls hP hS hn hl
    have h4 := hs H locs ls hP hS hn hl
    obtain ⟨rfl, rfl⟩ := am_eq_sp ho
    exact lv_imul hx hb hd h4
  · exact hs.elim
theorem am_r_iand (X : am_Cx p s m args meth c D cI cW q) (hd : decode q.2.1 pc = .ok (raw, len)) (ho : (decide (raw = .iand) && Nat.beq len 1) = true) (hs : match S with | .int y :: .int x :: S => am_G p l e R s m args below meth c Q D ad cI cW A n q (pc + len) L (.int (x &&& y) :: S) h | _ => False) : am_G p l e R s m args below meth c Q D ad cI cW A n q pc L S h := by
  obtain ⟨hx, hb, hr, hml, hown, hts, hlk, hK, hNW⟩ := X
  split at hs
  · intro H locs ls hP hS hn hl
    have h4 := hs H locs ls hP hS hn hl
    obtain ⟨rfl, rfl⟩ := am_eq_sp ho
    exact lv_iand hx hb hd h4
  · exact hs.elim
theorem am_r_ior (X : am_Cx p s m args meth c D cI cW q) (hd : decode q.2.1 pc = .ok (raw, len)) (ho : (decide (raw = .ior) && Nat.beq len 1) = true) (hs : match S with | .int y :: .int x :: S => am_G p l e R s m args below meth c Q D ad cI cW A n q (pc + len) L (.int (x ||| y) :: S) h | _ => False) : am_G p l e R s m args below meth c Q D ad cI cW A n q pc L S h := by
  obtain ⟨hx, hb, hr, hml, hown, hts, hlk, hK, hNW⟩ := X
  split at hs
  · intro H locs ls hP hS hn hl
    have h4 := hs H locs ls hP hS hn hl
    obtain ⟨rfl, rfl⟩ := am_eq_sp ho
    exact lv_ior hx hb hd h4
  · exact hs.elim
theorem am_r_ixor (X : am_Cx p s m args meth c D cI cW q) (hd : decode q.2.1 pc = .ok (raw, len)) (ho : (decide (raw = .ixor) && Nat.beq len 1) = true) (hs : match S with | .int y :: .int x :: S => am_G p l e R s m args below meth c Q D ad cI cW A n q (pc + len) L (.int (x ^^^ y) :: S) h | _ => False) : am_G p l e R s m args below meth c Q D ad cI cW A n q pc L S h := by
  obtain ⟨hx, hb, hr, hml, hown, hts, hlk, hK, hNW⟩ := X
  split at hs
  · intro H locs ls hP hS hn hl
    have h4 := hs H locs ls hP hS hn hl
    obtain ⟨rfl, rfl⟩ := am_eq_sp ho
    exact lv_ixor hx hb hd h4
  · exact hs.elim
theorem am_r_ishl (X : am_Cx p s m args meth c D cI cW q) (hd : decode q.2.1 pc = .ok (raw, len)) (ho : (decide (raw = .ishl) && Nat.beq len 1) = true) (hs : match S with | .int y :: .int x :: S => am_G p l e R s m args below meth c Q D ad cI cW A n q (pc + len) L (.int (x <<< (y &&& 31)) :: S) h | _ => False) : am_G p l e R s m args below meth c Q D ad cI cW A n q pc L S h := by
  obtain ⟨hx, hb, hr, hml, hown, hts, hlk, hK, hNW⟩ := X
  split at hs
  · intro H locs ls hP hS hn hl
    have h4 := hs H locs ls hP hS hn hl
    obtain ⟨rfl, rfl⟩ := am_eq_sp ho
    exact lv_ishl hx hb hd h4
  · exact hs.elim
theorem am_r_ishr (X : am_Cx p s m args meth c D cI cW q) (hd : decode q.2.1 pc = .ok (raw, len)) (ho : (decide (raw = .ishr) && Nat.beq len 1) = true) (hs : match S with | .int y :: .int x :: S => am_G p l e R s m args below meth c Q D ad cI cW A n q (pc + len) L (.int (x >>> (y &&& 31)) :: S) h | _ => False) : am_G p l e R s m args below meth c Q D ad cI cW A n q pc L S h := by
  obtain ⟨hx, hb, hr, hml, hown, hts, hlk, hK, hNW⟩ := X
  split at hs
  · intro H locs ls hP hS hn hl
    have h4 := hs H locs ls hP hS hn hl
    obtain ⟨rfl, rfl⟩ := am_eq_sp ho
    exact lv_ishr hx hb hd h4
  · exact hs.elim
theorem am_r_iushr (X : am_Cx p s m args meth c D cI cW q) (hd : decode q.2.1 pc = .ok (raw, len)) (ho : (decide (raw = .iushr) && Nat.beq len 1) = true) (hs : match S with | .int y :: .int x :: S => am_G p l e R s m args below meth c Q D ad cI cW A n q (pc + len) L (.int ((x.toUInt32 >>> (y.toUInt32 &&& Int32.toUInt32 31)).toInt32) :: S) h | _ => False) : am_G p l e R s m args below meth c Q D ad cI cW A n q pc L S h := by
  obtain ⟨hx, hb, hr, hml, hown, hts, hlk, hK, hNW⟩ := X
  split at hs
  · intro H locs ls hP hS hn hl
    have h4 := hs H locs ls hP hS hn hl
    obtain ⟨rfl, rfl⟩ := am_eq_sp ho
    exact lv_iushr hx hb hd rfl h4
  · exact hs.elim
theorem am_r_ineg (X : am_Cx p s m args meth c D cI cW q) (hd : decode q.2.1 pc = .ok (raw, len)) (ho : (decide (raw = .ineg) && Nat.beq len 1) = true) (hs : match S with | .int x :: S => am_G p l e R s m args below meth c Q D ad cI cW A n q (pc + len) L (.int (-x) :: S) h | _ => False) : am_G p l e R s m args below meth c Q D ad cI cW A n q pc L S h := by
  obtain ⟨hx, hb, hr, hml, hown, hts, hlk, hK, hNW⟩ := X
  split at hs
  · intro H locs ls hP hS hn hl
    have h4 := hs H locs ls hP hS hn hl
    obtain ⟨rfl, rfl⟩ := am_eq_sp ho
    exact lv_ineg hx hb hd h4
  · exact hs.elim
theorem am_r_ladd (X : am_Cx p s m args meth c D cI cW q) (hd : decode q.2.1 pc = .ok (raw, len)) (ho : (decide (raw = .ladd) && Nat.beq len 1) = true) (hs : match S with | .long y :: .long x :: S => am_G p l e R s m args below meth c Q D ad cI cW A n q (pc + len) L (.long (x + y) :: S) h | _ => False) : am_G p l e R s m args below meth c Q D ad cI cW A n q pc L S h := by
  obtain ⟨hx, hb, hr, hml, hown, hts, hlk, hK, hNW⟩ := X
  split at hs
  · intro H locs ls hP hS hn hl
    have h4 := hs H locs ls hP hS hn hl
    obtain ⟨rfl, rfl⟩ := am_eq_sp ho
    exact lv_ladd hx hb hd h4
  · exact hs.elim
theorem am_r_lsub (X : am_Cx p s m args meth c D cI cW q) (hd : decode q.2.1 pc = .ok (raw, len)) (ho : (decide (raw = .lsub) && Nat.beq len 1) = true) (hs : match S with | .long y :: .long x :: S => am_G p l e R s m args below meth c Q D ad cI cW A n q (pc + len) L (.long (x - y) :: S) h | _ => False) : am_G p l e R s m args below meth c Q D ad cI cW A n q pc L S h := by
  obtain ⟨hx, hb, hr, hml, hown, hts, hlk, hK, hNW⟩ := X
  split at hs
  · intro H locs ls hP hS hn hl
    have h4 := hs H locs ls hP hS hn hl
    obtain ⟨rfl, rfl⟩ := am_eq_sp ho
    exact lv_lsub hx hb hd h4
  · exact hs.elim
theorem am_r_lmul (X : am_Cx p s m args meth c D cI cW q) (hd : decode q.2.1 pc = .ok (raw, len)) (ho : (decide (raw = .lmul) && Nat.beq len 1) = true) (hs : match S with | .long y :: .long x :: S => am_G p l e R s m args below meth c Q D ad cI cW A n q (pc + len) L (.long (x * y) :: S) h | _ => False) : am_G p l e R s m args below meth c Q D ad cI cW A n q pc L S h := by
  obtain ⟨hx, hb, hr, hml, hown, hts, hlk, hK, hNW⟩ := X
  split at hs
  · intro H locs ls hP hS hn hl
    have h4 := hs H locs ls hP hS hn hl
    obtain ⟨rfl, rfl⟩ := am_eq_sp ho
    exact lv_lmul hx hb hd h4
  · exact hs.elim
theorem am_r_land (X : am_Cx p s m args meth c D cI cW q) (hd : decode q.2.1 pc = .ok (raw, len)) (ho : (decide (raw = .land) && Nat.beq len 1) = true) (hs : match S with | .long y :: .long x :: S => am_G p l e R s m args below meth c Q D ad cI cW A n q (pc + len) L (.long (x &&& y) :: S) h | _ => False) : am_G p l e R s m args below meth c Q D ad cI cW A n q pc L S h := by
  obtain ⟨hx, hb, hr, hml, hown, hts, hlk, hK, hNW⟩ := X
  split at hs
  · intro H locs ls hP hS hn hl
    have h4 := hs H locs ls hP hS hn hl
    obtain ⟨rfl, rfl⟩ := am_eq_sp ho
    exact lv_land hx hb hd h4
  · exact hs.elim
theorem am_r_lor (X : am_Cx p s m args meth c D cI cW q) (hd : decode q.2.1 pc = .ok (raw, len)) (ho : (decide (raw = .lor) && Nat.beq len 1) = true) (hs : match S with | .long y :: .long x :: S => am_G p l e R s m args below meth c Q D ad cI cW A n q (pc + len) L (.long (x ||| y) :: S) h | _ => False) : am_G p l e R s m args below meth c Q D ad cI cW A n q pc L S h := by
  obtain ⟨hx, hb, hr, hml, hown, hts, hlk, hK, hNW⟩ := X
  split at hs
  · intro H locs ls hP hS hn hl
    have h4 := hs H locs ls hP hS hn hl
    obtain ⟨rfl, rfl⟩ := am_eq_sp ho
    exact lv_lor hx hb hd h4
  · exact hs.elim
theorem am_r_lshl (X : am_Cx p s m args meth c D cI cW q) (hd : decode q.2.1 pc = .ok (raw, len)) (ho : (decide (raw = .lshl) && Nat.beq len 1) = true) (hs : match S with | .int y :: .long x :: S => am_G p l e R s m args below meth c Q D ad cI cW A n q (pc + len) L (.long (x <<< (y.toInt64 &&& 63)) :: S) h | _ => False) : am_G p l e R s m args below meth c Q D ad cI cW A n q pc L S h := by
  obtain ⟨hx, hb, hr, hml, hown, hts, hlk, hK, hNW⟩ := X
  split at hs
  · intro H locs ls hP hS hn hl
    have h4 := hs H locs ls hP hS hn hl
    obtain ⟨rfl, rfl⟩ := am_eq_sp ho
    exact lv_lshl hx hb hd rfl h4
  · exact hs.elim
theorem am_r_lshr (X : am_Cx p s m args meth c D cI cW q) (hd : decode q.2.1 pc = .ok (raw, len)) (ho : (decide (raw = .lshr) && Nat.beq len 1) = true) (hs : match S with | .int y :: .long x :: S => am_G p l e R s m args below meth c Q D ad cI cW A n q (pc + len) L (.long (x >>> (y.toInt64 &&& 63)) :: S) h | _ => False) : am_G p l e R s m args below meth c Q D ad cI cW A n q pc L S h := by
  obtain ⟨hx, hb, hr, hml, hown, hts, hlk, hK, hNW⟩ := X
  split at hs
  · intro H locs ls hP hS hn hl
    have h4 := hs H locs ls hP hS hn hl
    obtain ⟨rfl, rfl⟩ := am_eq_sp ho
    exact lv_lshr hx hb hd rfl h4
  · exact hs.elim
theorem am_r_lushr (X : am_Cx p s m args meth c D cI cW q) (hd : decode q.2.1 pc = .ok (raw, len)) (ho : (decide (raw = .lushr) && Nat.beq len 1) = true) (hs : match S with | .int y :: .long x :: S => am_G p l e R s m args below meth c Q D ad cI cW A n q (pc + len) L (.long (x.toUInt64 >>> (y.toInt64.toUInt64 &&& Int64.toUInt64 63)).toInt64 :: S) h | _ => False) : am_G p l e R s m args below meth c Q D ad cI cW A n q pc L S h := by
  obtain ⟨hx, hb, hr, hml, hown, hts, hlk, hK, hNW⟩ := X
  split at hs
  · intro H locs ls hP hS hn hl
    have h4 := hs H locs ls hP hS hn hl
    obtain ⟨rfl, rfl⟩ := am_eq_sp ho
    exact lv_lushr hx hb hd rfl h4
  · exact hs.elim
theorem am_r_i2l (X : am_Cx p s m args meth c D cI cW q) (hd : decode q.2.1 pc = .ok (raw, len)) (ho : (decide (raw = .i2l) && Nat.beq len 1) = true) (hs : match S with | .int x :: S => am_G p l e R s m args below meth c Q D ad cI cW A n q (pc + len) L (.long x.toInt64 :: S) h | _ => False) : am_G p l e R s m args below meth c Q D ad cI cW A n q pc L S h := by
  obtain ⟨hx, hb, hr, hml, hown, hts, hlk, hK, hNW⟩ := X
  split at hs
  · intro H locs ls hP hS hn hl
    have h4 := hs H locs ls hP hS hn hl
    obtain ⟨rfl, rfl⟩ := am_eq_sp ho
    exact lv_i2l hx hb hd rfl h4
  · exact hs.elim
theorem am_r_l2i (X : am_Cx p s m args meth c D cI cW q) (hd : decode q.2.1 pc = .ok (raw, len)) (ho : (decide (raw = .l2i) && Nat.beq len 1) = true) (hs : match S with | .long x :: S => am_G p l e R s m args below meth c Q D ad cI cW A n q (pc + len) L (.int x.toInt32 :: S) h | _ => False) : am_G p l e R s m args below meth c Q D ad cI cW A n q pc L S h := by
  obtain ⟨hx, hb, hr, hml, hown, hts, hlk, hK, hNW⟩ := X
  split at hs
  · intro H locs ls hP hS hn hl
    have h4 := hs H locs ls hP hS hn hl
    obtain ⟨rfl, rfl⟩ := am_eq_sp ho
    exact lv_l2i hx hb hd rfl h4
  · exact hs.elim
theorem am_r_lcmp (X : am_Cx p s m args meth c D cI cW q) (hd : decode q.2.1 pc = .ok (raw, len)) (ho : (decide (raw = .lcmp) && Nat.beq len 1) = true) (hs : match S with | .long y :: .long x :: S => am_G p l e R s m args below meth c Q D ad cI cW A n q (pc + len) L (.int (lg_cmp x y) :: S) h | _ => False) : am_G p l e R s m args below meth c Q D ad cI cW A n q pc L S h := by
  obtain ⟨hx, hb, hr, hml, hown, hts, hlk, hK, hNW⟩ := X
  split at hs
  · intro H locs ls hP hS hn hl
    have h4 := hs H locs ls hP hS hn hl
    obtain ⟨rfl, rfl⟩ := am_eq_sp ho
    exact W.lcmp hx hb hd h4
  · exact hs.elim
theorem am_r_idiv (X : am_Cx p s m args meth c D cI cW q) (hd : decode q.2.1 pc = .ok (raw, len)) (ho : (decide (raw = .idiv) && Nat.beq len 1) = true) (hs : match S with | .int y :: .int x :: S => (¬ y = 0) ∧ am_G p l e R s m args below meth c Q D ad cI cW A n q (pc + len) L (.int (x / y) :: S) h | _ => False) : am_G p l e R s m args below meth c Q D ad cI cW A n q pc L S h := by
  obtain ⟨hx, hb, hr, hml, hown, hts, hlk, hK, hNW⟩ := X
  split at hs
  · intro H locs ls hP hS hn hl
    have h4 := hs.2 H locs ls hP hS hn hl
    obtain ⟨rfl, rfl⟩ := am_eq_sp ho
    exact lv_idiv hx hb hd hs.1 h4
  · exact hs.elim
theorem am_r_irem (X : am_Cx p s m args meth c D cI cW q) (hd : decode q.2.1 pc = .ok (raw, len)) (ho : (decide (raw = .irem) && Nat.beq len 1) = true) (hs : match S with | .int y :: .int x :: S => (¬ y = 0) ∧ am_G p l e R s m args below meth c Q D ad cI cW A n q (pc + len) L (.int (x - x / y * y) :: S) h | _ => False) : am_G p l e R s m args below meth c Q D ad cI cW A n q pc L S h := by
  obtain ⟨hx, hb, hr, hml, hown, hts, hlk, hK, hNW⟩ := X
  split at hs
  · intro H locs ls hP hS hn hl
    have h4 := hs.2 H locs ls hP hS hn hl
    obtain ⟨rfl, rfl⟩ := am_eq_sp ho
    exact lv_irem hx hb hd hs.1 h4
  · exact hs.elim
theorem am_r_ldiv (X : am_Cx p s m args meth c D cI cW q) (hd : decode q.2.1 pc = .ok (raw, len)) (ho : (decide (raw = .ldiv) && Nat.beq len 1) = true) (hs : match S with | .long y :: .long x :: S => (¬ y = 0) ∧ am_G p l e R s m args below meth c Q D ad cI cW A n q (pc + len) L (.long (x / y) :: S) h | _ => False) : am_G p l e R s m args below meth c Q D ad cI cW A n q pc L S h := by
  obtain ⟨hx, hb, hr, hml, hown, hts, hlk, hK, hNW⟩ := X
  split at hs
  · intro H locs ls hP hS hn hl
    have h4 := hs.2 H locs ls hP hS hn hl
    obtain ⟨rfl, rfl⟩ := am_eq_sp ho
    exact lv_ldiv hx hb hd hs.1 h4
  · exact hs.elim
theorem am_r_lrem (X : am_Cx p s m args meth c D cI cW q) (hd : decode q.2.1 pc = .ok (raw, len)) (ho : (decide (raw = .lrem) && Nat.beq len 1) = true) (hs : match S with | .long y :: .long x :: S => (¬ y = 0) ∧ am_G p l e R s m args below meth c Q D ad cI cW A n q (pc + len) L (.long (x - x / y * y) :: S) h | _ => False) : am_G p l e R s m args below meth c Q D ad cI cW A n q pc L S h := by
  obtain ⟨hx, hb, hr, hml, hown, hts, hlk, hK, hNW⟩ := X
  split at hs
  · intro H locs ls hP hS hn hl
    have h4 := hs.2 H locs ls hP hS hn hl
    obtain ⟨rfl, rfl⟩ := am_eq_sp ho
    exact lv_lrem hx hb hd hs.1 h4
  · exact hs.elim
theorem am_r_dup (X : am_Cx p s m args meth c D cI cW q) (hd : decode q.2.1 pc = .ok (raw, len)) (ho : (decide (raw = .dup) && Nat.beq len 1) = true) (hs : match S with | .int x :: S => am_G p l e R s m args below meth c Q D ad cI cW A n q (pc + len) L (.int x :: .int x :: S) h | .ref x :: S => am_G p l e R s m args below meth c Q D ad cI cW A n q (pc + len) L (.ref x :: .ref x :: S) h | _ => False) : am_G p l e R s m args below meth c Q D ad cI cW A n q pc L S h := by
  obtain ⟨hx, hb, hr, hml, hown, hts, hlk, hK, hNW⟩ := X
  obtain ⟨rfl, rfl⟩ := am_eq_sp ho
  split at hs
  · intro H locs ls hP hS hn hl
    exact lv_dup hx hb hd rfl (hs H locs ls hP hS hn hl)
  · intro H locs ls hP hS hn hl
    exact lv_dup hx hb hd rfl (hs H locs ls hP hS hn hl)
  · exact hs.elim
theorem am_r_dup2 (X : am_Cx p s m args meth c D cI cW q) (hd : decode q.2.1 pc = .ok (raw, len)) (ho : (decide (raw = .dup2) && Nat.beq len 1) = true) (hs : match S with | .long x :: S => am_G p l e R s m args below meth c Q D ad cI cW A n q (pc + len) L (.long x :: .long x :: S) h | .int y :: .ref x :: S => am_G p l e R s m args below meth c Q D ad cI cW A n q (pc + len) L (.int y :: .ref x :: .int y :: .ref x :: S) h | _ => False) : am_G p l e R s m args below meth c Q D ad cI cW A n q pc L S h := by
  obtain ⟨hx, hb, hr, hml, hown, hts, hlk, hK, hNW⟩ := X
  obtain ⟨rfl, rfl⟩ := am_eq_sp ho
  split at hs
  · intro H locs ls hP hS hn hl
    exact lv_dup2_2 hx hb hd rfl (hs H locs ls hP hS hn hl)
  · intro H locs ls hP hS hn hl
    exact lv_dup2_11 hx hb hd rfl rfl (hs H locs ls hP hS hn hl)
  · exact hs.elim
theorem am_r_pop (X : am_Cx p s m args meth c D cI cW q) (hd : decode q.2.1 pc = .ok (raw, len)) (ho : (decide (raw = .pop) && Nat.beq len 1) = true) (hs : match S with | .int _ :: S => am_G p l e R s m args below meth c Q D ad cI cW A n q (pc + len) L S h | .ref _ :: S => am_G p l e R s m args below meth c Q D ad cI cW A n q (pc + len) L S h | _ => False) : am_G p l e R s m args below meth c Q D ad cI cW A n q pc L S h := by
  obtain ⟨hx, hb, hr, hml, hown, hts, hlk, hK, hNW⟩ := X
  obtain ⟨rfl, rfl⟩ := am_eq_sp ho
  split at hs
  · rename_i x S2
    intro H locs ls hP hS hn hl
    exact lv_pop (va := .int x) hx hb hd rfl (hs H locs ls hP hS hn hl)
  · rename_i x S2
    intro H locs ls hP hS hn hl
    exact lv_pop (va := .ref (ad x)) hx hb hd rfl (hs H locs ls hP hS hn hl)
  · exact hs.elim
theorem am_r_if_icmp (X : am_Cx p s m args meth c D cI cW q) (hd : decode q.2.1 pc = .ok (raw, len)) {cd : Jvm.ClassFile.Cond} {t : Int} (ho : am_brr pc raw len (.if_icmp cd t) = true) (hs : match S with | .int y :: .int x :: S => am_c2 cd x y (am_G p l e R s m args below meth c Q D ad cI cW A n q t.toNat L S h) (am_G p l e R s m args below meth c Q D ad cI cW A n q (pc + len) L S h) | _ => False) : am_G p l e R s m args below meth c Q D ad cI cW A n q pc L S h := by
  obtain ⟨hx, hb, hr, hml, hown, hts, hlk, hK, hNW⟩ := X
  unfold am_brr at ho
  split at ho <;> first | (cases ho; done) | skip
  rename_i cd2 off
  simp only [Bool.and_eq_true, decide_eq_true_eq] at ho
  obtain ⟨ho1, rfl, ho3⟩ := ho
  obtain rfl := Nat.eq_of_beq_eq_true ho1
  have ht := am_off_sp ho3
  split at hs
  · rename_i y x S2
    intro H locs ls hP hS hn hl
    have kt : am_G p l e R s m args below meth c Q D ad cI cW A n q t.toNat L S2 h → _ := fun z => z H locs ls hP hS hn hl
    have kf : am_G p l e R s m args below meth c Q D ad cI cW A n q (pc + 3) L S2 h → _ := fun z => z H locs ls hP hS hn hl
    cases cd2 with
    | eq => exact lv_icmp_eq hx hb hd ht (fun z => kt (hs.1 z)) (fun z => kf (hs.2 z))
    | ne => exact lv_icmp_ne hx hb hd ht (fun z => kt (hs.2 z)) (fun z => kf (hs.1 z))
    | lt => exact lv_icmp_lt hx hb hd ht (fun z => kt (hs.1 z)) (fun z => kf (hs.2 z))
    | ge => exact lv_icmp_ge hx hb hd ht (fun z => kt (hs.1 z)) (fun z => kf (hs.2 z))
    | gt => exact lv_icmp_gt hx hb hd ht (fun z => kt (hs.1 z)) (fun z => kf (hs.2 z))
    | le => exact lv_icmp_le hx hb hd ht (fun z => kt (hs.1 z)) (fun z => kf (hs.2 z))
  · exact hs.elim
theorem am_r_ifCond (X : am_Cx p s m args meth c D cI cW q) (hd : decode q.2.1 pc = .ok (raw, len)) {cd : Jvm.ClassFile.Cond} {t : Int} (ho : am_brr pc raw len (.ifCond cd t) = true) (hs : match S with | .int x :: S => am_c1 cd x (am_G p l e R s m args below meth c Q D ad cI cW A n q t.toNat L S h) (am_G p l e R s m args below meth c Q D ad cI cW A n q (pc + len) L S h) | _ => False) : am_G p l e R s m args below meth c Q D ad cI cW A n q pc L S h := by
  obtain ⟨hx, hb, hr, hml, hown, hts, hlk, hK, hNW⟩ := X
  unfold am_brr at ho
  split at ho <;> first | (cases ho; done) | skip
  rename_i cd2 off
  simp only [Bool.and_eq_true, decide_eq_true_eq] at ho
  obtain ⟨ho1, rfl, ho3⟩ := ho
  obtain rfl := Nat.eq_of_beq_eq_true ho1
  have ht := am_off_sp ho3
  split at hs
  · rename_i x S2
    intro H locs ls hP hS hn hl
    have kt : am_G p l e R s m args below meth c Q D ad cI cW A n q t.toNat L S2 h → _ := fun z => z H locs ls hP hS hn hl
    have kf : am_G p l e R s m args below meth c Q D ad cI cW A n q (pc + 3) L S2 h → _ := fun z => z H locs ls hP hS hn hl
    cases cd2 with
    | eq => exact lv_if_eq hx hb hd ht (fun z => kt (hs.1 z)) (fun z => kf (hs.2 z))
    | ne => exact lv_if_ne hx hb hd ht (fun z => kt (hs.2 z)) (fun z => kf (hs.1 z))
    | lt => exact lv_if_lt hx hb hd ht (fun z => kt (hs.1 z)) (fun z => kf (hs.2 z))
    | ge => exact lv_if_ge hx hb hd ht (fun z => kt (hs.1 z)) (fun z => kf (hs.2 z))
    | gt => exact lv_if_gt hx hb hd ht (fun z => kt (hs.1 z)) (fun z => kf (hs.2 z))
    | le => exact lv_if_le hx hb hd ht (fun z => kt (hs.1 z)) (fun z => kf (hs.2 z))
  · exact hs.elim
theorem am_r_goto (X : am_Cx p s m args meth c D cI cW q) (hd : decode q.2.1 pc = .ok (raw, len)) {t : Int} (ho : am_brr pc raw len (.goto t) = true) (hs : am_G p l e R s m args below meth c Q D ad cI cW A n q t.toNat L S h) : am_G p l e R s m args below meth c Q D ad cI cW A n q pc L S h := by
  obtain ⟨hx, hb, hr, hml, hown, hts, hlk, hK, hNW⟩ := X
  unfold am_brr at ho
  split at ho <;> first | (cases ho; done) | skip
  simp only [Bool.and_eq_true] at ho
  obtain rfl := Nat.eq_of_beq_eq_true ho.1
  intro H locs ls hP hS hn hl
  exact lv_goto hx hb hd (am_off_sp ho.2) (hs H locs ls hP hS hn hl)
theorem am_fs_at {fs : List Value} {k : Nat} {v : Value} (h1 : fs[k]? = some v) : (fs.map (am_cv ad))[k]? = some (am_cv ad v) := by rw [List.getElem?_map, h1]; rfl
theorem am_tab_sp (x : Int32) {J : Nat → Prop} {Dp : Prop} : ∀ (ts : List Int) (c : Nat), c + ts.length < 2 ^ 31 → am_tab x c ts J Dp → (∀ (i : Nat) (t : Int), ts[i]? = some t → x = nI (c + i) → J t.toNat) ∧ ((∀ i, i < ts.length → ¬ x = nI (c + i)) → Dp)
  | [], _, _, h => ⟨fun i t q => by simp at q, fun _ => h⟩
  | t :: ts, c, hc, h => by
    simp only [List.length_cons] at hc
    refine ⟨fun i u hu hx => ?_, fun q => ?_⟩
    · cases i with
      | zero =>
        simp at hu
        subst hu
        exact h.1 hx
      | succ i =>
        have hne : ¬ x = nI c := by
          rw [hx]
          intro z
          have hi : i < ts.length := by
            have := (List.getElem?_eq_some_iff.mp hu).1
            simpa using this
          have := (nI_eq (a := c + (i + 1)) (b := c) (by omega) (by omega)).mp z
          omega
        exact (am_tab_sp x ts (c + 1) (by omega) (h.2 hne)).1 i u (by simpa using hu) (by rw [hx]; congr 1; omega)
    · have hne : ¬ x = nI c := by simpa using q 0 (by simp)
      refine (am_tab_sp x ts (c + 1) (by omega) (h.2 hne)).2 (fun i hi => ?_)
      have := q (i + 1) (by simpa using hi)
      rwa [show c + (i + 1) = c + 1 + i by omega] at this
theorem am_zip_at {α β : Type} : ∀ (a : List α) (b : List β) (i : Nat) {x : α}, a.length = b.length → a[i]? = some x → ∃ y, b[i]? = some y ∧ (x, y) ∈ List.zip a b
  | [], _, _, _, _, h => by simp at h
  | _ :: _, [], _, _, h, _ => by simp at h
  | x :: _, y :: _, 0, _, _, h => by simp at h; subst h; exact ⟨y, rfl, by simp⟩
  | x :: a, y :: b, i + 1, _, hl, h => by
    obtain ⟨z, h1, h2⟩ := am_zip_at a b i (by simpa using hl) (by simpa using h)
    exact ⟨z, by simpa using h1, by simp [h2]⟩
theorem am_lkp_sp (x : Int32) {J : Nat → Prop} {Dp : Prop} {pc : Nat} {d d2 : Int} (hd : am_off pc d d2 = true) : ∀ (ps qs : List (Int × Int)), ps.length = qs.length → (List.zip ps qs).all (fun q => decide (q.1.1 = q.2.1) && (decide (0 ≤ q.1.1) && (decide (q.1.1 < 1000) && am_off pc q.1.2 q.2.2))) = true → am_lkp x qs J Dp → ∃ off, Op.lookupswitch.offset ps d x.toInt = off ∧ ((am_off pc off d2 = true ∧ Dp) ∨ ∃ t : Int, am_off pc off t = true ∧ J t.toNat)
  | [], [], _, _, h => ⟨d, rfl, Or.inl ⟨hd, h⟩⟩
  | [], _ :: _, h, _, _ => by simp at h
  | _ :: _, [], h, _, _ => by simp at h
  | (a, o) :: ps, (b, t) :: qs, hl, hz, h => by
    simp only [List.zip_cons_cons, List.all_cons, Bool.and_eq_true, decide_eq_true_eq] at hz
    obtain ⟨⟨rfl, h0, h1, h2⟩, h3⟩ := hz
    obtain ⟨k, rfl⟩ : ∃ k : Nat, a = (k : Int) := ⟨a.toNat, by omega⟩
    rw [Op.lookupswitch.offset_cons]
    by_cases hx : x = nI k
    · refine ⟨o, ?_, Or.inr ⟨t, h2, h.1 (by simpa using hx)⟩⟩
      rw [if_pos]
      rw [hx, nI_toInt (by omega)]
    · have hne : ¬ (k : Int) = x.toInt := by
        intro z
        apply hx
        apply Int32.toInt_inj.mp
        rw [nI_toInt (by omega)]
        exact z.symm
      rw [if_neg hne]
      exact am_lkp_sp x hd ps qs (by simpa using hl) (by simpa only [List.all_eq_true, Bool.and_eq_true, decide_eq_true_eq] using h3) (h.2 (by simpa using hx))
theorem am_r_tableswitch (X : am_Cx p s m args meth c D cI cW q) (hd : decode q.2.1 pc = .ok (raw, len)) {d lo hi : Int} {ts : Array Int} (ho : am_brr pc raw len (.tableswitch d lo hi ts) = true) (hs : match S with | .int x :: S => am_tab x lo.toNat ts.toList (fun t => am_G p l e R s m args below meth c Q D ad cI cW A n q t L S h) (am_G p l e R s m args below meth c Q D ad cI cW A n q d.toNat L S h) | _ => False) : am_G p l e R s m args below meth c Q D ad cI cW A n q pc L S h := by
  obtain ⟨hx, hb, hr, hml, hown, hts, hlk, hK, hNW⟩ := X
  unfold am_brr at ho
  split at ho <;> first | (cases ho; done) | skip
  rename_i d1 lo1 hi1 offs
  simp only [Bool.and_eq_true, decide_eq_true_eq] at ho
  obtain ⟨ho1, rfl, ho2, ho3, ho4, ho5, ho6⟩ := ho
  have ho5 := Nat.eq_of_beq_eq_true ho5
  split at hs
  · rename_i x S2
    have hsz : offs.size ≤ 1000 := by omega
    obtain ⟨k1, k2⟩ := am_tab_sp x ts.toList lo1.toNat (by simp only [Array.length_toList]; omega) hs
    intro H locs ls hP hS hn hl
    by_cases ha : x.toInt < lo1 ∨ hi1 < x.toInt
    · refine lv_tableOut hx hb hd ha (am_off_sp ho1) (k2 (fun i hi z => ?_) H locs ls hP hS hn hl)
      simp only [Array.length_toList] at hi
      rw [z, nI_toInt (by omega)] at ha
      omega
    · have h1 : ¬ x.toInt < lo1 := fun z => ha (Or.inl z)
      have h2 : ¬ hi1 < x.toInt := fun z => ha (Or.inr z)
      have hi : (x.toInt - lo1).toNat < offs.size := by omega
      have h3 : offs.toList[(x.toInt - lo1).toNat]? = some (offs[(x.toInt - lo1).toNat]'hi) := by simp [hi]
      obtain ⟨t, h4, h5⟩ := am_zip_at offs.toList ts.toList _ (by simp [ho5]) h3
      have h6 := List.all_eq_true.mp ho6 _ h5
      refine lv_tableIn hx hb hd h1 h2 (by rw [← Array.getElem?_toList]; exact h3) (am_off_sp h6) (k1 _ t h4 ?_ H locs ls hP hS hn hl)
      apply Int32.toInt_inj.mp
      rw [nI_toInt (by omega)]
      omega
  · exact hs.elim
theorem am_r_lookupswitch (X : am_Cx p s m args meth c D cI cW q) (hd : decode q.2.1 pc = .ok (raw, len)) {d : Int} {ps : Array (Int × Int)} (ho : am_brr pc raw len (.lookupswitch d ps) = true) (hs : match S with | .int x :: S => am_lkp x ps.toList (fun t => am_G p l e R s m args below meth c Q D ad cI cW A n q t L S h) (am_G p l e R s m args below meth c Q D ad cI cW A n q d.toNat L S h) | _ => False) : am_G p l e R s m args below meth c Q D ad cI cW A n q pc L S h := by
  obtain ⟨hx, hb, hr, hml, hown, hts, hlk, hK, hNW⟩ := X
  unfold am_brr at ho
  split at ho <;> first | (cases ho; done) | skip
  rename_i d1 ps1
  rw [Bool.and_eq_true] at ho
  obtain ⟨ho1, ho⟩ := ho
  rw [Bool.and_eq_true] at ho
  obtain ⟨ho2, ho⟩ := ho
  rw [Bool.and_eq_true] at ho
  obtain ⟨ho3, ho4⟩ := ho
  have ho2 := Nat.eq_of_beq_eq_true ho2
  split at hs
  · rename_i x S2
    obtain ⟨off, h1, h2⟩ := am_lkp_sp x ho1 ps1.toList ps.toList (by simp [ho2]) ho3 hs
    intro H locs ls hP hS hn hl
    rcases h2 with ⟨h2, h3⟩ | ⟨t, h2, h3⟩
    · exact lv_lookup hx hb hd ho4 h1 (am_off_sp h2) (h3 H locs ls hP hS hn hl)
    · exact lv_lookup hx hb hd ho4 h1 (am_off_sp h2) (h3 H locs ls hP hS hn hl)
  · exact hs.elim
theorem am_r_getfield (X : am_Cx p s m args meth c D cI cW q) (hd : decode q.2.1 pc = .ok (raw, len)) {r : Nat} (ho : am_fld q.2.2.2.2.2.1 raw len r = true) (hs : match S with | .ref a :: S => am_hg h a (fun zc => match zc with | .inr (.inr (ci, fs)) => bif Nat.beq ci (r / 100) then am_fg fs (r % 100) (fun v => am_G p l e R s m args below meth c Q D ad cI cW A n q (pc + len) L (v :: S) h) else False | _ => False) | _ => False) : am_G p l e R s m args below meth c Q D ad cI cW A n q pc L S h := by
  obtain ⟨hx, hb, hr, hml, hown, hts, hlk, hK, hNW⟩ := X
  unfold am_fld at ho
  split at ho
  · rename_i idx
    rw [Bool.and_eq_true, decide_eq_true_eq] at ho
    obtain rfl := Nat.eq_of_beq_eq_true ho.1
    obtain ⟨z, hz, hk, hw, hu, ty0, hty, hnm⟩ := am_fl_at ho.2
    split at hs
    · rename_i a S2
      obtain ⟨c1, h1, h2⟩ := am_hg_sp _ _ _ hs
      split at h2
      · rename_i ci fs
        obtain ⟨h3, h4⟩ := am_if_sp h2
        obtain rfl := Nat.eq_of_beq_eq_true h3
        obtain ⟨v, h5, h6⟩ := am_fg_sp _ _ _ h4
        intro H locs ls hP hS hn hl
        exact va_get hx hb hts hu hown hK hP a (am_w_at h1) (by rw [← nth_eq]; exact hz) (r % 100) hk (hts _ hw) (fun _ y => y) (am_fs_at h5) hd (h6 H locs ls hP hS hn hl)
      · exact h2.elim
    · exact hs.elim
  · cases ho
theorem am_r_putfield (X : am_Cx p s m args meth c D cI cW q) (hd : decode q.2.1 pc = .ok (raw, len)) (hA : am_Dx ad A n s) {r : Nat} (ho : am_pfl q.2.2.2.2.2.1 raw len r = true) (hs : match S with | v :: .ref a :: S => am_hg h a (fun zc => match zc with | .inr (.inr (ci, fs)) => bif Nat.beq ci (r % 10000 / 100) then am_pv (r / 10000) v (am_fs fs (r % 100) v (fun fs => am_hs h a (.inr (.inr (ci, fs))) (fun h => am_G p l e R s m args below meth c Q D ad cI cW A n q (pc + len) L S h))) else False | _ => False) | _ => False) : am_G p l e R s m args below meth c Q D ad cI cW A n q pc L S h := by
  obtain ⟨hx, hb, hr, hml, hown, hts, hlk, hK, hNW⟩ := X
  unfold am_pfl at ho
  split at ho
  · rename_i idx
    rw [Bool.and_eq_true, Bool.and_eq_true, decide_eq_true_eq] at ho
    obtain ⟨ho1, ho2, ho3⟩ := ho
    obtain rfl := Nat.eq_of_beq_eq_true ho1
    obtain ⟨z, hz, hk, hw, hu, ty0, hty, hnm⟩ := am_fl_at ho2
    simp only [hz, Bool.and_eq_true, Bool.not_eq_true', decide_eq_true_eq] at ho3
    obtain ⟨ho3, ho4⟩ := ho3
    split at hs
    · rename_i v a S2
      obtain ⟨c1, h1, h2⟩ := am_hg_sp _ _ _ hs
      split at h2
      · rename_i ci fs
        obtain ⟨h3, h4⟩ := am_if_sp h2
        obtain rfl := Nat.eq_of_beq_eq_true h3
        have key : narrow (am_tag (r / 10000)) (am_cv ad v) = am_cv ad v ∧ fits (am_tag (r / 10000)) (am_cv ad v) = true ∧ am_fs fs (r % 100) v (fun fs => am_hs h a (.inr (.inr (r % 10000 / 100, fs))) (fun h => am_G p l e R s m args below meth c Q D ad cI cW A n q (pc + 3) L S2 h)) := by
          generalize r / 10000 = t at h4 ho4 ⊢
          match t, h4 with
          | 0, h4 => cases v <;> first | exact ⟨rfl, rfl, h4⟩ | exact h4.elim
          | 1, h4 => cases v <;> first | exact ⟨rfl, rfl, h4⟩ | exact h4.elim
          | 2, h4 =>
            cases v <;> first | exact h4.elim | skip
            obtain ⟨h5, h6⟩ := h4
            rcases h5 with rfl | rfl
            · exact ⟨(by decide : narrow .boolean (.int 0) = .int 0), (by decide : fits .boolean (.int 0) = true), h6⟩
            · exact ⟨(by decide : narrow .boolean (.int 1) = .int 1), (by decide : fits .boolean (.int 1) = true), h6⟩
          | _ + 3, h4 => exact h4.elim
        obtain ⟨hnar, hfit, h5⟩ := key
        obtain ⟨h6, h7⟩ := am_fs_sp _ _ _ _ h5
        obtain ⟨h8, h9⟩ := am_hs_sp _ _ _ _ h6
        intro H locs ls hP hS hn hl
        refine va_put hx hb hts hu ty0 hty hnm hown hK hP (am_Ax_D (by rw [hn]; exact hA.1)) hS a (am_w_at h1) (by rw [← nth_eq]; exact hz) (r % 100) hk (hts _ hw) (fun _ y => y) ho3 ho4 hnar hfit (by simpa using h7) hd (fun H1 locs1 hP1 _ hS1 => ?_)
        refine h8 H1 locs1 ls ?_ hS1 (by simpa using hn) hl
        rw [← am_w_set]
        simpa only [am_c, List.map_set] using hP1
      · exact h2.elim
    · exact hs.elim
  · cases ho
theorem am_r_iaload (X : am_Cx p s m args meth c D cI cW q) (hd : decode q.2.1 pc = .ok (raw, len)) (ho : (decide (raw = .iaload) && Nat.beq len 1) = true) (hs : match S with | .int i :: .ref a :: S => am_hg h a (fun zc => match zc with | .inl (nn, f) => vp_in i nn ∧ am_G p l e R s m args below meth c Q D ad cI cW A n q (pc + len) L (.int (f i.toNatClampNeg) :: S) h | _ => False) | _ => False) : am_G p l e R s m args below meth c Q D ad cI cW A n q pc L S h := by
  obtain ⟨hx, hb, hr, hml, hown, hts, hlk, hK, hNW⟩ := X
  obtain ⟨rfl, rfl⟩ := am_eq_sp ho
  split at hs
  · rename_i i a S2
    obtain ⟨c1, h1, h2⟩ := am_hg_sp _ _ _ hs
    split at h2
    · intro H locs ls hP hS hn hl
      exact va_iald hx hb hK hP a 0 (am_w_at h1) rfl h2.1 hd (h2.2 H locs ls hP hS hn hl)
    · exact h2.elim
  · exact hs.elim
theorem am_r_aaload (X : am_Cx p s m args meth c D cI cW q) (hd : decode q.2.1 pc = .ok (raw, len)) (ho : (decide (raw = .aaload) && Nat.beq len 1) = true) (hs : match S with | .int i :: .ref a :: S => am_hg h a (fun zc => match zc with | .inr (.inl (nn, f)) => vp_in i nn ∧ (match f i.toNatClampNeg with | some x => am_G p l e R s m args below meth c Q D ad cI cW A n q (pc + len) L (.ref x :: S) h | none => False) | _ => False) | _ => False) : am_G p l e R s m args below meth c Q D ad cI cW A n q pc L S h := by
  obtain ⟨hx, hb, hr, hml, hown, hts, hlk, hK, hNW⟩ := X
  obtain ⟨rfl, rfl⟩ := am_eq_sp ho
  split at hs
  · rename_i i a S2
    obtain ⟨c1, h1, h2⟩ := am_hg_sp _ _ _ hs
    split at h2
    · rename_i nn f0
      obtain ⟨h3, h4⟩ := h2
      split at h4
      · rename_i x hx2
        intro H locs ls hP hS hn hl
        refine va_aldq hx hb hK hP a 1 (am_w_at h1) rfl h3 hd ?_
        show W p l e R s m args below meth c H locs 0 0 Q (F0 m (pc + 1) ls (va_rf (Option.map ad (f0 i.toNatClampNeg)) :: S2.map (am_cv ad)))
        rw [hx2]
        exact h4 H locs ls hP hS hn hl
      · exact h4.elim
    · exact h2.elim
  · exact hs.elim
theorem am_r_arraylength (X : am_Cx p s m args meth c D cI cW q) (hd : decode q.2.1 pc = .ok (raw, len)) (ho : (decide (raw = .arraylength) && Nat.beq len 1) = true) (hs : match S with | .ref a :: S => am_hg h a (fun zc => match zc with | .inl (nn, _) => am_G p l e R s m args below meth c Q D ad cI cW A n q (pc + len) L (.int (nI nn) :: S) h | _ => False) | _ => False) : am_G p l e R s m args below meth c Q D ad cI cW A n q pc L S h := by
  obtain ⟨hx, hb, hr, hml, hown, hts, hlk, hK, hNW⟩ := X
  obtain ⟨rfl, rfl⟩ := am_eq_sp ho
  split at hs
  · rename_i a S2
    obtain ⟨c1, h1, h2⟩ := am_hg_sp _ _ _ hs
    split at h2
    · intro H locs ls hP hS hn hl
      exact va_alen hx hb hK hP a 0 (am_w_at h1) rfl rfl hd (h2 H locs ls hP hS hn hl)
    · exact h2.elim
  · exact hs.elim
theorem am_r_iastore (X : am_Cx p s m args meth c D cI cW q) (hd : decode q.2.1 pc = .ok (raw, len)) (hA : am_Dx ad A n s) (ho : (decide (raw = .iastore) && Nat.beq len 1) = true) (hs : match S with | .int x :: .int i :: .ref a :: S => am_hg h a (fun zc => match zc with | .inl (nn, f) => vp_in i nn ∧ am_hs h a (.inl (nn, upd f i.toNatClampNeg x)) (fun h => am_G p l e R s m args below meth c Q D ad cI cW A n q (pc + len) L S h) | _ => False) | _ => False) : am_G p l e R s m args below meth c Q D ad cI cW A n q pc L S h := by
  obtain ⟨hx, hb, hr, hml, hown, hts, hlk, hK, hNW⟩ := X
  obtain ⟨rfl, rfl⟩ := am_eq_sp ho
  split at hs
  · rename_i x i a S2
    obtain ⟨c1, h1, h2⟩ := am_hg_sp _ _ _ hs
    split at h2
    · obtain ⟨h3, h4⟩ := am_hs_sp _ _ _ _ h2.2
      intro H locs ls hP hS hn hl
      refine va_iast hx hb hK hP (am_Ax_D (by rw [hn]; exact hA.1)) hS a 0 (am_w_at h1) rfl h2.1 hd (fun H1 locs1 hP1 _ hS1 => ?_)
      refine h3 H1 locs1 ls ?_ hS1 (by simpa using hn) hl
      rw [← am_w_set]
      exact hP1
    · exact h2.elim
  · exact hs.elim
theorem am_xl_link {o i t : Nat} (h : (o, i, t) ∈ am_XL) : Jvm.Cond.methodLink (am_cn o) i (w_mx t) ∈ am_TS := am_ts (in_xl _ (List.mem_map_of_mem (f := w_xl) h)) rfl
theorem am_mu {w : Jvm.Cond} (h : w ∈ [Jvm.Cond.static Lib.Math.max.name, Jvm.Cond.static Lib.Math.min.name, Jvm.Cond.static Lib.Math.abs.name, Jvm.Cond.static Lib.MathLoose.max_long.x, Jvm.Cond.initialized "java/lang/Math"]) (g : goodWord w = true) : w ∈ am_TS := am_ts (in_ms w h) g
theorem am_mv {w : Jvm.Cond} (h : w ∈ [Jvm.Cond.code Lib.Math.max.name Lib.Math.max.code 2 (some .int), Jvm.Cond.code Lib.Math.min.name Lib.Math.min.code 2 (some .int), Jvm.Cond.code Lib.Math.abs.name Lib.Math.abs.code 1 (some .int), Jvm.Cond.code Lib.MathLoose.max_long.x Lib.MathLoose.max_long.code 4 (some .long)]) (g : goodWord w = true) : w ∈ am_TS := am_ts (in_mc w h) g
theorem am_cat_le {S : List Value} {k : Nat} (ad : Nat → Nat) (h : Nat.ble (am_cat S) 8 = true) (hk : 8 + k ≤ R.locals) : ((S.map (am_cv ad)).map fun v => v.category).sum + k ≤ R.locals := by
  rw [am_cat_eq, am_cat_cv]
  have := Nat.le_of_ble_eq_true h
  omega
theorem am_r_i1 (X : am_Cx p s m args meth c D cI cW q) (hd : decode q.2.1 pc = .ok (raw, len)) (hcs : (0 : Nat) ≤ R.cells) (hf : (Nat.ble 1 R.frames && Nat.ble 26 R.locals) = true) (ho : ∃ i, raw = .invokestatic i ∧ len = 3 ∧ (q.2.2.2.2.2.1, i, 1) ∈ am_XL) (hs : am_i1 (fun L S h => am_G p l e R s m args below meth c Q D ad cI cW A n q (pc + len) L S h) L S h) : am_G p l e R s m args below meth c Q D ad cI cW A n q pc L S h := by
  obtain ⟨hx, hb, hr, hml, hown, hts, hlk, hK, hNW⟩ := X
  obtain ⟨i, rfl, rfl, ho⟩ := ho
  rw [Bool.and_eq_true] at hf
  have hf1 := Nat.le_of_ble_eq_true hf.1
  have hf2 := Nat.le_of_ble_eq_true hf.2
  unfold am_i1 at hs
  split at hs
  · obtain ⟨h1, h2⟩ := am_if_sp hs
    intro H locs ls hP hS hn hl
    exact va_mmax hx hb (hml.trans hl.1.symm) hown (hts _ (am_xl_link ho)) (hts _ (am_mu (List.mem_of_getElem? (i := 0) rfl) rfl)) (hts _ (am_mu (List.mem_of_getElem? (i := 4) rfl) rfl)) (hts _ (am_mv (List.mem_of_getElem? (i := 0) rfl) rfl)) hf1 (am_cat_le ad h1 (by omega)) (Nat.zero_le _) (Nat.zero_le _) hd (h2 H locs ls hP hS hn hl)
  · exact hs.elim
theorem am_r_i2 (X : am_Cx p s m args meth c D cI cW q) (hd : decode q.2.1 pc = .ok (raw, len)) (hcs : (0 : Nat) ≤ R.cells) (hf : (Nat.ble 1 R.frames && Nat.ble 26 R.locals) = true) (ho : ∃ i, raw = .invokestatic i ∧ len = 3 ∧ (q.2.2.2.2.2.1, i, 2) ∈ am_XL) (hs : am_i2 (fun L S h => am_G p l e R s m args below meth c Q D ad cI cW A n q (pc + len) L S h) L S h) : am_G p l e R s m args below meth c Q D ad cI cW A n q pc L S h := by
  obtain ⟨hx, hb, hr, hml, hown, hts, hlk, hK, hNW⟩ := X
  obtain ⟨i, rfl, rfl, ho⟩ := ho
  rw [Bool.and_eq_true] at hf
  have hf1 := Nat.le_of_ble_eq_true hf.1
  have hf2 := Nat.le_of_ble_eq_true hf.2
  unfold am_i2 at hs
  split at hs
  · obtain ⟨h1, h2⟩ := am_if_sp hs
    intro H locs ls hP hS hn hl
    exact va_mmin hx hb (hml.trans hl.1.symm) hown (hts _ (am_xl_link ho)) (hts _ (am_mu (List.mem_of_getElem? (i := 1) rfl) rfl)) (hts _ (am_mu (List.mem_of_getElem? (i := 4) rfl) rfl)) (hts _ (am_mv (List.mem_of_getElem? (i := 1) rfl) rfl)) hf1 (am_cat_le ad h1 (by omega)) (Nat.zero_le _) (Nat.zero_le _) hd (h2 H locs ls hP hS hn hl)
  · exact hs.elim
theorem am_r_i3 (X : am_Cx p s m args meth c D cI cW q) (hd : decode q.2.1 pc = .ok (raw, len)) (hcs : (0 : Nat) ≤ R.cells) (hf : (Nat.ble 1 R.frames && Nat.ble 26 R.locals) = true) (ho : ∃ i, raw = .invokestatic i ∧ len = 3 ∧ (q.2.2.2.2.2.1, i, 3) ∈ am_XL) (hs : am_i3 (fun L S h => am_G p l e R s m args below meth c Q D ad cI cW A n q (pc + len) L S h) L S h) : am_G p l e R s m args below meth c Q D ad cI cW A n q pc L S h := by
  obtain ⟨hx, hb, hr, hml, hown, hts, hlk, hK, hNW⟩ := X
  obtain ⟨i, rfl, rfl, ho⟩ := ho
  rw [Bool.and_eq_true] at hf
  have hf1 := Nat.le_of_ble_eq_true hf.1
  have hf2 := Nat.le_of_ble_eq_true hf.2
  unfold am_i3 at hs
  split at hs
  · obtain ⟨h1, h2⟩ := am_if_sp hs
    intro H locs ls hP hS hn hl
    exact va_mabs hx hb (hml.trans hl.1.symm) hown (hts _ (am_xl_link ho)) (hts _ (am_mu (List.mem_of_getElem? (i := 2) rfl) rfl)) (hts _ (am_mu (List.mem_of_getElem? (i := 4) rfl) rfl)) (hts _ (am_mv (List.mem_of_getElem? (i := 2) rfl) rfl)) hf1 (am_cat_le ad h1 (by omega)) (Nat.zero_le _) (Nat.zero_le _) hd (h2 H locs ls hP hS hn hl)
  · exact hs.elim
theorem am_r_i4 (X : am_Cx p s m args meth c D cI cW q) (hd : decode q.2.1 pc = .ok (raw, len)) (hcs : (0 : Nat) ≤ R.cells) (hf : (Nat.ble 1 R.frames && Nat.ble 26 R.locals) = true) (ho : ∃ i, raw = .invokestatic i ∧ len = 3 ∧ (q.2.2.2.2.2.1, i, 4) ∈ am_XL) (hs : am_i4 (fun L S h => am_G p l e R s m args below meth c Q D ad cI cW A n q (pc + len) L S h) L S h) : am_G p l e R s m args below meth c Q D ad cI cW A n q pc L S h := by
  obtain ⟨hx, hb, hr, hml, hown, hts, hlk, hK, hNW⟩ := X
  obtain ⟨i, rfl, rfl, ho⟩ := ho
  rw [Bool.and_eq_true] at hf
  have hf1 := Nat.le_of_ble_eq_true hf.1
  have hf2 := Nat.le_of_ble_eq_true hf.2
  unfold am_i4 at hs
  split at hs
  · obtain ⟨h1, h2⟩ := am_if_sp hs
    intro H locs ls hP hS hn hl
    exact va_mmax_long hx hb (hml.trans hl.1.symm) hown (hts _ (am_xl_link ho)) (hts _ (am_mu (List.mem_of_getElem? (i := 3) rfl) rfl)) (hts _ (am_mu (List.mem_of_getElem? (i := 4) rfl) rfl)) (hts _ (am_mv (List.mem_of_getElem? (i := 3) rfl) rfl)) hf1 (am_cat_le ad h1 (by omega)) (Nat.zero_le _) (Nat.zero_le _) hd (h2 H locs ls hP hS hn hl)
  · exact hs.elim
theorem am_r_i0 (X : am_Cx p s m args meth c D cI cW q) (hd : decode q.2.1 pc = .ok (raw, len)) (hA : am_Dx ad A n s) (hf : (Nat.ble 1 R.frames && Nat.ble 26 R.locals) = true) (ho : ∃ i, raw = .invokestatic i ∧ len = 3 ∧ (q.2.2.2.2.2.1, i) ∈ am_AL) (hs : am_i0 (fun L S h => am_G p l e R s m args below meth c Q D ad cI cW A n q (pc + len) L S h) L S h) : am_G p l e R s m args below meth c Q D ad cI cW A n q pc L S h := by
  obtain ⟨hx, hb, hr, hml, hown, hts, hlk, hK, hNW⟩ := X
  obtain ⟨i, rfl, rfl, ho⟩ := ho
  rw [Bool.and_eq_true] at hf
  have hf1 := Nat.le_of_ble_eq_true hf.1
  have hf2 := Nat.le_of_ble_eq_true hf.2
  unfold am_i0 at hs
  split at hs
  · rename_i k dp b sp a S2
    obtain ⟨h1, h2⟩ := am_if_sp hs
    obtain ⟨c0, h3, h4⟩ := am_hg_sp _ _ _ h2
    obtain ⟨c1, h5, h6⟩ := am_hg_sp _ _ _ h4
    split at h6
    · split at h6
      · obtain ⟨⟨g1, g2, g3, g4, g5⟩, h7⟩ := h6
        obtain ⟨h8, h9⟩ := am_hs_sp _ _ _ _ h7
        intro H locs ls hP hS hn hl
        refine va_copyi hx hb (hml.trans hl.1.symm) hown (hts _ (am_al_link ho)) (hts _ (am_ts (in_ac _ (List.mem_of_getElem? (i := 0) rfl)) rfl)) (hts _ (am_ts (in_ac _ (List.mem_of_getElem? (i := 1) rfl)) rfl)) (hts _ (am_ts (in_ac _ (List.mem_of_getElem? (i := 2) rfl)) rfl)) hK hP (am_Ax_D (by rw [hn]; exact hA.1)) hS a b 0 0 (am_w_at h3) (am_w_at h5) rfl rfl rfl g1 g2 g3 g4 g5 (fun _ _ => rfl) hf1 ?_ hd (fun H1 locs1 hP1 _ hS1 => ?_)
        · rw [show nativeFrameWords "java/lang/System" "arraycopy" 5 = 7 by decide]
          exact am_cat_le ad h1 (by omega)
        · refine h8 H1 locs1 ls ?_ hS1 (by simpa using hn) hl
          rw [← am_w_set]
          exact hP1
      · exact h6.elim
    · exact h6.elim
  · exact hs.elim
end RW
end
section
theorem am_okM_0 : ∀ q ∈ am_M0, am_okM q = true := List.forall_mem_cons.mpr ⟨ok_X0_none, List.forall_mem_cons.mpr ⟨ok_X0_offerLeast, List.forall_mem_cons.mpr ⟨ok_X0_offerMost, List.forall_mem_cons.mpr ⟨ok_X0_answer, List.forall_mem_cons.mpr ⟨ok_X1_leastHeard, List.forall_mem_cons.mpr ⟨ok_X1_leastBreaking, List.forall_mem_cons.mpr ⟨ok_X1_greatestHarmless, List.forall_mem_cons.mpr ⟨ok_X1_leastHarm, List.forall_mem_cons.mpr ⟨ok_X1_quietestTap, List.forall_mem_cons.mpr ⟨ok_X1_findDroppers, List.forall_mem_cons.mpr ⟨ok_X1_countDropping, List.forall_mem_cons.mpr ⟨ok_X1_kindsBy, List.forall_mem_cons.mpr ⟨ok_X1_figuresBy, List.forall_mem_cons.mpr ⟨ok_X1_strengths, List.forall_mem_cons.mpr ⟨ok_X2_firstBreakingDay, List.forall_mem_cons.mpr ⟨ok_X2_wholeBehind, List.forall_mem_cons.mpr ⟨ok_X2_brokenBehindAll, List.forall_mem_cons.mpr ⟨ok_X2_findOdds, List.forall_mem_cons.mpr ⟨ok_X2_power, List.forall_mem_cons.mpr ⟨ok_X2_commonDivisor, List.forall_mem_cons.mpr ⟨ok_X2_drawYears, List.forall_mem_cons.mpr ⟨ok_X2_draw, List.forall_mem_cons.mpr ⟨ok_X3_lossOf, List.forall_mem_cons.mpr ⟨ok_X3_standsOf, List.forall_mem_cons.mpr ⟨ok_X3_jumpBy, List.forall_mem_cons.mpr ⟨ok_X4_thingAt, List.forall_mem_cons.mpr ⟨ok_X4_mildest, List.forall_mem_cons.mpr ⟨ok_X4_mostBrokenBut, List.forall_mem_cons.mpr ⟨ok_X4_shortestWalk, List.forall_mem_cons.mpr ⟨ok_X4_sortByFarm, List.forall_mem_cons.mpr ⟨ok_X4_isAhead, List.forall_mem_cons.mpr ⟨ok_X5_keep, List.forall_mem_cons.mpr ⟨ok_X5_takeBack, fun _ h => absurd h List.not_mem_nil⟩⟩⟩⟩⟩⟩⟩⟩⟩⟩⟩⟩⟩⟩⟩⟩⟩⟩⟩⟩⟩⟩⟩⟩⟩⟩⟩⟩⟩⟩⟩⟩⟩
theorem am_okM_1 : ∀ q ∈ am_M1, am_okM q = true := List.forall_mem_cons.mpr ⟨ok_X5_forget, List.forall_mem_cons.mpr ⟨ok_X6_worstPlace, List.forall_mem_cons.mpr ⟨ok_X6_mildestCut, List.forall_mem_cons.mpr ⟨ok_X6_mostBroken, List.forall_mem_cons.mpr ⟨ok_X6_womansDrop, List.forall_mem_cons.mpr ⟨ok_X6_othersInSpite, List.forall_mem_cons.mpr ⟨ok_X6_mostAlike, List.forall_mem_cons.mpr ⟨ok_X6_addUnlike, List.forall_mem_cons.mpr ⟨ok_X6_allHeard, List.forall_mem_cons.mpr ⟨ok_X6_quietest, List.forall_mem_cons.mpr ⟨ok_X6_hearAll, List.forall_mem_cons.mpr ⟨ok_X6_mostHeard, List.forall_mem_cons.mpr ⟨ok_X6_mendHeardMost, List.forall_mem_cons.mpr ⟨ok_X6_figureHeardMost, List.forall_mem_cons.mpr ⟨ok_X6_longestLink, List.forall_mem_cons.mpr ⟨ok_X6_sparedBits, List.forall_mem_cons.mpr ⟨ok_X6_mutualTwos, List.forall_mem_cons.mpr ⟨ok_X7_hear, List.forall_mem_cons.mpr ⟨ok_X7_tellsJumps, List.forall_mem_cons.mpr ⟨ok_X7_firstNotInPlace, List.forall_mem_cons.mpr ⟨ok_X8_hear, List.forall_mem_cons.mpr ⟨ok_X8_firstMisfit, List.forall_mem_cons.mpr ⟨ok_X8_comeTo, List.forall_mem_cons.mpr ⟨ok_X8_refusalOf, List.forall_mem_cons.mpr ⟨ok_X8_act, List.forall_mem_cons.mpr ⟨ok_X8_blowIn, List.forall_mem_cons.mpr ⟨ok_X8_digit, List.forall_mem_cons.mpr ⟨ok_X8_isDigit, List.forall_mem_cons.mpr ⟨ok_X8_digitsBehind, List.forall_mem_cons.mpr ⟨ok_X9_strike, List.forall_mem_cons.mpr ⟨ok_X9_drop, List.forall_mem_cons.mpr ⟨ok_X9_spread, List.forall_mem_cons.mpr ⟨ok_X9_isHeardBy, fun _ h => absurd h List.not_mem_nil⟩⟩⟩⟩⟩⟩⟩⟩⟩⟩⟩⟩⟩⟩⟩⟩⟩⟩⟩⟩⟩⟩⟩⟩⟩⟩⟩⟩⟩⟩⟩⟩⟩
theorem am_okM_2 : ∀ q ∈ am_M2, am_okM q = true := List.forall_mem_cons.mpr ⟨ok_X9_hasBroken, List.forall_mem_cons.mpr ⟨ok_X9_hearerCount, List.forall_mem_cons.mpr ⟨ok_X9_brokenCount, List.forall_mem_cons.mpr ⟨ok_X9_othersBroken, List.forall_mem_cons.mpr ⟨ok_X9_jumpIn, List.forall_mem_cons.mpr ⟨ok_X9_jumpsIn, List.forall_mem_cons.mpr ⟨ok_X9_farthestIn, List.forall_mem_cons.mpr ⟨ok_X10_copy, List.forall_mem_cons.mpr ⟨ok_X10_noThing, List.forall_mem_cons.mpr ⟨ok_X10_noLink, List.forall_mem_cons.mpr ⟨ok_X10_joinRefusal, List.forall_mem_cons.mpr ⟨ok_X10_dropRefusal, List.forall_mem_cons.mpr ⟨ok_X10_mendRefusal, List.forall_mem_cons.mpr ⟨ok_X10_changeRefusal, List.forall_mem_cons.mpr ⟨ok_X10_join, List.forall_mem_cons.mpr ⟨ok_X10_mend, List.forall_mem_cons.mpr ⟨ok_X10_turnCut, List.forall_mem_cons.mpr ⟨ok_X10_exchange, List.forall_mem_cons.mpr ⟨ok_X10_isBroken, List.forall_mem_cons.mpr ⟨ok_X10_isCut, List.forall_mem_cons.mpr ⟨ok_X10_wholeBits, List.forall_mem_cons.mpr ⟨ok_X10_allLoss, List.forall_mem_cons.mpr ⟨ok_X10_nextWhole, List.forall_mem_cons.mpr ⟨ok_X10_wayOver, List.forall_mem_cons.mpr ⟨ok_X10_walkLength, List.forall_mem_cons.mpr ⟨ok_X10_stretches, List.forall_mem_cons.mpr ⟨ok_X10_layInTurnUncut, List.forall_mem_cons.mpr ⟨ok_X10_layNextOrder, List.forall_mem_cons.mpr ⟨ok_X11_feed, List.forall_mem_cons.mpr ⟨ok_X11_valley, List.forall_mem_cons.mpr ⟨ok_X11_thingOf, List.forall_mem_cons.mpr ⟨ok_X11_place, List.forall_mem_cons.mpr ⟨ok_X11_thing, fun _ h => absurd h List.not_mem_nil⟩⟩⟩⟩⟩⟩⟩⟩⟩⟩⟩⟩⟩⟩⟩⟩⟩⟩⟩⟩⟩⟩⟩⟩⟩⟩⟩⟩⟩⟩⟩⟩⟩
theorem am_okM_3 : ∀ q ∈ am_M3, am_okM q = true := List.forall_mem_cons.mpr ⟨ok_X11_drops, List.forall_mem_cons.mpr ⟨ok_X11_mends, List.forall_mem_cons.mpr ⟨ok_X11_cuts, List.forall_mem_cons.mpr ⟨ok_X11_changes, List.forall_mem_cons.mpr ⟨ok_X11_back, List.forall_mem_cons.mpr ⟨ok_X11_gets, List.forall_mem_cons.mpr ⟨ok_X11_blow, List.forall_mem_cons.mpr ⟨ok_X11_reaches, List.forall_mem_cons.mpr ⟨ok_X11_breaks, List.forall_mem_cons.mpr ⟨ok_X11_harm, List.forall_mem_cons.mpr ⟨ok_X11_tap, List.forall_mem_cons.mpr ⟨ok_X11_who, List.forall_mem_cons.mpr ⟨ok_X11_whatKind, List.forall_mem_cons.mpr ⟨ok_X11_worst, List.forall_mem_cons.mpr ⟨ok_X11_bestCut, List.forall_mem_cons.mpr ⟨ok_X11_order, List.forall_mem_cons.mpr ⟨ok_X11_walk, List.forall_mem_cons.mpr ⟨ok_X11_woman, List.forall_mem_cons.mpr ⟨ok_X11_lasts, List.forall_mem_cons.mpr ⟨ok_X11_left, List.forall_mem_cons.mpr ⟨ok_X11_chance, List.forall_mem_cons.mpr ⟨ok_X11_twins, List.forall_mem_cons.mpr ⟨ok_X11_hum, List.forall_mem_cons.mpr ⟨ok_X11_apart, List.forall_mem_cons.mpr ⟨ok_X11_heaps, List.forall_mem_cons.mpr ⟨ok_X11_codes, List.forall_mem_cons.mpr ⟨ok_X11_secret, List.forall_mem_cons.mpr ⟨ok_X11_tough, List.forall_mem_cons.mpr ⟨ok_X11_centre, List.forall_mem_cons.mpr ⟨ok_X11_bestMend, List.forall_mem_cons.mpr ⟨ok_X11_bestFigure, List.forall_mem_cons.mpr ⟨ok_X11_domino, List.forall_mem_cons.mpr ⟨ok_X11_longest, fun _ h => absurd h List.not_mem_nil⟩⟩⟩⟩⟩⟩⟩⟩⟩⟩⟩⟩⟩⟩⟩⟩⟩⟩⟩⟩⟩⟩⟩⟩⟩⟩⟩⟩⟩⟩⟩⟩⟩
theorem am_okM_4 : ∀ q ∈ am_M4, am_okM q = true := List.forall_mem_cons.mpr ⟨ok_X11_spared, List.forall_mem_cons.mpr ⟨ok_X11_mutual, List.forall_mem_cons.mpr ⟨ok_X11_row, List.forall_mem_cons.mpr ⟨ok_X11_judge, List.forall_mem_cons.mpr ⟨ok_X11_clear, List.forall_mem_cons.mpr ⟨ok_X11_lots, List.forall_mem_cons.mpr ⟨ok_X11_image, List.forall_mem_cons.mpr ⟨ok_X11_restore, List.forall_mem_cons.mpr ⟨ok_X11_count, List.forall_mem_cons.mpr ⟨ok_X11_refuse, List.forall_mem_cons.mpr ⟨ok_X11_rowTooLong, List.forall_mem_cons.mpr ⟨ok_X11_first, List.forall_mem_cons.mpr ⟨ok_X11_below, List.forall_mem_cons.mpr ⟨ok_X11_above, List.forall_mem_cons.mpr ⟨ok_X11_noBlow, List.forall_mem_cons.mpr ⟨ok_X11_unknown, List.forall_mem_cons.mpr ⟨ok_X12_no, List.forall_mem_cons.mpr ⟨ok_X12_lowest, List.forall_mem_cons.mpr ⟨ok_X12_isIn, List.forall_mem_cons.mpr ⟨ok_X12_bound, List.forall_mem_cons.mpr ⟨ok_X12_notBlow, List.forall_mem_cons.mpr ⟨ok_X12_has, List.forall_mem_cons.mpr ⟨ok_X12_bits, List.forall_mem_cons.mpr ⟨ok_X12_far, List.forall_mem_cons.mpr ⟨ok_X12_isThing, List.forall_mem_cons.mpr ⟨ok_X12_isLink, List.forall_mem_cons.mpr ⟨ok_X12_feed, List.forall_mem_cons.mpr ⟨ok_X12_next, List.forall_mem_cons.mpr ⟨ok_X12_readsDigits, List.forall_mem_cons.mpr ⟨ok_X12_readsAll, List.forall_mem_cons.mpr ⟨ok_X12_statement, List.forall_mem_cons.mpr ⟨ok_X12_comesDrop, List.forall_mem_cons.mpr ⟨ok_X12_comesOther, fun _ h => absurd h List.not_mem_nil⟩⟩⟩⟩⟩⟩⟩⟩⟩⟩⟩⟩⟩⟩⟩⟩⟩⟩⟩⟩⟩⟩⟩⟩⟩⟩⟩⟩⟩⟩⟩⟩⟩
theorem am_okM_5 : ∀ q ∈ am_M5, am_okM q = true := List.forall_mem_cons.mpr ⟨ok_X12_comes, List.forall_mem_cons.mpr ⟨ok_X12_valley, List.forall_mem_cons.mpr ⟨ok_X12_passes, List.forall_mem_cons.mpr ⟨ok_X12_passOne, List.forall_mem_cons.mpr ⟨ok_X12_passesAll, List.forall_mem_cons.mpr ⟨ok_X12_thinks, List.forall_mem_cons.mpr ⟨ok_X12_forgets, List.forall_mem_cons.mpr ⟨ok_X12_keepsBack, List.forall_mem_cons.mpr ⟨ok_X12_back, List.forall_mem_cons.mpr ⟨ok_X12_image, List.forall_mem_cons.mpr ⟨ok_X12_restore, List.forall_mem_cons.mpr ⟨ok_X12_adds, List.forall_mem_cons.mpr ⟨ok_X12_lossOf, List.forall_mem_cons.mpr ⟨ok_X12_standsOf, List.forall_mem_cons.mpr ⟨ok_X12_jumpOf, List.forall_mem_cons.mpr ⟨ok_X12_placeOf, List.forall_mem_cons.mpr ⟨ok_X12_lands, List.forall_mem_cons.mpr ⟨ok_X12_goesAlong, List.forall_mem_cons.mpr ⟨ok_X12_findBlow, List.forall_mem_cons.mpr ⟨ok_X12_breaksBy, List.forall_mem_cons.mpr ⟨ok_X12_manyGet, List.forall_mem_cons.mpr ⟨ok_X12_allJumps, List.forall_mem_cons.mpr ⟨ok_X12_thingOf, List.forall_mem_cons.mpr ⟨ok_X12_place, List.forall_mem_cons.mpr ⟨ok_X12_thing, List.forall_mem_cons.mpr ⟨ok_X12_drops, List.forall_mem_cons.mpr ⟨ok_X12_mends, List.forall_mem_cons.mpr ⟨ok_X12_cuts, List.forall_mem_cons.mpr ⟨ok_X12_exchanges, List.forall_mem_cons.mpr ⟨ok_X12_changes, List.forall_mem_cons.mpr ⟨ok_X12_notTwo, List.forall_mem_cons.mpr ⟨ok_X12_gets, List.forall_mem_cons.mpr ⟨ok_X12_whoGet, fun _ h => absurd h List.not_mem_nil⟩⟩⟩⟩⟩⟩⟩⟩⟩⟩⟩⟩⟩⟩⟩⟩⟩⟩⟩⟩⟩⟩⟩⟩⟩⟩⟩⟩⟩⟩⟩⟩⟩
theorem am_okM_6 : ∀ q ∈ am_M6, am_okM q = true := List.forall_mem_cons.mpr ⟨ok_X12_farthestFrom, List.forall_mem_cons.mpr ⟨ok_X12_blow, List.forall_mem_cons.mpr ⟨ok_X12_reaches, List.forall_mem_cons.mpr ⟨ok_X12_breaks, List.forall_mem_cons.mpr ⟨ok_X12_harm, List.forall_mem_cons.mpr ⟨ok_X12_tap, List.forall_mem_cons.mpr ⟨ok_X12_isSo, List.forall_mem_cons.mpr ⟨ok_X12_who, List.forall_mem_cons.mpr ⟨ok_X12_bitsFor, List.forall_mem_cons.mpr ⟨ok_X12_whatKind, List.forall_mem_cons.mpr ⟨ok_X12_worstOf, List.forall_mem_cons.mpr ⟨ok_X12_mostBroken, List.forall_mem_cons.mpr ⟨ok_X12_worst, List.forall_mem_cons.mpr ⟨ok_X12_bestCut, List.forall_mem_cons.mpr ⟨ok_X12_nextOrder, List.forall_mem_cons.mpr ⟨ok_X12_sorts, List.forall_mem_cons.mpr ⟨ok_X12_findOrder, List.forall_mem_cons.mpr ⟨ok_X12_order, List.forall_mem_cons.mpr ⟨ok_X12_findShortest, List.forall_mem_cons.mpr ⟨ok_X12_walkOf, List.forall_mem_cons.mpr ⟨ok_X12_shortestOf, List.forall_mem_cons.mpr ⟨ok_X12_walked, List.forall_mem_cons.mpr ⟨ok_X12_walk, List.forall_mem_cons.mpr ⟨ok_X12_others, List.forall_mem_cons.mpr ⟨ok_X12_leftToHer, List.forall_mem_cons.mpr ⟨ok_X12_woman, List.forall_mem_cons.mpr ⟨ok_X12_nextWhole, List.forall_mem_cons.mpr ⟨ok_X12_lasts, List.forall_mem_cons.mpr ⟨ok_X12_left, List.forall_mem_cons.mpr ⟨ok_X12_divisor, List.forall_mem_cons.mpr ⟨ok_X12_power, List.forall_mem_cons.mpr ⟨ok_X12_ways, List.forall_mem_cons.mpr ⟨ok_X12_chance, fun _ h => absurd h List.not_mem_nil⟩⟩⟩⟩⟩⟩⟩⟩⟩⟩⟩⟩⟩⟩⟩⟩⟩⟩⟩⟩⟩⟩⟩⟩⟩⟩⟩⟩⟩⟩⟩⟩⟩
theorem am_okM_7 : ∀ q ∈ am_M7, am_okM q = true := List.forall_mem_cons.mpr ⟨ok_X12_apartBy, List.forall_mem_cons.mpr ⟨ok_X12_twins, List.forall_mem_cons.mpr ⟨ok_X12_heardBy, List.forall_mem_cons.mpr ⟨ok_X12_hum, List.forall_mem_cons.mpr ⟨ok_X12_apart, List.forall_mem_cons.mpr ⟨ok_X12_heaps, List.forall_mem_cons.mpr ⟨ok_X12_codesOf, List.forall_mem_cons.mpr ⟨ok_X12_codes, List.forall_mem_cons.mpr ⟨ok_X12_secret, List.forall_mem_cons.mpr ⟨ok_X12_tough, List.forall_mem_cons.mpr ⟨ok_X12_centre, List.forall_mem_cons.mpr ⟨ok_X12_manyBy, List.forall_mem_cons.mpr ⟨ok_X12_bestMend, List.forall_mem_cons.mpr ⟨ok_X12_bestFigure, List.forall_mem_cons.mpr ⟨ok_X12_domino, List.forall_mem_cons.mpr ⟨ok_X12_linkOf, List.forall_mem_cons.mpr ⟨ok_X12_longest, List.forall_mem_cons.mpr ⟨ok_X12_spared, List.forall_mem_cons.mpr ⟨ok_X12_hears, List.forall_mem_cons.mpr ⟨ok_X12_mutual, List.forall_mem_cons.mpr ⟨ok_X12_row, List.forall_mem_cons.mpr ⟨ok_X12_judge, List.forall_mem_cons.mpr ⟨ok_X12_clear, List.forall_mem_cons.mpr ⟨ok_X12_draw, List.forall_mem_cons.mpr ⟨ok_X12_lots, List.forall_mem_cons.mpr ⟨ok_X12_count, List.forall_mem_cons.mpr ⟨ok_J6_bitCount_0f7a4, List.forall_mem_cons.mpr ⟨ok_J13_bitCount_95d88, fun _ h => absurd h List.not_mem_nil⟩⟩⟩⟩⟩⟩⟩⟩⟩⟩⟩⟩⟩⟩⟩⟩⟩⟩⟩⟩⟩⟩⟩⟩⟩⟩⟩⟩
theorem am_okM_all : ∀ q ∈ am_MT, am_okM q = true := by
  intro q h
  simp only [am_MT, List.mem_append] at h
  rcases h with h | h | h | h | h | h | h | h
  · exact am_okM_0 q h
  · exact am_okM_1 q h
  · exact am_okM_2 q h
  · exact am_okM_3 q h
  · exact am_okM_4 q h
  · exact am_okM_5 q h
  · exact am_okM_6 q h
  · exact am_okM_7 q h
section RW2
variable {p : Program} {l : Launch} {e : Env} {R : Room} {s : State} {m : MethodId} {args : Array Value} {below : List Frame} {meth : Method} {c : Code} {Q : State → Prop} {D : va_G} {ad : Nat → Nat} {cI cW : ClassId} {A : Nat → Prop} {n : Nat} {q : ME} {pc len : Nat} {raw : Instr} {L : AL} {S : List Value} {h : AH} {K : Option Value → AH → Prop}
/-- a contract of a method out of what is shown of its code -/
theorem am_met {id sz : Nat} {y : ME} {As : List Value} {K' : Option Value → AH → Prop} (hy : nth am_MT id = some y) (hA : am_Ax ad A h.length) (hent : am_ent As y.2.2.1 (fun L2 => am_SP l D ad cI cW id 0 L2 [] h K')) :
    Met l y.1 (am_ws y) (am_rm y) (va_Pc (As.map (am_cv ad)) (fun U => U.heap.size = sz ∧ va_P D am_cl (am_w ad cI cW h) U.heap ∧ va_K D am_cl (am_ty cI cW) U ∧ am_NW U)) (am_Q D ad cI cW (va_A (am_w ad cI cW h) sz) h.length K') 0 0 (va_A (am_w ad cI cW h) sz) := by
  have hok := am_ok_at hy
  simp only [am_okN, Bool.and_eq_true, decide_eq_true_eq] at hok
  obtain ⟨hcn, hpl, -, -⟩ := hok
  refine Met.ofW (cc := y.2.1) (maxL := y.2.2.1) (ret := y.2.2.2.1) hpl rfl ?_
  intro p e s m args below meth c s₁ B hml hv
  obtain ⟨rfl, hsz, hP, hK, hNW⟩ := hv
  have hts := atoms_spec (ws := am_ws y) B.pre
  have hown : s.vm.findClass y.1.cls = some m.cls := findClass_of_methodNamed B.named
  rw [hcn] at hown
  obtain ⟨L2, hSP, hlen, hsl, hmem⟩ := am_ent_sp ad As y.2.2.1 _ hent
  rw [lg_entry_eq]
  have hl := lv_entry (As.map (am_cv ad)) (n := y.2.2.1) hsl
  generalize (lg_sl (As.map (am_cv ad)) ++ List.replicate (y.2.2.1 - (lg_sl (As.map (am_cv ad))).length) Slot.unset).toArray = ls at hl ⊢
  subst hsz
  refine hSP y hy p e s m _ below meth c ⟨B.exec, B.bytes, B.returns, hml, hown, fun w h => hts w (List.mem_cons_of_mem _ h), B.notSynchronized, hK, hNW⟩ (va_A (am_w ad cI cW h) s.heap.size) ⟨⟨hA.1, fun i hi => ?_⟩, fun x hx => Or.inr hx⟩ s.heap [] ls hP va_S.rf rfl ⟨hl.1, hl.2.1, hlen, fun i v hv => hl.2.2 (i, am_cv ad v) (by simpa using hmem 0 i v hv)⟩
  exact Or.inl ⟨i, _, am_w_at (List.getElem?_eq_getElem hi)⟩
/-- behind a call -/
theorem am_call {H : Heap} {locs : List Loc} {ls : Array Slot} {st0 rest : List Value} {a : Array Value} {A1 free : Nat → Prop} {k : Nat} {K' : Option Value → AH → Prop} {H0 : Heap} (hr : va_Run p l e R s m args below meth c H locs 0 0 0 0 (F0 m pc ls st0) rest (am_Q D ad cI cW A1 k K' a) free) (hS : va_S A H0 H locs) (hA : ∀ x, A1 x → A x) (hf : ∀ x, free x → A x)
    (kk : ∀ (r : Option Value) (h1 : AH) (H1 : Heap) (locs1 : List Loc), K' r h1 → h1.length = k → va_P D am_cl (am_w ad cI cW h1) H1 → va_S A H0 H1 locs1 → W p l e R s m args below meth c H1 locs1 0 0 Q (F0 m (pc + 3) ls ((r.map (am_cv ad)).toList ++ rest))) : W p l e R s m args below meth c H locs 0 0 Q (F0 m pc ls st0) := by
  intro T hT X
  obtain ⟨v, st₀, t, T', L, h0, X', hL, e1, e2, ⟨r, h1, hv, hk, hn, hP, hz, hq⟩, st⟩ := hr T hT X
  cases hv
  rw [h0] at hz hq
  obtain ⟨t2, a1, b1⟩ := kk r h1 T'.heap (locs ++ L) hk hn (by rw [e1]; exact hP)
    ⟨Nat.le_trans hS.1 (by rw [e1]; exact hz), fun x g1 g2 => by rw [e1, hq x (Nat.lt_of_lt_of_le g1 hS.1) (fun z => g2 (hA x z))]; exact hS.2.1 x g1 g2, fun x hx => by
      rcases List.mem_append.mp hx with g | g
      · exact hS.2.2 x g
      · exact hf _ (hL x g)⟩ T' rfl X'
  exact ⟨t2, st t2 a1, b1⟩
theorem am_blind {av : List Value} {sz : Nat} : FrameBlind (va_Pc av (fun U => U.heap.size = sz ∧ va_P D am_cl (am_w ad cI cW h) U.heap ∧ va_K D am_cl (am_ty cI cW) U ∧ am_NW U)) := by
  rintro a U g mk ⟨q0, q1, q2, q3, q4⟩
  exact ⟨q0, q1, q2, va_K.moved (u := U) (U := U.calling g mk a) (Vm.Alike.refl U.vm) q3, am_NW_same (s := U) (U := U.calling g mk a) rfl q4⟩
theorem am_psh_map (r : Option Value) (S : List Value) : (am_psh r S).map (am_cv ad) = (r.map (am_cv ad)).toList ++ S.map (am_cv ad) := by cases r <;> rfl
theorem am_r_inv (X : am_Cx p s m args meth c D cI cW q) (hd : decode q.2.1 pc = .ok (raw, len)) (hA : am_Dx ad A n s) {r k : Nat} {C0 : Nat → List Value → AL → List Value → AH → Prop} (hC : ∀ id aa L S h, C0 id aa L S h → ∃ y, nth am_MT id = some y ∧ ∃ K2 : Option Value → AH → Prop, am_ent aa y.2.2.1 (fun L2 => am_SP l D ad cI cW id 0 L2 [] h K2) ∧ ∀ r h1, K2 r h1 → am_G p l e R s m args below meth c Q D ad cI cW A n q (pc + len) L (am_psh r S) h1) (ho : am_inv q.2.2.2.2.2.1 raw len r k = true) (hfit : ∀ y, nth am_MT (r / 100) = some y → y.2.2.2.2.2.2.1 + 1 ≤ R.frames ∧ 8 + (y.2.2.1 + 11) + y.2.2.2.2.2.2.2.1 ≤ R.locals) (hs : am_pop k S [] (fun aa S => bif Nat.ble (am_cat S) 8 then (match r % 100 with
      | 0 => C0 (r / 100) aa L S h
      | c + 1 => match aa with
        | .ref a :: _ => am_hg h a (fun q => match q with
          | .inr (.inr (ci, _)) => bif Nat.beq ci c then C0 (r / 100) aa L S h else False
          | _ => False)
        | _ => False) else False)) : am_G p l e R s m args below meth c Q D ad cI cW A n q pc L S h := by
  obtain ⟨hx, hb, hr, hml, hown, hts, hlk, hK, hNW⟩ := X
  obtain ⟨a, rest, hS0, hlen, h1⟩ := am_pop_sp _ _ _ _ hs
  obtain ⟨hb8, h2⟩ := am_if_sp h1
  simp only [List.append_nil] at h2
  subst hS0
  have hroom : ((rest.map (am_cv ad)).map fun v => v.category).sum ≤ 8 := by
    rw [am_cat_eq, am_cat_cv]
    exact Nat.le_of_ble_eq_true hb8
  have finish : ∀ (y : ME) (K2 : Option Value → AH → Prop) (H : Heap) (locs : List Loc) (ls : Array Slot) (aa : Array Value) (hy : nth am_MT (r / 100) = some y) (hlen3 : len = 3) (hR : ∀ r h1, K2 r h1 → am_G p l e R s m args below meth c Q D ad cI cW A n q (pc + len) L (am_psh r rest) h1) (hS : va_S A s.heap H locs) (hn : h.length = n) (hl : am_lr ad ls q.2.2.1 L)
      (hrun : va_Run p l e R s m args below meth c H locs 0 0 0 0 (F0 m pc ls ((a ++ rest).map (am_cv ad))) (rest.map (am_cv ad)) (am_Q D ad cI cW (va_A (am_w ad cI cW h) H.size) h.length K2 aa) (va_A (am_w ad cI cW h) H.size)), W p l e R s m args below meth c H locs 0 0 Q (F0 m pc ls ((a ++ rest).map (am_cv ad))) := by
    intro y K2 H locs ls aa hy hlen3 hR hS hn hl hrun
    subst hlen3
    have hfree : ∀ x, va_A (am_w ad cI cW h) H.size x → A x := by
      intro x hx
      rcases hx with ⟨j, z, hz⟩ | hx
      · exact (am_Ax_D (cI := cI) (cW := cW) (by rw [hn]; exact hA.1)).2 j _ hz
      · exact hA.2 x (Nat.le_trans hS.1 hx)
    refine am_call hrun hS hfree hfree (fun rr h1 H1 locs1 g1 g2 g3 g4 => ?_)
    rw [← am_psh_map]
    exact hR rr h1 g1 H1 locs1 ls g3 g4 (g2.trans hn) hl
  unfold am_inv at ho
  split at ho
  · rename_i idx
    simp only [Bool.and_eq_true, decide_eq_true_eq] at ho
    obtain ⟨ho1, ho2, ho3, ho4, ho5, ho6⟩ := ho
    have ho1 := Nat.eq_of_beq_eq_true ho1
    split at h2
    · rename_i hz
      rw [hz] at ho4
      exact absurd ho4 (by decide)
    · rename_i c1 hz
      split at h2
      · rename_i b As hargs
        obtain ⟨cc1, h3, h4⟩ := am_hg_sp _ _ _ h2
        split at h4
        · rename_i ci fs
          obtain ⟨h5, h6⟩ := am_if_sp h4
          obtain rfl := Nat.eq_of_beq_eq_true h5
          obtain ⟨y, hy, K2, h7, h8⟩ := hC _ _ _ _ _ h6
          rw [hz] at ho6
          have hz2 := am_ok_zip hy ho3 ho6
          simp only [am_okZ, am_okN, Bool.and_eq_true, decide_eq_true_eq, Bool.not_eq_true'] at hz2
          obtain ⟨⟨hcn, hpl, hn1, hn2⟩, hst, hpar, hcl⟩ := hz2
          split at hcl
          · rename_i z hz3
            simp only [decide_eq_true_eq] at hcl
            obtain rfl : a = (.ref b :: As).reverse := by rw [← hargs, List.reverse_reverse]
            intro H locs ls hP hS hn hl
            have hM := am_met (l := l) (D := D) (ad := ad) (cI := cI) (cW := cW) (h := h) (A := A) (sz := H.size) hy (by rw [hn]; exact hA.1) (by rw [List.reverse_reverse] at h7; exact h7)
            have hk : w_kind y = .instanceMethod y.1 := by unfold w_kind; rw [hst]; rfl
            have hse : w_sel y = .selects y.1.cls y.1 y.1 := by unfold w_sel; rw [hst]; rfl
            refine finish y K2 H locs ls _ hy ho1 h8 hS hn hl (va_runV (As := As.map (am_cv ad)) (rest := rest.map (am_cv ad)) (b := ad b) (C := y.1.cls) (n := k - 1) ⟨hx, hb, hml, hown, hts⟩ hM ⟨callB_of (k - 1) hts (am_good_ws hy) rfl rfl rfl (hts _ (am_ini_ts hy)) (hts _ (am_ml_at ho2 hy)) ⟨hn1, hn2, hpar⟩ (hfit y hy), by rw [← hk]; exact hts _ (am_kind_ts hy), by rw [← hse]; exact hts _ (am_sel_ts hy)⟩ ⟨am_blind, ?_, fun U hU hW => ⟨rfl, by rw [hU], by rw [hU]; exact hP, va_K.moved hW.alike hK, am_NW_warm hW hNW⟩⟩ rfl ?_ hl.1 ?_ (lv_room hroom) (by rw [ho1] at hd; exact hd) ⟨Nat.zero_le _, Nat.zero_le _⟩)
            · have := va_recv (D := D) (cl := am_cl) hK hP (ci := ci) (q0 := b) (q := z) (by rw [← nth_eq]; exact hz3) (am_w_at h3)
              rw [← hcl]
              exact this
            · simp only [List.length_reverse, List.length_cons] at hlen
              simp only [List.length_map]
              omega
            · show (((Value.ref b :: As).reverse ++ rest).map (am_cv ad)) = _
              simp only [List.reverse_cons, List.map_append, List.map_reverse, List.map_cons, List.map_nil, List.append_assoc, List.cons_append, List.nil_append, am_cv]
          · cases hcl
        · exact h4.elim
      · exact h2.elim
  · rename_i idx
    simp only [Bool.and_eq_true, decide_eq_true_eq, Bool.or_eq_true] at ho
    obtain ⟨ho1, ho2, ho3, ho4, ho5⟩ := ho
    have ho1 := Nat.eq_of_beq_eq_true ho1
    have ho4 := Nat.eq_of_beq_eq_true ho4
    rw [ho4] at h2
    obtain ⟨y, hy, K2, h7, h8⟩ := hC _ _ _ _ _ h2
    have hz2 := am_ok_zip hy ho3 ho5
    simp only [am_okZ, am_okN, Bool.and_eq_true, decide_eq_true_eq] at hz2
    obtain ⟨⟨hcn, hpl, hn1, hn2⟩, hst, hpar⟩ := hz2
    intro H locs ls hP hS hn hl
    have hM := am_met (l := l) (D := D) (ad := ad) (cI := cI) (cW := cW) (h := h) (A := A) (sz := H.size) hy (by rw [hn]; exact hA.1) h7
    have hk : w_kind y = .static y.1 := by unfold w_kind; rw [hst]; rfl
    have hstt : (Jvm.Cond.static y.1).before args s = true := by rw [← hk]; exact hts _ (am_kind_ts hy)
    have hpre : PreS s H (va_Pc (a.reverse.map (am_cv ad)) (fun U => U.heap.size = H.size ∧ va_P D am_cl (am_w ad cI cW h) U.heap ∧ va_K D am_cl (am_ty cI cW) U ∧ am_NW U)) (a.reverse.map (am_cv ad)) := ⟨am_blind, fun U hU hW => ⟨rfl, by rw [hU], by rw [hU]; exact hP, va_K.moved hW.alike hK, am_NW_warm hW hNW⟩⟩
    have hstk : (F0 m pc ls ((a ++ rest).map (am_cv ad))).stack = (a.reverse.map (am_cv ad)).reverse ++ rest.map (am_cv ad) := by
      show ((a ++ rest).map (am_cv ad)) = _
      simp only [List.map_append, List.map_reverse, List.reverse_reverse]
    rcases ho2 with ho2 | ho2
    · exact finish y K2 H locs ls _ hy ho1 h8 hS hn hl (va_runS (n := k) ⟨hx, hb, hml, hown, hts⟩ hM ⟨callB_of k hts (am_good_ws hy) rfl rfl rfl (hts _ (am_ini_ts hy)) (hts _ (am_ml_at ho2 hy)) ⟨hn1, hn2, hpar⟩ (hfit y hy), hstt⟩ hpre rfl (by simpa using hlen) hl.1 hstk (lv_room hroom) (by rw [ho1] at hd; exact hd) ⟨Nat.zero_le _, Nat.zero_le _⟩)
    · exact finish y K2 H locs ls _ hy ho1 h8 hS hn hl (va_runSN (n := k) (host := "RivetedSisters") ⟨hx, hb, hml, hown, hts⟩ hM ⟨va_cnB k hts (am_good_ws hy) rfl rfl rfl (am_nl_at ho2 hy hNW) (hts _ (am_ini_ts hy)) ⟨hn1, hn2, hpar⟩ (hfit y hy), hstt, trivial⟩ hpre rfl (by simpa using hlen) hl.1 hstk (lv_room hroom) (by rw [ho1] at hd; exact hd) ⟨Nat.zero_le _, Nat.zero_le _⟩)
  · cases ho
theorem am_r_ireturn (X : am_Cx p s m args meth c D cI cW q) (hd : decode q.2.1 pc = .ok (raw, len)) (ho : (decide (raw = .ireturn) && (Nat.beq len 1 && decide (q.2.2.2.1 = some .int))) = true) (hs : match S with | [.int x] => K (some (.int x)) h | _ => False) : am_G p l e R s m args below meth c (MQ below (am_Q D ad cI cW A n K) args s 0 0 A) D ad cI cW A n q pc L S h := by
  obtain ⟨hx, hb, hr, hml, hown, hts, hlk, hK, hNW⟩ := X
  simp only [Bool.and_eq_true, decide_eq_true_eq] at ho
  obtain ⟨rfl, h1, h2⟩ := ho
  obtain rfl := Nat.eq_of_beq_eq_true h1
  split at hs
  · rename_i x
    intro H locs ls hP hS hn hl
    have hk := hs
    exact W.iret (v := x) hx hb (hr.trans h2) (fun t ht hW => ⟨some (.int x), h, rfl, hk, hn, by rw [ht]; exact hP, hS.F ht⟩) hS.2.2 hd (hlocks := hlk)
  · exact hs.elim
theorem am_r_dreturn (X : am_Cx p s m args meth c D cI cW q) (hd : decode q.2.1 pc = .ok (raw, len)) (ho : (decide (raw = .ireturn) && (Nat.beq len 1 && decide (q.2.2.2.1 = some .boolean))) = true) (hs : match S with | [.int x] => (x = 0 ∨ x = 1) ∧ K (some (.int x)) h | _ => False) : am_G p l e R s m args below meth c (MQ below (am_Q D ad cI cW A n K) args s 0 0 A) D ad cI cW A n q pc L S h := by
  obtain ⟨hx, hb, hr, hml, hown, hts, hlk, hK, hNW⟩ := X
  simp only [Bool.and_eq_true, decide_eq_true_eq] at ho
  obtain ⟨rfl, h1, h2⟩ := ho
  obtain rfl := Nat.eq_of_beq_eq_true h1
  split at hs
  · rename_i x
    intro H locs ls hP hS hn hl
    have hk := hs.2
    have hnar : narrow .boolean (.int x) = .int x := by rcases hs.1 with rfl | rfl <;> decide
    exact W.zret (v := x) hx hb (hr.trans h2) hnar (fun t ht hW => ⟨some (.int x), h, rfl, hk, hn, by rw [ht]; exact hP, hS.F ht⟩) hS.2.2 hd (hlocks := hlk)
  · exact hs.elim
theorem am_r_lreturn (X : am_Cx p s m args meth c D cI cW q) (hd : decode q.2.1 pc = .ok (raw, len)) (ho : (decide (raw = .lreturn) && (Nat.beq len 1 && decide (q.2.2.2.1 = some .long))) = true) (hs : match S with | [.long x] => K (some (.long x)) h | _ => False) : am_G p l e R s m args below meth c (MQ below (am_Q D ad cI cW A n K) args s 0 0 A) D ad cI cW A n q pc L S h := by
  obtain ⟨hx, hb, hr, hml, hown, hts, hlk, hK, hNW⟩ := X
  simp only [Bool.and_eq_true, decide_eq_true_eq] at ho
  obtain ⟨rfl, h1, h2⟩ := ho
  obtain rfl := Nat.eq_of_beq_eq_true h1
  split at hs
  · rename_i x
    intro H locs ls hP hS hn hl
    have hk := hs
    exact W.lret (v := x) hx hb (hr.trans h2) (fun t ht hW => ⟨some (.long x), h, rfl, hk, hn, by rw [ht]; exact hP, hS.F ht⟩) hS.2.2 hd (hlocks := hlk)
  · exact hs.elim
theorem am_r_return_ (X : am_Cx p s m args meth c D cI cW q) (hd : decode q.2.1 pc = .ok (raw, len)) (ho : (decide (raw = .return_) && (Nat.beq len 1 && decide (q.2.2.2.1 = none))) = true) (hs : match S with | [] => K none h | _ => False) : am_G p l e R s m args below meth c (MQ below (am_Q D ad cI cW A n K) args s 0 0 A) D ad cI cW A n q pc L S h := by
  obtain ⟨hx, hb, hr, hml, hown, hts, hlk, hK, hNW⟩ := X
  simp only [Bool.and_eq_true, decide_eq_true_eq] at ho
  obtain ⟨rfl, h1, h2⟩ := ho
  obtain rfl := Nat.eq_of_beq_eq_true h1
  split at hs
  · intro H locs ls hP hS hn hl
    have hk := hs
    exact W.vret hx hb (hr.trans h2) (fun t ht hW => ⟨none, h, rfl, hk, hn, by rw [ht]; exact hP, hS.F ht⟩) hS.2.2 hd (hlocks := hlk)
  · exact hs.elim
theorem am_r_areturn (X : am_Cx p s m args meth c D cI cW q) (hd : decode q.2.1 pc = .ok (raw, len)) (ho : (decide (raw = .areturn) && (Nat.beq len 1 && (match q.2.2.2.1 with | some (.object _) => true | _ => false))) = true) (hs : match S with | [.ref x] => K (some (.ref x)) h | _ => False) : am_G p l e R s m args below meth c (MQ below (am_Q D ad cI cW A n K) args s 0 0 A) D ad cI cW A n q pc L S h := by
  obtain ⟨hx, hb, hr, hml, hown, hts, hlk, hK, hNW⟩ := X
  simp only [Bool.and_eq_true, decide_eq_true_eq] at ho
  obtain ⟨rfl, h1, h2⟩ := ho
  obtain rfl := Nat.eq_of_beq_eq_true h1
  split at hs
  · rename_i x
    intro H locs ls hP hS hn hl
    have hk := hs
    split at h2
    · rename_i cn hcn
      exact W.aret (v := .ref (ad x)) hx hb (hr.trans hcn) (Or.inl ⟨_, rfl⟩) (Or.inr ⟨_, rfl⟩) (fun t ht hW => ⟨some (.ref x), h, rfl, hk, hn, by rw [ht]; exact hP, hS.F ht⟩) hS.2.2 hd (hlocks := hlk)
    · cases h2
  · exact hs.elim
end RW2
end
section
/-! WHAT IS SHOWN OF A CODE: the least closed predicate; it is sound -/
abbrev am_PT : Type := Nat → Nat → AL → List Value → AH → (Option Value → AH → Prop) → Prop
def am_Cc (P : am_PT) (k pc : Nat) (K : Option Value → AH → Prop) : Nat → List Value → AL → List Value → AH → Prop := fun id aa L S h => ∃ y, nth am_MT id = some y ∧ am_ent aa y.2.2.1 (fun L2 => P id 0 L2 [] h (fun r h1 => P k pc L (am_psh r S) h1 K))
def am_Clo (P : am_PT) : Prop := (∀ k pc L S h K K2, (∀ r h, K r h → K2 r h) → P k pc L S h K → P k pc L S h K2) ∧
  ∀ (k pc : Nat) (L : AL) (S : List Value) (h : AH) (K : Option Value → AH → Prop) (q : ME) (e : AE), nth am_MT k = some q → e ∈ q.2.2.2.2.2.2.2.2 → e.1 = pc → am_stp e.2.1 (fun L S h => P k (pc + e.2.2.1) L S h K) (fun t L S h => P k t L S h K) (am_Cc P k (pc + e.2.2.1) K) K L S h → P k pc L S h K
theorem am_inv_mx {o len t : Nat} {raw : Instr} (h : (match raw with
    | .invokestatic i => Nat.beq len 3 && (match t with
      | 0 => decide ((o, i) ∈ am_AL)
      | t => decide ((o, i, t) ∈ am_XL) && Nat.blt t 5)
    | _ => false) = true) : ∃ i, raw = .invokestatic i ∧ len = 3 ∧ ((t = 0 ∧ (o, i) ∈ am_AL) ∨ (t ≠ 0 ∧ (o, i, t) ∈ am_XL)) := by
  split at h
  · rename_i i
    rw [Bool.and_eq_true] at h
    refine ⟨i, rfl, Nat.eq_of_beq_eq_true h.1, ?_⟩
    have h2 := h.2
    split at h2
    · exact Or.inl ⟨rfl, by simpa using h2⟩
    · rename_i hz
      rw [Bool.and_eq_true, decide_eq_true_eq] at h2
      exact Or.inr ⟨hz, h2.1⟩
  · cases h
theorem am_SP_clo (l : Launch) (D : va_G) (ad : Nat → Nat) (cI cW : ClassId) : am_Clo (am_SP l D ad cI cW) := by
  refine ⟨fun k pc L S h K K2 f H => am_SP_mo f H, ?_⟩
  intro k pc L S h K q e hq he hpc hst q' hq' p ev s m args below meth c X A hA
  obtain rfl : q' = q := Option.some.inj (hq'.symm.trans hq)
  have hall := List.all_eq_true.mp (am_okM_all q' (nth_mem _ _ hq)) e he
  rw [Bool.and_eq_true] at hall
  obtain ⟨hok, hfit⟩ := hall
  unfold am_okE at hok
  rw [Bool.and_eq_true, decide_eq_true_eq] at hok
  obtain ⟨ho, hd⟩ := hok
  rw [hpc] at ho hd
  have go : ∀ pc L S h', am_SP l D ad cI cW k pc L S h' K → am_G p l ev (am_rm q') s m args below meth c (MQ below (am_Q D ad cI cW A h.length K) args s 0 0 A) D ad cI cW A h.length q' pc L S h' := by
    intro pc L S h' H H2 locs ls hP hS hn hl
    rw [← hn] at hA ⊢
    exact H q' hq' p ev s m args below meth c X A hA H2 locs ls hP hS rfl hl
  have hst2 := am_stp_mo (nx2 := fun L S h' => am_G p l ev (am_rm q') s m args below meth c (MQ below (am_Q D ad cI cW A h.length K) args s 0 0 A) D ad cI cW A h.length q' (pc + e.2.2.1) L S h')
    (J2 := fun t L S h' => am_G p l ev (am_rm q') s m args below meth c (MQ below (am_Q D ad cI cW A h.length K) args s 0 0 A) D ad cI cW A h.length q' t L S h')
    (C2 := am_Cc (am_SP l D ad cI cW) k (pc + e.2.2.1) K) (R2 := K) (fun L S h' z => go _ _ _ _ z) (fun t L S h' z => go _ _ _ _ z) (fun _ _ _ _ _ z => z) (fun _ _ z => z) e.2.1 hst
  have hC : ∀ (id : Nat) (aa : List Value) (L : AL) (S : List Value) (h' : AH), am_Cc (am_SP l D ad cI cW) k (pc + e.2.2.1) K id aa L S h' → ∃ y, nth am_MT id = some y ∧ ∃ K2 : Option Value → AH → Prop, am_ent aa y.2.2.1 (fun L2 => am_SP l D ad cI cW id 0 L2 [] h' K2) ∧ ∀ r h1, K2 r h1 → am_G p l ev (am_rm q') s m args below meth c (MQ below (am_Q D ad cI cW A h.length K) args s 0 0 A) D ad cI cW A h.length q' (pc + e.2.2.1) L (am_psh r S) h1 := by
    rintro id aa L S h' ⟨y, hy, hz⟩
    exact ⟨y, hy, _, hz, fun r h1 z => go _ _ _ _ z⟩
  clear hst go
  obtain ⟨epc, ri, len, raw⟩ := e
  dsimp only at ho hd hst2 hC hpc
  cases ri with
  | iload i => exact am_r_iload X hd ho hst2
  | lload i => exact am_r_lload X hd ho hst2
  | aload i => exact am_r_aload X hd ho hst2
  | istore i => exact am_r_istore X hd ho hst2
  | astore i => exact am_r_astore X hd ho hst2
  | lstore i => exact am_r_lstore X hd ho hst2
  | iinc i k => exact am_r_iinc X hd ho hst2
  | anewarray n => exact am_r_const X hd (am_ofInt n).symm ho hst2
  | iconst n => exact am_r_const X hd rfl ho hst2
  | ldc2_w n => exact am_r_constL X hd ho hst2
  | iadd => exact am_r_iadd X hd ho hst2
  | isub => exact am_r_isub X hd ho hst2
  | imul => exact am_r_imul X hd ho hst2
  | iand => exact am_r_iand X hd ho hst2
  | ior => exact am_r_ior X hd ho hst2
  | ixor => exact am_r_ixor X hd ho hst2
  | ishl => exact am_r_ishl X hd ho hst2
  | ishr => exact am_r_ishr X hd ho hst2
  | iushr => exact am_r_iushr X hd ho hst2
  | ineg => exact am_r_ineg X hd ho hst2
  | ladd => exact am_r_ladd X hd ho hst2
  | lsub => exact am_r_lsub X hd ho hst2
  | lmul => exact am_r_lmul X hd ho hst2
  | land => exact am_r_land X hd ho hst2
  | lor => exact am_r_lor X hd ho hst2
  | lshl => exact am_r_lshl X hd ho hst2
  | lshr => exact am_r_lshr X hd ho hst2
  | lushr => exact am_r_lushr X hd ho hst2
  | i2l => exact am_r_i2l X hd ho hst2
  | l2i => exact am_r_l2i X hd ho hst2
  | lcmp => exact am_r_lcmp X hd ho hst2
  | idiv => exact am_r_idiv X hd ho hst2
  | irem => exact am_r_irem X hd ho hst2
  | ldiv => exact am_r_ldiv X hd ho hst2
  | lrem => exact am_r_lrem X hd ho hst2
  | dup => exact am_r_dup X hd ho hst2
  | dup2 => exact am_r_dup2 X hd ho hst2
  | pop => exact am_r_pop X hd ho hst2
  | iaload => exact am_r_iaload X hd ho hst2
  | aaload => exact am_r_aaload X hd ho hst2
  | arraylength => exact am_r_arraylength X hd ho hst2
  | iastore => exact am_r_iastore X hd hA ho hst2
  | if_icmp cd t => exact am_r_if_icmp X hd ho hst2
  | ifCond cd t => exact am_r_ifCond X hd ho hst2
  | goto t => exact am_r_goto X hd ho hst2
  | tableswitch d lo hi ts => exact am_r_tableswitch (hi := hi) X hd ho hst2
  | lookupswitch d ps => exact am_r_lookupswitch X hd ho hst2
  | getfield r => exact am_r_getfield X hd ho hst2
  | putfield r => exact am_r_putfield X hd hA ho hst2
  | invokeinterface r k2 =>
    refine am_r_inv X hd hA hC ho (fun y hy => ?_) hst2
    dsimp only [am_fit] at hfit
    rw [hy] at hfit
    rw [Bool.and_eq_true] at hfit
    exact ⟨Nat.le_of_ble_eq_true hfit.1, Nat.le_of_ble_eq_true hfit.2⟩
  | invokedynamic t =>
    obtain ⟨i, h1, h2, h3⟩ := am_inv_mx ho
    match t, hst2, h3 with
    | 0, hst2, h3 => exact am_r_i0 X hd hA hfit ⟨i, h1, h2, h3.elim (fun z => z.2) (fun z => absurd rfl z.1)⟩ hst2
    | 1, hst2, h3 => exact am_r_i1 X hd (Nat.zero_le _) hfit ⟨i, h1, h2, h3.elim (fun z => absurd z.1 (by decide)) (fun z => z.2)⟩ hst2
    | 2, hst2, h3 => exact am_r_i2 X hd (Nat.zero_le _) hfit ⟨i, h1, h2, h3.elim (fun z => absurd z.1 (by decide)) (fun z => z.2)⟩ hst2
    | 3, hst2, h3 => exact am_r_i3 X hd (Nat.zero_le _) hfit ⟨i, h1, h2, h3.elim (fun z => absurd z.1 (by decide)) (fun z => z.2)⟩ hst2
    | 4, hst2, h3 => exact am_r_i4 X hd (Nat.zero_le _) hfit ⟨i, h1, h2, h3.elim (fun z => absurd z.1 (by decide)) (fun z => z.2)⟩ hst2
    | _ + 5, hst2, _ => exact hst2.elim
  | ireturn => exact am_r_ireturn X hd ho hst2
  | dreturn => exact am_r_dreturn X hd ho hst2
  | lreturn => exact am_r_lreturn X hd ho hst2
  | areturn => exact am_r_areturn X hd ho hst2
  | return_ => exact am_r_return_ X hd ho hst2
  | _ => exact hst2.elim
def am_EvF : am_PT := fun k pc L S h K => ∀ P : am_PT, am_Clo P → P k pc L S h K
/-- opaque on purpose: nothing unfolds it -/
noncomputable def am_Box : { f : am_PT // f = am_EvF } := Classical.choice ⟨⟨am_EvF, rfl⟩⟩
noncomputable abbrev am_E : am_PT := am_Box.1
theorem am_E_def : am_E = am_EvF := am_Box.2
theorem am_E_mo {k pc : Nat} {L : AL} {S : List Value} {h : AH} {K K2 : Option Value → AH → Prop} (f : ∀ r h, K r h → K2 r h) (H : am_E k pc L S h K) : am_E k pc L S h K2 := by
  rw [am_E_def] at H ⊢
  exact fun P hP => hP.1 _ _ _ _ _ _ _ f (H P hP)
theorem am_E_clo : am_Clo am_E := by
  refine ⟨fun k pc L S h K K2 f H => am_E_mo f H, fun k pc L S h K q e hq he hpc hst => ?_⟩
  have hd := am_E_def
  rw [hd] at hst ⊢
  intro P hP
  refine hP.2 k pc L S h K q e hq he hpc (am_stp_mo (fun L S h z => z P hP) (fun t L S h z => z P hP) ?_ (fun _ _ z => z) e.2.1 hst)
  rintro id aa L S h ⟨y, hy, hz⟩
  exact ⟨y, hy, am_ent_mo _ _ (fun L2 z => hP.1 _ _ _ _ _ _ _ (fun r h1 z2 => z2 P hP) (z P hP)) hz⟩
theorem am_E_SP {l : Launch} {D : va_G} {ad : Nat → Nat} {cI cW : ClassId} {k pc : Nat} {L : AL} {S : List Value} {h : AH} {K : Option Value → AH → Prop} (H : am_E k pc L S h K) : am_SP l D ad cI cW k pc L S h K := by
  rw [am_E_def] at H
  exact H _ (am_SP_clo l D ad cI cW)
/-- a method's run -/
abbrev am_MTy : Type := Nat → List Value → AH → (Option Value → AH → Prop) → Prop
def am_MF : am_MTy := fun id aa h K => ∃ y, nth am_MT id = some y ∧ am_ent aa y.2.2.1 (fun L2 => am_E id 0 L2 [] h K)
noncomputable def am_Mox : { f : am_MTy // f = am_MF } := Classical.choice ⟨⟨am_MF, rfl⟩⟩
noncomputable abbrev am_M : am_MTy := am_Mox.1
theorem am_M_def : am_M = am_MF := am_Mox.2
theorem am_M_mo {id : Nat} {aa : List Value} {h : AH} {K K2 : Option Value → AH → Prop} (f : ∀ r h, K r h → K2 r h) (H : am_M id aa h K) : am_M id aa h K2 := by
  rw [am_M_def] at H ⊢
  obtain ⟨y, hy, hz⟩ := H
  exact ⟨y, hy, am_ent_mo _ _ (fun L2 z => am_E_mo f z) hz⟩
/-- straight on from a place, until a jump, a cut, a call or the end -/
def am_in2 : List Nat → Nat → Bool
  | [], _ => false
  | a :: t, n => bif Nat.beq a n then true else am_in2 t n
def am_seek : List AE → Nat → List AE
  | [], _ => []
  | e :: es, t => bif Nat.beq e.1 t then e :: es else am_seek es t
def am_blk (cuts : List Nat) (J : Nat → AL → List Value → AH → Prop) (C : Nat → Nat → List Value → AL → List Value → AH → Prop) (K : Option Value → AH → Prop) : List AE → AL → List Value → AH → Prop
  | [], _, _, _ => False
  | e :: es, L, S, h => am_stp e.2.1
      (fun L S h => match es with
        | [] => False
        | (p2, _) :: _ => bif am_in2 cuts p2 then J p2 L S h else am_blk cuts J C K es L S h) J
      (fun id aa L S h => match es with
        | [] => False
        | (p2, _) :: _ => C p2 id aa L S h) K L S h
def am_seq : List AE → Bool
  | [] => true
  | e :: es => (match es with
    | [] => true
    | e2 :: _ => Nat.beq (e.1 + e.2.2.1) e2.1) && am_seq es
set_option maxRecDepth 100000 in
theorem am_seq_ok : am_MT.all (fun q => am_seq q.2.2.2.2.2.2.2.2) = true := by decide +kernel
theorem am_seek_suf : ∀ (c : List AE) (t : Nat), am_seek c t <:+ c
  | [], _ => List.suffix_refl _
  | e :: es, t => by
    unfold am_seek
    cases Nat.beq e.1 t
    · exact (am_seek_suf es t).trans (List.suffix_cons _ _)
    · exact List.suffix_refl _
theorem am_seek_hd : ∀ (c : List AE) (t : Nat) {e : AE} {es : List AE}, am_seek c t = e :: es → e.1 = t
  | [], _, _, _, h => by simp [am_seek] at h
  | x :: c, t, e, es, h => by
    unfold am_seek at h
    cases hb : Nat.beq x.1 t
    · rw [hb] at h
      exact am_seek_hd c t h
    · rw [hb] at h
      cases h
      exact Nat.eq_of_beq_eq_true hb
theorem am_seq_suf : ∀ (c es : List AE), es <:+ c → am_seq c = true → am_seq es = true
  | [], es, h, _ => by
    have := List.suffix_nil.mp h
    subst this
    rfl
  | x :: c, es, h, hc => by
    rcases List.suffix_cons_iff.mp h with rfl | h
    · exact hc
    · unfold am_seq at hc
      exact am_seq_suf c es h (Bool.and_eq_true_iff.mp hc).2
theorem am_blk_ok {k : Nat} {q : ME} {K : Option Value → AH → Prop} {cuts : List Nat} (hq : nth am_MT k = some q) : ∀ (es : List AE), es <:+ q.2.2.2.2.2.2.2.2 → ∀ (L : AL) (S : List Value) (h : AH), am_blk cuts (fun t L S h => am_E k t L S h K) (fun np id aa L S h => am_M id aa h (fun r h1 => am_E k np L (am_psh r S) h1 K)) K es L S h → ∃ e es2, es = e :: es2 ∧ am_E k e.1 L S h K
  | [], _, _, _, _, hb => hb.elim
  | e :: es, hs, L, S, h, hb => by
    refine ⟨e, es, rfl, ?_⟩
    have hseq := am_seq_suf _ _ hs (List.all_eq_true.mp am_seq_ok q (nth_mem _ _ hq))
    unfold am_seq at hseq
    rw [Bool.and_eq_true] at hseq
    unfold am_blk at hb
    refine am_E_clo.2 k e.1 L S h K q e hq (hs.subset List.mem_cons_self) rfl (am_stp_mo (fun L S h z => ?_) (fun _ _ _ _ z => z) (fun id aa L S h z => ?_) (fun _ _ z => z) e.2.1 hb)
    · cases es with
      | nil => exact z.elim
      | cons e2 es2 =>
        have h1 : e.1 + e.2.2.1 = e2.1 := Nat.eq_of_beq_eq_true hseq.1
        rw [h1]
        obtain ⟨p2, r2⟩ := e2
        dsimp only at z
        cases hc : am_in2 cuts p2
        · rw [hc] at z
          obtain ⟨e3, es3, h3, h4⟩ := am_blk_ok hq ((p2, r2) :: es2) ((List.suffix_cons _ _).trans hs) L S h z
          cases h3
          exact h4
        · rw [hc] at z
          exact z
    · cases es with
      | nil => exact z.elim
      | cons e2 es2 =>
        have h1 : e.1 + e.2.2.1 = e2.1 := Nat.eq_of_beq_eq_true hseq.1
        obtain ⟨p2, r2⟩ := e2
        dsimp only at z h1
        rw [am_M_def] at z
        obtain ⟨y, hy, hz⟩ := z
        rw [h1]
        exact ⟨y, hy, hz⟩
theorem am_run {k : Nat} {q : ME} (cuts : List Nat) (hq : nth am_MT k = some q) {cd : List AE} (hc : q.2.2.2.2.2.2.2.2 = cd) {pc : Nat} {K : Option Value → AH → Prop} {L : AL} {S : List Value} {h : AH} (hb : am_blk cuts (fun t L S h => am_E k t L S h K) (fun np id aa L S h => am_M id aa h (fun r h1 => am_E k np L (am_psh r S) h1 K)) K (am_seek cd pc) L S h) : am_E k pc L S h K := by
  subst hc
  obtain ⟨e, es, h1, h2⟩ := am_blk_ok hq _ (am_seek_suf _ _) L S h hb
  rw [am_seek_hd _ _ h1] at h2
  exact h2
set_option maxRecDepth 100000 in
theorem am_zero_ok : am_MT.all (fun q => match q.2.2.2.2.2.2.2.2 with
  | [] => false
  | e :: _ => Nat.beq e.1 0) = true := by decide +kernel
theorem am_zero (q : ME) (hq : q ∈ am_MT) : (match q.2.2.2.2.2.2.2.2 with
  | [] => false
  | e :: _ => Nat.beq e.1 0) = true := List.all_eq_true.mp am_zero_ok q hq
theorem am_into {k : Nat} {q : ME} (cuts : List Nat) (hq : nth am_MT k = some q) {cd : List AE} (hc : q.2.2.2.2.2.2.2.2 = cd) {nL : Nat} (hn : q.2.2.1 = nL) {K : Option Value → AH → Prop} {aa : List Value} {h : AH} (hb : am_ent aa nL (fun L => am_blk cuts (fun t L S h => am_E k t L S h K) (fun np id aa L S h => am_M id aa h (fun r h1 => am_E k np L (am_psh r S) h1 K)) K cd L [] h)) : am_M k aa h K := by
  subst hc; subst hn
  rw [am_M_def]
  refine ⟨q, hq, am_ent_mo _ _ (fun L z => ?_) hb⟩
  obtain ⟨e, es, h1, h2⟩ := am_blk_ok hq _ (List.suffix_refl _) L [] h z
  have h3 : e.1 = 0 := by
    have := am_zero q (nth_mem _ _ hq)
    rw [h1] at this
    exact Nat.eq_of_beq_eq_true this
  rw [h3] at h2
  exact h2
theorem b_X0_none (cuts : List Nat) {pc : Nat} {K : Option Value → AH → Prop} {L : AL} {S : List Value} {h : AH} (hb : am_blk cuts (fun t L S h => am_E i_X0_none t L S h K) (fun np id aa L S h => am_M id aa h (fun r h1 => am_E i_X0_none np L (am_psh r S) h1 K)) K (am_seek cd_X0_none pc) L S h) : am_E i_X0_none pc L S h K := am_run cuts (q := me_X0_none) rfl rfl hb
theorem e_X0_none (cuts : List Nat) {K : Option Value → AH → Prop} {aa : List Value} {h : AH} (hb : am_ent aa 1 (fun L => am_blk cuts (fun t L S h => am_E i_X0_none t L S h K) (fun np id aa L S h => am_M id aa h (fun r h1 => am_E i_X0_none np L (am_psh r S) h1 K)) K cd_X0_none L [] h)) : am_M i_X0_none aa h K := am_into cuts (q := me_X0_none) rfl rfl rfl hb
theorem b_X0_offerLeast (cuts : List Nat) {pc : Nat} {K : Option Value → AH → Prop} {L : AL} {S : List Value} {h : AH} (hb : am_blk cuts (fun t L S h => am_E i_X0_offerLeast t L S h K) (fun np id aa L S h => am_M id aa h (fun r h1 => am_E i_X0_offerLeast np L (am_psh r S) h1 K)) K (am_seek cd_X0_offerLeast pc) L S h) : am_E i_X0_offerLeast pc L S h K := am_run cuts (q := me_X0_offerLeast) rfl rfl hb
theorem e_X0_offerLeast (cuts : List Nat) {K : Option Value → AH → Prop} {aa : List Value} {h : AH} (hb : am_ent aa 3 (fun L => am_blk cuts (fun t L S h => am_E i_X0_offerLeast t L S h K) (fun np id aa L S h => am_M id aa h (fun r h1 => am_E i_X0_offerLeast np L (am_psh r S) h1 K)) K cd_X0_offerLeast L [] h)) : am_M i_X0_offerLeast aa h K := am_into cuts (q := me_X0_offerLeast) rfl rfl rfl hb
theorem b_X0_offerMost (cuts : List Nat) {pc : Nat} {K : Option Value → AH → Prop} {L : AL} {S : List Value} {h : AH} (hb : am_blk cuts (fun t L S h => am_E i_X0_offerMost t L S h K) (fun np id aa L S h => am_M id aa h (fun r h1 => am_E i_X0_offerMost np L (am_psh r S) h1 K)) K (am_seek cd_X0_offerMost pc) L S h) : am_E i_X0_offerMost pc L S h K := am_run cuts (q := me_X0_offerMost) rfl rfl hb
theorem e_X0_offerMost (cuts : List Nat) {K : Option Value → AH → Prop} {aa : List Value} {h : AH} (hb : am_ent aa 3 (fun L => am_blk cuts (fun t L S h => am_E i_X0_offerMost t L S h K) (fun np id aa L S h => am_M id aa h (fun r h1 => am_E i_X0_offerMost np L (am_psh r S) h1 K)) K cd_X0_offerMost L [] h)) : am_M i_X0_offerMost aa h K := am_into cuts (q := me_X0_offerMost) rfl rfl rfl hb
theorem b_X0_answer (cuts : List Nat) {pc : Nat} {K : Option Value → AH → Prop} {L : AL} {S : List Value} {h : AH} (hb : am_blk cuts (fun t L S h => am_E i_X0_answer t L S h K) (fun np id aa L S h => am_M id aa h (fun r h1 => am_E i_X0_answer np L (am_psh r S) h1 K)) K (am_seek cd_X0_answer pc) L S h) : am_E i_X0_answer pc L S h K := am_run cuts (q := me_X0_answer) rfl rfl hb
theorem e_X0_answer (cuts : List Nat) {K : Option Value → AH → Prop} {aa : List Value} {h : AH} (hb : am_ent aa 2 (fun L => am_blk cuts (fun t L S h => am_E i_X0_answer t L S h K) (fun np id aa L S h => am_M id aa h (fun r h1 => am_E i_X0_answer np L (am_psh r S) h1 K)) K cd_X0_answer L [] h)) : am_M i_X0_answer aa h K := am_into cuts (q := me_X0_answer) rfl rfl rfl hb
theorem b_X1_leastHeard (cuts : List Nat) {pc : Nat} {K : Option Value → AH → Prop} {L : AL} {S : List Value} {h : AH} (hb : am_blk cuts (fun t L S h => am_E i_X1_leastHeard t L S h K) (fun np id aa L S h => am_M id aa h (fun r h1 => am_E i_X1_leastHeard np L (am_psh r S) h1 K)) K (am_seek cd_X1_leastHeard pc) L S h) : am_E i_X1_leastHeard pc L S h K := am_run cuts (q := me_X1_leastHeard) rfl rfl hb
theorem e_X1_leastHeard (cuts : List Nat) {K : Option Value → AH → Prop} {aa : List Value} {h : AH} (hb : am_ent aa 5 (fun L => am_blk cuts (fun t L S h => am_E i_X1_leastHeard t L S h K) (fun np id aa L S h => am_M id aa h (fun r h1 => am_E i_X1_leastHeard np L (am_psh r S) h1 K)) K cd_X1_leastHeard L [] h)) : am_M i_X1_leastHeard aa h K := am_into cuts (q := me_X1_leastHeard) rfl rfl rfl hb
theorem b_X1_leastBreaking (cuts : List Nat) {pc : Nat} {K : Option Value → AH → Prop} {L : AL} {S : List Value} {h : AH} (hb : am_blk cuts (fun t L S h => am_E i_X1_leastBreaking t L S h K) (fun np id aa L S h => am_M id aa h (fun r h1 => am_E i_X1_leastBreaking np L (am_psh r S) h1 K)) K (am_seek cd_X1_leastBreaking pc) L S h) : am_E i_X1_leastBreaking pc L S h K := am_run cuts (q := me_X1_leastBreaking) rfl rfl hb
theorem e_X1_leastBreaking (cuts : List Nat) {K : Option Value → AH → Prop} {aa : List Value} {h : AH} (hb : am_ent aa 5 (fun L => am_blk cuts (fun t L S h => am_E i_X1_leastBreaking t L S h K) (fun np id aa L S h => am_M id aa h (fun r h1 => am_E i_X1_leastBreaking np L (am_psh r S) h1 K)) K cd_X1_leastBreaking L [] h)) : am_M i_X1_leastBreaking aa h K := am_into cuts (q := me_X1_leastBreaking) rfl rfl rfl hb
theorem b_X1_greatestHarmless (cuts : List Nat) {pc : Nat} {K : Option Value → AH → Prop} {L : AL} {S : List Value} {h : AH} (hb : am_blk cuts (fun t L S h => am_E i_X1_greatestHarmless t L S h K) (fun np id aa L S h => am_M id aa h (fun r h1 => am_E i_X1_greatestHarmless np L (am_psh r S) h1 K)) K (am_seek cd_X1_greatestHarmless pc) L S h) : am_E i_X1_greatestHarmless pc L S h K := am_run cuts (q := me_X1_greatestHarmless) rfl rfl hb
theorem e_X1_greatestHarmless (cuts : List Nat) {K : Option Value → AH → Prop} {aa : List Value} {h : AH} (hb : am_ent aa 4 (fun L => am_blk cuts (fun t L S h => am_E i_X1_greatestHarmless t L S h K) (fun np id aa L S h => am_M id aa h (fun r h1 => am_E i_X1_greatestHarmless np L (am_psh r S) h1 K)) K cd_X1_greatestHarmless L [] h)) : am_M i_X1_greatestHarmless aa h K := am_into cuts (q := me_X1_greatestHarmless) rfl rfl rfl hb
theorem b_X1_leastHarm (cuts : List Nat) {pc : Nat} {K : Option Value → AH → Prop} {L : AL} {S : List Value} {h : AH} (hb : am_blk cuts (fun t L S h => am_E i_X1_leastHarm t L S h K) (fun np id aa L S h => am_M id aa h (fun r h1 => am_E i_X1_leastHarm np L (am_psh r S) h1 K)) K (am_seek cd_X1_leastHarm pc) L S h) : am_E i_X1_leastHarm pc L S h K := am_run cuts (q := me_X1_leastHarm) rfl rfl hb
theorem e_X1_leastHarm (cuts : List Nat) {K : Option Value → AH → Prop} {aa : List Value} {h : AH} (hb : am_ent aa 5 (fun L => am_blk cuts (fun t L S h => am_E i_X1_leastHarm t L S h K) (fun np id aa L S h => am_M id aa h (fun r h1 => am_E i_X1_leastHarm np L (am_psh r S) h1 K)) K cd_X1_leastHarm L [] h)) : am_M i_X1_leastHarm aa h K := am_into cuts (q := me_X1_leastHarm) rfl rfl rfl hb
theorem b_X1_quietestTap (cuts : List Nat) {pc : Nat} {K : Option Value → AH → Prop} {L : AL} {S : List Value} {h : AH} (hb : am_blk cuts (fun t L S h => am_E i_X1_quietestTap t L S h K) (fun np id aa L S h => am_M id aa h (fun r h1 => am_E i_X1_quietestTap np L (am_psh r S) h1 K)) K (am_seek cd_X1_quietestTap pc) L S h) : am_E i_X1_quietestTap pc L S h K := am_run cuts (q := me_X1_quietestTap) rfl rfl hb
theorem e_X1_quietestTap (cuts : List Nat) {K : Option Value → AH → Prop} {aa : List Value} {h : AH} (hb : am_ent aa 5 (fun L => am_blk cuts (fun t L S h => am_E i_X1_quietestTap t L S h K) (fun np id aa L S h => am_M id aa h (fun r h1 => am_E i_X1_quietestTap np L (am_psh r S) h1 K)) K cd_X1_quietestTap L [] h)) : am_M i_X1_quietestTap aa h K := am_into cuts (q := me_X1_quietestTap) rfl rfl rfl hb
theorem b_X1_findDroppers (cuts : List Nat) {pc : Nat} {K : Option Value → AH → Prop} {L : AL} {S : List Value} {h : AH} (hb : am_blk cuts (fun t L S h => am_E i_X1_findDroppers t L S h K) (fun np id aa L S h => am_M id aa h (fun r h1 => am_E i_X1_findDroppers np L (am_psh r S) h1 K)) K (am_seek cd_X1_findDroppers pc) L S h) : am_E i_X1_findDroppers pc L S h K := am_run cuts (q := me_X1_findDroppers) rfl rfl hb
theorem e_X1_findDroppers (cuts : List Nat) {K : Option Value → AH → Prop} {aa : List Value} {h : AH} (hb : am_ent aa 5 (fun L => am_blk cuts (fun t L S h => am_E i_X1_findDroppers t L S h K) (fun np id aa L S h => am_M id aa h (fun r h1 => am_E i_X1_findDroppers np L (am_psh r S) h1 K)) K cd_X1_findDroppers L [] h)) : am_M i_X1_findDroppers aa h K := am_into cuts (q := me_X1_findDroppers) rfl rfl rfl hb
theorem b_X1_countDropping (cuts : List Nat) {pc : Nat} {K : Option Value → AH → Prop} {L : AL} {S : List Value} {h : AH} (hb : am_blk cuts (fun t L S h => am_E i_X1_countDropping t L S h K) (fun np id aa L S h => am_M id aa h (fun r h1 => am_E i_X1_countDropping np L (am_psh r S) h1 K)) K (am_seek cd_X1_countDropping pc) L S h) : am_E i_X1_countDropping pc L S h K := am_run cuts (q := me_X1_countDropping) rfl rfl hb
theorem e_X1_countDropping (cuts : List Nat) {K : Option Value → AH → Prop} {aa : List Value} {h : AH} (hb : am_ent aa 3 (fun L => am_blk cuts (fun t L S h => am_E i_X1_countDropping t L S h K) (fun np id aa L S h => am_M id aa h (fun r h1 => am_E i_X1_countDropping np L (am_psh r S) h1 K)) K cd_X1_countDropping L [] h)) : am_M i_X1_countDropping aa h K := am_into cuts (q := me_X1_countDropping) rfl rfl rfl hb
theorem b_X1_kindsBy (cuts : List Nat) {pc : Nat} {K : Option Value → AH → Prop} {L : AL} {S : List Value} {h : AH} (hb : am_blk cuts (fun t L S h => am_E i_X1_kindsBy t L S h K) (fun np id aa L S h => am_M id aa h (fun r h1 => am_E i_X1_kindsBy np L (am_psh r S) h1 K)) K (am_seek cd_X1_kindsBy pc) L S h) : am_E i_X1_kindsBy pc L S h K := am_run cuts (q := me_X1_kindsBy) rfl rfl hb
theorem e_X1_kindsBy (cuts : List Nat) {K : Option Value → AH → Prop} {aa : List Value} {h : AH} (hb : am_ent aa 8 (fun L => am_blk cuts (fun t L S h => am_E i_X1_kindsBy t L S h K) (fun np id aa L S h => am_M id aa h (fun r h1 => am_E i_X1_kindsBy np L (am_psh r S) h1 K)) K cd_X1_kindsBy L [] h)) : am_M i_X1_kindsBy aa h K := am_into cuts (q := me_X1_kindsBy) rfl rfl rfl hb
theorem b_X1_figuresBy (cuts : List Nat) {pc : Nat} {K : Option Value → AH → Prop} {L : AL} {S : List Value} {h : AH} (hb : am_blk cuts (fun t L S h => am_E i_X1_figuresBy t L S h K) (fun np id aa L S h => am_M id aa h (fun r h1 => am_E i_X1_figuresBy np L (am_psh r S) h1 K)) K (am_seek cd_X1_figuresBy pc) L S h) : am_E i_X1_figuresBy pc L S h K := am_run cuts (q := me_X1_figuresBy) rfl rfl hb
theorem e_X1_figuresBy (cuts : List Nat) {K : Option Value → AH → Prop} {aa : List Value} {h : AH} (hb : am_ent aa 8 (fun L => am_blk cuts (fun t L S h => am_E i_X1_figuresBy t L S h K) (fun np id aa L S h => am_M id aa h (fun r h1 => am_E i_X1_figuresBy np L (am_psh r S) h1 K)) K cd_X1_figuresBy L [] h)) : am_M i_X1_figuresBy aa h K := am_into cuts (q := me_X1_figuresBy) rfl rfl rfl hb
theorem b_X1_strengths (cuts : List Nat) {pc : Nat} {K : Option Value → AH → Prop} {L : AL} {S : List Value} {h : AH} (hb : am_blk cuts (fun t L S h => am_E i_X1_strengths t L S h K) (fun np id aa L S h => am_M id aa h (fun r h1 => am_E i_X1_strengths np L (am_psh r S) h1 K)) K (am_seek cd_X1_strengths pc) L S h) : am_E i_X1_strengths pc L S h K := am_run cuts (q := me_X1_strengths) rfl rfl hb
theorem e_X1_strengths (cuts : List Nat) {K : Option Value → AH → Prop} {aa : List Value} {h : AH} (hb : am_ent aa 8 (fun L => am_blk cuts (fun t L S h => am_E i_X1_strengths t L S h K) (fun np id aa L S h => am_M id aa h (fun r h1 => am_E i_X1_strengths np L (am_psh r S) h1 K)) K cd_X1_strengths L [] h)) : am_M i_X1_strengths aa h K := am_into cuts (q := me_X1_strengths) rfl rfl rfl hb
theorem b_X2_firstBreakingDay (cuts : List Nat) {pc : Nat} {K : Option Value → AH → Prop} {L : AL} {S : List Value} {h : AH} (hb : am_blk cuts (fun t L S h => am_E i_X2_firstBreakingDay t L S h K) (fun np id aa L S h => am_M id aa h (fun r h1 => am_E i_X2_firstBreakingDay np L (am_psh r S) h1 K)) K (am_seek cd_X2_firstBreakingDay pc) L S h) : am_E i_X2_firstBreakingDay pc L S h K := am_run cuts (q := me_X2_firstBreakingDay) rfl rfl hb
theorem e_X2_firstBreakingDay (cuts : List Nat) {K : Option Value → AH → Prop} {aa : List Value} {h : AH} (hb : am_ent aa 5 (fun L => am_blk cuts (fun t L S h => am_E i_X2_firstBreakingDay t L S h K) (fun np id aa L S h => am_M id aa h (fun r h1 => am_E i_X2_firstBreakingDay np L (am_psh r S) h1 K)) K cd_X2_firstBreakingDay L [] h)) : am_M i_X2_firstBreakingDay aa h K := am_into cuts (q := me_X2_firstBreakingDay) rfl rfl rfl hb
theorem b_X2_wholeBehind (cuts : List Nat) {pc : Nat} {K : Option Value → AH → Prop} {L : AL} {S : List Value} {h : AH} (hb : am_blk cuts (fun t L S h => am_E i_X2_wholeBehind t L S h K) (fun np id aa L S h => am_M id aa h (fun r h1 => am_E i_X2_wholeBehind np L (am_psh r S) h1 K)) K (am_seek cd_X2_wholeBehind pc) L S h) : am_E i_X2_wholeBehind pc L S h K := am_run cuts (q := me_X2_wholeBehind) rfl rfl hb
theorem e_X2_wholeBehind (cuts : List Nat) {K : Option Value → AH → Prop} {aa : List Value} {h : AH} (hb : am_ent aa 7 (fun L => am_blk cuts (fun t L S h => am_E i_X2_wholeBehind t L S h K) (fun np id aa L S h => am_M id aa h (fun r h1 => am_E i_X2_wholeBehind np L (am_psh r S) h1 K)) K cd_X2_wholeBehind L [] h)) : am_M i_X2_wholeBehind aa h K := am_into cuts (q := me_X2_wholeBehind) rfl rfl rfl hb
theorem b_X2_brokenBehindAll (cuts : List Nat) {pc : Nat} {K : Option Value → AH → Prop} {L : AL} {S : List Value} {h : AH} (hb : am_blk cuts (fun t L S h => am_E i_X2_brokenBehindAll t L S h K) (fun np id aa L S h => am_M id aa h (fun r h1 => am_E i_X2_brokenBehindAll np L (am_psh r S) h1 K)) K (am_seek cd_X2_brokenBehindAll pc) L S h) : am_E i_X2_brokenBehindAll pc L S h K := am_run cuts (q := me_X2_brokenBehindAll) rfl rfl hb
theorem e_X2_brokenBehindAll (cuts : List Nat) {K : Option Value → AH → Prop} {aa : List Value} {h : AH} (hb : am_ent aa 4 (fun L => am_blk cuts (fun t L S h => am_E i_X2_brokenBehindAll t L S h K) (fun np id aa L S h => am_M id aa h (fun r h1 => am_E i_X2_brokenBehindAll np L (am_psh r S) h1 K)) K cd_X2_brokenBehindAll L [] h)) : am_M i_X2_brokenBehindAll aa h K := am_into cuts (q := me_X2_brokenBehindAll) rfl rfl rfl hb
theorem b_X2_findOdds (cuts : List Nat) {pc : Nat} {K : Option Value → AH → Prop} {L : AL} {S : List Value} {h : AH} (hb : am_blk cuts (fun t L S h => am_E i_X2_findOdds t L S h K) (fun np id aa L S h => am_M id aa h (fun r h1 => am_E i_X2_findOdds np L (am_psh r S) h1 K)) K (am_seek cd_X2_findOdds pc) L S h) : am_E i_X2_findOdds pc L S h K := am_run cuts (q := me_X2_findOdds) rfl rfl hb
theorem e_X2_findOdds (cuts : List Nat) {K : Option Value → AH → Prop} {aa : List Value} {h : AH} (hb : am_ent aa 15 (fun L => am_blk cuts (fun t L S h => am_E i_X2_findOdds t L S h K) (fun np id aa L S h => am_M id aa h (fun r h1 => am_E i_X2_findOdds np L (am_psh r S) h1 K)) K cd_X2_findOdds L [] h)) : am_M i_X2_findOdds aa h K := am_into cuts (q := me_X2_findOdds) rfl rfl rfl hb
theorem b_X2_power (cuts : List Nat) {pc : Nat} {K : Option Value → AH → Prop} {L : AL} {S : List Value} {h : AH} (hb : am_blk cuts (fun t L S h => am_E i_X2_power t L S h K) (fun np id aa L S h => am_M id aa h (fun r h1 => am_E i_X2_power np L (am_psh r S) h1 K)) K (am_seek cd_X2_power pc) L S h) : am_E i_X2_power pc L S h K := am_run cuts (q := me_X2_power) rfl rfl hb
theorem e_X2_power (cuts : List Nat) {K : Option Value → AH → Prop} {aa : List Value} {h : AH} (hb : am_ent aa 5 (fun L => am_blk cuts (fun t L S h => am_E i_X2_power t L S h K) (fun np id aa L S h => am_M id aa h (fun r h1 => am_E i_X2_power np L (am_psh r S) h1 K)) K cd_X2_power L [] h)) : am_M i_X2_power aa h K := am_into cuts (q := me_X2_power) rfl rfl rfl hb
theorem b_X2_commonDivisor (cuts : List Nat) {pc : Nat} {K : Option Value → AH → Prop} {L : AL} {S : List Value} {h : AH} (hb : am_blk cuts (fun t L S h => am_E i_X2_commonDivisor t L S h K) (fun np id aa L S h => am_M id aa h (fun r h1 => am_E i_X2_commonDivisor np L (am_psh r S) h1 K)) K (am_seek cd_X2_commonDivisor pc) L S h) : am_E i_X2_commonDivisor pc L S h K := am_run cuts (q := me_X2_commonDivisor) rfl rfl hb
theorem e_X2_commonDivisor (cuts : List Nat) {K : Option Value → AH → Prop} {aa : List Value} {h : AH} (hb : am_ent aa 11 (fun L => am_blk cuts (fun t L S h => am_E i_X2_commonDivisor t L S h K) (fun np id aa L S h => am_M id aa h (fun r h1 => am_E i_X2_commonDivisor np L (am_psh r S) h1 K)) K cd_X2_commonDivisor L [] h)) : am_M i_X2_commonDivisor aa h K := am_into cuts (q := me_X2_commonDivisor) rfl rfl rfl hb
theorem b_X2_drawYears (cuts : List Nat) {pc : Nat} {K : Option Value → AH → Prop} {L : AL} {S : List Value} {h : AH} (hb : am_blk cuts (fun t L S h => am_E i_X2_drawYears t L S h K) (fun np id aa L S h => am_M id aa h (fun r h1 => am_E i_X2_drawYears np L (am_psh r S) h1 K)) K (am_seek cd_X2_drawYears pc) L S h) : am_E i_X2_drawYears pc L S h K := am_run cuts (q := me_X2_drawYears) rfl rfl hb
theorem e_X2_drawYears (cuts : List Nat) {K : Option Value → AH → Prop} {aa : List Value} {h : AH} (hb : am_ent aa 8 (fun L => am_blk cuts (fun t L S h => am_E i_X2_drawYears t L S h K) (fun np id aa L S h => am_M id aa h (fun r h1 => am_E i_X2_drawYears np L (am_psh r S) h1 K)) K cd_X2_drawYears L [] h)) : am_M i_X2_drawYears aa h K := am_into cuts (q := me_X2_drawYears) rfl rfl rfl hb
theorem b_X2_draw (cuts : List Nat) {pc : Nat} {K : Option Value → AH → Prop} {L : AL} {S : List Value} {h : AH} (hb : am_blk cuts (fun t L S h => am_E i_X2_draw t L S h K) (fun np id aa L S h => am_M id aa h (fun r h1 => am_E i_X2_draw np L (am_psh r S) h1 K)) K (am_seek cd_X2_draw pc) L S h) : am_E i_X2_draw pc L S h K := am_run cuts (q := me_X2_draw) rfl rfl hb
theorem e_X2_draw (cuts : List Nat) {K : Option Value → AH → Prop} {aa : List Value} {h : AH} (hb : am_ent aa 3 (fun L => am_blk cuts (fun t L S h => am_E i_X2_draw t L S h K) (fun np id aa L S h => am_M id aa h (fun r h1 => am_E i_X2_draw np L (am_psh r S) h1 K)) K cd_X2_draw L [] h)) : am_M i_X2_draw aa h K := am_into cuts (q := me_X2_draw) rfl rfl rfl hb
theorem b_X3_lossOf (cuts : List Nat) {pc : Nat} {K : Option Value → AH → Prop} {L : AL} {S : List Value} {h : AH} (hb : am_blk cuts (fun t L S h => am_E i_X3_lossOf t L S h K) (fun np id aa L S h => am_M id aa h (fun r h1 => am_E i_X3_lossOf np L (am_psh r S) h1 K)) K (am_seek cd_X3_lossOf pc) L S h) : am_E i_X3_lossOf pc L S h K := am_run cuts (q := me_X3_lossOf) rfl rfl hb
theorem e_X3_lossOf (cuts : List Nat) {K : Option Value → AH → Prop} {aa : List Value} {h : AH} (hb : am_ent aa 5 (fun L => am_blk cuts (fun t L S h => am_E i_X3_lossOf t L S h K) (fun np id aa L S h => am_M id aa h (fun r h1 => am_E i_X3_lossOf np L (am_psh r S) h1 K)) K cd_X3_lossOf L [] h)) : am_M i_X3_lossOf aa h K := am_into cuts (q := me_X3_lossOf) rfl rfl rfl hb
theorem b_X3_standsOf (cuts : List Nat) {pc : Nat} {K : Option Value → AH → Prop} {L : AL} {S : List Value} {h : AH} (hb : am_blk cuts (fun t L S h => am_E i_X3_standsOf t L S h K) (fun np id aa L S h => am_M id aa h (fun r h1 => am_E i_X3_standsOf np L (am_psh r S) h1 K)) K (am_seek cd_X3_standsOf pc) L S h) : am_E i_X3_standsOf pc L S h K := am_run cuts (q := me_X3_standsOf) rfl rfl hb
theorem e_X3_standsOf (cuts : List Nat) {K : Option Value → AH → Prop} {aa : List Value} {h : AH} (hb : am_ent aa 4 (fun L => am_blk cuts (fun t L S h => am_E i_X3_standsOf t L S h K) (fun np id aa L S h => am_M id aa h (fun r h1 => am_E i_X3_standsOf np L (am_psh r S) h1 K)) K cd_X3_standsOf L [] h)) : am_M i_X3_standsOf aa h K := am_into cuts (q := me_X3_standsOf) rfl rfl rfl hb
theorem b_X3_jumpBy (cuts : List Nat) {pc : Nat} {K : Option Value → AH → Prop} {L : AL} {S : List Value} {h : AH} (hb : am_blk cuts (fun t L S h => am_E i_X3_jumpBy t L S h K) (fun np id aa L S h => am_M id aa h (fun r h1 => am_E i_X3_jumpBy np L (am_psh r S) h1 K)) K (am_seek cd_X3_jumpBy pc) L S h) : am_E i_X3_jumpBy pc L S h K := am_run cuts (q := me_X3_jumpBy) rfl rfl hb
theorem e_X3_jumpBy (cuts : List Nat) {K : Option Value → AH → Prop} {aa : List Value} {h : AH} (hb : am_ent aa 4 (fun L => am_blk cuts (fun t L S h => am_E i_X3_jumpBy t L S h K) (fun np id aa L S h => am_M id aa h (fun r h1 => am_E i_X3_jumpBy np L (am_psh r S) h1 K)) K cd_X3_jumpBy L [] h)) : am_M i_X3_jumpBy aa h K := am_into cuts (q := me_X3_jumpBy) rfl rfl rfl hb
theorem b_X4_thingAt (cuts : List Nat) {pc : Nat} {K : Option Value → AH → Prop} {L : AL} {S : List Value} {h : AH} (hb : am_blk cuts (fun t L S h => am_E i_X4_thingAt t L S h K) (fun np id aa L S h => am_M id aa h (fun r h1 => am_E i_X4_thingAt np L (am_psh r S) h1 K)) K (am_seek cd_X4_thingAt pc) L S h) : am_E i_X4_thingAt pc L S h K := am_run cuts (q := me_X4_thingAt) rfl rfl hb
theorem e_X4_thingAt (cuts : List Nat) {K : Option Value → AH → Prop} {aa : List Value} {h : AH} (hb : am_ent aa 3 (fun L => am_blk cuts (fun t L S h => am_E i_X4_thingAt t L S h K) (fun np id aa L S h => am_M id aa h (fun r h1 => am_E i_X4_thingAt np L (am_psh r S) h1 K)) K cd_X4_thingAt L [] h)) : am_M i_X4_thingAt aa h K := am_into cuts (q := me_X4_thingAt) rfl rfl rfl hb
theorem b_X4_mildest (cuts : List Nat) {pc : Nat} {K : Option Value → AH → Prop} {L : AL} {S : List Value} {h : AH} (hb : am_blk cuts (fun t L S h => am_E i_X4_mildest t L S h K) (fun np id aa L S h => am_M id aa h (fun r h1 => am_E i_X4_mildest np L (am_psh r S) h1 K)) K (am_seek cd_X4_mildest pc) L S h) : am_E i_X4_mildest pc L S h K := am_run cuts (q := me_X4_mildest) rfl rfl hb
theorem e_X4_mildest (cuts : List Nat) {K : Option Value → AH → Prop} {aa : List Value} {h : AH} (hb : am_ent aa 6 (fun L => am_blk cuts (fun t L S h => am_E i_X4_mildest t L S h K) (fun np id aa L S h => am_M id aa h (fun r h1 => am_E i_X4_mildest np L (am_psh r S) h1 K)) K cd_X4_mildest L [] h)) : am_M i_X4_mildest aa h K := am_into cuts (q := me_X4_mildest) rfl rfl rfl hb
theorem b_X4_mostBrokenBut (cuts : List Nat) {pc : Nat} {K : Option Value → AH → Prop} {L : AL} {S : List Value} {h : AH} (hb : am_blk cuts (fun t L S h => am_E i_X4_mostBrokenBut t L S h K) (fun np id aa L S h => am_M id aa h (fun r h1 => am_E i_X4_mostBrokenBut np L (am_psh r S) h1 K)) K (am_seek cd_X4_mostBrokenBut pc) L S h) : am_E i_X4_mostBrokenBut pc L S h K := am_run cuts (q := me_X4_mostBrokenBut) rfl rfl hb
theorem e_X4_mostBrokenBut (cuts : List Nat) {K : Option Value → AH → Prop} {aa : List Value} {h : AH} (hb : am_ent aa 5 (fun L => am_blk cuts (fun t L S h => am_E i_X4_mostBrokenBut t L S h K) (fun np id aa L S h => am_M id aa h (fun r h1 => am_E i_X4_mostBrokenBut np L (am_psh r S) h1 K)) K cd_X4_mostBrokenBut L [] h)) : am_M i_X4_mostBrokenBut aa h K := am_into cuts (q := me_X4_mostBrokenBut) rfl rfl rfl hb
theorem b_X4_shortestWalk (cuts : List Nat) {pc : Nat} {K : Option Value → AH → Prop} {L : AL} {S : List Value} {h : AH} (hb : am_blk cuts (fun t L S h => am_E i_X4_shortestWalk t L S h K) (fun np id aa L S h => am_M id aa h (fun r h1 => am_E i_X4_shortestWalk np L (am_psh r S) h1 K)) K (am_seek cd_X4_shortestWalk pc) L S h) : am_E i_X4_shortestWalk pc L S h K := am_run cuts (q := me_X4_shortestWalk) rfl rfl hb
theorem e_X4_shortestWalk (cuts : List Nat) {K : Option Value → AH → Prop} {aa : List Value} {h : AH} (hb : am_ent aa 2 (fun L => am_blk cuts (fun t L S h => am_E i_X4_shortestWalk t L S h K) (fun np id aa L S h => am_M id aa h (fun r h1 => am_E i_X4_shortestWalk np L (am_psh r S) h1 K)) K cd_X4_shortestWalk L [] h)) : am_M i_X4_shortestWalk aa h K := am_into cuts (q := me_X4_shortestWalk) rfl rfl rfl hb
theorem b_X4_sortByFarm (cuts : List Nat) {pc : Nat} {K : Option Value → AH → Prop} {L : AL} {S : List Value} {h : AH} (hb : am_blk cuts (fun t L S h => am_E i_X4_sortByFarm t L S h K) (fun np id aa L S h => am_M id aa h (fun r h1 => am_E i_X4_sortByFarm np L (am_psh r S) h1 K)) K (am_seek cd_X4_sortByFarm pc) L S h) : am_E i_X4_sortByFarm pc L S h K := am_run cuts (q := me_X4_sortByFarm) rfl rfl hb
theorem e_X4_sortByFarm (cuts : List Nat) {K : Option Value → AH → Prop} {aa : List Value} {h : AH} (hb : am_ent aa 6 (fun L => am_blk cuts (fun t L S h => am_E i_X4_sortByFarm t L S h K) (fun np id aa L S h => am_M id aa h (fun r h1 => am_E i_X4_sortByFarm np L (am_psh r S) h1 K)) K cd_X4_sortByFarm L [] h)) : am_M i_X4_sortByFarm aa h K := am_into cuts (q := me_X4_sortByFarm) rfl rfl rfl hb
theorem b_X4_isAhead (cuts : List Nat) {pc : Nat} {K : Option Value → AH → Prop} {L : AL} {S : List Value} {h : AH} (hb : am_blk cuts (fun t L S h => am_E i_X4_isAhead t L S h K) (fun np id aa L S h => am_M id aa h (fun r h1 => am_E i_X4_isAhead np L (am_psh r S) h1 K)) K (am_seek cd_X4_isAhead pc) L S h) : am_E i_X4_isAhead pc L S h K := am_run cuts (q := me_X4_isAhead) rfl rfl hb
theorem e_X4_isAhead (cuts : List Nat) {K : Option Value → AH → Prop} {aa : List Value} {h : AH} (hb : am_ent aa 4 (fun L => am_blk cuts (fun t L S h => am_E i_X4_isAhead t L S h K) (fun np id aa L S h => am_M id aa h (fun r h1 => am_E i_X4_isAhead np L (am_psh r S) h1 K)) K cd_X4_isAhead L [] h)) : am_M i_X4_isAhead aa h K := am_into cuts (q := me_X4_isAhead) rfl rfl rfl hb
theorem b_X5_keep (cuts : List Nat) {pc : Nat} {K : Option Value → AH → Prop} {L : AL} {S : List Value} {h : AH} (hb : am_blk cuts (fun t L S h => am_E i_X5_keep t L S h K) (fun np id aa L S h => am_M id aa h (fun r h1 => am_E i_X5_keep np L (am_psh r S) h1 K)) K (am_seek cd_X5_keep pc) L S h) : am_E i_X5_keep pc L S h K := am_run cuts (q := me_X5_keep) rfl rfl hb
theorem e_X5_keep (cuts : List Nat) {K : Option Value → AH → Prop} {aa : List Value} {h : AH} (hb : am_ent aa 2 (fun L => am_blk cuts (fun t L S h => am_E i_X5_keep t L S h K) (fun np id aa L S h => am_M id aa h (fun r h1 => am_E i_X5_keep np L (am_psh r S) h1 K)) K cd_X5_keep L [] h)) : am_M i_X5_keep aa h K := am_into cuts (q := me_X5_keep) rfl rfl rfl hb
theorem b_X5_takeBack (cuts : List Nat) {pc : Nat} {K : Option Value → AH → Prop} {L : AL} {S : List Value} {h : AH} (hb : am_blk cuts (fun t L S h => am_E i_X5_takeBack t L S h K) (fun np id aa L S h => am_M id aa h (fun r h1 => am_E i_X5_takeBack np L (am_psh r S) h1 K)) K (am_seek cd_X5_takeBack pc) L S h) : am_E i_X5_takeBack pc L S h K := am_run cuts (q := me_X5_takeBack) rfl rfl hb
theorem e_X5_takeBack (cuts : List Nat) {K : Option Value → AH → Prop} {aa : List Value} {h : AH} (hb : am_ent aa 2 (fun L => am_blk cuts (fun t L S h => am_E i_X5_takeBack t L S h K) (fun np id aa L S h => am_M id aa h (fun r h1 => am_E i_X5_takeBack np L (am_psh r S) h1 K)) K cd_X5_takeBack L [] h)) : am_M i_X5_takeBack aa h K := am_into cuts (q := me_X5_takeBack) rfl rfl rfl hb
theorem b_X5_forget (cuts : List Nat) {pc : Nat} {K : Option Value → AH → Prop} {L : AL} {S : List Value} {h : AH} (hb : am_blk cuts (fun t L S h => am_E i_X5_forget t L S h K) (fun np id aa L S h => am_M id aa h (fun r h1 => am_E i_X5_forget np L (am_psh r S) h1 K)) K (am_seek cd_X5_forget pc) L S h) : am_E i_X5_forget pc L S h K := am_run cuts (q := me_X5_forget) rfl rfl hb
theorem e_X5_forget (cuts : List Nat) {K : Option Value → AH → Prop} {aa : List Value} {h : AH} (hb : am_ent aa 1 (fun L => am_blk cuts (fun t L S h => am_E i_X5_forget t L S h K) (fun np id aa L S h => am_M id aa h (fun r h1 => am_E i_X5_forget np L (am_psh r S) h1 K)) K cd_X5_forget L [] h)) : am_M i_X5_forget aa h K := am_into cuts (q := me_X5_forget) rfl rfl rfl hb
theorem b_X6_worstPlace (cuts : List Nat) {pc : Nat} {K : Option Value → AH → Prop} {L : AL} {S : List Value} {h : AH} (hb : am_blk cuts (fun t L S h => am_E i_X6_worstPlace t L S h K) (fun np id aa L S h => am_M id aa h (fun r h1 => am_E i_X6_worstPlace np L (am_psh r S) h1 K)) K (am_seek cd_X6_worstPlace pc) L S h) : am_E i_X6_worstPlace pc L S h K := am_run cuts (q := me_X6_worstPlace) rfl rfl hb
theorem e_X6_worstPlace (cuts : List Nat) {K : Option Value → AH → Prop} {aa : List Value} {h : AH} (hb : am_ent aa 4 (fun L => am_blk cuts (fun t L S h => am_E i_X6_worstPlace t L S h K) (fun np id aa L S h => am_M id aa h (fun r h1 => am_E i_X6_worstPlace np L (am_psh r S) h1 K)) K cd_X6_worstPlace L [] h)) : am_M i_X6_worstPlace aa h K := am_into cuts (q := me_X6_worstPlace) rfl rfl rfl hb
theorem b_X6_mildestCut (cuts : List Nat) {pc : Nat} {K : Option Value → AH → Prop} {L : AL} {S : List Value} {h : AH} (hb : am_blk cuts (fun t L S h => am_E i_X6_mildestCut t L S h K) (fun np id aa L S h => am_M id aa h (fun r h1 => am_E i_X6_mildestCut np L (am_psh r S) h1 K)) K (am_seek cd_X6_mildestCut pc) L S h) : am_E i_X6_mildestCut pc L S h K := am_run cuts (q := me_X6_mildestCut) rfl rfl hb
theorem e_X6_mildestCut (cuts : List Nat) {K : Option Value → AH → Prop} {aa : List Value} {h : AH} (hb : am_ent aa 4 (fun L => am_blk cuts (fun t L S h => am_E i_X6_mildestCut t L S h K) (fun np id aa L S h => am_M id aa h (fun r h1 => am_E i_X6_mildestCut np L (am_psh r S) h1 K)) K cd_X6_mildestCut L [] h)) : am_M i_X6_mildestCut aa h K := am_into cuts (q := me_X6_mildestCut) rfl rfl rfl hb
theorem b_X6_mostBroken (cuts : List Nat) {pc : Nat} {K : Option Value → AH → Prop} {L : AL} {S : List Value} {h : AH} (hb : am_blk cuts (fun t L S h => am_E i_X6_mostBroken t L S h K) (fun np id aa L S h => am_M id aa h (fun r h1 => am_E i_X6_mostBroken np L (am_psh r S) h1 K)) K (am_seek cd_X6_mostBroken pc) L S h) : am_E i_X6_mostBroken pc L S h K := am_run cuts (q := me_X6_mostBroken) rfl rfl hb
theorem e_X6_mostBroken (cuts : List Nat) {K : Option Value → AH → Prop} {aa : List Value} {h : AH} (hb : am_ent aa 5 (fun L => am_blk cuts (fun t L S h => am_E i_X6_mostBroken t L S h K) (fun np id aa L S h => am_M id aa h (fun r h1 => am_E i_X6_mostBroken np L (am_psh r S) h1 K)) K cd_X6_mostBroken L [] h)) : am_M i_X6_mostBroken aa h K := am_into cuts (q := me_X6_mostBroken) rfl rfl rfl hb
theorem b_X6_womansDrop (cuts : List Nat) {pc : Nat} {K : Option Value → AH → Prop} {L : AL} {S : List Value} {h : AH} (hb : am_blk cuts (fun t L S h => am_E i_X6_womansDrop t L S h K) (fun np id aa L S h => am_M id aa h (fun r h1 => am_E i_X6_womansDrop np L (am_psh r S) h1 K)) K (am_seek cd_X6_womansDrop pc) L S h) : am_E i_X6_womansDrop pc L S h K := am_run cuts (q := me_X6_womansDrop) rfl rfl hb
theorem e_X6_womansDrop (cuts : List Nat) {K : Option Value → AH → Prop} {aa : List Value} {h : AH} (hb : am_ent aa 4 (fun L => am_blk cuts (fun t L S h => am_E i_X6_womansDrop t L S h K) (fun np id aa L S h => am_M id aa h (fun r h1 => am_E i_X6_womansDrop np L (am_psh r S) h1 K)) K cd_X6_womansDrop L [] h)) : am_M i_X6_womansDrop aa h K := am_into cuts (q := me_X6_womansDrop) rfl rfl rfl hb
theorem b_X6_othersInSpite (cuts : List Nat) {pc : Nat} {K : Option Value → AH → Prop} {L : AL} {S : List Value} {h : AH} (hb : am_blk cuts (fun t L S h => am_E i_X6_othersInSpite t L S h K) (fun np id aa L S h => am_M id aa h (fun r h1 => am_E i_X6_othersInSpite np L (am_psh r S) h1 K)) K (am_seek cd_X6_othersInSpite pc) L S h) : am_E i_X6_othersInSpite pc L S h K := am_run cuts (q := me_X6_othersInSpite) rfl rfl hb
theorem e_X6_othersInSpite (cuts : List Nat) {K : Option Value → AH → Prop} {aa : List Value} {h : AH} (hb : am_ent aa 5 (fun L => am_blk cuts (fun t L S h => am_E i_X6_othersInSpite t L S h K) (fun np id aa L S h => am_M id aa h (fun r h1 => am_E i_X6_othersInSpite np L (am_psh r S) h1 K)) K cd_X6_othersInSpite L [] h)) : am_M i_X6_othersInSpite aa h K := am_into cuts (q := me_X6_othersInSpite) rfl rfl rfl hb
theorem b_X6_mostAlike (cuts : List Nat) {pc : Nat} {K : Option Value → AH → Prop} {L : AL} {S : List Value} {h : AH} (hb : am_blk cuts (fun t L S h => am_E i_X6_mostAlike t L S h K) (fun np id aa L S h => am_M id aa h (fun r h1 => am_E i_X6_mostAlike np L (am_psh r S) h1 K)) K (am_seek cd_X6_mostAlike pc) L S h) : am_E i_X6_mostAlike pc L S h K := am_run cuts (q := me_X6_mostAlike) rfl rfl hb
theorem e_X6_mostAlike (cuts : List Nat) {K : Option Value → AH → Prop} {aa : List Value} {h : AH} (hb : am_ent aa 5 (fun L => am_blk cuts (fun t L S h => am_E i_X6_mostAlike t L S h K) (fun np id aa L S h => am_M id aa h (fun r h1 => am_E i_X6_mostAlike np L (am_psh r S) h1 K)) K cd_X6_mostAlike L [] h)) : am_M i_X6_mostAlike aa h K := am_into cuts (q := me_X6_mostAlike) rfl rfl rfl hb
theorem b_X6_addUnlike (cuts : List Nat) {pc : Nat} {K : Option Value → AH → Prop} {L : AL} {S : List Value} {h : AH} (hb : am_blk cuts (fun t L S h => am_E i_X6_addUnlike t L S h K) (fun np id aa L S h => am_M id aa h (fun r h1 => am_E i_X6_addUnlike np L (am_psh r S) h1 K)) K (am_seek cd_X6_addUnlike pc) L S h) : am_E i_X6_addUnlike pc L S h K := am_run cuts (q := me_X6_addUnlike) rfl rfl hb
theorem e_X6_addUnlike (cuts : List Nat) {K : Option Value → AH → Prop} {aa : List Value} {h : AH} (hb : am_ent aa 5 (fun L => am_blk cuts (fun t L S h => am_E i_X6_addUnlike t L S h K) (fun np id aa L S h => am_M id aa h (fun r h1 => am_E i_X6_addUnlike np L (am_psh r S) h1 K)) K cd_X6_addUnlike L [] h)) : am_M i_X6_addUnlike aa h K := am_into cuts (q := me_X6_addUnlike) rfl rfl rfl hb
theorem b_X6_allHeard (cuts : List Nat) {pc : Nat} {K : Option Value → AH → Prop} {L : AL} {S : List Value} {h : AH} (hb : am_blk cuts (fun t L S h => am_E i_X6_allHeard t L S h K) (fun np id aa L S h => am_M id aa h (fun r h1 => am_E i_X6_allHeard np L (am_psh r S) h1 K)) K (am_seek cd_X6_allHeard pc) L S h) : am_E i_X6_allHeard pc L S h K := am_run cuts (q := me_X6_allHeard) rfl rfl hb
theorem e_X6_allHeard (cuts : List Nat) {K : Option Value → AH → Prop} {aa : List Value} {h : AH} (hb : am_ent aa 5 (fun L => am_blk cuts (fun t L S h => am_E i_X6_allHeard t L S h K) (fun np id aa L S h => am_M id aa h (fun r h1 => am_E i_X6_allHeard np L (am_psh r S) h1 K)) K cd_X6_allHeard L [] h)) : am_M i_X6_allHeard aa h K := am_into cuts (q := me_X6_allHeard) rfl rfl rfl hb
theorem b_X6_quietest (cuts : List Nat) {pc : Nat} {K : Option Value → AH → Prop} {L : AL} {S : List Value} {h : AH} (hb : am_blk cuts (fun t L S h => am_E i_X6_quietest t L S h K) (fun np id aa L S h => am_M id aa h (fun r h1 => am_E i_X6_quietest np L (am_psh r S) h1 K)) K (am_seek cd_X6_quietest pc) L S h) : am_E i_X6_quietest pc L S h K := am_run cuts (q := me_X6_quietest) rfl rfl hb
theorem e_X6_quietest (cuts : List Nat) {K : Option Value → AH → Prop} {aa : List Value} {h : AH} (hb : am_ent aa 4 (fun L => am_blk cuts (fun t L S h => am_E i_X6_quietest t L S h K) (fun np id aa L S h => am_M id aa h (fun r h1 => am_E i_X6_quietest np L (am_psh r S) h1 K)) K cd_X6_quietest L [] h)) : am_M i_X6_quietest aa h K := am_into cuts (q := me_X6_quietest) rfl rfl rfl hb
theorem b_X6_hearAll (cuts : List Nat) {pc : Nat} {K : Option Value → AH → Prop} {L : AL} {S : List Value} {h : AH} (hb : am_blk cuts (fun t L S h => am_E i_X6_hearAll t L S h K) (fun np id aa L S h => am_M id aa h (fun r h1 => am_E i_X6_hearAll np L (am_psh r S) h1 K)) K (am_seek cd_X6_hearAll pc) L S h) : am_E i_X6_hearAll pc L S h K := am_run cuts (q := me_X6_hearAll) rfl rfl hb
theorem e_X6_hearAll (cuts : List Nat) {K : Option Value → AH → Prop} {aa : List Value} {h : AH} (hb : am_ent aa 5 (fun L => am_blk cuts (fun t L S h => am_E i_X6_hearAll t L S h K) (fun np id aa L S h => am_M id aa h (fun r h1 => am_E i_X6_hearAll np L (am_psh r S) h1 K)) K cd_X6_hearAll L [] h)) : am_M i_X6_hearAll aa h K := am_into cuts (q := me_X6_hearAll) rfl rfl rfl hb
theorem b_X6_mostHeard (cuts : List Nat) {pc : Nat} {K : Option Value → AH → Prop} {L : AL} {S : List Value} {h : AH} (hb : am_blk cuts (fun t L S h => am_E i_X6_mostHeard t L S h K) (fun np id aa L S h => am_M id aa h (fun r h1 => am_E i_X6_mostHeard np L (am_psh r S) h1 K)) K (am_seek cd_X6_mostHeard pc) L S h) : am_E i_X6_mostHeard pc L S h K := am_run cuts (q := me_X6_mostHeard) rfl rfl hb
theorem e_X6_mostHeard (cuts : List Nat) {K : Option Value → AH → Prop} {aa : List Value} {h : AH} (hb : am_ent aa 4 (fun L => am_blk cuts (fun t L S h => am_E i_X6_mostHeard t L S h K) (fun np id aa L S h => am_M id aa h (fun r h1 => am_E i_X6_mostHeard np L (am_psh r S) h1 K)) K cd_X6_mostHeard L [] h)) : am_M i_X6_mostHeard aa h K := am_into cuts (q := me_X6_mostHeard) rfl rfl rfl hb
theorem b_X6_mendHeardMost (cuts : List Nat) {pc : Nat} {K : Option Value → AH → Prop} {L : AL} {S : List Value} {h : AH} (hb : am_blk cuts (fun t L S h => am_E i_X6_mendHeardMost t L S h K) (fun np id aa L S h => am_M id aa h (fun r h1 => am_E i_X6_mendHeardMost np L (am_psh r S) h1 K)) K (am_seek cd_X6_mendHeardMost pc) L S h) : am_E i_X6_mendHeardMost pc L S h K := am_run cuts (q := me_X6_mendHeardMost) rfl rfl hb
theorem e_X6_mendHeardMost (cuts : List Nat) {K : Option Value → AH → Prop} {aa : List Value} {h : AH} (hb : am_ent aa 6 (fun L => am_blk cuts (fun t L S h => am_E i_X6_mendHeardMost t L S h K) (fun np id aa L S h => am_M id aa h (fun r h1 => am_E i_X6_mendHeardMost np L (am_psh r S) h1 K)) K cd_X6_mendHeardMost L [] h)) : am_M i_X6_mendHeardMost aa h K := am_into cuts (q := me_X6_mendHeardMost) rfl rfl rfl hb
theorem b_X6_figureHeardMost (cuts : List Nat) {pc : Nat} {K : Option Value → AH → Prop} {L : AL} {S : List Value} {h : AH} (hb : am_blk cuts (fun t L S h => am_E i_X6_figureHeardMost t L S h K) (fun np id aa L S h => am_M id aa h (fun r h1 => am_E i_X6_figureHeardMost np L (am_psh r S) h1 K)) K (am_seek cd_X6_figureHeardMost pc) L S h) : am_E i_X6_figureHeardMost pc L S h K := am_run cuts (q := me_X6_figureHeardMost) rfl rfl hb
theorem e_X6_figureHeardMost (cuts : List Nat) {K : Option Value → AH → Prop} {aa : List Value} {h : AH} (hb : am_ent aa 6 (fun L => am_blk cuts (fun t L S h => am_E i_X6_figureHeardMost t L S h K) (fun np id aa L S h => am_M id aa h (fun r h1 => am_E i_X6_figureHeardMost np L (am_psh r S) h1 K)) K cd_X6_figureHeardMost L [] h)) : am_M i_X6_figureHeardMost aa h K := am_into cuts (q := me_X6_figureHeardMost) rfl rfl rfl hb
theorem b_X6_longestLink (cuts : List Nat) {pc : Nat} {K : Option Value → AH → Prop} {L : AL} {S : List Value} {h : AH} (hb : am_blk cuts (fun t L S h => am_E i_X6_longestLink t L S h K) (fun np id aa L S h => am_M id aa h (fun r h1 => am_E i_X6_longestLink np L (am_psh r S) h1 K)) K (am_seek cd_X6_longestLink pc) L S h) : am_E i_X6_longestLink pc L S h K := am_run cuts (q := me_X6_longestLink) rfl rfl hb
theorem e_X6_longestLink (cuts : List Nat) {K : Option Value → AH → Prop} {aa : List Value} {h : AH} (hb : am_ent aa 3 (fun L => am_blk cuts (fun t L S h => am_E i_X6_longestLink t L S h K) (fun np id aa L S h => am_M id aa h (fun r h1 => am_E i_X6_longestLink np L (am_psh r S) h1 K)) K cd_X6_longestLink L [] h)) : am_M i_X6_longestLink aa h K := am_into cuts (q := me_X6_longestLink) rfl rfl rfl hb
theorem b_X6_sparedBits (cuts : List Nat) {pc : Nat} {K : Option Value → AH → Prop} {L : AL} {S : List Value} {h : AH} (hb : am_blk cuts (fun t L S h => am_E i_X6_sparedBits t L S h K) (fun np id aa L S h => am_M id aa h (fun r h1 => am_E i_X6_sparedBits np L (am_psh r S) h1 K)) K (am_seek cd_X6_sparedBits pc) L S h) : am_E i_X6_sparedBits pc L S h K := am_run cuts (q := me_X6_sparedBits) rfl rfl hb
theorem e_X6_sparedBits (cuts : List Nat) {K : Option Value → AH → Prop} {aa : List Value} {h : AH} (hb : am_ent aa 5 (fun L => am_blk cuts (fun t L S h => am_E i_X6_sparedBits t L S h K) (fun np id aa L S h => am_M id aa h (fun r h1 => am_E i_X6_sparedBits np L (am_psh r S) h1 K)) K cd_X6_sparedBits L [] h)) : am_M i_X6_sparedBits aa h K := am_into cuts (q := me_X6_sparedBits) rfl rfl rfl hb
theorem b_X6_mutualTwos (cuts : List Nat) {pc : Nat} {K : Option Value → AH → Prop} {L : AL} {S : List Value} {h : AH} (hb : am_blk cuts (fun t L S h => am_E i_X6_mutualTwos t L S h K) (fun np id aa L S h => am_M id aa h (fun r h1 => am_E i_X6_mutualTwos np L (am_psh r S) h1 K)) K (am_seek cd_X6_mutualTwos pc) L S h) : am_E i_X6_mutualTwos pc L S h K := am_run cuts (q := me_X6_mutualTwos) rfl rfl hb
theorem e_X6_mutualTwos (cuts : List Nat) {K : Option Value → AH → Prop} {aa : List Value} {h : AH} (hb : am_ent aa 6 (fun L => am_blk cuts (fun t L S h => am_E i_X6_mutualTwos t L S h K) (fun np id aa L S h => am_M id aa h (fun r h1 => am_E i_X6_mutualTwos np L (am_psh r S) h1 K)) K cd_X6_mutualTwos L [] h)) : am_M i_X6_mutualTwos aa h K := am_into cuts (q := me_X6_mutualTwos) rfl rfl rfl hb
theorem b_X7_hear (cuts : List Nat) {pc : Nat} {K : Option Value → AH → Prop} {L : AL} {S : List Value} {h : AH} (hb : am_blk cuts (fun t L S h => am_E i_X7_hear t L S h K) (fun np id aa L S h => am_M id aa h (fun r h1 => am_E i_X7_hear np L (am_psh r S) h1 K)) K (am_seek cd_X7_hear pc) L S h) : am_E i_X7_hear pc L S h K := am_run cuts (q := me_X7_hear) rfl rfl hb
theorem e_X7_hear (cuts : List Nat) {K : Option Value → AH → Prop} {aa : List Value} {h : AH} (hb : am_ent aa 2 (fun L => am_blk cuts (fun t L S h => am_E i_X7_hear t L S h K) (fun np id aa L S h => am_M id aa h (fun r h1 => am_E i_X7_hear np L (am_psh r S) h1 K)) K cd_X7_hear L [] h)) : am_M i_X7_hear aa h K := am_into cuts (q := me_X7_hear) rfl rfl rfl hb
theorem b_X7_tellsJumps (cuts : List Nat) {pc : Nat} {K : Option Value → AH → Prop} {L : AL} {S : List Value} {h : AH} (hb : am_blk cuts (fun t L S h => am_E i_X7_tellsJumps t L S h K) (fun np id aa L S h => am_M id aa h (fun r h1 => am_E i_X7_tellsJumps np L (am_psh r S) h1 K)) K (am_seek cd_X7_tellsJumps pc) L S h) : am_E i_X7_tellsJumps pc L S h K := am_run cuts (q := me_X7_tellsJumps) rfl rfl hb
theorem e_X7_tellsJumps (cuts : List Nat) {K : Option Value → AH → Prop} {aa : List Value} {h : AH} (hb : am_ent aa 4 (fun L => am_blk cuts (fun t L S h => am_E i_X7_tellsJumps t L S h K) (fun np id aa L S h => am_M id aa h (fun r h1 => am_E i_X7_tellsJumps np L (am_psh r S) h1 K)) K cd_X7_tellsJumps L [] h)) : am_M i_X7_tellsJumps aa h K := am_into cuts (q := me_X7_tellsJumps) rfl rfl rfl hb
theorem b_X7_firstNotInPlace (cuts : List Nat) {pc : Nat} {K : Option Value → AH → Prop} {L : AL} {S : List Value} {h : AH} (hb : am_blk cuts (fun t L S h => am_E i_X7_firstNotInPlace t L S h K) (fun np id aa L S h => am_M id aa h (fun r h1 => am_E i_X7_firstNotInPlace np L (am_psh r S) h1 K)) K (am_seek cd_X7_firstNotInPlace pc) L S h) : am_E i_X7_firstNotInPlace pc L S h K := am_run cuts (q := me_X7_firstNotInPlace) rfl rfl hb
theorem e_X7_firstNotInPlace (cuts : List Nat) {K : Option Value → AH → Prop} {aa : List Value} {h : AH} (hb : am_ent aa 3 (fun L => am_blk cuts (fun t L S h => am_E i_X7_firstNotInPlace t L S h K) (fun np id aa L S h => am_M id aa h (fun r h1 => am_E i_X7_firstNotInPlace np L (am_psh r S) h1 K)) K cd_X7_firstNotInPlace L [] h)) : am_M i_X7_firstNotInPlace aa h K := am_into cuts (q := me_X7_firstNotInPlace) rfl rfl rfl hb
theorem b_X8_hear (cuts : List Nat) {pc : Nat} {K : Option Value → AH → Prop} {L : AL} {S : List Value} {h : AH} (hb : am_blk cuts (fun t L S h => am_E i_X8_hear t L S h K) (fun np id aa L S h => am_M id aa h (fun r h1 => am_E i_X8_hear np L (am_psh r S) h1 K)) K (am_seek cd_X8_hear pc) L S h) : am_E i_X8_hear pc L S h K := am_run cuts (q := me_X8_hear) rfl rfl hb
theorem e_X8_hear (cuts : List Nat) {K : Option Value → AH → Prop} {aa : List Value} {h : AH} (hb : am_ent aa 2 (fun L => am_blk cuts (fun t L S h => am_E i_X8_hear t L S h K) (fun np id aa L S h => am_M id aa h (fun r h1 => am_E i_X8_hear np L (am_psh r S) h1 K)) K cd_X8_hear L [] h)) : am_M i_X8_hear aa h K := am_into cuts (q := me_X8_hear) rfl rfl rfl hb
theorem b_X8_firstMisfit (cuts : List Nat) {pc : Nat} {K : Option Value → AH → Prop} {L : AL} {S : List Value} {h : AH} (hb : am_blk cuts (fun t L S h => am_E i_X8_firstMisfit t L S h K) (fun np id aa L S h => am_M id aa h (fun r h1 => am_E i_X8_firstMisfit np L (am_psh r S) h1 K)) K (am_seek cd_X8_firstMisfit pc) L S h) : am_E i_X8_firstMisfit pc L S h K := am_run cuts (q := me_X8_firstMisfit) rfl rfl hb
theorem e_X8_firstMisfit (cuts : List Nat) {K : Option Value → AH → Prop} {aa : List Value} {h : AH} (hb : am_ent aa 5 (fun L => am_blk cuts (fun t L S h => am_E i_X8_firstMisfit t L S h K) (fun np id aa L S h => am_M id aa h (fun r h1 => am_E i_X8_firstMisfit np L (am_psh r S) h1 K)) K cd_X8_firstMisfit L [] h)) : am_M i_X8_firstMisfit aa h K := am_into cuts (q := me_X8_firstMisfit) rfl rfl rfl hb
theorem b_X8_comeTo (cuts : List Nat) {pc : Nat} {K : Option Value → AH → Prop} {L : AL} {S : List Value} {h : AH} (hb : am_blk cuts (fun t L S h => am_E i_X8_comeTo t L S h K) (fun np id aa L S h => am_M id aa h (fun r h1 => am_E i_X8_comeTo np L (am_psh r S) h1 K)) K (am_seek cd_X8_comeTo pc) L S h) : am_E i_X8_comeTo pc L S h K := am_run cuts (q := me_X8_comeTo) rfl rfl hb
theorem e_X8_comeTo (cuts : List Nat) {K : Option Value → AH → Prop} {aa : List Value} {h : AH} (hb : am_ent aa 4 (fun L => am_blk cuts (fun t L S h => am_E i_X8_comeTo t L S h K) (fun np id aa L S h => am_M id aa h (fun r h1 => am_E i_X8_comeTo np L (am_psh r S) h1 K)) K cd_X8_comeTo L [] h)) : am_M i_X8_comeTo aa h K := am_into cuts (q := me_X8_comeTo) rfl rfl rfl hb
theorem b_X8_refusalOf (cuts : List Nat) {pc : Nat} {K : Option Value → AH → Prop} {L : AL} {S : List Value} {h : AH} (hb : am_blk cuts (fun t L S h => am_E i_X8_refusalOf t L S h K) (fun np id aa L S h => am_M id aa h (fun r h1 => am_E i_X8_refusalOf np L (am_psh r S) h1 K)) K (am_seek cd_X8_refusalOf pc) L S h) : am_E i_X8_refusalOf pc L S h K := am_run cuts (q := me_X8_refusalOf) rfl rfl hb
theorem e_X8_refusalOf (cuts : List Nat) {K : Option Value → AH → Prop} {aa : List Value} {h : AH} (hb : am_ent aa 3 (fun L => am_blk cuts (fun t L S h => am_E i_X8_refusalOf t L S h K) (fun np id aa L S h => am_M id aa h (fun r h1 => am_E i_X8_refusalOf np L (am_psh r S) h1 K)) K cd_X8_refusalOf L [] h)) : am_M i_X8_refusalOf aa h K := am_into cuts (q := me_X8_refusalOf) rfl rfl rfl hb
theorem b_X8_act (cuts : List Nat) {pc : Nat} {K : Option Value → AH → Prop} {L : AL} {S : List Value} {h : AH} (hb : am_blk cuts (fun t L S h => am_E i_X8_act t L S h K) (fun np id aa L S h => am_M id aa h (fun r h1 => am_E i_X8_act np L (am_psh r S) h1 K)) K (am_seek cd_X8_act pc) L S h) : am_E i_X8_act pc L S h K := am_run cuts (q := me_X8_act) rfl rfl hb
theorem e_X8_act (cuts : List Nat) {K : Option Value → AH → Prop} {aa : List Value} {h : AH} (hb : am_ent aa 3 (fun L => am_blk cuts (fun t L S h => am_E i_X8_act t L S h K) (fun np id aa L S h => am_M id aa h (fun r h1 => am_E i_X8_act np L (am_psh r S) h1 K)) K cd_X8_act L [] h)) : am_M i_X8_act aa h K := am_into cuts (q := me_X8_act) rfl rfl rfl hb
theorem b_X8_blowIn (cuts : List Nat) {pc : Nat} {K : Option Value → AH → Prop} {L : AL} {S : List Value} {h : AH} (hb : am_blk cuts (fun t L S h => am_E i_X8_blowIn t L S h K) (fun np id aa L S h => am_M id aa h (fun r h1 => am_E i_X8_blowIn np L (am_psh r S) h1 K)) K (am_seek cd_X8_blowIn pc) L S h) : am_E i_X8_blowIn pc L S h K := am_run cuts (q := me_X8_blowIn) rfl rfl hb
theorem e_X8_blowIn (cuts : List Nat) {K : Option Value → AH → Prop} {aa : List Value} {h : AH} (hb : am_ent aa 2 (fun L => am_blk cuts (fun t L S h => am_E i_X8_blowIn t L S h K) (fun np id aa L S h => am_M id aa h (fun r h1 => am_E i_X8_blowIn np L (am_psh r S) h1 K)) K cd_X8_blowIn L [] h)) : am_M i_X8_blowIn aa h K := am_into cuts (q := me_X8_blowIn) rfl rfl rfl hb
theorem b_X8_digit (cuts : List Nat) {pc : Nat} {K : Option Value → AH → Prop} {L : AL} {S : List Value} {h : AH} (hb : am_blk cuts (fun t L S h => am_E i_X8_digit t L S h K) (fun np id aa L S h => am_M id aa h (fun r h1 => am_E i_X8_digit np L (am_psh r S) h1 K)) K (am_seek cd_X8_digit pc) L S h) : am_E i_X8_digit pc L S h K := am_run cuts (q := me_X8_digit) rfl rfl hb
theorem e_X8_digit (cuts : List Nat) {K : Option Value → AH → Prop} {aa : List Value} {h : AH} (hb : am_ent aa 2 (fun L => am_blk cuts (fun t L S h => am_E i_X8_digit t L S h K) (fun np id aa L S h => am_M id aa h (fun r h1 => am_E i_X8_digit np L (am_psh r S) h1 K)) K cd_X8_digit L [] h)) : am_M i_X8_digit aa h K := am_into cuts (q := me_X8_digit) rfl rfl rfl hb
theorem b_X8_isDigit (cuts : List Nat) {pc : Nat} {K : Option Value → AH → Prop} {L : AL} {S : List Value} {h : AH} (hb : am_blk cuts (fun t L S h => am_E i_X8_isDigit t L S h K) (fun np id aa L S h => am_M id aa h (fun r h1 => am_E i_X8_isDigit np L (am_psh r S) h1 K)) K (am_seek cd_X8_isDigit pc) L S h) : am_E i_X8_isDigit pc L S h K := am_run cuts (q := me_X8_isDigit) rfl rfl hb
theorem e_X8_isDigit (cuts : List Nat) {K : Option Value → AH → Prop} {aa : List Value} {h : AH} (hb : am_ent aa 1 (fun L => am_blk cuts (fun t L S h => am_E i_X8_isDigit t L S h K) (fun np id aa L S h => am_M id aa h (fun r h1 => am_E i_X8_isDigit np L (am_psh r S) h1 K)) K cd_X8_isDigit L [] h)) : am_M i_X8_isDigit aa h K := am_into cuts (q := me_X8_isDigit) rfl rfl rfl hb
theorem b_X8_digitsBehind (cuts : List Nat) {pc : Nat} {K : Option Value → AH → Prop} {L : AL} {S : List Value} {h : AH} (hb : am_blk cuts (fun t L S h => am_E i_X8_digitsBehind t L S h K) (fun np id aa L S h => am_M id aa h (fun r h1 => am_E i_X8_digitsBehind np L (am_psh r S) h1 K)) K (am_seek cd_X8_digitsBehind pc) L S h) : am_E i_X8_digitsBehind pc L S h K := am_run cuts (q := me_X8_digitsBehind) rfl rfl hb
theorem e_X8_digitsBehind (cuts : List Nat) {K : Option Value → AH → Prop} {aa : List Value} {h : AH} (hb : am_ent aa 1 (fun L => am_blk cuts (fun t L S h => am_E i_X8_digitsBehind t L S h K) (fun np id aa L S h => am_M id aa h (fun r h1 => am_E i_X8_digitsBehind np L (am_psh r S) h1 K)) K cd_X8_digitsBehind L [] h)) : am_M i_X8_digitsBehind aa h K := am_into cuts (q := me_X8_digitsBehind) rfl rfl rfl hb
theorem b_X9_strike (cuts : List Nat) {pc : Nat} {K : Option Value → AH → Prop} {L : AL} {S : List Value} {h : AH} (hb : am_blk cuts (fun t L S h => am_E i_X9_strike t L S h K) (fun np id aa L S h => am_M id aa h (fun r h1 => am_E i_X9_strike np L (am_psh r S) h1 K)) K (am_seek cd_X9_strike pc) L S h) : am_E i_X9_strike pc L S h K := am_run cuts (q := me_X9_strike) rfl rfl hb
theorem e_X9_strike (cuts : List Nat) {K : Option Value → AH → Prop} {aa : List Value} {h : AH} (hb : am_ent aa 5 (fun L => am_blk cuts (fun t L S h => am_E i_X9_strike t L S h K) (fun np id aa L S h => am_M id aa h (fun r h1 => am_E i_X9_strike np L (am_psh r S) h1 K)) K cd_X9_strike L [] h)) : am_M i_X9_strike aa h K := am_into cuts (q := me_X9_strike) rfl rfl rfl hb
theorem b_X9_drop (cuts : List Nat) {pc : Nat} {K : Option Value → AH → Prop} {L : AL} {S : List Value} {h : AH} (hb : am_blk cuts (fun t L S h => am_E i_X9_drop t L S h K) (fun np id aa L S h => am_M id aa h (fun r h1 => am_E i_X9_drop np L (am_psh r S) h1 K)) K (am_seek cd_X9_drop pc) L S h) : am_E i_X9_drop pc L S h K := am_run cuts (q := me_X9_drop) rfl rfl hb
theorem e_X9_drop (cuts : List Nat) {K : Option Value → AH → Prop} {aa : List Value} {h : AH} (hb : am_ent aa 4 (fun L => am_blk cuts (fun t L S h => am_E i_X9_drop t L S h K) (fun np id aa L S h => am_M id aa h (fun r h1 => am_E i_X9_drop np L (am_psh r S) h1 K)) K cd_X9_drop L [] h)) : am_M i_X9_drop aa h K := am_into cuts (q := me_X9_drop) rfl rfl rfl hb
theorem b_X9_spread (cuts : List Nat) {pc : Nat} {K : Option Value → AH → Prop} {L : AL} {S : List Value} {h : AH} (hb : am_blk cuts (fun t L S h => am_E i_X9_spread t L S h K) (fun np id aa L S h => am_M id aa h (fun r h1 => am_E i_X9_spread np L (am_psh r S) h1 K)) K (am_seek cd_X9_spread pc) L S h) : am_E i_X9_spread pc L S h K := am_run cuts (q := me_X9_spread) rfl rfl hb
theorem e_X9_spread (cuts : List Nat) {K : Option Value → AH → Prop} {aa : List Value} {h : AH} (hb : am_ent aa 10 (fun L => am_blk cuts (fun t L S h => am_E i_X9_spread t L S h K) (fun np id aa L S h => am_M id aa h (fun r h1 => am_E i_X9_spread np L (am_psh r S) h1 K)) K cd_X9_spread L [] h)) : am_M i_X9_spread aa h K := am_into cuts (q := me_X9_spread) rfl rfl rfl hb
theorem b_X9_isHeardBy (cuts : List Nat) {pc : Nat} {K : Option Value → AH → Prop} {L : AL} {S : List Value} {h : AH} (hb : am_blk cuts (fun t L S h => am_E i_X9_isHeardBy t L S h K) (fun np id aa L S h => am_M id aa h (fun r h1 => am_E i_X9_isHeardBy np L (am_psh r S) h1 K)) K (am_seek cd_X9_isHeardBy pc) L S h) : am_E i_X9_isHeardBy pc L S h K := am_run cuts (q := me_X9_isHeardBy) rfl rfl hb
theorem e_X9_isHeardBy (cuts : List Nat) {K : Option Value → AH → Prop} {aa : List Value} {h : AH} (hb : am_ent aa 2 (fun L => am_blk cuts (fun t L S h => am_E i_X9_isHeardBy t L S h K) (fun np id aa L S h => am_M id aa h (fun r h1 => am_E i_X9_isHeardBy np L (am_psh r S) h1 K)) K cd_X9_isHeardBy L [] h)) : am_M i_X9_isHeardBy aa h K := am_into cuts (q := me_X9_isHeardBy) rfl rfl rfl hb
theorem b_X9_hasBroken (cuts : List Nat) {pc : Nat} {K : Option Value → AH → Prop} {L : AL} {S : List Value} {h : AH} (hb : am_blk cuts (fun t L S h => am_E i_X9_hasBroken t L S h K) (fun np id aa L S h => am_M id aa h (fun r h1 => am_E i_X9_hasBroken np L (am_psh r S) h1 K)) K (am_seek cd_X9_hasBroken pc) L S h) : am_E i_X9_hasBroken pc L S h K := am_run cuts (q := me_X9_hasBroken) rfl rfl hb
theorem e_X9_hasBroken (cuts : List Nat) {K : Option Value → AH → Prop} {aa : List Value} {h : AH} (hb : am_ent aa 2 (fun L => am_blk cuts (fun t L S h => am_E i_X9_hasBroken t L S h K) (fun np id aa L S h => am_M id aa h (fun r h1 => am_E i_X9_hasBroken np L (am_psh r S) h1 K)) K cd_X9_hasBroken L [] h)) : am_M i_X9_hasBroken aa h K := am_into cuts (q := me_X9_hasBroken) rfl rfl rfl hb
theorem b_X9_hearerCount (cuts : List Nat) {pc : Nat} {K : Option Value → AH → Prop} {L : AL} {S : List Value} {h : AH} (hb : am_blk cuts (fun t L S h => am_E i_X9_hearerCount t L S h K) (fun np id aa L S h => am_M id aa h (fun r h1 => am_E i_X9_hearerCount np L (am_psh r S) h1 K)) K (am_seek cd_X9_hearerCount pc) L S h) : am_E i_X9_hearerCount pc L S h K := am_run cuts (q := me_X9_hearerCount) rfl rfl hb
theorem e_X9_hearerCount (cuts : List Nat) {K : Option Value → AH → Prop} {aa : List Value} {h : AH} (hb : am_ent aa 1 (fun L => am_blk cuts (fun t L S h => am_E i_X9_hearerCount t L S h K) (fun np id aa L S h => am_M id aa h (fun r h1 => am_E i_X9_hearerCount np L (am_psh r S) h1 K)) K cd_X9_hearerCount L [] h)) : am_M i_X9_hearerCount aa h K := am_into cuts (q := me_X9_hearerCount) rfl rfl rfl hb
theorem b_X9_brokenCount (cuts : List Nat) {pc : Nat} {K : Option Value → AH → Prop} {L : AL} {S : List Value} {h : AH} (hb : am_blk cuts (fun t L S h => am_E i_X9_brokenCount t L S h K) (fun np id aa L S h => am_M id aa h (fun r h1 => am_E i_X9_brokenCount np L (am_psh r S) h1 K)) K (am_seek cd_X9_brokenCount pc) L S h) : am_E i_X9_brokenCount pc L S h K := am_run cuts (q := me_X9_brokenCount) rfl rfl hb
theorem e_X9_brokenCount (cuts : List Nat) {K : Option Value → AH → Prop} {aa : List Value} {h : AH} (hb : am_ent aa 1 (fun L => am_blk cuts (fun t L S h => am_E i_X9_brokenCount t L S h K) (fun np id aa L S h => am_M id aa h (fun r h1 => am_E i_X9_brokenCount np L (am_psh r S) h1 K)) K cd_X9_brokenCount L [] h)) : am_M i_X9_brokenCount aa h K := am_into cuts (q := me_X9_brokenCount) rfl rfl rfl hb
theorem b_X9_othersBroken (cuts : List Nat) {pc : Nat} {K : Option Value → AH → Prop} {L : AL} {S : List Value} {h : AH} (hb : am_blk cuts (fun t L S h => am_E i_X9_othersBroken t L S h K) (fun np id aa L S h => am_M id aa h (fun r h1 => am_E i_X9_othersBroken np L (am_psh r S) h1 K)) K (am_seek cd_X9_othersBroken pc) L S h) : am_E i_X9_othersBroken pc L S h K := am_run cuts (q := me_X9_othersBroken) rfl rfl hb
theorem e_X9_othersBroken (cuts : List Nat) {K : Option Value → AH → Prop} {aa : List Value} {h : AH} (hb : am_ent aa 2 (fun L => am_blk cuts (fun t L S h => am_E i_X9_othersBroken t L S h K) (fun np id aa L S h => am_M id aa h (fun r h1 => am_E i_X9_othersBroken np L (am_psh r S) h1 K)) K cd_X9_othersBroken L [] h)) : am_M i_X9_othersBroken aa h K := am_into cuts (q := me_X9_othersBroken) rfl rfl rfl hb
theorem b_X9_jumpIn (cuts : List Nat) {pc : Nat} {K : Option Value → AH → Prop} {L : AL} {S : List Value} {h : AH} (hb : am_blk cuts (fun t L S h => am_E i_X9_jumpIn t L S h K) (fun np id aa L S h => am_M id aa h (fun r h1 => am_E i_X9_jumpIn np L (am_psh r S) h1 K)) K (am_seek cd_X9_jumpIn pc) L S h) : am_E i_X9_jumpIn pc L S h K := am_run cuts (q := me_X9_jumpIn) rfl rfl hb
theorem e_X9_jumpIn (cuts : List Nat) {K : Option Value → AH → Prop} {aa : List Value} {h : AH} (hb : am_ent aa 3 (fun L => am_blk cuts (fun t L S h => am_E i_X9_jumpIn t L S h K) (fun np id aa L S h => am_M id aa h (fun r h1 => am_E i_X9_jumpIn np L (am_psh r S) h1 K)) K cd_X9_jumpIn L [] h)) : am_M i_X9_jumpIn aa h K := am_into cuts (q := me_X9_jumpIn) rfl rfl rfl hb
theorem b_X9_jumpsIn (cuts : List Nat) {pc : Nat} {K : Option Value → AH → Prop} {L : AL} {S : List Value} {h : AH} (hb : am_blk cuts (fun t L S h => am_E i_X9_jumpsIn t L S h K) (fun np id aa L S h => am_M id aa h (fun r h1 => am_E i_X9_jumpsIn np L (am_psh r S) h1 K)) K (am_seek cd_X9_jumpsIn pc) L S h) : am_E i_X9_jumpsIn pc L S h K := am_run cuts (q := me_X9_jumpsIn) rfl rfl hb
theorem e_X9_jumpsIn (cuts : List Nat) {K : Option Value → AH → Prop} {aa : List Value} {h : AH} (hb : am_ent aa 4 (fun L => am_blk cuts (fun t L S h => am_E i_X9_jumpsIn t L S h K) (fun np id aa L S h => am_M id aa h (fun r h1 => am_E i_X9_jumpsIn np L (am_psh r S) h1 K)) K cd_X9_jumpsIn L [] h)) : am_M i_X9_jumpsIn aa h K := am_into cuts (q := me_X9_jumpsIn) rfl rfl rfl hb
theorem b_X9_farthestIn (cuts : List Nat) {pc : Nat} {K : Option Value → AH → Prop} {L : AL} {S : List Value} {h : AH} (hb : am_blk cuts (fun t L S h => am_E i_X9_farthestIn t L S h K) (fun np id aa L S h => am_M id aa h (fun r h1 => am_E i_X9_farthestIn np L (am_psh r S) h1 K)) K (am_seek cd_X9_farthestIn pc) L S h) : am_E i_X9_farthestIn pc L S h K := am_run cuts (q := me_X9_farthestIn) rfl rfl hb
theorem e_X9_farthestIn (cuts : List Nat) {K : Option Value → AH → Prop} {aa : List Value} {h : AH} (hb : am_ent aa 7 (fun L => am_blk cuts (fun t L S h => am_E i_X9_farthestIn t L S h K) (fun np id aa L S h => am_M id aa h (fun r h1 => am_E i_X9_farthestIn np L (am_psh r S) h1 K)) K cd_X9_farthestIn L [] h)) : am_M i_X9_farthestIn aa h K := am_into cuts (q := me_X9_farthestIn) rfl rfl rfl hb
theorem b_X10_copy (cuts : List Nat) {pc : Nat} {K : Option Value → AH → Prop} {L : AL} {S : List Value} {h : AH} (hb : am_blk cuts (fun t L S h => am_E i_X10_copy t L S h K) (fun np id aa L S h => am_M id aa h (fun r h1 => am_E i_X10_copy np L (am_psh r S) h1 K)) K (am_seek cd_X10_copy pc) L S h) : am_E i_X10_copy pc L S h K := am_run cuts (q := me_X10_copy) rfl rfl hb
theorem e_X10_copy (cuts : List Nat) {K : Option Value → AH → Prop} {aa : List Value} {h : AH} (hb : am_ent aa 2 (fun L => am_blk cuts (fun t L S h => am_E i_X10_copy t L S h K) (fun np id aa L S h => am_M id aa h (fun r h1 => am_E i_X10_copy np L (am_psh r S) h1 K)) K cd_X10_copy L [] h)) : am_M i_X10_copy aa h K := am_into cuts (q := me_X10_copy) rfl rfl rfl hb
theorem b_X10_noThing (cuts : List Nat) {pc : Nat} {K : Option Value → AH → Prop} {L : AL} {S : List Value} {h : AH} (hb : am_blk cuts (fun t L S h => am_E i_X10_noThing t L S h K) (fun np id aa L S h => am_M id aa h (fun r h1 => am_E i_X10_noThing np L (am_psh r S) h1 K)) K (am_seek cd_X10_noThing pc) L S h) : am_E i_X10_noThing pc L S h K := am_run cuts (q := me_X10_noThing) rfl rfl hb
theorem e_X10_noThing (cuts : List Nat) {K : Option Value → AH → Prop} {aa : List Value} {h : AH} (hb : am_ent aa 2 (fun L => am_blk cuts (fun t L S h => am_E i_X10_noThing t L S h K) (fun np id aa L S h => am_M id aa h (fun r h1 => am_E i_X10_noThing np L (am_psh r S) h1 K)) K cd_X10_noThing L [] h)) : am_M i_X10_noThing aa h K := am_into cuts (q := me_X10_noThing) rfl rfl rfl hb
theorem b_X10_noLink (cuts : List Nat) {pc : Nat} {K : Option Value → AH → Prop} {L : AL} {S : List Value} {h : AH} (hb : am_blk cuts (fun t L S h => am_E i_X10_noLink t L S h K) (fun np id aa L S h => am_M id aa h (fun r h1 => am_E i_X10_noLink np L (am_psh r S) h1 K)) K (am_seek cd_X10_noLink pc) L S h) : am_E i_X10_noLink pc L S h K := am_run cuts (q := me_X10_noLink) rfl rfl hb
theorem e_X10_noLink (cuts : List Nat) {K : Option Value → AH → Prop} {aa : List Value} {h : AH} (hb : am_ent aa 2 (fun L => am_blk cuts (fun t L S h => am_E i_X10_noLink t L S h K) (fun np id aa L S h => am_M id aa h (fun r h1 => am_E i_X10_noLink np L (am_psh r S) h1 K)) K cd_X10_noLink L [] h)) : am_M i_X10_noLink aa h K := am_into cuts (q := me_X10_noLink) rfl rfl rfl hb
theorem b_X10_joinRefusal (cuts : List Nat) {pc : Nat} {K : Option Value → AH → Prop} {L : AL} {S : List Value} {h : AH} (hb : am_blk cuts (fun t L S h => am_E i_X10_joinRefusal t L S h K) (fun np id aa L S h => am_M id aa h (fun r h1 => am_E i_X10_joinRefusal np L (am_psh r S) h1 K)) K (am_seek cd_X10_joinRefusal pc) L S h) : am_E i_X10_joinRefusal pc L S h K := am_run cuts (q := me_X10_joinRefusal) rfl rfl hb
theorem e_X10_joinRefusal (cuts : List Nat) {K : Option Value → AH → Prop} {aa : List Value} {h : AH} (hb : am_ent aa 5 (fun L => am_blk cuts (fun t L S h => am_E i_X10_joinRefusal t L S h K) (fun np id aa L S h => am_M id aa h (fun r h1 => am_E i_X10_joinRefusal np L (am_psh r S) h1 K)) K cd_X10_joinRefusal L [] h)) : am_M i_X10_joinRefusal aa h K := am_into cuts (q := me_X10_joinRefusal) rfl rfl rfl hb
theorem b_X10_dropRefusal (cuts : List Nat) {pc : Nat} {K : Option Value → AH → Prop} {L : AL} {S : List Value} {h : AH} (hb : am_blk cuts (fun t L S h => am_E i_X10_dropRefusal t L S h K) (fun np id aa L S h => am_M id aa h (fun r h1 => am_E i_X10_dropRefusal np L (am_psh r S) h1 K)) K (am_seek cd_X10_dropRefusal pc) L S h) : am_E i_X10_dropRefusal pc L S h K := am_run cuts (q := me_X10_dropRefusal) rfl rfl hb
theorem e_X10_dropRefusal (cuts : List Nat) {K : Option Value → AH → Prop} {aa : List Value} {h : AH} (hb : am_ent aa 4 (fun L => am_blk cuts (fun t L S h => am_E i_X10_dropRefusal t L S h K) (fun np id aa L S h => am_M id aa h (fun r h1 => am_E i_X10_dropRefusal np L (am_psh r S) h1 K)) K cd_X10_dropRefusal L [] h)) : am_M i_X10_dropRefusal aa h K := am_into cuts (q := me_X10_dropRefusal) rfl rfl rfl hb
theorem b_X10_mendRefusal (cuts : List Nat) {pc : Nat} {K : Option Value → AH → Prop} {L : AL} {S : List Value} {h : AH} (hb : am_blk cuts (fun t L S h => am_E i_X10_mendRefusal t L S h K) (fun np id aa L S h => am_M id aa h (fun r h1 => am_E i_X10_mendRefusal np L (am_psh r S) h1 K)) K (am_seek cd_X10_mendRefusal pc) L S h) : am_E i_X10_mendRefusal pc L S h K := am_run cuts (q := me_X10_mendRefusal) rfl rfl hb
theorem e_X10_mendRefusal (cuts : List Nat) {K : Option Value → AH → Prop} {aa : List Value} {h : AH} (hb : am_ent aa 3 (fun L => am_blk cuts (fun t L S h => am_E i_X10_mendRefusal t L S h K) (fun np id aa L S h => am_M id aa h (fun r h1 => am_E i_X10_mendRefusal np L (am_psh r S) h1 K)) K cd_X10_mendRefusal L [] h)) : am_M i_X10_mendRefusal aa h K := am_into cuts (q := me_X10_mendRefusal) rfl rfl rfl hb
theorem b_X10_changeRefusal (cuts : List Nat) {pc : Nat} {K : Option Value → AH → Prop} {L : AL} {S : List Value} {h : AH} (hb : am_blk cuts (fun t L S h => am_E i_X10_changeRefusal t L S h K) (fun np id aa L S h => am_M id aa h (fun r h1 => am_E i_X10_changeRefusal np L (am_psh r S) h1 K)) K (am_seek cd_X10_changeRefusal pc) L S h) : am_E i_X10_changeRefusal pc L S h K := am_run cuts (q := me_X10_changeRefusal) rfl rfl hb
theorem e_X10_changeRefusal (cuts : List Nat) {K : Option Value → AH → Prop} {aa : List Value} {h : AH} (hb : am_ent aa 4 (fun L => am_blk cuts (fun t L S h => am_E i_X10_changeRefusal t L S h K) (fun np id aa L S h => am_M id aa h (fun r h1 => am_E i_X10_changeRefusal np L (am_psh r S) h1 K)) K cd_X10_changeRefusal L [] h)) : am_M i_X10_changeRefusal aa h K := am_into cuts (q := me_X10_changeRefusal) rfl rfl rfl hb
theorem b_X10_join (cuts : List Nat) {pc : Nat} {K : Option Value → AH → Prop} {L : AL} {S : List Value} {h : AH} (hb : am_blk cuts (fun t L S h => am_E i_X10_join t L S h K) (fun np id aa L S h => am_M id aa h (fun r h1 => am_E i_X10_join np L (am_psh r S) h1 K)) K (am_seek cd_X10_join pc) L S h) : am_E i_X10_join pc L S h K := am_run cuts (q := me_X10_join) rfl rfl hb
theorem e_X10_join (cuts : List Nat) {K : Option Value → AH → Prop} {aa : List Value} {h : AH} (hb : am_ent aa 5 (fun L => am_blk cuts (fun t L S h => am_E i_X10_join t L S h K) (fun np id aa L S h => am_M id aa h (fun r h1 => am_E i_X10_join np L (am_psh r S) h1 K)) K cd_X10_join L [] h)) : am_M i_X10_join aa h K := am_into cuts (q := me_X10_join) rfl rfl rfl hb
theorem b_X10_mend (cuts : List Nat) {pc : Nat} {K : Option Value → AH → Prop} {L : AL} {S : List Value} {h : AH} (hb : am_blk cuts (fun t L S h => am_E i_X10_mend t L S h K) (fun np id aa L S h => am_M id aa h (fun r h1 => am_E i_X10_mend np L (am_psh r S) h1 K)) K (am_seek cd_X10_mend pc) L S h) : am_E i_X10_mend pc L S h K := am_run cuts (q := me_X10_mend) rfl rfl hb
theorem e_X10_mend (cuts : List Nat) {K : Option Value → AH → Prop} {aa : List Value} {h : AH} (hb : am_ent aa 2 (fun L => am_blk cuts (fun t L S h => am_E i_X10_mend t L S h K) (fun np id aa L S h => am_M id aa h (fun r h1 => am_E i_X10_mend np L (am_psh r S) h1 K)) K cd_X10_mend L [] h)) : am_M i_X10_mend aa h K := am_into cuts (q := me_X10_mend) rfl rfl rfl hb
theorem b_X10_turnCut (cuts : List Nat) {pc : Nat} {K : Option Value → AH → Prop} {L : AL} {S : List Value} {h : AH} (hb : am_blk cuts (fun t L S h => am_E i_X10_turnCut t L S h K) (fun np id aa L S h => am_M id aa h (fun r h1 => am_E i_X10_turnCut np L (am_psh r S) h1 K)) K (am_seek cd_X10_turnCut pc) L S h) : am_E i_X10_turnCut pc L S h K := am_run cuts (q := me_X10_turnCut) rfl rfl hb
theorem e_X10_turnCut (cuts : List Nat) {K : Option Value → AH → Prop} {aa : List Value} {h : AH} (hb : am_ent aa 2 (fun L => am_blk cuts (fun t L S h => am_E i_X10_turnCut t L S h K) (fun np id aa L S h => am_M id aa h (fun r h1 => am_E i_X10_turnCut np L (am_psh r S) h1 K)) K cd_X10_turnCut L [] h)) : am_M i_X10_turnCut aa h K := am_into cuts (q := me_X10_turnCut) rfl rfl rfl hb
theorem b_X10_exchange (cuts : List Nat) {pc : Nat} {K : Option Value → AH → Prop} {L : AL} {S : List Value} {h : AH} (hb : am_blk cuts (fun t L S h => am_E i_X10_exchange t L S h K) (fun np id aa L S h => am_M id aa h (fun r h1 => am_E i_X10_exchange np L (am_psh r S) h1 K)) K (am_seek cd_X10_exchange pc) L S h) : am_E i_X10_exchange pc L S h K := am_run cuts (q := me_X10_exchange) rfl rfl hb
theorem e_X10_exchange (cuts : List Nat) {K : Option Value → AH → Prop} {aa : List Value} {h : AH} (hb : am_ent aa 4 (fun L => am_blk cuts (fun t L S h => am_E i_X10_exchange t L S h K) (fun np id aa L S h => am_M id aa h (fun r h1 => am_E i_X10_exchange np L (am_psh r S) h1 K)) K cd_X10_exchange L [] h)) : am_M i_X10_exchange aa h K := am_into cuts (q := me_X10_exchange) rfl rfl rfl hb
theorem b_X10_isBroken (cuts : List Nat) {pc : Nat} {K : Option Value → AH → Prop} {L : AL} {S : List Value} {h : AH} (hb : am_blk cuts (fun t L S h => am_E i_X10_isBroken t L S h K) (fun np id aa L S h => am_M id aa h (fun r h1 => am_E i_X10_isBroken np L (am_psh r S) h1 K)) K (am_seek cd_X10_isBroken pc) L S h) : am_E i_X10_isBroken pc L S h K := am_run cuts (q := me_X10_isBroken) rfl rfl hb
theorem e_X10_isBroken (cuts : List Nat) {K : Option Value → AH → Prop} {aa : List Value} {h : AH} (hb : am_ent aa 2 (fun L => am_blk cuts (fun t L S h => am_E i_X10_isBroken t L S h K) (fun np id aa L S h => am_M id aa h (fun r h1 => am_E i_X10_isBroken np L (am_psh r S) h1 K)) K cd_X10_isBroken L [] h)) : am_M i_X10_isBroken aa h K := am_into cuts (q := me_X10_isBroken) rfl rfl rfl hb
theorem b_X10_isCut (cuts : List Nat) {pc : Nat} {K : Option Value → AH → Prop} {L : AL} {S : List Value} {h : AH} (hb : am_blk cuts (fun t L S h => am_E i_X10_isCut t L S h K) (fun np id aa L S h => am_M id aa h (fun r h1 => am_E i_X10_isCut np L (am_psh r S) h1 K)) K (am_seek cd_X10_isCut pc) L S h) : am_E i_X10_isCut pc L S h K := am_run cuts (q := me_X10_isCut) rfl rfl hb
theorem e_X10_isCut (cuts : List Nat) {K : Option Value → AH → Prop} {aa : List Value} {h : AH} (hb : am_ent aa 2 (fun L => am_blk cuts (fun t L S h => am_E i_X10_isCut t L S h K) (fun np id aa L S h => am_M id aa h (fun r h1 => am_E i_X10_isCut np L (am_psh r S) h1 K)) K cd_X10_isCut L [] h)) : am_M i_X10_isCut aa h K := am_into cuts (q := me_X10_isCut) rfl rfl rfl hb
theorem b_X10_wholeBits (cuts : List Nat) {pc : Nat} {K : Option Value → AH → Prop} {L : AL} {S : List Value} {h : AH} (hb : am_blk cuts (fun t L S h => am_E i_X10_wholeBits t L S h K) (fun np id aa L S h => am_M id aa h (fun r h1 => am_E i_X10_wholeBits np L (am_psh r S) h1 K)) K (am_seek cd_X10_wholeBits pc) L S h) : am_E i_X10_wholeBits pc L S h K := am_run cuts (q := me_X10_wholeBits) rfl rfl hb
theorem e_X10_wholeBits (cuts : List Nat) {K : Option Value → AH → Prop} {aa : List Value} {h : AH} (hb : am_ent aa 1 (fun L => am_blk cuts (fun t L S h => am_E i_X10_wholeBits t L S h K) (fun np id aa L S h => am_M id aa h (fun r h1 => am_E i_X10_wholeBits np L (am_psh r S) h1 K)) K cd_X10_wholeBits L [] h)) : am_M i_X10_wholeBits aa h K := am_into cuts (q := me_X10_wholeBits) rfl rfl rfl hb
theorem b_X10_allLoss (cuts : List Nat) {pc : Nat} {K : Option Value → AH → Prop} {L : AL} {S : List Value} {h : AH} (hb : am_blk cuts (fun t L S h => am_E i_X10_allLoss t L S h K) (fun np id aa L S h => am_M id aa h (fun r h1 => am_E i_X10_allLoss np L (am_psh r S) h1 K)) K (am_seek cd_X10_allLoss pc) L S h) : am_E i_X10_allLoss pc L S h K := am_run cuts (q := me_X10_allLoss) rfl rfl hb
theorem e_X10_allLoss (cuts : List Nat) {K : Option Value → AH → Prop} {aa : List Value} {h : AH} (hb : am_ent aa 3 (fun L => am_blk cuts (fun t L S h => am_E i_X10_allLoss t L S h K) (fun np id aa L S h => am_M id aa h (fun r h1 => am_E i_X10_allLoss np L (am_psh r S) h1 K)) K cd_X10_allLoss L [] h)) : am_M i_X10_allLoss aa h K := am_into cuts (q := me_X10_allLoss) rfl rfl rfl hb
theorem b_X10_nextWhole (cuts : List Nat) {pc : Nat} {K : Option Value → AH → Prop} {L : AL} {S : List Value} {h : AH} (hb : am_blk cuts (fun t L S h => am_E i_X10_nextWhole t L S h K) (fun np id aa L S h => am_M id aa h (fun r h1 => am_E i_X10_nextWhole np L (am_psh r S) h1 K)) K (am_seek cd_X10_nextWhole pc) L S h) : am_E i_X10_nextWhole pc L S h K := am_run cuts (q := me_X10_nextWhole) rfl rfl hb
theorem e_X10_nextWhole (cuts : List Nat) {K : Option Value → AH → Prop} {aa : List Value} {h : AH} (hb : am_ent aa 4 (fun L => am_blk cuts (fun t L S h => am_E i_X10_nextWhole t L S h K) (fun np id aa L S h => am_M id aa h (fun r h1 => am_E i_X10_nextWhole np L (am_psh r S) h1 K)) K cd_X10_nextWhole L [] h)) : am_M i_X10_nextWhole aa h K := am_into cuts (q := me_X10_nextWhole) rfl rfl rfl hb
theorem b_X10_wayOver (cuts : List Nat) {pc : Nat} {K : Option Value → AH → Prop} {L : AL} {S : List Value} {h : AH} (hb : am_blk cuts (fun t L S h => am_E i_X10_wayOver t L S h K) (fun np id aa L S h => am_M id aa h (fun r h1 => am_E i_X10_wayOver np L (am_psh r S) h1 K)) K (am_seek cd_X10_wayOver pc) L S h) : am_E i_X10_wayOver pc L S h K := am_run cuts (q := me_X10_wayOver) rfl rfl hb
theorem e_X10_wayOver (cuts : List Nat) {K : Option Value → AH → Prop} {aa : List Value} {h : AH} (hb : am_ent aa 2 (fun L => am_blk cuts (fun t L S h => am_E i_X10_wayOver t L S h K) (fun np id aa L S h => am_M id aa h (fun r h1 => am_E i_X10_wayOver np L (am_psh r S) h1 K)) K cd_X10_wayOver L [] h)) : am_M i_X10_wayOver aa h K := am_into cuts (q := me_X10_wayOver) rfl rfl rfl hb
theorem b_X10_walkLength (cuts : List Nat) {pc : Nat} {K : Option Value → AH → Prop} {L : AL} {S : List Value} {h : AH} (hb : am_blk cuts (fun t L S h => am_E i_X10_walkLength t L S h K) (fun np id aa L S h => am_M id aa h (fun r h1 => am_E i_X10_walkLength np L (am_psh r S) h1 K)) K (am_seek cd_X10_walkLength pc) L S h) : am_E i_X10_walkLength pc L S h K := am_run cuts (q := me_X10_walkLength) rfl rfl hb
theorem e_X10_walkLength (cuts : List Nat) {K : Option Value → AH → Prop} {aa : List Value} {h : AH} (hb : am_ent aa 3 (fun L => am_blk cuts (fun t L S h => am_E i_X10_walkLength t L S h K) (fun np id aa L S h => am_M id aa h (fun r h1 => am_E i_X10_walkLength np L (am_psh r S) h1 K)) K cd_X10_walkLength L [] h)) : am_M i_X10_walkLength aa h K := am_into cuts (q := me_X10_walkLength) rfl rfl rfl hb
theorem b_X10_stretches (cuts : List Nat) {pc : Nat} {K : Option Value → AH → Prop} {L : AL} {S : List Value} {h : AH} (hb : am_blk cuts (fun t L S h => am_E i_X10_stretches t L S h K) (fun np id aa L S h => am_M id aa h (fun r h1 => am_E i_X10_stretches np L (am_psh r S) h1 K)) K (am_seek cd_X10_stretches pc) L S h) : am_E i_X10_stretches pc L S h K := am_run cuts (q := me_X10_stretches) rfl rfl hb
theorem e_X10_stretches (cuts : List Nat) {K : Option Value → AH → Prop} {aa : List Value} {h : AH} (hb : am_ent aa 5 (fun L => am_blk cuts (fun t L S h => am_E i_X10_stretches t L S h K) (fun np id aa L S h => am_M id aa h (fun r h1 => am_E i_X10_stretches np L (am_psh r S) h1 K)) K cd_X10_stretches L [] h)) : am_M i_X10_stretches aa h K := am_into cuts (q := me_X10_stretches) rfl rfl rfl hb
theorem b_X10_layInTurnUncut (cuts : List Nat) {pc : Nat} {K : Option Value → AH → Prop} {L : AL} {S : List Value} {h : AH} (hb : am_blk cuts (fun t L S h => am_E i_X10_layInTurnUncut t L S h K) (fun np id aa L S h => am_M id aa h (fun r h1 => am_E i_X10_layInTurnUncut np L (am_psh r S) h1 K)) K (am_seek cd_X10_layInTurnUncut pc) L S h) : am_E i_X10_layInTurnUncut pc L S h K := am_run cuts (q := me_X10_layInTurnUncut) rfl rfl hb
theorem e_X10_layInTurnUncut (cuts : List Nat) {K : Option Value → AH → Prop} {aa : List Value} {h : AH} (hb : am_ent aa 2 (fun L => am_blk cuts (fun t L S h => am_E i_X10_layInTurnUncut t L S h K) (fun np id aa L S h => am_M id aa h (fun r h1 => am_E i_X10_layInTurnUncut np L (am_psh r S) h1 K)) K cd_X10_layInTurnUncut L [] h)) : am_M i_X10_layInTurnUncut aa h K := am_into cuts (q := me_X10_layInTurnUncut) rfl rfl rfl hb
theorem b_X10_layNextOrder (cuts : List Nat) {pc : Nat} {K : Option Value → AH → Prop} {L : AL} {S : List Value} {h : AH} (hb : am_blk cuts (fun t L S h => am_E i_X10_layNextOrder t L S h K) (fun np id aa L S h => am_M id aa h (fun r h1 => am_E i_X10_layNextOrder np L (am_psh r S) h1 K)) K (am_seek cd_X10_layNextOrder pc) L S h) : am_E i_X10_layNextOrder pc L S h K := am_run cuts (q := me_X10_layNextOrder) rfl rfl hb
theorem e_X10_layNextOrder (cuts : List Nat) {K : Option Value → AH → Prop} {aa : List Value} {h : AH} (hb : am_ent aa 5 (fun L => am_blk cuts (fun t L S h => am_E i_X10_layNextOrder t L S h K) (fun np id aa L S h => am_M id aa h (fun r h1 => am_E i_X10_layNextOrder np L (am_psh r S) h1 K)) K cd_X10_layNextOrder L [] h)) : am_M i_X10_layNextOrder aa h K := am_into cuts (q := me_X10_layNextOrder) rfl rfl rfl hb
theorem b_X11_feed (cuts : List Nat) {pc : Nat} {K : Option Value → AH → Prop} {L : AL} {S : List Value} {h : AH} (hb : am_blk cuts (fun t L S h => am_E i_X11_feed t L S h K) (fun np id aa L S h => am_M id aa h (fun r h1 => am_E i_X11_feed np L (am_psh r S) h1 K)) K (am_seek cd_X11_feed pc) L S h) : am_E i_X11_feed pc L S h K := am_run cuts (q := me_X11_feed) rfl rfl hb
theorem e_X11_feed (cuts : List Nat) {K : Option Value → AH → Prop} {aa : List Value} {h : AH} (hb : am_ent aa 3 (fun L => am_blk cuts (fun t L S h => am_E i_X11_feed t L S h K) (fun np id aa L S h => am_M id aa h (fun r h1 => am_E i_X11_feed np L (am_psh r S) h1 K)) K cd_X11_feed L [] h)) : am_M i_X11_feed aa h K := am_into cuts (q := me_X11_feed) rfl rfl rfl hb
theorem b_X11_valley (cuts : List Nat) {pc : Nat} {K : Option Value → AH → Prop} {L : AL} {S : List Value} {h : AH} (hb : am_blk cuts (fun t L S h => am_E i_X11_valley t L S h K) (fun np id aa L S h => am_M id aa h (fun r h1 => am_E i_X11_valley np L (am_psh r S) h1 K)) K (am_seek cd_X11_valley pc) L S h) : am_E i_X11_valley pc L S h K := am_run cuts (q := me_X11_valley) rfl rfl hb
theorem e_X11_valley (cuts : List Nat) {K : Option Value → AH → Prop} {aa : List Value} {h : AH} (hb : am_ent aa 3 (fun L => am_blk cuts (fun t L S h => am_E i_X11_valley t L S h K) (fun np id aa L S h => am_M id aa h (fun r h1 => am_E i_X11_valley np L (am_psh r S) h1 K)) K cd_X11_valley L [] h)) : am_M i_X11_valley aa h K := am_into cuts (q := me_X11_valley) rfl rfl rfl hb
theorem b_X11_thingOf (cuts : List Nat) {pc : Nat} {K : Option Value → AH → Prop} {L : AL} {S : List Value} {h : AH} (hb : am_blk cuts (fun t L S h => am_E i_X11_thingOf t L S h K) (fun np id aa L S h => am_M id aa h (fun r h1 => am_E i_X11_thingOf np L (am_psh r S) h1 K)) K (am_seek cd_X11_thingOf pc) L S h) : am_E i_X11_thingOf pc L S h K := am_run cuts (q := me_X11_thingOf) rfl rfl hb
theorem e_X11_thingOf (cuts : List Nat) {K : Option Value → AH → Prop} {aa : List Value} {h : AH} (hb : am_ent aa 4 (fun L => am_blk cuts (fun t L S h => am_E i_X11_thingOf t L S h K) (fun np id aa L S h => am_M id aa h (fun r h1 => am_E i_X11_thingOf np L (am_psh r S) h1 K)) K cd_X11_thingOf L [] h)) : am_M i_X11_thingOf aa h K := am_into cuts (q := me_X11_thingOf) rfl rfl rfl hb
theorem b_X11_place (cuts : List Nat) {pc : Nat} {K : Option Value → AH → Prop} {L : AL} {S : List Value} {h : AH} (hb : am_blk cuts (fun t L S h => am_E i_X11_place t L S h K) (fun np id aa L S h => am_M id aa h (fun r h1 => am_E i_X11_place np L (am_psh r S) h1 K)) K (am_seek cd_X11_place pc) L S h) : am_E i_X11_place pc L S h K := am_run cuts (q := me_X11_place) rfl rfl hb
theorem e_X11_place (cuts : List Nat) {K : Option Value → AH → Prop} {aa : List Value} {h : AH} (hb : am_ent aa 4 (fun L => am_blk cuts (fun t L S h => am_E i_X11_place t L S h K) (fun np id aa L S h => am_M id aa h (fun r h1 => am_E i_X11_place np L (am_psh r S) h1 K)) K cd_X11_place L [] h)) : am_M i_X11_place aa h K := am_into cuts (q := me_X11_place) rfl rfl rfl hb
theorem b_X11_thing (cuts : List Nat) {pc : Nat} {K : Option Value → AH → Prop} {L : AL} {S : List Value} {h : AH} (hb : am_blk cuts (fun t L S h => am_E i_X11_thing t L S h K) (fun np id aa L S h => am_M id aa h (fun r h1 => am_E i_X11_thing np L (am_psh r S) h1 K)) K (am_seek cd_X11_thing pc) L S h) : am_E i_X11_thing pc L S h K := am_run cuts (q := me_X11_thing) rfl rfl hb
theorem e_X11_thing (cuts : List Nat) {K : Option Value → AH → Prop} {aa : List Value} {h : AH} (hb : am_ent aa 5 (fun L => am_blk cuts (fun t L S h => am_E i_X11_thing t L S h K) (fun np id aa L S h => am_M id aa h (fun r h1 => am_E i_X11_thing np L (am_psh r S) h1 K)) K cd_X11_thing L [] h)) : am_M i_X11_thing aa h K := am_into cuts (q := me_X11_thing) rfl rfl rfl hb
theorem b_X11_drops (cuts : List Nat) {pc : Nat} {K : Option Value → AH → Prop} {L : AL} {S : List Value} {h : AH} (hb : am_blk cuts (fun t L S h => am_E i_X11_drops t L S h K) (fun np id aa L S h => am_M id aa h (fun r h1 => am_E i_X11_drops np L (am_psh r S) h1 K)) K (am_seek cd_X11_drops pc) L S h) : am_E i_X11_drops pc L S h K := am_run cuts (q := me_X11_drops) rfl rfl hb
theorem e_X11_drops (cuts : List Nat) {K : Option Value → AH → Prop} {aa : List Value} {h : AH} (hb : am_ent aa 4 (fun L => am_blk cuts (fun t L S h => am_E i_X11_drops t L S h K) (fun np id aa L S h => am_M id aa h (fun r h1 => am_E i_X11_drops np L (am_psh r S) h1 K)) K cd_X11_drops L [] h)) : am_M i_X11_drops aa h K := am_into cuts (q := me_X11_drops) rfl rfl rfl hb
theorem b_X11_mends (cuts : List Nat) {pc : Nat} {K : Option Value → AH → Prop} {L : AL} {S : List Value} {h : AH} (hb : am_blk cuts (fun t L S h => am_E i_X11_mends t L S h K) (fun np id aa L S h => am_M id aa h (fun r h1 => am_E i_X11_mends np L (am_psh r S) h1 K)) K (am_seek cd_X11_mends pc) L S h) : am_E i_X11_mends pc L S h K := am_run cuts (q := me_X11_mends) rfl rfl hb
theorem e_X11_mends (cuts : List Nat) {K : Option Value → AH → Prop} {aa : List Value} {h : AH} (hb : am_ent aa 3 (fun L => am_blk cuts (fun t L S h => am_E i_X11_mends t L S h K) (fun np id aa L S h => am_M id aa h (fun r h1 => am_E i_X11_mends np L (am_psh r S) h1 K)) K cd_X11_mends L [] h)) : am_M i_X11_mends aa h K := am_into cuts (q := me_X11_mends) rfl rfl rfl hb
theorem b_X11_cuts (cuts : List Nat) {pc : Nat} {K : Option Value → AH → Prop} {L : AL} {S : List Value} {h : AH} (hb : am_blk cuts (fun t L S h => am_E i_X11_cuts t L S h K) (fun np id aa L S h => am_M id aa h (fun r h1 => am_E i_X11_cuts np L (am_psh r S) h1 K)) K (am_seek cd_X11_cuts pc) L S h) : am_E i_X11_cuts pc L S h K := am_run cuts (q := me_X11_cuts) rfl rfl hb
theorem e_X11_cuts (cuts : List Nat) {K : Option Value → AH → Prop} {aa : List Value} {h : AH} (hb : am_ent aa 3 (fun L => am_blk cuts (fun t L S h => am_E i_X11_cuts t L S h K) (fun np id aa L S h => am_M id aa h (fun r h1 => am_E i_X11_cuts np L (am_psh r S) h1 K)) K cd_X11_cuts L [] h)) : am_M i_X11_cuts aa h K := am_into cuts (q := me_X11_cuts) rfl rfl rfl hb
theorem b_X11_changes (cuts : List Nat) {pc : Nat} {K : Option Value → AH → Prop} {L : AL} {S : List Value} {h : AH} (hb : am_blk cuts (fun t L S h => am_E i_X11_changes t L S h K) (fun np id aa L S h => am_M id aa h (fun r h1 => am_E i_X11_changes np L (am_psh r S) h1 K)) K (am_seek cd_X11_changes pc) L S h) : am_E i_X11_changes pc L S h K := am_run cuts (q := me_X11_changes) rfl rfl hb
theorem e_X11_changes (cuts : List Nat) {K : Option Value → AH → Prop} {aa : List Value} {h : AH} (hb : am_ent aa 4 (fun L => am_blk cuts (fun t L S h => am_E i_X11_changes t L S h K) (fun np id aa L S h => am_M id aa h (fun r h1 => am_E i_X11_changes np L (am_psh r S) h1 K)) K cd_X11_changes L [] h)) : am_M i_X11_changes aa h K := am_into cuts (q := me_X11_changes) rfl rfl rfl hb
theorem b_X11_back (cuts : List Nat) {pc : Nat} {K : Option Value → AH → Prop} {L : AL} {S : List Value} {h : AH} (hb : am_blk cuts (fun t L S h => am_E i_X11_back t L S h K) (fun np id aa L S h => am_M id aa h (fun r h1 => am_E i_X11_back np L (am_psh r S) h1 K)) K (am_seek cd_X11_back pc) L S h) : am_E i_X11_back pc L S h K := am_run cuts (q := me_X11_back) rfl rfl hb
theorem e_X11_back (cuts : List Nat) {K : Option Value → AH → Prop} {aa : List Value} {h : AH} (hb : am_ent aa 1 (fun L => am_blk cuts (fun t L S h => am_E i_X11_back t L S h K) (fun np id aa L S h => am_M id aa h (fun r h1 => am_E i_X11_back np L (am_psh r S) h1 K)) K cd_X11_back L [] h)) : am_M i_X11_back aa h K := am_into cuts (q := me_X11_back) rfl rfl rfl hb
theorem b_X11_gets (cuts : List Nat) {pc : Nat} {K : Option Value → AH → Prop} {L : AL} {S : List Value} {h : AH} (hb : am_blk cuts (fun t L S h => am_E i_X11_gets t L S h K) (fun np id aa L S h => am_M id aa h (fun r h1 => am_E i_X11_gets np L (am_psh r S) h1 K)) K (am_seek cd_X11_gets pc) L S h) : am_E i_X11_gets pc L S h K := am_run cuts (q := me_X11_gets) rfl rfl hb
theorem e_X11_gets (cuts : List Nat) {K : Option Value → AH → Prop} {aa : List Value} {h : AH} (hb : am_ent aa 6 (fun L => am_blk cuts (fun t L S h => am_E i_X11_gets t L S h K) (fun np id aa L S h => am_M id aa h (fun r h1 => am_E i_X11_gets np L (am_psh r S) h1 K)) K cd_X11_gets L [] h)) : am_M i_X11_gets aa h K := am_into cuts (q := me_X11_gets) rfl rfl rfl hb
theorem b_X11_blow (cuts : List Nat) {pc : Nat} {K : Option Value → AH → Prop} {L : AL} {S : List Value} {h : AH} (hb : am_blk cuts (fun t L S h => am_E i_X11_blow t L S h K) (fun np id aa L S h => am_M id aa h (fun r h1 => am_E i_X11_blow np L (am_psh r S) h1 K)) K (am_seek cd_X11_blow pc) L S h) : am_E i_X11_blow pc L S h K := am_run cuts (q := me_X11_blow) rfl rfl hb
theorem e_X11_blow (cuts : List Nat) {K : Option Value → AH → Prop} {aa : List Value} {h : AH} (hb : am_ent aa 5 (fun L => am_blk cuts (fun t L S h => am_E i_X11_blow t L S h K) (fun np id aa L S h => am_M id aa h (fun r h1 => am_E i_X11_blow np L (am_psh r S) h1 K)) K cd_X11_blow L [] h)) : am_M i_X11_blow aa h K := am_into cuts (q := me_X11_blow) rfl rfl rfl hb
theorem b_X11_reaches (cuts : List Nat) {pc : Nat} {K : Option Value → AH → Prop} {L : AL} {S : List Value} {h : AH} (hb : am_blk cuts (fun t L S h => am_E i_X11_reaches t L S h K) (fun np id aa L S h => am_M id aa h (fun r h1 => am_E i_X11_reaches np L (am_psh r S) h1 K)) K (am_seek cd_X11_reaches pc) L S h) : am_E i_X11_reaches pc L S h K := am_run cuts (q := me_X11_reaches) rfl rfl hb
theorem e_X11_reaches (cuts : List Nat) {K : Option Value → AH → Prop} {aa : List Value} {h : AH} (hb : am_ent aa 4 (fun L => am_blk cuts (fun t L S h => am_E i_X11_reaches t L S h K) (fun np id aa L S h => am_M id aa h (fun r h1 => am_E i_X11_reaches np L (am_psh r S) h1 K)) K cd_X11_reaches L [] h)) : am_M i_X11_reaches aa h K := am_into cuts (q := me_X11_reaches) rfl rfl rfl hb
theorem b_X11_breaks (cuts : List Nat) {pc : Nat} {K : Option Value → AH → Prop} {L : AL} {S : List Value} {h : AH} (hb : am_blk cuts (fun t L S h => am_E i_X11_breaks t L S h K) (fun np id aa L S h => am_M id aa h (fun r h1 => am_E i_X11_breaks np L (am_psh r S) h1 K)) K (am_seek cd_X11_breaks pc) L S h) : am_E i_X11_breaks pc L S h K := am_run cuts (q := me_X11_breaks) rfl rfl hb
theorem e_X11_breaks (cuts : List Nat) {K : Option Value → AH → Prop} {aa : List Value} {h : AH} (hb : am_ent aa 4 (fun L => am_blk cuts (fun t L S h => am_E i_X11_breaks t L S h K) (fun np id aa L S h => am_M id aa h (fun r h1 => am_E i_X11_breaks np L (am_psh r S) h1 K)) K cd_X11_breaks L [] h)) : am_M i_X11_breaks aa h K := am_into cuts (q := me_X11_breaks) rfl rfl rfl hb
theorem b_X11_harm (cuts : List Nat) {pc : Nat} {K : Option Value → AH → Prop} {L : AL} {S : List Value} {h : AH} (hb : am_blk cuts (fun t L S h => am_E i_X11_harm t L S h K) (fun np id aa L S h => am_M id aa h (fun r h1 => am_E i_X11_harm np L (am_psh r S) h1 K)) K (am_seek cd_X11_harm pc) L S h) : am_E i_X11_harm pc L S h K := am_run cuts (q := me_X11_harm) rfl rfl hb
theorem e_X11_harm (cuts : List Nat) {K : Option Value → AH → Prop} {aa : List Value} {h : AH} (hb : am_ent aa 4 (fun L => am_blk cuts (fun t L S h => am_E i_X11_harm t L S h K) (fun np id aa L S h => am_M id aa h (fun r h1 => am_E i_X11_harm np L (am_psh r S) h1 K)) K cd_X11_harm L [] h)) : am_M i_X11_harm aa h K := am_into cuts (q := me_X11_harm) rfl rfl rfl hb
theorem b_X11_tap (cuts : List Nat) {pc : Nat} {K : Option Value → AH → Prop} {L : AL} {S : List Value} {h : AH} (hb : am_blk cuts (fun t L S h => am_E i_X11_tap t L S h K) (fun np id aa L S h => am_M id aa h (fun r h1 => am_E i_X11_tap np L (am_psh r S) h1 K)) K (am_seek cd_X11_tap pc) L S h) : am_E i_X11_tap pc L S h K := am_run cuts (q := me_X11_tap) rfl rfl hb
theorem e_X11_tap (cuts : List Nat) {K : Option Value → AH → Prop} {aa : List Value} {h : AH} (hb : am_ent aa 3 (fun L => am_blk cuts (fun t L S h => am_E i_X11_tap t L S h K) (fun np id aa L S h => am_M id aa h (fun r h1 => am_E i_X11_tap np L (am_psh r S) h1 K)) K cd_X11_tap L [] h)) : am_M i_X11_tap aa h K := am_into cuts (q := me_X11_tap) rfl rfl rfl hb
theorem b_X11_who (cuts : List Nat) {pc : Nat} {K : Option Value → AH → Prop} {L : AL} {S : List Value} {h : AH} (hb : am_blk cuts (fun t L S h => am_E i_X11_who t L S h K) (fun np id aa L S h => am_M id aa h (fun r h1 => am_E i_X11_who np L (am_psh r S) h1 K)) K (am_seek cd_X11_who pc) L S h) : am_E i_X11_who pc L S h K := am_run cuts (q := me_X11_who) rfl rfl hb
theorem e_X11_who (cuts : List Nat) {K : Option Value → AH → Prop} {aa : List Value} {h : AH} (hb : am_ent aa 3 (fun L => am_blk cuts (fun t L S h => am_E i_X11_who t L S h K) (fun np id aa L S h => am_M id aa h (fun r h1 => am_E i_X11_who np L (am_psh r S) h1 K)) K cd_X11_who L [] h)) : am_M i_X11_who aa h K := am_into cuts (q := me_X11_who) rfl rfl rfl hb
theorem b_X11_whatKind (cuts : List Nat) {pc : Nat} {K : Option Value → AH → Prop} {L : AL} {S : List Value} {h : AH} (hb : am_blk cuts (fun t L S h => am_E i_X11_whatKind t L S h K) (fun np id aa L S h => am_M id aa h (fun r h1 => am_E i_X11_whatKind np L (am_psh r S) h1 K)) K (am_seek cd_X11_whatKind pc) L S h) : am_E i_X11_whatKind pc L S h K := am_run cuts (q := me_X11_whatKind) rfl rfl hb
theorem e_X11_whatKind (cuts : List Nat) {K : Option Value → AH → Prop} {aa : List Value} {h : AH} (hb : am_ent aa 6 (fun L => am_blk cuts (fun t L S h => am_E i_X11_whatKind t L S h K) (fun np id aa L S h => am_M id aa h (fun r h1 => am_E i_X11_whatKind np L (am_psh r S) h1 K)) K cd_X11_whatKind L [] h)) : am_M i_X11_whatKind aa h K := am_into cuts (q := me_X11_whatKind) rfl rfl rfl hb
theorem b_X11_worst (cuts : List Nat) {pc : Nat} {K : Option Value → AH → Prop} {L : AL} {S : List Value} {h : AH} (hb : am_blk cuts (fun t L S h => am_E i_X11_worst t L S h K) (fun np id aa L S h => am_M id aa h (fun r h1 => am_E i_X11_worst np L (am_psh r S) h1 K)) K (am_seek cd_X11_worst pc) L S h) : am_E i_X11_worst pc L S h K := am_run cuts (q := me_X11_worst) rfl rfl hb
theorem e_X11_worst (cuts : List Nat) {K : Option Value → AH → Prop} {aa : List Value} {h : AH} (hb : am_ent aa 5 (fun L => am_blk cuts (fun t L S h => am_E i_X11_worst t L S h K) (fun np id aa L S h => am_M id aa h (fun r h1 => am_E i_X11_worst np L (am_psh r S) h1 K)) K cd_X11_worst L [] h)) : am_M i_X11_worst aa h K := am_into cuts (q := me_X11_worst) rfl rfl rfl hb
theorem b_X11_bestCut (cuts : List Nat) {pc : Nat} {K : Option Value → AH → Prop} {L : AL} {S : List Value} {h : AH} (hb : am_blk cuts (fun t L S h => am_E i_X11_bestCut t L S h K) (fun np id aa L S h => am_M id aa h (fun r h1 => am_E i_X11_bestCut np L (am_psh r S) h1 K)) K (am_seek cd_X11_bestCut pc) L S h) : am_E i_X11_bestCut pc L S h K := am_run cuts (q := me_X11_bestCut) rfl rfl hb
theorem e_X11_bestCut (cuts : List Nat) {K : Option Value → AH → Prop} {aa : List Value} {h : AH} (hb : am_ent aa 4 (fun L => am_blk cuts (fun t L S h => am_E i_X11_bestCut t L S h K) (fun np id aa L S h => am_M id aa h (fun r h1 => am_E i_X11_bestCut np L (am_psh r S) h1 K)) K cd_X11_bestCut L [] h)) : am_M i_X11_bestCut aa h K := am_into cuts (q := me_X11_bestCut) rfl rfl rfl hb
theorem b_X11_order (cuts : List Nat) {pc : Nat} {K : Option Value → AH → Prop} {L : AL} {S : List Value} {h : AH} (hb : am_blk cuts (fun t L S h => am_E i_X11_order t L S h K) (fun np id aa L S h => am_M id aa h (fun r h1 => am_E i_X11_order np L (am_psh r S) h1 K)) K (am_seek cd_X11_order pc) L S h) : am_E i_X11_order pc L S h K := am_run cuts (q := me_X11_order) rfl rfl hb
theorem e_X11_order (cuts : List Nat) {K : Option Value → AH → Prop} {aa : List Value} {h : AH} (hb : am_ent aa 5 (fun L => am_blk cuts (fun t L S h => am_E i_X11_order t L S h K) (fun np id aa L S h => am_M id aa h (fun r h1 => am_E i_X11_order np L (am_psh r S) h1 K)) K cd_X11_order L [] h)) : am_M i_X11_order aa h K := am_into cuts (q := me_X11_order) rfl rfl rfl hb
theorem b_X11_walk (cuts : List Nat) {pc : Nat} {K : Option Value → AH → Prop} {L : AL} {S : List Value} {h : AH} (hb : am_blk cuts (fun t L S h => am_E i_X11_walk t L S h K) (fun np id aa L S h => am_M id aa h (fun r h1 => am_E i_X11_walk np L (am_psh r S) h1 K)) K (am_seek cd_X11_walk pc) L S h) : am_E i_X11_walk pc L S h K := am_run cuts (q := me_X11_walk) rfl rfl hb
theorem e_X11_walk (cuts : List Nat) {K : Option Value → AH → Prop} {aa : List Value} {h : AH} (hb : am_ent aa 4 (fun L => am_blk cuts (fun t L S h => am_E i_X11_walk t L S h K) (fun np id aa L S h => am_M id aa h (fun r h1 => am_E i_X11_walk np L (am_psh r S) h1 K)) K cd_X11_walk L [] h)) : am_M i_X11_walk aa h K := am_into cuts (q := me_X11_walk) rfl rfl rfl hb
theorem b_X11_woman (cuts : List Nat) {pc : Nat} {K : Option Value → AH → Prop} {L : AL} {S : List Value} {h : AH} (hb : am_blk cuts (fun t L S h => am_E i_X11_woman t L S h K) (fun np id aa L S h => am_M id aa h (fun r h1 => am_E i_X11_woman np L (am_psh r S) h1 K)) K (am_seek cd_X11_woman pc) L S h) : am_E i_X11_woman pc L S h K := am_run cuts (q := me_X11_woman) rfl rfl hb
theorem e_X11_woman (cuts : List Nat) {K : Option Value → AH → Prop} {aa : List Value} {h : AH} (hb : am_ent aa 5 (fun L => am_blk cuts (fun t L S h => am_E i_X11_woman t L S h K) (fun np id aa L S h => am_M id aa h (fun r h1 => am_E i_X11_woman np L (am_psh r S) h1 K)) K cd_X11_woman L [] h)) : am_M i_X11_woman aa h K := am_into cuts (q := me_X11_woman) rfl rfl rfl hb
theorem b_X11_lasts (cuts : List Nat) {pc : Nat} {K : Option Value → AH → Prop} {L : AL} {S : List Value} {h : AH} (hb : am_blk cuts (fun t L S h => am_E i_X11_lasts t L S h K) (fun np id aa L S h => am_M id aa h (fun r h1 => am_E i_X11_lasts np L (am_psh r S) h1 K)) K (am_seek cd_X11_lasts pc) L S h) : am_E i_X11_lasts pc L S h K := am_run cuts (q := me_X11_lasts) rfl rfl hb
theorem e_X11_lasts (cuts : List Nat) {K : Option Value → AH → Prop} {aa : List Value} {h : AH} (hb : am_ent aa 3 (fun L => am_blk cuts (fun t L S h => am_E i_X11_lasts t L S h K) (fun np id aa L S h => am_M id aa h (fun r h1 => am_E i_X11_lasts np L (am_psh r S) h1 K)) K cd_X11_lasts L [] h)) : am_M i_X11_lasts aa h K := am_into cuts (q := me_X11_lasts) rfl rfl rfl hb
theorem b_X11_left (cuts : List Nat) {pc : Nat} {K : Option Value → AH → Prop} {L : AL} {S : List Value} {h : AH} (hb : am_blk cuts (fun t L S h => am_E i_X11_left t L S h K) (fun np id aa L S h => am_M id aa h (fun r h1 => am_E i_X11_left np L (am_psh r S) h1 K)) K (am_seek cd_X11_left pc) L S h) : am_E i_X11_left pc L S h K := am_run cuts (q := me_X11_left) rfl rfl hb
theorem e_X11_left (cuts : List Nat) {K : Option Value → AH → Prop} {aa : List Value} {h : AH} (hb : am_ent aa 4 (fun L => am_blk cuts (fun t L S h => am_E i_X11_left t L S h K) (fun np id aa L S h => am_M id aa h (fun r h1 => am_E i_X11_left np L (am_psh r S) h1 K)) K cd_X11_left L [] h)) : am_M i_X11_left aa h K := am_into cuts (q := me_X11_left) rfl rfl rfl hb
theorem b_X11_chance (cuts : List Nat) {pc : Nat} {K : Option Value → AH → Prop} {L : AL} {S : List Value} {h : AH} (hb : am_blk cuts (fun t L S h => am_E i_X11_chance t L S h K) (fun np id aa L S h => am_M id aa h (fun r h1 => am_E i_X11_chance np L (am_psh r S) h1 K)) K (am_seek cd_X11_chance pc) L S h) : am_E i_X11_chance pc L S h K := am_run cuts (q := me_X11_chance) rfl rfl hb
theorem e_X11_chance (cuts : List Nat) {K : Option Value → AH → Prop} {aa : List Value} {h : AH} (hb : am_ent aa 8 (fun L => am_blk cuts (fun t L S h => am_E i_X11_chance t L S h K) (fun np id aa L S h => am_M id aa h (fun r h1 => am_E i_X11_chance np L (am_psh r S) h1 K)) K cd_X11_chance L [] h)) : am_M i_X11_chance aa h K := am_into cuts (q := me_X11_chance) rfl rfl rfl hb
theorem b_X11_twins (cuts : List Nat) {pc : Nat} {K : Option Value → AH → Prop} {L : AL} {S : List Value} {h : AH} (hb : am_blk cuts (fun t L S h => am_E i_X11_twins t L S h K) (fun np id aa L S h => am_M id aa h (fun r h1 => am_E i_X11_twins np L (am_psh r S) h1 K)) K (am_seek cd_X11_twins pc) L S h) : am_E i_X11_twins pc L S h K := am_run cuts (q := me_X11_twins) rfl rfl hb
theorem e_X11_twins (cuts : List Nat) {K : Option Value → AH → Prop} {aa : List Value} {h : AH} (hb : am_ent aa 3 (fun L => am_blk cuts (fun t L S h => am_E i_X11_twins t L S h K) (fun np id aa L S h => am_M id aa h (fun r h1 => am_E i_X11_twins np L (am_psh r S) h1 K)) K cd_X11_twins L [] h)) : am_M i_X11_twins aa h K := am_into cuts (q := me_X11_twins) rfl rfl rfl hb
theorem b_X11_hum (cuts : List Nat) {pc : Nat} {K : Option Value → AH → Prop} {L : AL} {S : List Value} {h : AH} (hb : am_blk cuts (fun t L S h => am_E i_X11_hum t L S h K) (fun np id aa L S h => am_M id aa h (fun r h1 => am_E i_X11_hum np L (am_psh r S) h1 K)) K (am_seek cd_X11_hum pc) L S h) : am_E i_X11_hum pc L S h K := am_run cuts (q := me_X11_hum) rfl rfl hb
theorem e_X11_hum (cuts : List Nat) {K : Option Value → AH → Prop} {aa : List Value} {h : AH} (hb : am_ent aa 4 (fun L => am_blk cuts (fun t L S h => am_E i_X11_hum t L S h K) (fun np id aa L S h => am_M id aa h (fun r h1 => am_E i_X11_hum np L (am_psh r S) h1 K)) K cd_X11_hum L [] h)) : am_M i_X11_hum aa h K := am_into cuts (q := me_X11_hum) rfl rfl rfl hb
theorem b_X11_apart (cuts : List Nat) {pc : Nat} {K : Option Value → AH → Prop} {L : AL} {S : List Value} {h : AH} (hb : am_blk cuts (fun t L S h => am_E i_X11_apart t L S h K) (fun np id aa L S h => am_M id aa h (fun r h1 => am_E i_X11_apart np L (am_psh r S) h1 K)) K (am_seek cd_X11_apart pc) L S h) : am_E i_X11_apart pc L S h K := am_run cuts (q := me_X11_apart) rfl rfl hb
theorem e_X11_apart (cuts : List Nat) {K : Option Value → AH → Prop} {aa : List Value} {h : AH} (hb : am_ent aa 4 (fun L => am_blk cuts (fun t L S h => am_E i_X11_apart t L S h K) (fun np id aa L S h => am_M id aa h (fun r h1 => am_E i_X11_apart np L (am_psh r S) h1 K)) K cd_X11_apart L [] h)) : am_M i_X11_apart aa h K := am_into cuts (q := me_X11_apart) rfl rfl rfl hb
theorem b_X11_heaps (cuts : List Nat) {pc : Nat} {K : Option Value → AH → Prop} {L : AL} {S : List Value} {h : AH} (hb : am_blk cuts (fun t L S h => am_E i_X11_heaps t L S h K) (fun np id aa L S h => am_M id aa h (fun r h1 => am_E i_X11_heaps np L (am_psh r S) h1 K)) K (am_seek cd_X11_heaps pc) L S h) : am_E i_X11_heaps pc L S h K := am_run cuts (q := me_X11_heaps) rfl rfl hb
theorem e_X11_heaps (cuts : List Nat) {K : Option Value → AH → Prop} {aa : List Value} {h : AH} (hb : am_ent aa 1 (fun L => am_blk cuts (fun t L S h => am_E i_X11_heaps t L S h K) (fun np id aa L S h => am_M id aa h (fun r h1 => am_E i_X11_heaps np L (am_psh r S) h1 K)) K cd_X11_heaps L [] h)) : am_M i_X11_heaps aa h K := am_into cuts (q := me_X11_heaps) rfl rfl rfl hb
theorem b_X11_codes (cuts : List Nat) {pc : Nat} {K : Option Value → AH → Prop} {L : AL} {S : List Value} {h : AH} (hb : am_blk cuts (fun t L S h => am_E i_X11_codes t L S h K) (fun np id aa L S h => am_M id aa h (fun r h1 => am_E i_X11_codes np L (am_psh r S) h1 K)) K (am_seek cd_X11_codes pc) L S h) : am_E i_X11_codes pc L S h K := am_run cuts (q := me_X11_codes) rfl rfl hb
theorem e_X11_codes (cuts : List Nat) {K : Option Value → AH → Prop} {aa : List Value} {h : AH} (hb : am_ent aa 4 (fun L => am_blk cuts (fun t L S h => am_E i_X11_codes t L S h K) (fun np id aa L S h => am_M id aa h (fun r h1 => am_E i_X11_codes np L (am_psh r S) h1 K)) K cd_X11_codes L [] h)) : am_M i_X11_codes aa h K := am_into cuts (q := me_X11_codes) rfl rfl rfl hb
theorem b_X11_secret (cuts : List Nat) {pc : Nat} {K : Option Value → AH → Prop} {L : AL} {S : List Value} {h : AH} (hb : am_blk cuts (fun t L S h => am_E i_X11_secret t L S h K) (fun np id aa L S h => am_M id aa h (fun r h1 => am_E i_X11_secret np L (am_psh r S) h1 K)) K (am_seek cd_X11_secret pc) L S h) : am_E i_X11_secret pc L S h K := am_run cuts (q := me_X11_secret) rfl rfl hb
theorem e_X11_secret (cuts : List Nat) {K : Option Value → AH → Prop} {aa : List Value} {h : AH} (hb : am_ent aa 5 (fun L => am_blk cuts (fun t L S h => am_E i_X11_secret t L S h K) (fun np id aa L S h => am_M id aa h (fun r h1 => am_E i_X11_secret np L (am_psh r S) h1 K)) K cd_X11_secret L [] h)) : am_M i_X11_secret aa h K := am_into cuts (q := me_X11_secret) rfl rfl rfl hb
theorem b_X11_tough (cuts : List Nat) {pc : Nat} {K : Option Value → AH → Prop} {L : AL} {S : List Value} {h : AH} (hb : am_blk cuts (fun t L S h => am_E i_X11_tough t L S h K) (fun np id aa L S h => am_M id aa h (fun r h1 => am_E i_X11_tough np L (am_psh r S) h1 K)) K (am_seek cd_X11_tough pc) L S h) : am_E i_X11_tough pc L S h K := am_run cuts (q := me_X11_tough) rfl rfl hb
theorem e_X11_tough (cuts : List Nat) {K : Option Value → AH → Prop} {aa : List Value} {h : AH} (hb : am_ent aa 3 (fun L => am_blk cuts (fun t L S h => am_E i_X11_tough t L S h K) (fun np id aa L S h => am_M id aa h (fun r h1 => am_E i_X11_tough np L (am_psh r S) h1 K)) K cd_X11_tough L [] h)) : am_M i_X11_tough aa h K := am_into cuts (q := me_X11_tough) rfl rfl rfl hb
theorem b_X11_centre (cuts : List Nat) {pc : Nat} {K : Option Value → AH → Prop} {L : AL} {S : List Value} {h : AH} (hb : am_blk cuts (fun t L S h => am_E i_X11_centre t L S h K) (fun np id aa L S h => am_M id aa h (fun r h1 => am_E i_X11_centre np L (am_psh r S) h1 K)) K (am_seek cd_X11_centre pc) L S h) : am_E i_X11_centre pc L S h K := am_run cuts (q := me_X11_centre) rfl rfl hb
theorem e_X11_centre (cuts : List Nat) {K : Option Value → AH → Prop} {aa : List Value} {h : AH} (hb : am_ent aa 4 (fun L => am_blk cuts (fun t L S h => am_E i_X11_centre t L S h K) (fun np id aa L S h => am_M id aa h (fun r h1 => am_E i_X11_centre np L (am_psh r S) h1 K)) K cd_X11_centre L [] h)) : am_M i_X11_centre aa h K := am_into cuts (q := me_X11_centre) rfl rfl rfl hb
theorem b_X11_bestMend (cuts : List Nat) {pc : Nat} {K : Option Value → AH → Prop} {L : AL} {S : List Value} {h : AH} (hb : am_blk cuts (fun t L S h => am_E i_X11_bestMend t L S h K) (fun np id aa L S h => am_M id aa h (fun r h1 => am_E i_X11_bestMend np L (am_psh r S) h1 K)) K (am_seek cd_X11_bestMend pc) L S h) : am_E i_X11_bestMend pc L S h K := am_run cuts (q := me_X11_bestMend) rfl rfl hb
theorem e_X11_bestMend (cuts : List Nat) {K : Option Value → AH → Prop} {aa : List Value} {h : AH} (hb : am_ent aa 4 (fun L => am_blk cuts (fun t L S h => am_E i_X11_bestMend t L S h K) (fun np id aa L S h => am_M id aa h (fun r h1 => am_E i_X11_bestMend np L (am_psh r S) h1 K)) K cd_X11_bestMend L [] h)) : am_M i_X11_bestMend aa h K := am_into cuts (q := me_X11_bestMend) rfl rfl rfl hb
theorem b_X11_bestFigure (cuts : List Nat) {pc : Nat} {K : Option Value → AH → Prop} {L : AL} {S : List Value} {h : AH} (hb : am_blk cuts (fun t L S h => am_E i_X11_bestFigure t L S h K) (fun np id aa L S h => am_M id aa h (fun r h1 => am_E i_X11_bestFigure np L (am_psh r S) h1 K)) K (am_seek cd_X11_bestFigure pc) L S h) : am_E i_X11_bestFigure pc L S h K := am_run cuts (q := me_X11_bestFigure) rfl rfl hb
theorem e_X11_bestFigure (cuts : List Nat) {K : Option Value → AH → Prop} {aa : List Value} {h : AH} (hb : am_ent aa 5 (fun L => am_blk cuts (fun t L S h => am_E i_X11_bestFigure t L S h K) (fun np id aa L S h => am_M id aa h (fun r h1 => am_E i_X11_bestFigure np L (am_psh r S) h1 K)) K cd_X11_bestFigure L [] h)) : am_M i_X11_bestFigure aa h K := am_into cuts (q := me_X11_bestFigure) rfl rfl rfl hb
theorem b_X11_domino (cuts : List Nat) {pc : Nat} {K : Option Value → AH → Prop} {L : AL} {S : List Value} {h : AH} (hb : am_blk cuts (fun t L S h => am_E i_X11_domino t L S h K) (fun np id aa L S h => am_M id aa h (fun r h1 => am_E i_X11_domino np L (am_psh r S) h1 K)) K (am_seek cd_X11_domino pc) L S h) : am_E i_X11_domino pc L S h K := am_run cuts (q := me_X11_domino) rfl rfl hb
theorem e_X11_domino (cuts : List Nat) {K : Option Value → AH → Prop} {aa : List Value} {h : AH} (hb : am_ent aa 3 (fun L => am_blk cuts (fun t L S h => am_E i_X11_domino t L S h K) (fun np id aa L S h => am_M id aa h (fun r h1 => am_E i_X11_domino np L (am_psh r S) h1 K)) K cd_X11_domino L [] h)) : am_M i_X11_domino aa h K := am_into cuts (q := me_X11_domino) rfl rfl rfl hb
theorem b_X11_longest (cuts : List Nat) {pc : Nat} {K : Option Value → AH → Prop} {L : AL} {S : List Value} {h : AH} (hb : am_blk cuts (fun t L S h => am_E i_X11_longest t L S h K) (fun np id aa L S h => am_M id aa h (fun r h1 => am_E i_X11_longest np L (am_psh r S) h1 K)) K (am_seek cd_X11_longest pc) L S h) : am_E i_X11_longest pc L S h K := am_run cuts (q := me_X11_longest) rfl rfl hb
theorem e_X11_longest (cuts : List Nat) {K : Option Value → AH → Prop} {aa : List Value} {h : AH} (hb : am_ent aa 3 (fun L => am_blk cuts (fun t L S h => am_E i_X11_longest t L S h K) (fun np id aa L S h => am_M id aa h (fun r h1 => am_E i_X11_longest np L (am_psh r S) h1 K)) K cd_X11_longest L [] h)) : am_M i_X11_longest aa h K := am_into cuts (q := me_X11_longest) rfl rfl rfl hb
theorem b_X11_spared (cuts : List Nat) {pc : Nat} {K : Option Value → AH → Prop} {L : AL} {S : List Value} {h : AH} (hb : am_blk cuts (fun t L S h => am_E i_X11_spared t L S h K) (fun np id aa L S h => am_M id aa h (fun r h1 => am_E i_X11_spared np L (am_psh r S) h1 K)) K (am_seek cd_X11_spared pc) L S h) : am_E i_X11_spared pc L S h K := am_run cuts (q := me_X11_spared) rfl rfl hb
theorem e_X11_spared (cuts : List Nat) {K : Option Value → AH → Prop} {aa : List Value} {h : AH} (hb : am_ent aa 3 (fun L => am_blk cuts (fun t L S h => am_E i_X11_spared t L S h K) (fun np id aa L S h => am_M id aa h (fun r h1 => am_E i_X11_spared np L (am_psh r S) h1 K)) K cd_X11_spared L [] h)) : am_M i_X11_spared aa h K := am_into cuts (q := me_X11_spared) rfl rfl rfl hb
theorem b_X11_mutual (cuts : List Nat) {pc : Nat} {K : Option Value → AH → Prop} {L : AL} {S : List Value} {h : AH} (hb : am_blk cuts (fun t L S h => am_E i_X11_mutual t L S h K) (fun np id aa L S h => am_M id aa h (fun r h1 => am_E i_X11_mutual np L (am_psh r S) h1 K)) K (am_seek cd_X11_mutual pc) L S h) : am_E i_X11_mutual pc L S h K := am_run cuts (q := me_X11_mutual) rfl rfl hb
theorem e_X11_mutual (cuts : List Nat) {K : Option Value → AH → Prop} {aa : List Value} {h : AH} (hb : am_ent aa 3 (fun L => am_blk cuts (fun t L S h => am_E i_X11_mutual t L S h K) (fun np id aa L S h => am_M id aa h (fun r h1 => am_E i_X11_mutual np L (am_psh r S) h1 K)) K cd_X11_mutual L [] h)) : am_M i_X11_mutual aa h K := am_into cuts (q := me_X11_mutual) rfl rfl rfl hb
theorem b_X11_row (cuts : List Nat) {pc : Nat} {K : Option Value → AH → Prop} {L : AL} {S : List Value} {h : AH} (hb : am_blk cuts (fun t L S h => am_E i_X11_row t L S h K) (fun np id aa L S h => am_M id aa h (fun r h1 => am_E i_X11_row np L (am_psh r S) h1 K)) K (am_seek cd_X11_row pc) L S h) : am_E i_X11_row pc L S h K := am_run cuts (q := me_X11_row) rfl rfl hb
theorem e_X11_row (cuts : List Nat) {K : Option Value → AH → Prop} {aa : List Value} {h : AH} (hb : am_ent aa 3 (fun L => am_blk cuts (fun t L S h => am_E i_X11_row t L S h K) (fun np id aa L S h => am_M id aa h (fun r h1 => am_E i_X11_row np L (am_psh r S) h1 K)) K cd_X11_row L [] h)) : am_M i_X11_row aa h K := am_into cuts (q := me_X11_row) rfl rfl rfl hb
theorem b_X11_judge (cuts : List Nat) {pc : Nat} {K : Option Value → AH → Prop} {L : AL} {S : List Value} {h : AH} (hb : am_blk cuts (fun t L S h => am_E i_X11_judge t L S h K) (fun np id aa L S h => am_M id aa h (fun r h1 => am_E i_X11_judge np L (am_psh r S) h1 K)) K (am_seek cd_X11_judge pc) L S h) : am_E i_X11_judge pc L S h K := am_run cuts (q := me_X11_judge) rfl rfl hb
theorem e_X11_judge (cuts : List Nat) {K : Option Value → AH → Prop} {aa : List Value} {h : AH} (hb : am_ent aa 2 (fun L => am_blk cuts (fun t L S h => am_E i_X11_judge t L S h K) (fun np id aa L S h => am_M id aa h (fun r h1 => am_E i_X11_judge np L (am_psh r S) h1 K)) K cd_X11_judge L [] h)) : am_M i_X11_judge aa h K := am_into cuts (q := me_X11_judge) rfl rfl rfl hb
theorem b_X11_clear (cuts : List Nat) {pc : Nat} {K : Option Value → AH → Prop} {L : AL} {S : List Value} {h : AH} (hb : am_blk cuts (fun t L S h => am_E i_X11_clear t L S h K) (fun np id aa L S h => am_M id aa h (fun r h1 => am_E i_X11_clear np L (am_psh r S) h1 K)) K (am_seek cd_X11_clear pc) L S h) : am_E i_X11_clear pc L S h K := am_run cuts (q := me_X11_clear) rfl rfl hb
theorem e_X11_clear (cuts : List Nat) {K : Option Value → AH → Prop} {aa : List Value} {h : AH} (hb : am_ent aa 2 (fun L => am_blk cuts (fun t L S h => am_E i_X11_clear t L S h K) (fun np id aa L S h => am_M id aa h (fun r h1 => am_E i_X11_clear np L (am_psh r S) h1 K)) K cd_X11_clear L [] h)) : am_M i_X11_clear aa h K := am_into cuts (q := me_X11_clear) rfl rfl rfl hb
theorem b_X11_lots (cuts : List Nat) {pc : Nat} {K : Option Value → AH → Prop} {L : AL} {S : List Value} {h : AH} (hb : am_blk cuts (fun t L S h => am_E i_X11_lots t L S h K) (fun np id aa L S h => am_M id aa h (fun r h1 => am_E i_X11_lots np L (am_psh r S) h1 K)) K (am_seek cd_X11_lots pc) L S h) : am_E i_X11_lots pc L S h K := am_run cuts (q := me_X11_lots) rfl rfl hb
theorem e_X11_lots (cuts : List Nat) {K : Option Value → AH → Prop} {aa : List Value} {h : AH} (hb : am_ent aa 5 (fun L => am_blk cuts (fun t L S h => am_E i_X11_lots t L S h K) (fun np id aa L S h => am_M id aa h (fun r h1 => am_E i_X11_lots np L (am_psh r S) h1 K)) K cd_X11_lots L [] h)) : am_M i_X11_lots aa h K := am_into cuts (q := me_X11_lots) rfl rfl rfl hb
theorem b_X11_image (cuts : List Nat) {pc : Nat} {K : Option Value → AH → Prop} {L : AL} {S : List Value} {h : AH} (hb : am_blk cuts (fun t L S h => am_E i_X11_image t L S h K) (fun np id aa L S h => am_M id aa h (fun r h1 => am_E i_X11_image np L (am_psh r S) h1 K)) K (am_seek cd_X11_image pc) L S h) : am_E i_X11_image pc L S h K := am_run cuts (q := me_X11_image) rfl rfl hb
theorem e_X11_image (cuts : List Nat) {K : Option Value → AH → Prop} {aa : List Value} {h : AH} (hb : am_ent aa 1 (fun L => am_blk cuts (fun t L S h => am_E i_X11_image t L S h K) (fun np id aa L S h => am_M id aa h (fun r h1 => am_E i_X11_image np L (am_psh r S) h1 K)) K cd_X11_image L [] h)) : am_M i_X11_image aa h K := am_into cuts (q := me_X11_image) rfl rfl rfl hb
theorem b_X11_restore (cuts : List Nat) {pc : Nat} {K : Option Value → AH → Prop} {L : AL} {S : List Value} {h : AH} (hb : am_blk cuts (fun t L S h => am_E i_X11_restore t L S h K) (fun np id aa L S h => am_M id aa h (fun r h1 => am_E i_X11_restore np L (am_psh r S) h1 K)) K (am_seek cd_X11_restore pc) L S h) : am_E i_X11_restore pc L S h K := am_run cuts (q := me_X11_restore) rfl rfl hb
theorem e_X11_restore (cuts : List Nat) {K : Option Value → AH → Prop} {aa : List Value} {h : AH} (hb : am_ent aa 1 (fun L => am_blk cuts (fun t L S h => am_E i_X11_restore t L S h K) (fun np id aa L S h => am_M id aa h (fun r h1 => am_E i_X11_restore np L (am_psh r S) h1 K)) K cd_X11_restore L [] h)) : am_M i_X11_restore aa h K := am_into cuts (q := me_X11_restore) rfl rfl rfl hb
theorem b_X11_count (cuts : List Nat) {pc : Nat} {K : Option Value → AH → Prop} {L : AL} {S : List Value} {h : AH} (hb : am_blk cuts (fun t L S h => am_E i_X11_count t L S h K) (fun np id aa L S h => am_M id aa h (fun r h1 => am_E i_X11_count np L (am_psh r S) h1 K)) K (am_seek cd_X11_count pc) L S h) : am_E i_X11_count pc L S h K := am_run cuts (q := me_X11_count) rfl rfl hb
theorem e_X11_count (cuts : List Nat) {K : Option Value → AH → Prop} {aa : List Value} {h : AH} (hb : am_ent aa 2 (fun L => am_blk cuts (fun t L S h => am_E i_X11_count t L S h K) (fun np id aa L S h => am_M id aa h (fun r h1 => am_E i_X11_count np L (am_psh r S) h1 K)) K cd_X11_count L [] h)) : am_M i_X11_count aa h K := am_into cuts (q := me_X11_count) rfl rfl rfl hb
theorem b_X11_refuse (cuts : List Nat) {pc : Nat} {K : Option Value → AH → Prop} {L : AL} {S : List Value} {h : AH} (hb : am_blk cuts (fun t L S h => am_E i_X11_refuse t L S h K) (fun np id aa L S h => am_M id aa h (fun r h1 => am_E i_X11_refuse np L (am_psh r S) h1 K)) K (am_seek cd_X11_refuse pc) L S h) : am_E i_X11_refuse pc L S h K := am_run cuts (q := me_X11_refuse) rfl rfl hb
theorem e_X11_refuse (cuts : List Nat) {K : Option Value → AH → Prop} {aa : List Value} {h : AH} (hb : am_ent aa 2 (fun L => am_blk cuts (fun t L S h => am_E i_X11_refuse t L S h K) (fun np id aa L S h => am_M id aa h (fun r h1 => am_E i_X11_refuse np L (am_psh r S) h1 K)) K cd_X11_refuse L [] h)) : am_M i_X11_refuse aa h K := am_into cuts (q := me_X11_refuse) rfl rfl rfl hb
theorem b_X11_rowTooLong (cuts : List Nat) {pc : Nat} {K : Option Value → AH → Prop} {L : AL} {S : List Value} {h : AH} (hb : am_blk cuts (fun t L S h => am_E i_X11_rowTooLong t L S h K) (fun np id aa L S h => am_M id aa h (fun r h1 => am_E i_X11_rowTooLong np L (am_psh r S) h1 K)) K (am_seek cd_X11_rowTooLong pc) L S h) : am_E i_X11_rowTooLong pc L S h K := am_run cuts (q := me_X11_rowTooLong) rfl rfl hb
theorem e_X11_rowTooLong (cuts : List Nat) {K : Option Value → AH → Prop} {aa : List Value} {h : AH} (hb : am_ent aa 1 (fun L => am_blk cuts (fun t L S h => am_E i_X11_rowTooLong t L S h K) (fun np id aa L S h => am_M id aa h (fun r h1 => am_E i_X11_rowTooLong np L (am_psh r S) h1 K)) K cd_X11_rowTooLong L [] h)) : am_M i_X11_rowTooLong aa h K := am_into cuts (q := me_X11_rowTooLong) rfl rfl rfl hb
theorem b_X11_first (cuts : List Nat) {pc : Nat} {K : Option Value → AH → Prop} {L : AL} {S : List Value} {h : AH} (hb : am_blk cuts (fun t L S h => am_E i_X11_first t L S h K) (fun np id aa L S h => am_M id aa h (fun r h1 => am_E i_X11_first np L (am_psh r S) h1 K)) K (am_seek cd_X11_first pc) L S h) : am_E i_X11_first pc L S h K := am_run cuts (q := me_X11_first) rfl rfl hb
theorem e_X11_first (cuts : List Nat) {K : Option Value → AH → Prop} {aa : List Value} {h : AH} (hb : am_ent aa 2 (fun L => am_blk cuts (fun t L S h => am_E i_X11_first t L S h K) (fun np id aa L S h => am_M id aa h (fun r h1 => am_E i_X11_first np L (am_psh r S) h1 K)) K cd_X11_first L [] h)) : am_M i_X11_first aa h K := am_into cuts (q := me_X11_first) rfl rfl rfl hb
theorem b_X11_below (cuts : List Nat) {pc : Nat} {K : Option Value → AH → Prop} {L : AL} {S : List Value} {h : AH} (hb : am_blk cuts (fun t L S h => am_E i_X11_below t L S h K) (fun np id aa L S h => am_M id aa h (fun r h1 => am_E i_X11_below np L (am_psh r S) h1 K)) K (am_seek cd_X11_below pc) L S h) : am_E i_X11_below pc L S h K := am_run cuts (q := me_X11_below) rfl rfl hb
theorem e_X11_below (cuts : List Nat) {K : Option Value → AH → Prop} {aa : List Value} {h : AH} (hb : am_ent aa 2 (fun L => am_blk cuts (fun t L S h => am_E i_X11_below t L S h K) (fun np id aa L S h => am_M id aa h (fun r h1 => am_E i_X11_below np L (am_psh r S) h1 K)) K cd_X11_below L [] h)) : am_M i_X11_below aa h K := am_into cuts (q := me_X11_below) rfl rfl rfl hb
theorem b_X11_above (cuts : List Nat) {pc : Nat} {K : Option Value → AH → Prop} {L : AL} {S : List Value} {h : AH} (hb : am_blk cuts (fun t L S h => am_E i_X11_above t L S h K) (fun np id aa L S h => am_M id aa h (fun r h1 => am_E i_X11_above np L (am_psh r S) h1 K)) K (am_seek cd_X11_above pc) L S h) : am_E i_X11_above pc L S h K := am_run cuts (q := me_X11_above) rfl rfl hb
theorem e_X11_above (cuts : List Nat) {K : Option Value → AH → Prop} {aa : List Value} {h : AH} (hb : am_ent aa 2 (fun L => am_blk cuts (fun t L S h => am_E i_X11_above t L S h K) (fun np id aa L S h => am_M id aa h (fun r h1 => am_E i_X11_above np L (am_psh r S) h1 K)) K cd_X11_above L [] h)) : am_M i_X11_above aa h K := am_into cuts (q := me_X11_above) rfl rfl rfl hb
theorem b_X11_noBlow (cuts : List Nat) {pc : Nat} {K : Option Value → AH → Prop} {L : AL} {S : List Value} {h : AH} (hb : am_blk cuts (fun t L S h => am_E i_X11_noBlow t L S h K) (fun np id aa L S h => am_M id aa h (fun r h1 => am_E i_X11_noBlow np L (am_psh r S) h1 K)) K (am_seek cd_X11_noBlow pc) L S h) : am_E i_X11_noBlow pc L S h K := am_run cuts (q := me_X11_noBlow) rfl rfl hb
theorem e_X11_noBlow (cuts : List Nat) {K : Option Value → AH → Prop} {aa : List Value} {h : AH} (hb : am_ent aa 1 (fun L => am_blk cuts (fun t L S h => am_E i_X11_noBlow t L S h K) (fun np id aa L S h => am_M id aa h (fun r h1 => am_E i_X11_noBlow np L (am_psh r S) h1 K)) K cd_X11_noBlow L [] h)) : am_M i_X11_noBlow aa h K := am_into cuts (q := me_X11_noBlow) rfl rfl rfl hb
theorem b_X11_unknown (cuts : List Nat) {pc : Nat} {K : Option Value → AH → Prop} {L : AL} {S : List Value} {h : AH} (hb : am_blk cuts (fun t L S h => am_E i_X11_unknown t L S h K) (fun np id aa L S h => am_M id aa h (fun r h1 => am_E i_X11_unknown np L (am_psh r S) h1 K)) K (am_seek cd_X11_unknown pc) L S h) : am_E i_X11_unknown pc L S h K := am_run cuts (q := me_X11_unknown) rfl rfl hb
theorem e_X11_unknown (cuts : List Nat) {K : Option Value → AH → Prop} {aa : List Value} {h : AH} (hb : am_ent aa 2 (fun L => am_blk cuts (fun t L S h => am_E i_X11_unknown t L S h K) (fun np id aa L S h => am_M id aa h (fun r h1 => am_E i_X11_unknown np L (am_psh r S) h1 K)) K cd_X11_unknown L [] h)) : am_M i_X11_unknown aa h K := am_into cuts (q := me_X11_unknown) rfl rfl rfl hb
theorem b_X12_no (cuts : List Nat) {pc : Nat} {K : Option Value → AH → Prop} {L : AL} {S : List Value} {h : AH} (hb : am_blk cuts (fun t L S h => am_E i_X12_no t L S h K) (fun np id aa L S h => am_M id aa h (fun r h1 => am_E i_X12_no np L (am_psh r S) h1 K)) K (am_seek cd_X12_no pc) L S h) : am_E i_X12_no pc L S h K := am_run cuts (q := me_X12_no) rfl rfl hb
theorem e_X12_no (cuts : List Nat) {K : Option Value → AH → Prop} {aa : List Value} {h : AH} (hb : am_ent aa 2 (fun L => am_blk cuts (fun t L S h => am_E i_X12_no t L S h K) (fun np id aa L S h => am_M id aa h (fun r h1 => am_E i_X12_no np L (am_psh r S) h1 K)) K cd_X12_no L [] h)) : am_M i_X12_no aa h K := am_into cuts (q := me_X12_no) rfl rfl rfl hb
theorem b_X12_lowest (cuts : List Nat) {pc : Nat} {K : Option Value → AH → Prop} {L : AL} {S : List Value} {h : AH} (hb : am_blk cuts (fun t L S h => am_E i_X12_lowest t L S h K) (fun np id aa L S h => am_M id aa h (fun r h1 => am_E i_X12_lowest np L (am_psh r S) h1 K)) K (am_seek cd_X12_lowest pc) L S h) : am_E i_X12_lowest pc L S h K := am_run cuts (q := me_X12_lowest) rfl rfl hb
theorem e_X12_lowest (cuts : List Nat) {K : Option Value → AH → Prop} {aa : List Value} {h : AH} (hb : am_ent aa 2 (fun L => am_blk cuts (fun t L S h => am_E i_X12_lowest t L S h K) (fun np id aa L S h => am_M id aa h (fun r h1 => am_E i_X12_lowest np L (am_psh r S) h1 K)) K cd_X12_lowest L [] h)) : am_M i_X12_lowest aa h K := am_into cuts (q := me_X12_lowest) rfl rfl rfl hb
theorem b_X12_isIn (cuts : List Nat) {pc : Nat} {K : Option Value → AH → Prop} {L : AL} {S : List Value} {h : AH} (hb : am_blk cuts (fun t L S h => am_E i_X12_isIn t L S h K) (fun np id aa L S h => am_M id aa h (fun r h1 => am_E i_X12_isIn np L (am_psh r S) h1 K)) K (am_seek cd_X12_isIn pc) L S h) : am_E i_X12_isIn pc L S h K := am_run cuts (q := me_X12_isIn) rfl rfl hb
theorem e_X12_isIn (cuts : List Nat) {K : Option Value → AH → Prop} {aa : List Value} {h : AH} (hb : am_ent aa 3 (fun L => am_blk cuts (fun t L S h => am_E i_X12_isIn t L S h K) (fun np id aa L S h => am_M id aa h (fun r h1 => am_E i_X12_isIn np L (am_psh r S) h1 K)) K cd_X12_isIn L [] h)) : am_M i_X12_isIn aa h K := am_into cuts (q := me_X12_isIn) rfl rfl rfl hb
theorem b_X12_bound (cuts : List Nat) {pc : Nat} {K : Option Value → AH → Prop} {L : AL} {S : List Value} {h : AH} (hb : am_blk cuts (fun t L S h => am_E i_X12_bound t L S h K) (fun np id aa L S h => am_M id aa h (fun r h1 => am_E i_X12_bound np L (am_psh r S) h1 K)) K (am_seek cd_X12_bound pc) L S h) : am_E i_X12_bound pc L S h K := am_run cuts (q := me_X12_bound) rfl rfl hb
theorem e_X12_bound (cuts : List Nat) {K : Option Value → AH → Prop} {aa : List Value} {h : AH} (hb : am_ent aa 3 (fun L => am_blk cuts (fun t L S h => am_E i_X12_bound t L S h K) (fun np id aa L S h => am_M id aa h (fun r h1 => am_E i_X12_bound np L (am_psh r S) h1 K)) K cd_X12_bound L [] h)) : am_M i_X12_bound aa h K := am_into cuts (q := me_X12_bound) rfl rfl rfl hb
theorem b_X12_notBlow (cuts : List Nat) {pc : Nat} {K : Option Value → AH → Prop} {L : AL} {S : List Value} {h : AH} (hb : am_blk cuts (fun t L S h => am_E i_X12_notBlow t L S h K) (fun np id aa L S h => am_M id aa h (fun r h1 => am_E i_X12_notBlow np L (am_psh r S) h1 K)) K (am_seek cd_X12_notBlow pc) L S h) : am_E i_X12_notBlow pc L S h K := am_run cuts (q := me_X12_notBlow) rfl rfl hb
theorem e_X12_notBlow (cuts : List Nat) {K : Option Value → AH → Prop} {aa : List Value} {h : AH} (hb : am_ent aa 1 (fun L => am_blk cuts (fun t L S h => am_E i_X12_notBlow t L S h K) (fun np id aa L S h => am_M id aa h (fun r h1 => am_E i_X12_notBlow np L (am_psh r S) h1 K)) K cd_X12_notBlow L [] h)) : am_M i_X12_notBlow aa h K := am_into cuts (q := me_X12_notBlow) rfl rfl rfl hb
theorem b_X12_has (cuts : List Nat) {pc : Nat} {K : Option Value → AH → Prop} {L : AL} {S : List Value} {h : AH} (hb : am_blk cuts (fun t L S h => am_E i_X12_has t L S h K) (fun np id aa L S h => am_M id aa h (fun r h1 => am_E i_X12_has np L (am_psh r S) h1 K)) K (am_seek cd_X12_has pc) L S h) : am_E i_X12_has pc L S h K := am_run cuts (q := me_X12_has) rfl rfl hb
theorem e_X12_has (cuts : List Nat) {K : Option Value → AH → Prop} {aa : List Value} {h : AH} (hb : am_ent aa 2 (fun L => am_blk cuts (fun t L S h => am_E i_X12_has t L S h K) (fun np id aa L S h => am_M id aa h (fun r h1 => am_E i_X12_has np L (am_psh r S) h1 K)) K cd_X12_has L [] h)) : am_M i_X12_has aa h K := am_into cuts (q := me_X12_has) rfl rfl rfl hb
theorem b_X12_bits (cuts : List Nat) {pc : Nat} {K : Option Value → AH → Prop} {L : AL} {S : List Value} {h : AH} (hb : am_blk cuts (fun t L S h => am_E i_X12_bits t L S h K) (fun np id aa L S h => am_M id aa h (fun r h1 => am_E i_X12_bits np L (am_psh r S) h1 K)) K (am_seek cd_X12_bits pc) L S h) : am_E i_X12_bits pc L S h K := am_run cuts (q := me_X12_bits) rfl rfl hb
theorem e_X12_bits (cuts : List Nat) {K : Option Value → AH → Prop} {aa : List Value} {h : AH} (hb : am_ent aa 3 (fun L => am_blk cuts (fun t L S h => am_E i_X12_bits t L S h K) (fun np id aa L S h => am_M id aa h (fun r h1 => am_E i_X12_bits np L (am_psh r S) h1 K)) K cd_X12_bits L [] h)) : am_M i_X12_bits aa h K := am_into cuts (q := me_X12_bits) rfl rfl rfl hb
theorem b_X12_far (cuts : List Nat) {pc : Nat} {K : Option Value → AH → Prop} {L : AL} {S : List Value} {h : AH} (hb : am_blk cuts (fun t L S h => am_E i_X12_far t L S h K) (fun np id aa L S h => am_M id aa h (fun r h1 => am_E i_X12_far np L (am_psh r S) h1 K)) K (am_seek cd_X12_far pc) L S h) : am_E i_X12_far pc L S h K := am_run cuts (q := me_X12_far) rfl rfl hb
theorem e_X12_far (cuts : List Nat) {K : Option Value → AH → Prop} {aa : List Value} {h : AH} (hb : am_ent aa 2 (fun L => am_blk cuts (fun t L S h => am_E i_X12_far t L S h K) (fun np id aa L S h => am_M id aa h (fun r h1 => am_E i_X12_far np L (am_psh r S) h1 K)) K cd_X12_far L [] h)) : am_M i_X12_far aa h K := am_into cuts (q := me_X12_far) rfl rfl rfl hb
theorem b_X12_isThing (cuts : List Nat) {pc : Nat} {K : Option Value → AH → Prop} {L : AL} {S : List Value} {h : AH} (hb : am_blk cuts (fun t L S h => am_E i_X12_isThing t L S h K) (fun np id aa L S h => am_M id aa h (fun r h1 => am_E i_X12_isThing np L (am_psh r S) h1 K)) K (am_seek cd_X12_isThing pc) L S h) : am_E i_X12_isThing pc L S h K := am_run cuts (q := me_X12_isThing) rfl rfl hb
theorem e_X12_isThing (cuts : List Nat) {K : Option Value → AH → Prop} {aa : List Value} {h : AH} (hb : am_ent aa 2 (fun L => am_blk cuts (fun t L S h => am_E i_X12_isThing t L S h K) (fun np id aa L S h => am_M id aa h (fun r h1 => am_E i_X12_isThing np L (am_psh r S) h1 K)) K cd_X12_isThing L [] h)) : am_M i_X12_isThing aa h K := am_into cuts (q := me_X12_isThing) rfl rfl rfl hb
theorem b_X12_isLink (cuts : List Nat) {pc : Nat} {K : Option Value → AH → Prop} {L : AL} {S : List Value} {h : AH} (hb : am_blk cuts (fun t L S h => am_E i_X12_isLink t L S h K) (fun np id aa L S h => am_M id aa h (fun r h1 => am_E i_X12_isLink np L (am_psh r S) h1 K)) K (am_seek cd_X12_isLink pc) L S h) : am_E i_X12_isLink pc L S h K := am_run cuts (q := me_X12_isLink) rfl rfl hb
theorem e_X12_isLink (cuts : List Nat) {K : Option Value → AH → Prop} {aa : List Value} {h : AH} (hb : am_ent aa 2 (fun L => am_blk cuts (fun t L S h => am_E i_X12_isLink t L S h K) (fun np id aa L S h => am_M id aa h (fun r h1 => am_E i_X12_isLink np L (am_psh r S) h1 K)) K cd_X12_isLink L [] h)) : am_M i_X12_isLink aa h K := am_into cuts (q := me_X12_isLink) rfl rfl rfl hb
theorem b_X12_feed (cuts : List Nat) {pc : Nat} {K : Option Value → AH → Prop} {L : AL} {S : List Value} {h : AH} (hb : am_blk cuts (fun t L S h => am_E i_X12_feed t L S h K) (fun np id aa L S h => am_M id aa h (fun r h1 => am_E i_X12_feed np L (am_psh r S) h1 K)) K (am_seek cd_X12_feed pc) L S h) : am_E i_X12_feed pc L S h K := am_run cuts (q := me_X12_feed) rfl rfl hb
theorem e_X12_feed (cuts : List Nat) {K : Option Value → AH → Prop} {aa : List Value} {h : AH} (hb : am_ent aa 3 (fun L => am_blk cuts (fun t L S h => am_E i_X12_feed t L S h K) (fun np id aa L S h => am_M id aa h (fun r h1 => am_E i_X12_feed np L (am_psh r S) h1 K)) K cd_X12_feed L [] h)) : am_M i_X12_feed aa h K := am_into cuts (q := me_X12_feed) rfl rfl rfl hb
theorem b_X12_next (cuts : List Nat) {pc : Nat} {K : Option Value → AH → Prop} {L : AL} {S : List Value} {h : AH} (hb : am_blk cuts (fun t L S h => am_E i_X12_next t L S h K) (fun np id aa L S h => am_M id aa h (fun r h1 => am_E i_X12_next np L (am_psh r S) h1 K)) K (am_seek cd_X12_next pc) L S h) : am_E i_X12_next pc L S h K := am_run cuts (q := me_X12_next) rfl rfl hb
theorem e_X12_next (cuts : List Nat) {K : Option Value → AH → Prop} {aa : List Value} {h : AH} (hb : am_ent aa 1 (fun L => am_blk cuts (fun t L S h => am_E i_X12_next t L S h K) (fun np id aa L S h => am_M id aa h (fun r h1 => am_E i_X12_next np L (am_psh r S) h1 K)) K cd_X12_next L [] h)) : am_M i_X12_next aa h K := am_into cuts (q := me_X12_next) rfl rfl rfl hb
theorem b_X12_readsDigits (cuts : List Nat) {pc : Nat} {K : Option Value → AH → Prop} {L : AL} {S : List Value} {h : AH} (hb : am_blk cuts (fun t L S h => am_E i_X12_readsDigits t L S h K) (fun np id aa L S h => am_M id aa h (fun r h1 => am_E i_X12_readsDigits np L (am_psh r S) h1 K)) K (am_seek cd_X12_readsDigits pc) L S h) : am_E i_X12_readsDigits pc L S h K := am_run cuts (q := me_X12_readsDigits) rfl rfl hb
theorem e_X12_readsDigits (cuts : List Nat) {K : Option Value → AH → Prop} {aa : List Value} {h : AH} (hb : am_ent aa 5 (fun L => am_blk cuts (fun t L S h => am_E i_X12_readsDigits t L S h K) (fun np id aa L S h => am_M id aa h (fun r h1 => am_E i_X12_readsDigits np L (am_psh r S) h1 K)) K cd_X12_readsDigits L [] h)) : am_M i_X12_readsDigits aa h K := am_into cuts (q := me_X12_readsDigits) rfl rfl rfl hb
theorem b_X12_readsAll (cuts : List Nat) {pc : Nat} {K : Option Value → AH → Prop} {L : AL} {S : List Value} {h : AH} (hb : am_blk cuts (fun t L S h => am_E i_X12_readsAll t L S h K) (fun np id aa L S h => am_M id aa h (fun r h1 => am_E i_X12_readsAll np L (am_psh r S) h1 K)) K (am_seek cd_X12_readsAll pc) L S h) : am_E i_X12_readsAll pc L S h K := am_run cuts (q := me_X12_readsAll) rfl rfl hb
theorem e_X12_readsAll (cuts : List Nat) {K : Option Value → AH → Prop} {aa : List Value} {h : AH} (hb : am_ent aa 3 (fun L => am_blk cuts (fun t L S h => am_E i_X12_readsAll t L S h K) (fun np id aa L S h => am_M id aa h (fun r h1 => am_E i_X12_readsAll np L (am_psh r S) h1 K)) K cd_X12_readsAll L [] h)) : am_M i_X12_readsAll aa h K := am_into cuts (q := me_X12_readsAll) rfl rfl rfl hb
theorem b_X12_statement (cuts : List Nat) {pc : Nat} {K : Option Value → AH → Prop} {L : AL} {S : List Value} {h : AH} (hb : am_blk cuts (fun t L S h => am_E i_X12_statement t L S h K) (fun np id aa L S h => am_M id aa h (fun r h1 => am_E i_X12_statement np L (am_psh r S) h1 K)) K (am_seek cd_X12_statement pc) L S h) : am_E i_X12_statement pc L S h K := am_run cuts (q := me_X12_statement) rfl rfl hb
theorem e_X12_statement (cuts : List Nat) {K : Option Value → AH → Prop} {aa : List Value} {h : AH} (hb : am_ent aa 2 (fun L => am_blk cuts (fun t L S h => am_E i_X12_statement t L S h K) (fun np id aa L S h => am_M id aa h (fun r h1 => am_E i_X12_statement np L (am_psh r S) h1 K)) K cd_X12_statement L [] h)) : am_M i_X12_statement aa h K := am_into cuts (q := me_X12_statement) rfl rfl rfl hb
theorem b_X12_comesDrop (cuts : List Nat) {pc : Nat} {K : Option Value → AH → Prop} {L : AL} {S : List Value} {h : AH} (hb : am_blk cuts (fun t L S h => am_E i_X12_comesDrop t L S h K) (fun np id aa L S h => am_M id aa h (fun r h1 => am_E i_X12_comesDrop np L (am_psh r S) h1 K)) K (am_seek cd_X12_comesDrop pc) L S h) : am_E i_X12_comesDrop pc L S h K := am_run cuts (q := me_X12_comesDrop) rfl rfl hb
theorem e_X12_comesDrop (cuts : List Nat) {K : Option Value → AH → Prop} {aa : List Value} {h : AH} (hb : am_ent aa 3 (fun L => am_blk cuts (fun t L S h => am_E i_X12_comesDrop t L S h K) (fun np id aa L S h => am_M id aa h (fun r h1 => am_E i_X12_comesDrop np L (am_psh r S) h1 K)) K cd_X12_comesDrop L [] h)) : am_M i_X12_comesDrop aa h K := am_into cuts (q := me_X12_comesDrop) rfl rfl rfl hb
theorem b_X12_comesOther (cuts : List Nat) {pc : Nat} {K : Option Value → AH → Prop} {L : AL} {S : List Value} {h : AH} (hb : am_blk cuts (fun t L S h => am_E i_X12_comesOther t L S h K) (fun np id aa L S h => am_M id aa h (fun r h1 => am_E i_X12_comesOther np L (am_psh r S) h1 K)) K (am_seek cd_X12_comesOther pc) L S h) : am_E i_X12_comesOther pc L S h K := am_run cuts (q := me_X12_comesOther) rfl rfl hb
theorem e_X12_comesOther (cuts : List Nat) {K : Option Value → AH → Prop} {aa : List Value} {h : AH} (hb : am_ent aa 4 (fun L => am_blk cuts (fun t L S h => am_E i_X12_comesOther t L S h K) (fun np id aa L S h => am_M id aa h (fun r h1 => am_E i_X12_comesOther np L (am_psh r S) h1 K)) K cd_X12_comesOther L [] h)) : am_M i_X12_comesOther aa h K := am_into cuts (q := me_X12_comesOther) rfl rfl rfl hb
theorem b_X12_comes (cuts : List Nat) {pc : Nat} {K : Option Value → AH → Prop} {L : AL} {S : List Value} {h : AH} (hb : am_blk cuts (fun t L S h => am_E i_X12_comes t L S h K) (fun np id aa L S h => am_M id aa h (fun r h1 => am_E i_X12_comes np L (am_psh r S) h1 K)) K (am_seek cd_X12_comes pc) L S h) : am_E i_X12_comes pc L S h K := am_run cuts (q := me_X12_comes) rfl rfl hb
theorem e_X12_comes (cuts : List Nat) {K : Option Value → AH → Prop} {aa : List Value} {h : AH} (hb : am_ent aa 4 (fun L => am_blk cuts (fun t L S h => am_E i_X12_comes t L S h K) (fun np id aa L S h => am_M id aa h (fun r h1 => am_E i_X12_comes np L (am_psh r S) h1 K)) K cd_X12_comes L [] h)) : am_M i_X12_comes aa h K := am_into cuts (q := me_X12_comes) rfl rfl rfl hb
theorem b_X12_valley (cuts : List Nat) {pc : Nat} {K : Option Value → AH → Prop} {L : AL} {S : List Value} {h : AH} (hb : am_blk cuts (fun t L S h => am_E i_X12_valley t L S h K) (fun np id aa L S h => am_M id aa h (fun r h1 => am_E i_X12_valley np L (am_psh r S) h1 K)) K (am_seek cd_X12_valley pc) L S h) : am_E i_X12_valley pc L S h K := am_run cuts (q := me_X12_valley) rfl rfl hb
theorem e_X12_valley (cuts : List Nat) {K : Option Value → AH → Prop} {aa : List Value} {h : AH} (hb : am_ent aa 3 (fun L => am_blk cuts (fun t L S h => am_E i_X12_valley t L S h K) (fun np id aa L S h => am_M id aa h (fun r h1 => am_E i_X12_valley np L (am_psh r S) h1 K)) K cd_X12_valley L [] h)) : am_M i_X12_valley aa h K := am_into cuts (q := me_X12_valley) rfl rfl rfl hb
theorem b_X12_passes (cuts : List Nat) {pc : Nat} {K : Option Value → AH → Prop} {L : AL} {S : List Value} {h : AH} (hb : am_blk cuts (fun t L S h => am_E i_X12_passes t L S h K) (fun np id aa L S h => am_M id aa h (fun r h1 => am_E i_X12_passes np L (am_psh r S) h1 K)) K (am_seek cd_X12_passes pc) L S h) : am_E i_X12_passes pc L S h K := am_run cuts (q := me_X12_passes) rfl rfl hb
theorem e_X12_passes (cuts : List Nat) {K : Option Value → AH → Prop} {aa : List Value} {h : AH} (hb : am_ent aa 3 (fun L => am_blk cuts (fun t L S h => am_E i_X12_passes t L S h K) (fun np id aa L S h => am_M id aa h (fun r h1 => am_E i_X12_passes np L (am_psh r S) h1 K)) K cd_X12_passes L [] h)) : am_M i_X12_passes aa h K := am_into cuts (q := me_X12_passes) rfl rfl rfl hb
theorem b_X12_passOne (cuts : List Nat) {pc : Nat} {K : Option Value → AH → Prop} {L : AL} {S : List Value} {h : AH} (hb : am_blk cuts (fun t L S h => am_E i_X12_passOne t L S h K) (fun np id aa L S h => am_M id aa h (fun r h1 => am_E i_X12_passOne np L (am_psh r S) h1 K)) K (am_seek cd_X12_passOne pc) L S h) : am_E i_X12_passOne pc L S h K := am_run cuts (q := me_X12_passOne) rfl rfl hb
theorem e_X12_passOne (cuts : List Nat) {K : Option Value → AH → Prop} {aa : List Value} {h : AH} (hb : am_ent aa 3 (fun L => am_blk cuts (fun t L S h => am_E i_X12_passOne t L S h K) (fun np id aa L S h => am_M id aa h (fun r h1 => am_E i_X12_passOne np L (am_psh r S) h1 K)) K cd_X12_passOne L [] h)) : am_M i_X12_passOne aa h K := am_into cuts (q := me_X12_passOne) rfl rfl rfl hb
theorem b_X12_passesAll (cuts : List Nat) {pc : Nat} {K : Option Value → AH → Prop} {L : AL} {S : List Value} {h : AH} (hb : am_blk cuts (fun t L S h => am_E i_X12_passesAll t L S h K) (fun np id aa L S h => am_M id aa h (fun r h1 => am_E i_X12_passesAll np L (am_psh r S) h1 K)) K (am_seek cd_X12_passesAll pc) L S h) : am_E i_X12_passesAll pc L S h K := am_run cuts (q := me_X12_passesAll) rfl rfl hb
theorem e_X12_passesAll (cuts : List Nat) {K : Option Value → AH → Prop} {aa : List Value} {h : AH} (hb : am_ent aa 3 (fun L => am_blk cuts (fun t L S h => am_E i_X12_passesAll t L S h K) (fun np id aa L S h => am_M id aa h (fun r h1 => am_E i_X12_passesAll np L (am_psh r S) h1 K)) K cd_X12_passesAll L [] h)) : am_M i_X12_passesAll aa h K := am_into cuts (q := me_X12_passesAll) rfl rfl rfl hb
theorem b_X12_thinks (cuts : List Nat) {pc : Nat} {K : Option Value → AH → Prop} {L : AL} {S : List Value} {h : AH} (hb : am_blk cuts (fun t L S h => am_E i_X12_thinks t L S h K) (fun np id aa L S h => am_M id aa h (fun r h1 => am_E i_X12_thinks np L (am_psh r S) h1 K)) K (am_seek cd_X12_thinks pc) L S h) : am_E i_X12_thinks pc L S h K := am_run cuts (q := me_X12_thinks) rfl rfl hb
theorem e_X12_thinks (cuts : List Nat) {K : Option Value → AH → Prop} {aa : List Value} {h : AH} (hb : am_ent aa 1 (fun L => am_blk cuts (fun t L S h => am_E i_X12_thinks t L S h K) (fun np id aa L S h => am_M id aa h (fun r h1 => am_E i_X12_thinks np L (am_psh r S) h1 K)) K cd_X12_thinks L [] h)) : am_M i_X12_thinks aa h K := am_into cuts (q := me_X12_thinks) rfl rfl rfl hb
theorem b_X12_forgets (cuts : List Nat) {pc : Nat} {K : Option Value → AH → Prop} {L : AL} {S : List Value} {h : AH} (hb : am_blk cuts (fun t L S h => am_E i_X12_forgets t L S h K) (fun np id aa L S h => am_M id aa h (fun r h1 => am_E i_X12_forgets np L (am_psh r S) h1 K)) K (am_seek cd_X12_forgets pc) L S h) : am_E i_X12_forgets pc L S h K := am_run cuts (q := me_X12_forgets) rfl rfl hb
theorem e_X12_forgets (cuts : List Nat) {K : Option Value → AH → Prop} {aa : List Value} {h : AH} (hb : am_ent aa 1 (fun L => am_blk cuts (fun t L S h => am_E i_X12_forgets t L S h K) (fun np id aa L S h => am_M id aa h (fun r h1 => am_E i_X12_forgets np L (am_psh r S) h1 K)) K cd_X12_forgets L [] h)) : am_M i_X12_forgets aa h K := am_into cuts (q := me_X12_forgets) rfl rfl rfl hb
theorem b_X12_keepsBack (cuts : List Nat) {pc : Nat} {K : Option Value → AH → Prop} {L : AL} {S : List Value} {h : AH} (hb : am_blk cuts (fun t L S h => am_E i_X12_keepsBack t L S h K) (fun np id aa L S h => am_M id aa h (fun r h1 => am_E i_X12_keepsBack np L (am_psh r S) h1 K)) K (am_seek cd_X12_keepsBack pc) L S h) : am_E i_X12_keepsBack pc L S h K := am_run cuts (q := me_X12_keepsBack) rfl rfl hb
theorem e_X12_keepsBack (cuts : List Nat) {K : Option Value → AH → Prop} {aa : List Value} {h : AH} (hb : am_ent aa 2 (fun L => am_blk cuts (fun t L S h => am_E i_X12_keepsBack t L S h K) (fun np id aa L S h => am_M id aa h (fun r h1 => am_E i_X12_keepsBack np L (am_psh r S) h1 K)) K cd_X12_keepsBack L [] h)) : am_M i_X12_keepsBack aa h K := am_into cuts (q := me_X12_keepsBack) rfl rfl rfl hb
theorem b_X12_back (cuts : List Nat) {pc : Nat} {K : Option Value → AH → Prop} {L : AL} {S : List Value} {h : AH} (hb : am_blk cuts (fun t L S h => am_E i_X12_back t L S h K) (fun np id aa L S h => am_M id aa h (fun r h1 => am_E i_X12_back np L (am_psh r S) h1 K)) K (am_seek cd_X12_back pc) L S h) : am_E i_X12_back pc L S h K := am_run cuts (q := me_X12_back) rfl rfl hb
theorem e_X12_back (cuts : List Nat) {K : Option Value → AH → Prop} {aa : List Value} {h : AH} (hb : am_ent aa 1 (fun L => am_blk cuts (fun t L S h => am_E i_X12_back t L S h K) (fun np id aa L S h => am_M id aa h (fun r h1 => am_E i_X12_back np L (am_psh r S) h1 K)) K cd_X12_back L [] h)) : am_M i_X12_back aa h K := am_into cuts (q := me_X12_back) rfl rfl rfl hb
theorem b_X12_image (cuts : List Nat) {pc : Nat} {K : Option Value → AH → Prop} {L : AL} {S : List Value} {h : AH} (hb : am_blk cuts (fun t L S h => am_E i_X12_image t L S h K) (fun np id aa L S h => am_M id aa h (fun r h1 => am_E i_X12_image np L (am_psh r S) h1 K)) K (am_seek cd_X12_image pc) L S h) : am_E i_X12_image pc L S h K := am_run cuts (q := me_X12_image) rfl rfl hb
theorem e_X12_image (cuts : List Nat) {K : Option Value → AH → Prop} {aa : List Value} {h : AH} (hb : am_ent aa 1 (fun L => am_blk cuts (fun t L S h => am_E i_X12_image t L S h K) (fun np id aa L S h => am_M id aa h (fun r h1 => am_E i_X12_image np L (am_psh r S) h1 K)) K cd_X12_image L [] h)) : am_M i_X12_image aa h K := am_into cuts (q := me_X12_image) rfl rfl rfl hb
theorem b_X12_restore (cuts : List Nat) {pc : Nat} {K : Option Value → AH → Prop} {L : AL} {S : List Value} {h : AH} (hb : am_blk cuts (fun t L S h => am_E i_X12_restore t L S h K) (fun np id aa L S h => am_M id aa h (fun r h1 => am_E i_X12_restore np L (am_psh r S) h1 K)) K (am_seek cd_X12_restore pc) L S h) : am_E i_X12_restore pc L S h K := am_run cuts (q := me_X12_restore) rfl rfl hb
theorem e_X12_restore (cuts : List Nat) {K : Option Value → AH → Prop} {aa : List Value} {h : AH} (hb : am_ent aa 1 (fun L => am_blk cuts (fun t L S h => am_E i_X12_restore t L S h K) (fun np id aa L S h => am_M id aa h (fun r h1 => am_E i_X12_restore np L (am_psh r S) h1 K)) K cd_X12_restore L [] h)) : am_M i_X12_restore aa h K := am_into cuts (q := me_X12_restore) rfl rfl rfl hb
theorem b_X12_adds (cuts : List Nat) {pc : Nat} {K : Option Value → AH → Prop} {L : AL} {S : List Value} {h : AH} (hb : am_blk cuts (fun t L S h => am_E i_X12_adds t L S h K) (fun np id aa L S h => am_M id aa h (fun r h1 => am_E i_X12_adds np L (am_psh r S) h1 K)) K (am_seek cd_X12_adds pc) L S h) : am_E i_X12_adds pc L S h K := am_run cuts (q := me_X12_adds) rfl rfl hb
theorem e_X12_adds (cuts : List Nat) {K : Option Value → AH → Prop} {aa : List Value} {h : AH} (hb : am_ent aa 4 (fun L => am_blk cuts (fun t L S h => am_E i_X12_adds t L S h K) (fun np id aa L S h => am_M id aa h (fun r h1 => am_E i_X12_adds np L (am_psh r S) h1 K)) K cd_X12_adds L [] h)) : am_M i_X12_adds aa h K := am_into cuts (q := me_X12_adds) rfl rfl rfl hb
theorem b_X12_lossOf (cuts : List Nat) {pc : Nat} {K : Option Value → AH → Prop} {L : AL} {S : List Value} {h : AH} (hb : am_blk cuts (fun t L S h => am_E i_X12_lossOf t L S h K) (fun np id aa L S h => am_M id aa h (fun r h1 => am_E i_X12_lossOf np L (am_psh r S) h1 K)) K (am_seek cd_X12_lossOf pc) L S h) : am_E i_X12_lossOf pc L S h K := am_run cuts (q := me_X12_lossOf) rfl rfl hb
theorem e_X12_lossOf (cuts : List Nat) {K : Option Value → AH → Prop} {aa : List Value} {h : AH} (hb : am_ent aa 3 (fun L => am_blk cuts (fun t L S h => am_E i_X12_lossOf t L S h K) (fun np id aa L S h => am_M id aa h (fun r h1 => am_E i_X12_lossOf np L (am_psh r S) h1 K)) K cd_X12_lossOf L [] h)) : am_M i_X12_lossOf aa h K := am_into cuts (q := me_X12_lossOf) rfl rfl rfl hb
theorem b_X12_standsOf (cuts : List Nat) {pc : Nat} {K : Option Value → AH → Prop} {L : AL} {S : List Value} {h : AH} (hb : am_blk cuts (fun t L S h => am_E i_X12_standsOf t L S h K) (fun np id aa L S h => am_M id aa h (fun r h1 => am_E i_X12_standsOf np L (am_psh r S) h1 K)) K (am_seek cd_X12_standsOf pc) L S h) : am_E i_X12_standsOf pc L S h K := am_run cuts (q := me_X12_standsOf) rfl rfl hb
theorem e_X12_standsOf (cuts : List Nat) {K : Option Value → AH → Prop} {aa : List Value} {h : AH} (hb : am_ent aa 3 (fun L => am_blk cuts (fun t L S h => am_E i_X12_standsOf t L S h K) (fun np id aa L S h => am_M id aa h (fun r h1 => am_E i_X12_standsOf np L (am_psh r S) h1 K)) K cd_X12_standsOf L [] h)) : am_M i_X12_standsOf aa h K := am_into cuts (q := me_X12_standsOf) rfl rfl rfl hb
theorem b_X12_jumpOf (cuts : List Nat) {pc : Nat} {K : Option Value → AH → Prop} {L : AL} {S : List Value} {h : AH} (hb : am_blk cuts (fun t L S h => am_E i_X12_jumpOf t L S h K) (fun np id aa L S h => am_M id aa h (fun r h1 => am_E i_X12_jumpOf np L (am_psh r S) h1 K)) K (am_seek cd_X12_jumpOf pc) L S h) : am_E i_X12_jumpOf pc L S h K := am_run cuts (q := me_X12_jumpOf) rfl rfl hb
theorem e_X12_jumpOf (cuts : List Nat) {K : Option Value → AH → Prop} {aa : List Value} {h : AH} (hb : am_ent aa 3 (fun L => am_blk cuts (fun t L S h => am_E i_X12_jumpOf t L S h K) (fun np id aa L S h => am_M id aa h (fun r h1 => am_E i_X12_jumpOf np L (am_psh r S) h1 K)) K cd_X12_jumpOf L [] h)) : am_M i_X12_jumpOf aa h K := am_into cuts (q := me_X12_jumpOf) rfl rfl rfl hb
theorem b_X12_placeOf (cuts : List Nat) {pc : Nat} {K : Option Value → AH → Prop} {L : AL} {S : List Value} {h : AH} (hb : am_blk cuts (fun t L S h => am_E i_X12_placeOf t L S h K) (fun np id aa L S h => am_M id aa h (fun r h1 => am_E i_X12_placeOf np L (am_psh r S) h1 K)) K (am_seek cd_X12_placeOf pc) L S h) : am_E i_X12_placeOf pc L S h K := am_run cuts (q := me_X12_placeOf) rfl rfl hb
theorem e_X12_placeOf (cuts : List Nat) {K : Option Value → AH → Prop} {aa : List Value} {h : AH} (hb : am_ent aa 3 (fun L => am_blk cuts (fun t L S h => am_E i_X12_placeOf t L S h K) (fun np id aa L S h => am_M id aa h (fun r h1 => am_E i_X12_placeOf np L (am_psh r S) h1 K)) K cd_X12_placeOf L [] h)) : am_M i_X12_placeOf aa h K := am_into cuts (q := me_X12_placeOf) rfl rfl rfl hb
theorem b_X12_lands (cuts : List Nat) {pc : Nat} {K : Option Value → AH → Prop} {L : AL} {S : List Value} {h : AH} (hb : am_blk cuts (fun t L S h => am_E i_X12_lands t L S h K) (fun np id aa L S h => am_M id aa h (fun r h1 => am_E i_X12_lands np L (am_psh r S) h1 K)) K (am_seek cd_X12_lands pc) L S h) : am_E i_X12_lands pc L S h K := am_run cuts (q := me_X12_lands) rfl rfl hb
theorem e_X12_lands (cuts : List Nat) {K : Option Value → AH → Prop} {aa : List Value} {h : AH} (hb : am_ent aa 4 (fun L => am_blk cuts (fun t L S h => am_E i_X12_lands t L S h K) (fun np id aa L S h => am_M id aa h (fun r h1 => am_E i_X12_lands np L (am_psh r S) h1 K)) K cd_X12_lands L [] h)) : am_M i_X12_lands aa h K := am_into cuts (q := me_X12_lands) rfl rfl rfl hb
theorem b_X12_goesAlong (cuts : List Nat) {pc : Nat} {K : Option Value → AH → Prop} {L : AL} {S : List Value} {h : AH} (hb : am_blk cuts (fun t L S h => am_E i_X12_goesAlong t L S h K) (fun np id aa L S h => am_M id aa h (fun r h1 => am_E i_X12_goesAlong np L (am_psh r S) h1 K)) K (am_seek cd_X12_goesAlong pc) L S h) : am_E i_X12_goesAlong pc L S h K := am_run cuts (q := me_X12_goesAlong) rfl rfl hb
theorem e_X12_goesAlong (cuts : List Nat) {K : Option Value → AH → Prop} {aa : List Value} {h : AH} (hb : am_ent aa 7 (fun L => am_blk cuts (fun t L S h => am_E i_X12_goesAlong t L S h K) (fun np id aa L S h => am_M id aa h (fun r h1 => am_E i_X12_goesAlong np L (am_psh r S) h1 K)) K cd_X12_goesAlong L [] h)) : am_M i_X12_goesAlong aa h K := am_into cuts (q := me_X12_goesAlong) rfl rfl rfl hb
theorem b_X12_findBlow (cuts : List Nat) {pc : Nat} {K : Option Value → AH → Prop} {L : AL} {S : List Value} {h : AH} (hb : am_blk cuts (fun t L S h => am_E i_X12_findBlow t L S h K) (fun np id aa L S h => am_M id aa h (fun r h1 => am_E i_X12_findBlow np L (am_psh r S) h1 K)) K (am_seek cd_X12_findBlow pc) L S h) : am_E i_X12_findBlow pc L S h K := am_run cuts (q := me_X12_findBlow) rfl rfl hb
theorem e_X12_findBlow (cuts : List Nat) {K : Option Value → AH → Prop} {aa : List Value} {h : AH} (hb : am_ent aa 5 (fun L => am_blk cuts (fun t L S h => am_E i_X12_findBlow t L S h K) (fun np id aa L S h => am_M id aa h (fun r h1 => am_E i_X12_findBlow np L (am_psh r S) h1 K)) K cd_X12_findBlow L [] h)) : am_M i_X12_findBlow aa h K := am_into cuts (q := me_X12_findBlow) rfl rfl rfl hb
theorem b_X12_breaksBy (cuts : List Nat) {pc : Nat} {K : Option Value → AH → Prop} {L : AL} {S : List Value} {h : AH} (hb : am_blk cuts (fun t L S h => am_E i_X12_breaksBy t L S h K) (fun np id aa L S h => am_M id aa h (fun r h1 => am_E i_X12_breaksBy np L (am_psh r S) h1 K)) K (am_seek cd_X12_breaksBy pc) L S h) : am_E i_X12_breaksBy pc L S h K := am_run cuts (q := me_X12_breaksBy) rfl rfl hb
theorem e_X12_breaksBy (cuts : List Nat) {K : Option Value → AH → Prop} {aa : List Value} {h : AH} (hb : am_ent aa 3 (fun L => am_blk cuts (fun t L S h => am_E i_X12_breaksBy t L S h K) (fun np id aa L S h => am_M id aa h (fun r h1 => am_E i_X12_breaksBy np L (am_psh r S) h1 K)) K cd_X12_breaksBy L [] h)) : am_M i_X12_breaksBy aa h K := am_into cuts (q := me_X12_breaksBy) rfl rfl rfl hb
theorem b_X12_manyGet (cuts : List Nat) {pc : Nat} {K : Option Value → AH → Prop} {L : AL} {S : List Value} {h : AH} (hb : am_blk cuts (fun t L S h => am_E i_X12_manyGet t L S h K) (fun np id aa L S h => am_M id aa h (fun r h1 => am_E i_X12_manyGet np L (am_psh r S) h1 K)) K (am_seek cd_X12_manyGet pc) L S h) : am_E i_X12_manyGet pc L S h K := am_run cuts (q := me_X12_manyGet) rfl rfl hb
theorem e_X12_manyGet (cuts : List Nat) {K : Option Value → AH → Prop} {aa : List Value} {h : AH} (hb : am_ent aa 3 (fun L => am_blk cuts (fun t L S h => am_E i_X12_manyGet t L S h K) (fun np id aa L S h => am_M id aa h (fun r h1 => am_E i_X12_manyGet np L (am_psh r S) h1 K)) K cd_X12_manyGet L [] h)) : am_M i_X12_manyGet aa h K := am_into cuts (q := me_X12_manyGet) rfl rfl rfl hb
theorem b_X12_allJumps (cuts : List Nat) {pc : Nat} {K : Option Value → AH → Prop} {L : AL} {S : List Value} {h : AH} (hb : am_blk cuts (fun t L S h => am_E i_X12_allJumps t L S h K) (fun np id aa L S h => am_M id aa h (fun r h1 => am_E i_X12_allJumps np L (am_psh r S) h1 K)) K (am_seek cd_X12_allJumps pc) L S h) : am_E i_X12_allJumps pc L S h K := am_run cuts (q := me_X12_allJumps) rfl rfl hb
theorem e_X12_allJumps (cuts : List Nat) {K : Option Value → AH → Prop} {aa : List Value} {h : AH} (hb : am_ent aa 3 (fun L => am_blk cuts (fun t L S h => am_E i_X12_allJumps t L S h K) (fun np id aa L S h => am_M id aa h (fun r h1 => am_E i_X12_allJumps np L (am_psh r S) h1 K)) K cd_X12_allJumps L [] h)) : am_M i_X12_allJumps aa h K := am_into cuts (q := me_X12_allJumps) rfl rfl rfl hb
theorem b_X12_thingOf (cuts : List Nat) {pc : Nat} {K : Option Value → AH → Prop} {L : AL} {S : List Value} {h : AH} (hb : am_blk cuts (fun t L S h => am_E i_X12_thingOf t L S h K) (fun np id aa L S h => am_M id aa h (fun r h1 => am_E i_X12_thingOf np L (am_psh r S) h1 K)) K (am_seek cd_X12_thingOf pc) L S h) : am_E i_X12_thingOf pc L S h K := am_run cuts (q := me_X12_thingOf) rfl rfl hb
theorem e_X12_thingOf (cuts : List Nat) {K : Option Value → AH → Prop} {aa : List Value} {h : AH} (hb : am_ent aa 3 (fun L => am_blk cuts (fun t L S h => am_E i_X12_thingOf t L S h K) (fun np id aa L S h => am_M id aa h (fun r h1 => am_E i_X12_thingOf np L (am_psh r S) h1 K)) K cd_X12_thingOf L [] h)) : am_M i_X12_thingOf aa h K := am_into cuts (q := me_X12_thingOf) rfl rfl rfl hb
theorem b_X12_place (cuts : List Nat) {pc : Nat} {K : Option Value → AH → Prop} {L : AL} {S : List Value} {h : AH} (hb : am_blk cuts (fun t L S h => am_E i_X12_place t L S h K) (fun np id aa L S h => am_M id aa h (fun r h1 => am_E i_X12_place np L (am_psh r S) h1 K)) K (am_seek cd_X12_place pc) L S h) : am_E i_X12_place pc L S h K := am_run cuts (q := me_X12_place) rfl rfl hb
theorem e_X12_place (cuts : List Nat) {K : Option Value → AH → Prop} {aa : List Value} {h : AH} (hb : am_ent aa 3 (fun L => am_blk cuts (fun t L S h => am_E i_X12_place t L S h K) (fun np id aa L S h => am_M id aa h (fun r h1 => am_E i_X12_place np L (am_psh r S) h1 K)) K cd_X12_place L [] h)) : am_M i_X12_place aa h K := am_into cuts (q := me_X12_place) rfl rfl rfl hb
theorem b_X12_thing (cuts : List Nat) {pc : Nat} {K : Option Value → AH → Prop} {L : AL} {S : List Value} {h : AH} (hb : am_blk cuts (fun t L S h => am_E i_X12_thing t L S h K) (fun np id aa L S h => am_M id aa h (fun r h1 => am_E i_X12_thing np L (am_psh r S) h1 K)) K (am_seek cd_X12_thing pc) L S h) : am_E i_X12_thing pc L S h K := am_run cuts (q := me_X12_thing) rfl rfl hb
theorem e_X12_thing (cuts : List Nat) {K : Option Value → AH → Prop} {aa : List Value} {h : AH} (hb : am_ent aa 5 (fun L => am_blk cuts (fun t L S h => am_E i_X12_thing t L S h K) (fun np id aa L S h => am_M id aa h (fun r h1 => am_E i_X12_thing np L (am_psh r S) h1 K)) K cd_X12_thing L [] h)) : am_M i_X12_thing aa h K := am_into cuts (q := me_X12_thing) rfl rfl rfl hb
theorem b_X12_drops (cuts : List Nat) {pc : Nat} {K : Option Value → AH → Prop} {L : AL} {S : List Value} {h : AH} (hb : am_blk cuts (fun t L S h => am_E i_X12_drops t L S h K) (fun np id aa L S h => am_M id aa h (fun r h1 => am_E i_X12_drops np L (am_psh r S) h1 K)) K (am_seek cd_X12_drops pc) L S h) : am_E i_X12_drops pc L S h K := am_run cuts (q := me_X12_drops) rfl rfl hb
theorem e_X12_drops (cuts : List Nat) {K : Option Value → AH → Prop} {aa : List Value} {h : AH} (hb : am_ent aa 4 (fun L => am_blk cuts (fun t L S h => am_E i_X12_drops t L S h K) (fun np id aa L S h => am_M id aa h (fun r h1 => am_E i_X12_drops np L (am_psh r S) h1 K)) K cd_X12_drops L [] h)) : am_M i_X12_drops aa h K := am_into cuts (q := me_X12_drops) rfl rfl rfl hb
theorem b_X12_mends (cuts : List Nat) {pc : Nat} {K : Option Value → AH → Prop} {L : AL} {S : List Value} {h : AH} (hb : am_blk cuts (fun t L S h => am_E i_X12_mends t L S h K) (fun np id aa L S h => am_M id aa h (fun r h1 => am_E i_X12_mends np L (am_psh r S) h1 K)) K (am_seek cd_X12_mends pc) L S h) : am_E i_X12_mends pc L S h K := am_run cuts (q := me_X12_mends) rfl rfl hb
theorem e_X12_mends (cuts : List Nat) {K : Option Value → AH → Prop} {aa : List Value} {h : AH} (hb : am_ent aa 3 (fun L => am_blk cuts (fun t L S h => am_E i_X12_mends t L S h K) (fun np id aa L S h => am_M id aa h (fun r h1 => am_E i_X12_mends np L (am_psh r S) h1 K)) K cd_X12_mends L [] h)) : am_M i_X12_mends aa h K := am_into cuts (q := me_X12_mends) rfl rfl rfl hb
theorem b_X12_cuts (cuts : List Nat) {pc : Nat} {K : Option Value → AH → Prop} {L : AL} {S : List Value} {h : AH} (hb : am_blk cuts (fun t L S h => am_E i_X12_cuts t L S h K) (fun np id aa L S h => am_M id aa h (fun r h1 => am_E i_X12_cuts np L (am_psh r S) h1 K)) K (am_seek cd_X12_cuts pc) L S h) : am_E i_X12_cuts pc L S h K := am_run cuts (q := me_X12_cuts) rfl rfl hb
theorem e_X12_cuts (cuts : List Nat) {K : Option Value → AH → Prop} {aa : List Value} {h : AH} (hb : am_ent aa 2 (fun L => am_blk cuts (fun t L S h => am_E i_X12_cuts t L S h K) (fun np id aa L S h => am_M id aa h (fun r h1 => am_E i_X12_cuts np L (am_psh r S) h1 K)) K cd_X12_cuts L [] h)) : am_M i_X12_cuts aa h K := am_into cuts (q := me_X12_cuts) rfl rfl rfl hb
theorem b_X12_exchanges (cuts : List Nat) {pc : Nat} {K : Option Value → AH → Prop} {L : AL} {S : List Value} {h : AH} (hb : am_blk cuts (fun t L S h => am_E i_X12_exchanges t L S h K) (fun np id aa L S h => am_M id aa h (fun r h1 => am_E i_X12_exchanges np L (am_psh r S) h1 K)) K (am_seek cd_X12_exchanges pc) L S h) : am_E i_X12_exchanges pc L S h K := am_run cuts (q := me_X12_exchanges) rfl rfl hb
theorem e_X12_exchanges (cuts : List Nat) {K : Option Value → AH → Prop} {aa : List Value} {h : AH} (hb : am_ent aa 4 (fun L => am_blk cuts (fun t L S h => am_E i_X12_exchanges t L S h K) (fun np id aa L S h => am_M id aa h (fun r h1 => am_E i_X12_exchanges np L (am_psh r S) h1 K)) K cd_X12_exchanges L [] h)) : am_M i_X12_exchanges aa h K := am_into cuts (q := me_X12_exchanges) rfl rfl rfl hb
theorem b_X12_changes (cuts : List Nat) {pc : Nat} {K : Option Value → AH → Prop} {L : AL} {S : List Value} {h : AH} (hb : am_blk cuts (fun t L S h => am_E i_X12_changes t L S h K) (fun np id aa L S h => am_M id aa h (fun r h1 => am_E i_X12_changes np L (am_psh r S) h1 K)) K (am_seek cd_X12_changes pc) L S h) : am_E i_X12_changes pc L S h K := am_run cuts (q := me_X12_changes) rfl rfl hb
theorem e_X12_changes (cuts : List Nat) {K : Option Value → AH → Prop} {aa : List Value} {h : AH} (hb : am_ent aa 3 (fun L => am_blk cuts (fun t L S h => am_E i_X12_changes t L S h K) (fun np id aa L S h => am_M id aa h (fun r h1 => am_E i_X12_changes np L (am_psh r S) h1 K)) K cd_X12_changes L [] h)) : am_M i_X12_changes aa h K := am_into cuts (q := me_X12_changes) rfl rfl rfl hb
theorem b_X12_notTwo (cuts : List Nat) {pc : Nat} {K : Option Value → AH → Prop} {L : AL} {S : List Value} {h : AH} (hb : am_blk cuts (fun t L S h => am_E i_X12_notTwo t L S h K) (fun np id aa L S h => am_M id aa h (fun r h1 => am_E i_X12_notTwo np L (am_psh r S) h1 K)) K (am_seek cd_X12_notTwo pc) L S h) : am_E i_X12_notTwo pc L S h K := am_run cuts (q := me_X12_notTwo) rfl rfl hb
theorem e_X12_notTwo (cuts : List Nat) {K : Option Value → AH → Prop} {aa : List Value} {h : AH} (hb : am_ent aa 3 (fun L => am_blk cuts (fun t L S h => am_E i_X12_notTwo t L S h K) (fun np id aa L S h => am_M id aa h (fun r h1 => am_E i_X12_notTwo np L (am_psh r S) h1 K)) K cd_X12_notTwo L [] h)) : am_M i_X12_notTwo aa h K := am_into cuts (q := me_X12_notTwo) rfl rfl rfl hb
theorem b_X12_gets (cuts : List Nat) {pc : Nat} {K : Option Value → AH → Prop} {L : AL} {S : List Value} {h : AH} (hb : am_blk cuts (fun t L S h => am_E i_X12_gets t L S h K) (fun np id aa L S h => am_M id aa h (fun r h1 => am_E i_X12_gets np L (am_psh r S) h1 K)) K (am_seek cd_X12_gets pc) L S h) : am_E i_X12_gets pc L S h K := am_run cuts (q := me_X12_gets) rfl rfl hb
theorem e_X12_gets (cuts : List Nat) {K : Option Value → AH → Prop} {aa : List Value} {h : AH} (hb : am_ent aa 6 (fun L => am_blk cuts (fun t L S h => am_E i_X12_gets t L S h K) (fun np id aa L S h => am_M id aa h (fun r h1 => am_E i_X12_gets np L (am_psh r S) h1 K)) K cd_X12_gets L [] h)) : am_M i_X12_gets aa h K := am_into cuts (q := me_X12_gets) rfl rfl rfl hb
theorem b_X12_whoGet (cuts : List Nat) {pc : Nat} {K : Option Value → AH → Prop} {L : AL} {S : List Value} {h : AH} (hb : am_blk cuts (fun t L S h => am_E i_X12_whoGet t L S h K) (fun np id aa L S h => am_M id aa h (fun r h1 => am_E i_X12_whoGet np L (am_psh r S) h1 K)) K (am_seek cd_X12_whoGet pc) L S h) : am_E i_X12_whoGet pc L S h K := am_run cuts (q := me_X12_whoGet) rfl rfl hb
theorem e_X12_whoGet (cuts : List Nat) {K : Option Value → AH → Prop} {aa : List Value} {h : AH} (hb : am_ent aa 3 (fun L => am_blk cuts (fun t L S h => am_E i_X12_whoGet t L S h K) (fun np id aa L S h => am_M id aa h (fun r h1 => am_E i_X12_whoGet np L (am_psh r S) h1 K)) K cd_X12_whoGet L [] h)) : am_M i_X12_whoGet aa h K := am_into cuts (q := me_X12_whoGet) rfl rfl rfl hb
theorem b_X12_farthestFrom (cuts : List Nat) {pc : Nat} {K : Option Value → AH → Prop} {L : AL} {S : List Value} {h : AH} (hb : am_blk cuts (fun t L S h => am_E i_X12_farthestFrom t L S h K) (fun np id aa L S h => am_M id aa h (fun r h1 => am_E i_X12_farthestFrom np L (am_psh r S) h1 K)) K (am_seek cd_X12_farthestFrom pc) L S h) : am_E i_X12_farthestFrom pc L S h K := am_run cuts (q := me_X12_farthestFrom) rfl rfl hb
theorem e_X12_farthestFrom (cuts : List Nat) {K : Option Value → AH → Prop} {aa : List Value} {h : AH} (hb : am_ent aa 4 (fun L => am_blk cuts (fun t L S h => am_E i_X12_farthestFrom t L S h K) (fun np id aa L S h => am_M id aa h (fun r h1 => am_E i_X12_farthestFrom np L (am_psh r S) h1 K)) K cd_X12_farthestFrom L [] h)) : am_M i_X12_farthestFrom aa h K := am_into cuts (q := me_X12_farthestFrom) rfl rfl rfl hb
theorem b_X12_blow (cuts : List Nat) {pc : Nat} {K : Option Value → AH → Prop} {L : AL} {S : List Value} {h : AH} (hb : am_blk cuts (fun t L S h => am_E i_X12_blow t L S h K) (fun np id aa L S h => am_M id aa h (fun r h1 => am_E i_X12_blow np L (am_psh r S) h1 K)) K (am_seek cd_X12_blow pc) L S h) : am_E i_X12_blow pc L S h K := am_run cuts (q := me_X12_blow) rfl rfl hb
theorem e_X12_blow (cuts : List Nat) {K : Option Value → AH → Prop} {aa : List Value} {h : AH} (hb : am_ent aa 5 (fun L => am_blk cuts (fun t L S h => am_E i_X12_blow t L S h K) (fun np id aa L S h => am_M id aa h (fun r h1 => am_E i_X12_blow np L (am_psh r S) h1 K)) K cd_X12_blow L [] h)) : am_M i_X12_blow aa h K := am_into cuts (q := me_X12_blow) rfl rfl rfl hb
theorem b_X12_reaches (cuts : List Nat) {pc : Nat} {K : Option Value → AH → Prop} {L : AL} {S : List Value} {h : AH} (hb : am_blk cuts (fun t L S h => am_E i_X12_reaches t L S h K) (fun np id aa L S h => am_M id aa h (fun r h1 => am_E i_X12_reaches np L (am_psh r S) h1 K)) K (am_seek cd_X12_reaches pc) L S h) : am_E i_X12_reaches pc L S h K := am_run cuts (q := me_X12_reaches) rfl rfl hb
theorem e_X12_reaches (cuts : List Nat) {K : Option Value → AH → Prop} {aa : List Value} {h : AH} (hb : am_ent aa 5 (fun L => am_blk cuts (fun t L S h => am_E i_X12_reaches t L S h K) (fun np id aa L S h => am_M id aa h (fun r h1 => am_E i_X12_reaches np L (am_psh r S) h1 K)) K cd_X12_reaches L [] h)) : am_M i_X12_reaches aa h K := am_into cuts (q := me_X12_reaches) rfl rfl rfl hb
theorem b_X12_breaks (cuts : List Nat) {pc : Nat} {K : Option Value → AH → Prop} {L : AL} {S : List Value} {h : AH} (hb : am_blk cuts (fun t L S h => am_E i_X12_breaks t L S h K) (fun np id aa L S h => am_M id aa h (fun r h1 => am_E i_X12_breaks np L (am_psh r S) h1 K)) K (am_seek cd_X12_breaks pc) L S h) : am_E i_X12_breaks pc L S h K := am_run cuts (q := me_X12_breaks) rfl rfl hb
theorem e_X12_breaks (cuts : List Nat) {K : Option Value → AH → Prop} {aa : List Value} {h : AH} (hb : am_ent aa 5 (fun L => am_blk cuts (fun t L S h => am_E i_X12_breaks t L S h K) (fun np id aa L S h => am_M id aa h (fun r h1 => am_E i_X12_breaks np L (am_psh r S) h1 K)) K cd_X12_breaks L [] h)) : am_M i_X12_breaks aa h K := am_into cuts (q := me_X12_breaks) rfl rfl rfl hb
theorem b_X12_harm (cuts : List Nat) {pc : Nat} {K : Option Value → AH → Prop} {L : AL} {S : List Value} {h : AH} (hb : am_blk cuts (fun t L S h => am_E i_X12_harm t L S h K) (fun np id aa L S h => am_M id aa h (fun r h1 => am_E i_X12_harm np L (am_psh r S) h1 K)) K (am_seek cd_X12_harm pc) L S h) : am_E i_X12_harm pc L S h K := am_run cuts (q := me_X12_harm) rfl rfl hb
theorem e_X12_harm (cuts : List Nat) {K : Option Value → AH → Prop} {aa : List Value} {h : AH} (hb : am_ent aa 7 (fun L => am_blk cuts (fun t L S h => am_E i_X12_harm t L S h K) (fun np id aa L S h => am_M id aa h (fun r h1 => am_E i_X12_harm np L (am_psh r S) h1 K)) K cd_X12_harm L [] h)) : am_M i_X12_harm aa h K := am_into cuts (q := me_X12_harm) rfl rfl rfl hb
theorem b_X12_tap (cuts : List Nat) {pc : Nat} {K : Option Value → AH → Prop} {L : AL} {S : List Value} {h : AH} (hb : am_blk cuts (fun t L S h => am_E i_X12_tap t L S h K) (fun np id aa L S h => am_M id aa h (fun r h1 => am_E i_X12_tap np L (am_psh r S) h1 K)) K (am_seek cd_X12_tap pc) L S h) : am_E i_X12_tap pc L S h K := am_run cuts (q := me_X12_tap) rfl rfl hb
theorem e_X12_tap (cuts : List Nat) {K : Option Value → AH → Prop} {aa : List Value} {h : AH} (hb : am_ent aa 5 (fun L => am_blk cuts (fun t L S h => am_E i_X12_tap t L S h K) (fun np id aa L S h => am_M id aa h (fun r h1 => am_E i_X12_tap np L (am_psh r S) h1 K)) K cd_X12_tap L [] h)) : am_M i_X12_tap aa h K := am_into cuts (q := me_X12_tap) rfl rfl rfl hb
theorem b_X12_isSo (cuts : List Nat) {pc : Nat} {K : Option Value → AH → Prop} {L : AL} {S : List Value} {h : AH} (hb : am_blk cuts (fun t L S h => am_E i_X12_isSo t L S h K) (fun np id aa L S h => am_M id aa h (fun r h1 => am_E i_X12_isSo np L (am_psh r S) h1 K)) K (am_seek cd_X12_isSo pc) L S h) : am_E i_X12_isSo pc L S h K := am_run cuts (q := me_X12_isSo) rfl rfl hb
theorem e_X12_isSo (cuts : List Nat) {K : Option Value → AH → Prop} {aa : List Value} {h : AH} (hb : am_ent aa 3 (fun L => am_blk cuts (fun t L S h => am_E i_X12_isSo t L S h K) (fun np id aa L S h => am_M id aa h (fun r h1 => am_E i_X12_isSo np L (am_psh r S) h1 K)) K cd_X12_isSo L [] h)) : am_M i_X12_isSo aa h K := am_into cuts (q := me_X12_isSo) rfl rfl rfl hb
theorem b_X12_who (cuts : List Nat) {pc : Nat} {K : Option Value → AH → Prop} {L : AL} {S : List Value} {h : AH} (hb : am_blk cuts (fun t L S h => am_E i_X12_who t L S h K) (fun np id aa L S h => am_M id aa h (fun r h1 => am_E i_X12_who np L (am_psh r S) h1 K)) K (am_seek cd_X12_who pc) L S h) : am_E i_X12_who pc L S h K := am_run cuts (q := me_X12_who) rfl rfl hb
theorem e_X12_who (cuts : List Nat) {K : Option Value → AH → Prop} {aa : List Value} {h : AH} (hb : am_ent aa 7 (fun L => am_blk cuts (fun t L S h => am_E i_X12_who t L S h K) (fun np id aa L S h => am_M id aa h (fun r h1 => am_E i_X12_who np L (am_psh r S) h1 K)) K cd_X12_who L [] h)) : am_M i_X12_who aa h K := am_into cuts (q := me_X12_who) rfl rfl rfl hb
theorem b_X12_bitsFor (cuts : List Nat) {pc : Nat} {K : Option Value → AH → Prop} {L : AL} {S : List Value} {h : AH} (hb : am_blk cuts (fun t L S h => am_E i_X12_bitsFor t L S h K) (fun np id aa L S h => am_M id aa h (fun r h1 => am_E i_X12_bitsFor np L (am_psh r S) h1 K)) K (am_seek cd_X12_bitsFor pc) L S h) : am_E i_X12_bitsFor pc L S h K := am_run cuts (q := me_X12_bitsFor) rfl rfl hb
theorem e_X12_bitsFor (cuts : List Nat) {K : Option Value → AH → Prop} {aa : List Value} {h : AH} (hb : am_ent aa 9 (fun L => am_blk cuts (fun t L S h => am_E i_X12_bitsFor t L S h K) (fun np id aa L S h => am_M id aa h (fun r h1 => am_E i_X12_bitsFor np L (am_psh r S) h1 K)) K cd_X12_bitsFor L [] h)) : am_M i_X12_bitsFor aa h K := am_into cuts (q := me_X12_bitsFor) rfl rfl rfl hb
theorem b_X12_whatKind (cuts : List Nat) {pc : Nat} {K : Option Value → AH → Prop} {L : AL} {S : List Value} {h : AH} (hb : am_blk cuts (fun t L S h => am_E i_X12_whatKind t L S h K) (fun np id aa L S h => am_M id aa h (fun r h1 => am_E i_X12_whatKind np L (am_psh r S) h1 K)) K (am_seek cd_X12_whatKind pc) L S h) : am_E i_X12_whatKind pc L S h K := am_run cuts (q := me_X12_whatKind) rfl rfl hb
theorem e_X12_whatKind (cuts : List Nat) {K : Option Value → AH → Prop} {aa : List Value} {h : AH} (hb : am_ent aa 6 (fun L => am_blk cuts (fun t L S h => am_E i_X12_whatKind t L S h K) (fun np id aa L S h => am_M id aa h (fun r h1 => am_E i_X12_whatKind np L (am_psh r S) h1 K)) K cd_X12_whatKind L [] h)) : am_M i_X12_whatKind aa h K := am_into cuts (q := me_X12_whatKind) rfl rfl rfl hb
theorem b_X12_worstOf (cuts : List Nat) {pc : Nat} {K : Option Value → AH → Prop} {L : AL} {S : List Value} {h : AH} (hb : am_blk cuts (fun t L S h => am_E i_X12_worstOf t L S h K) (fun np id aa L S h => am_M id aa h (fun r h1 => am_E i_X12_worstOf np L (am_psh r S) h1 K)) K (am_seek cd_X12_worstOf pc) L S h) : am_E i_X12_worstOf pc L S h K := am_run cuts (q := me_X12_worstOf) rfl rfl hb
theorem e_X12_worstOf (cuts : List Nat) {K : Option Value → AH → Prop} {aa : List Value} {h : AH} (hb : am_ent aa 5 (fun L => am_blk cuts (fun t L S h => am_E i_X12_worstOf t L S h K) (fun np id aa L S h => am_M id aa h (fun r h1 => am_E i_X12_worstOf np L (am_psh r S) h1 K)) K cd_X12_worstOf L [] h)) : am_M i_X12_worstOf aa h K := am_into cuts (q := me_X12_worstOf) rfl rfl rfl hb
theorem b_X12_mostBroken (cuts : List Nat) {pc : Nat} {K : Option Value → AH → Prop} {L : AL} {S : List Value} {h : AH} (hb : am_blk cuts (fun t L S h => am_E i_X12_mostBroken t L S h K) (fun np id aa L S h => am_M id aa h (fun r h1 => am_E i_X12_mostBroken np L (am_psh r S) h1 K)) K (am_seek cd_X12_mostBroken pc) L S h) : am_E i_X12_mostBroken pc L S h K := am_run cuts (q := me_X12_mostBroken) rfl rfl hb
theorem e_X12_mostBroken (cuts : List Nat) {K : Option Value → AH → Prop} {aa : List Value} {h : AH} (hb : am_ent aa 3 (fun L => am_blk cuts (fun t L S h => am_E i_X12_mostBroken t L S h K) (fun np id aa L S h => am_M id aa h (fun r h1 => am_E i_X12_mostBroken np L (am_psh r S) h1 K)) K cd_X12_mostBroken L [] h)) : am_M i_X12_mostBroken aa h K := am_into cuts (q := me_X12_mostBroken) rfl rfl rfl hb
theorem b_X12_worst (cuts : List Nat) {pc : Nat} {K : Option Value → AH → Prop} {L : AL} {S : List Value} {h : AH} (hb : am_blk cuts (fun t L S h => am_E i_X12_worst t L S h K) (fun np id aa L S h => am_M id aa h (fun r h1 => am_E i_X12_worst np L (am_psh r S) h1 K)) K (am_seek cd_X12_worst pc) L S h) : am_E i_X12_worst pc L S h K := am_run cuts (q := me_X12_worst) rfl rfl hb
theorem e_X12_worst (cuts : List Nat) {K : Option Value → AH → Prop} {aa : List Value} {h : AH} (hb : am_ent aa 4 (fun L => am_blk cuts (fun t L S h => am_E i_X12_worst t L S h K) (fun np id aa L S h => am_M id aa h (fun r h1 => am_E i_X12_worst np L (am_psh r S) h1 K)) K cd_X12_worst L [] h)) : am_M i_X12_worst aa h K := am_into cuts (q := me_X12_worst) rfl rfl rfl hb
theorem b_X12_bestCut (cuts : List Nat) {pc : Nat} {K : Option Value → AH → Prop} {L : AL} {S : List Value} {h : AH} (hb : am_blk cuts (fun t L S h => am_E i_X12_bestCut t L S h K) (fun np id aa L S h => am_M id aa h (fun r h1 => am_E i_X12_bestCut np L (am_psh r S) h1 K)) K (am_seek cd_X12_bestCut pc) L S h) : am_E i_X12_bestCut pc L S h K := am_run cuts (q := me_X12_bestCut) rfl rfl hb
theorem e_X12_bestCut (cuts : List Nat) {K : Option Value → AH → Prop} {aa : List Value} {h : AH} (hb : am_ent aa 8 (fun L => am_blk cuts (fun t L S h => am_E i_X12_bestCut t L S h K) (fun np id aa L S h => am_M id aa h (fun r h1 => am_E i_X12_bestCut np L (am_psh r S) h1 K)) K cd_X12_bestCut L [] h)) : am_M i_X12_bestCut aa h K := am_into cuts (q := me_X12_bestCut) rfl rfl rfl hb
theorem b_X12_nextOrder (cuts : List Nat) {pc : Nat} {K : Option Value → AH → Prop} {L : AL} {S : List Value} {h : AH} (hb : am_blk cuts (fun t L S h => am_E i_X12_nextOrder t L S h K) (fun np id aa L S h => am_M id aa h (fun r h1 => am_E i_X12_nextOrder np L (am_psh r S) h1 K)) K (am_seek cd_X12_nextOrder pc) L S h) : am_E i_X12_nextOrder pc L S h K := am_run cuts (q := me_X12_nextOrder) rfl rfl hb
theorem e_X12_nextOrder (cuts : List Nat) {K : Option Value → AH → Prop} {aa : List Value} {h : AH} (hb : am_ent aa 5 (fun L => am_blk cuts (fun t L S h => am_E i_X12_nextOrder t L S h K) (fun np id aa L S h => am_M id aa h (fun r h1 => am_E i_X12_nextOrder np L (am_psh r S) h1 K)) K cd_X12_nextOrder L [] h)) : am_M i_X12_nextOrder aa h K := am_into cuts (q := me_X12_nextOrder) rfl rfl rfl hb
theorem b_X12_sorts (cuts : List Nat) {pc : Nat} {K : Option Value → AH → Prop} {L : AL} {S : List Value} {h : AH} (hb : am_blk cuts (fun t L S h => am_E i_X12_sorts t L S h K) (fun np id aa L S h => am_M id aa h (fun r h1 => am_E i_X12_sorts np L (am_psh r S) h1 K)) K (am_seek cd_X12_sorts pc) L S h) : am_E i_X12_sorts pc L S h K := am_run cuts (q := me_X12_sorts) rfl rfl hb
theorem e_X12_sorts (cuts : List Nat) {K : Option Value → AH → Prop} {aa : List Value} {h : AH} (hb : am_ent aa 2 (fun L => am_blk cuts (fun t L S h => am_E i_X12_sorts t L S h K) (fun np id aa L S h => am_M id aa h (fun r h1 => am_E i_X12_sorts np L (am_psh r S) h1 K)) K cd_X12_sorts L [] h)) : am_M i_X12_sorts aa h K := am_into cuts (q := me_X12_sorts) rfl rfl rfl hb
theorem b_X12_findOrder (cuts : List Nat) {pc : Nat} {K : Option Value → AH → Prop} {L : AL} {S : List Value} {h : AH} (hb : am_blk cuts (fun t L S h => am_E i_X12_findOrder t L S h K) (fun np id aa L S h => am_M id aa h (fun r h1 => am_E i_X12_findOrder np L (am_psh r S) h1 K)) K (am_seek cd_X12_findOrder pc) L S h) : am_E i_X12_findOrder pc L S h K := am_run cuts (q := me_X12_findOrder) rfl rfl hb
theorem e_X12_findOrder (cuts : List Nat) {K : Option Value → AH → Prop} {aa : List Value} {h : AH} (hb : am_ent aa 6 (fun L => am_blk cuts (fun t L S h => am_E i_X12_findOrder t L S h K) (fun np id aa L S h => am_M id aa h (fun r h1 => am_E i_X12_findOrder np L (am_psh r S) h1 K)) K cd_X12_findOrder L [] h)) : am_M i_X12_findOrder aa h K := am_into cuts (q := me_X12_findOrder) rfl rfl rfl hb
theorem b_X12_order (cuts : List Nat) {pc : Nat} {K : Option Value → AH → Prop} {L : AL} {S : List Value} {h : AH} (hb : am_blk cuts (fun t L S h => am_E i_X12_order t L S h K) (fun np id aa L S h => am_M id aa h (fun r h1 => am_E i_X12_order np L (am_psh r S) h1 K)) K (am_seek cd_X12_order pc) L S h) : am_E i_X12_order pc L S h K := am_run cuts (q := me_X12_order) rfl rfl hb
theorem e_X12_order (cuts : List Nat) {K : Option Value → AH → Prop} {aa : List Value} {h : AH} (hb : am_ent aa 5 (fun L => am_blk cuts (fun t L S h => am_E i_X12_order t L S h K) (fun np id aa L S h => am_M id aa h (fun r h1 => am_E i_X12_order np L (am_psh r S) h1 K)) K cd_X12_order L [] h)) : am_M i_X12_order aa h K := am_into cuts (q := me_X12_order) rfl rfl rfl hb
theorem b_X12_findShortest (cuts : List Nat) {pc : Nat} {K : Option Value → AH → Prop} {L : AL} {S : List Value} {h : AH} (hb : am_blk cuts (fun t L S h => am_E i_X12_findShortest t L S h K) (fun np id aa L S h => am_M id aa h (fun r h1 => am_E i_X12_findShortest np L (am_psh r S) h1 K)) K (am_seek cd_X12_findShortest pc) L S h) : am_E i_X12_findShortest pc L S h K := am_run cuts (q := me_X12_findShortest) rfl rfl hb
theorem e_X12_findShortest (cuts : List Nat) {K : Option Value → AH → Prop} {aa : List Value} {h : AH} (hb : am_ent aa 6 (fun L => am_blk cuts (fun t L S h => am_E i_X12_findShortest t L S h K) (fun np id aa L S h => am_M id aa h (fun r h1 => am_E i_X12_findShortest np L (am_psh r S) h1 K)) K cd_X12_findShortest L [] h)) : am_M i_X12_findShortest aa h K := am_into cuts (q := me_X12_findShortest) rfl rfl rfl hb
theorem b_X12_walkOf (cuts : List Nat) {pc : Nat} {K : Option Value → AH → Prop} {L : AL} {S : List Value} {h : AH} (hb : am_blk cuts (fun t L S h => am_E i_X12_walkOf t L S h K) (fun np id aa L S h => am_M id aa h (fun r h1 => am_E i_X12_walkOf np L (am_psh r S) h1 K)) K (am_seek cd_X12_walkOf pc) L S h) : am_E i_X12_walkOf pc L S h K := am_run cuts (q := me_X12_walkOf) rfl rfl hb
theorem e_X12_walkOf (cuts : List Nat) {K : Option Value → AH → Prop} {aa : List Value} {h : AH} (hb : am_ent aa 3 (fun L => am_blk cuts (fun t L S h => am_E i_X12_walkOf t L S h K) (fun np id aa L S h => am_M id aa h (fun r h1 => am_E i_X12_walkOf np L (am_psh r S) h1 K)) K cd_X12_walkOf L [] h)) : am_M i_X12_walkOf aa h K := am_into cuts (q := me_X12_walkOf) rfl rfl rfl hb
theorem b_X12_shortestOf (cuts : List Nat) {pc : Nat} {K : Option Value → AH → Prop} {L : AL} {S : List Value} {h : AH} (hb : am_blk cuts (fun t L S h => am_E i_X12_shortestOf t L S h K) (fun np id aa L S h => am_M id aa h (fun r h1 => am_E i_X12_shortestOf np L (am_psh r S) h1 K)) K (am_seek cd_X12_shortestOf pc) L S h) : am_E i_X12_shortestOf pc L S h K := am_run cuts (q := me_X12_shortestOf) rfl rfl hb
theorem e_X12_shortestOf (cuts : List Nat) {K : Option Value → AH → Prop} {aa : List Value} {h : AH} (hb : am_ent aa 4 (fun L => am_blk cuts (fun t L S h => am_E i_X12_shortestOf t L S h K) (fun np id aa L S h => am_M id aa h (fun r h1 => am_E i_X12_shortestOf np L (am_psh r S) h1 K)) K cd_X12_shortestOf L [] h)) : am_M i_X12_shortestOf aa h K := am_into cuts (q := me_X12_shortestOf) rfl rfl rfl hb
theorem b_X12_walked (cuts : List Nat) {pc : Nat} {K : Option Value → AH → Prop} {L : AL} {S : List Value} {h : AH} (hb : am_blk cuts (fun t L S h => am_E i_X12_walked t L S h K) (fun np id aa L S h => am_M id aa h (fun r h1 => am_E i_X12_walked np L (am_psh r S) h1 K)) K (am_seek cd_X12_walked pc) L S h) : am_E i_X12_walked pc L S h K := am_run cuts (q := me_X12_walked) rfl rfl hb
theorem e_X12_walked (cuts : List Nat) {K : Option Value → AH → Prop} {aa : List Value} {h : AH} (hb : am_ent aa 7 (fun L => am_blk cuts (fun t L S h => am_E i_X12_walked t L S h K) (fun np id aa L S h => am_M id aa h (fun r h1 => am_E i_X12_walked np L (am_psh r S) h1 K)) K cd_X12_walked L [] h)) : am_M i_X12_walked aa h K := am_into cuts (q := me_X12_walked) rfl rfl rfl hb
theorem b_X12_walk (cuts : List Nat) {pc : Nat} {K : Option Value → AH → Prop} {L : AL} {S : List Value} {h : AH} (hb : am_blk cuts (fun t L S h => am_E i_X12_walk t L S h K) (fun np id aa L S h => am_M id aa h (fun r h1 => am_E i_X12_walk np L (am_psh r S) h1 K)) K (am_seek cd_X12_walk pc) L S h) : am_E i_X12_walk pc L S h K := am_run cuts (q := me_X12_walk) rfl rfl hb
theorem e_X12_walk (cuts : List Nat) {K : Option Value → AH → Prop} {aa : List Value} {h : AH} (hb : am_ent aa 4 (fun L => am_blk cuts (fun t L S h => am_E i_X12_walk t L S h K) (fun np id aa L S h => am_M id aa h (fun r h1 => am_E i_X12_walk np L (am_psh r S) h1 K)) K cd_X12_walk L [] h)) : am_M i_X12_walk aa h K := am_into cuts (q := me_X12_walk) rfl rfl rfl hb
theorem b_X12_others (cuts : List Nat) {pc : Nat} {K : Option Value → AH → Prop} {L : AL} {S : List Value} {h : AH} (hb : am_blk cuts (fun t L S h => am_E i_X12_others t L S h K) (fun np id aa L S h => am_M id aa h (fun r h1 => am_E i_X12_others np L (am_psh r S) h1 K)) K (am_seek cd_X12_others pc) L S h) : am_E i_X12_others pc L S h K := am_run cuts (q := me_X12_others) rfl rfl hb
theorem e_X12_others (cuts : List Nat) {K : Option Value → AH → Prop} {aa : List Value} {h : AH} (hb : am_ent aa 3 (fun L => am_blk cuts (fun t L S h => am_E i_X12_others t L S h K) (fun np id aa L S h => am_M id aa h (fun r h1 => am_E i_X12_others np L (am_psh r S) h1 K)) K cd_X12_others L [] h)) : am_M i_X12_others aa h K := am_into cuts (q := me_X12_others) rfl rfl rfl hb
theorem b_X12_leftToHer (cuts : List Nat) {pc : Nat} {K : Option Value → AH → Prop} {L : AL} {S : List Value} {h : AH} (hb : am_blk cuts (fun t L S h => am_E i_X12_leftToHer t L S h K) (fun np id aa L S h => am_M id aa h (fun r h1 => am_E i_X12_leftToHer np L (am_psh r S) h1 K)) K (am_seek cd_X12_leftToHer pc) L S h) : am_E i_X12_leftToHer pc L S h K := am_run cuts (q := me_X12_leftToHer) rfl rfl hb
theorem e_X12_leftToHer (cuts : List Nat) {K : Option Value → AH → Prop} {aa : List Value} {h : AH} (hb : am_ent aa 7 (fun L => am_blk cuts (fun t L S h => am_E i_X12_leftToHer t L S h K) (fun np id aa L S h => am_M id aa h (fun r h1 => am_E i_X12_leftToHer np L (am_psh r S) h1 K)) K cd_X12_leftToHer L [] h)) : am_M i_X12_leftToHer aa h K := am_into cuts (q := me_X12_leftToHer) rfl rfl rfl hb
theorem b_X12_woman (cuts : List Nat) {pc : Nat} {K : Option Value → AH → Prop} {L : AL} {S : List Value} {h : AH} (hb : am_blk cuts (fun t L S h => am_E i_X12_woman t L S h K) (fun np id aa L S h => am_M id aa h (fun r h1 => am_E i_X12_woman np L (am_psh r S) h1 K)) K (am_seek cd_X12_woman pc) L S h) : am_E i_X12_woman pc L S h K := am_run cuts (q := me_X12_woman) rfl rfl hb
theorem e_X12_woman (cuts : List Nat) {K : Option Value → AH → Prop} {aa : List Value} {h : AH} (hb : am_ent aa 7 (fun L => am_blk cuts (fun t L S h => am_E i_X12_woman t L S h K) (fun np id aa L S h => am_M id aa h (fun r h1 => am_E i_X12_woman np L (am_psh r S) h1 K)) K cd_X12_woman L [] h)) : am_M i_X12_woman aa h K := am_into cuts (q := me_X12_woman) rfl rfl rfl hb
theorem b_X12_nextWhole (cuts : List Nat) {pc : Nat} {K : Option Value → AH → Prop} {L : AL} {S : List Value} {h : AH} (hb : am_blk cuts (fun t L S h => am_E i_X12_nextWhole t L S h K) (fun np id aa L S h => am_M id aa h (fun r h1 => am_E i_X12_nextWhole np L (am_psh r S) h1 K)) K (am_seek cd_X12_nextWhole pc) L S h) : am_E i_X12_nextWhole pc L S h K := am_run cuts (q := me_X12_nextWhole) rfl rfl hb
theorem e_X12_nextWhole (cuts : List Nat) {K : Option Value → AH → Prop} {aa : List Value} {h : AH} (hb : am_ent aa 3 (fun L => am_blk cuts (fun t L S h => am_E i_X12_nextWhole t L S h K) (fun np id aa L S h => am_M id aa h (fun r h1 => am_E i_X12_nextWhole np L (am_psh r S) h1 K)) K cd_X12_nextWhole L [] h)) : am_M i_X12_nextWhole aa h K := am_into cuts (q := me_X12_nextWhole) rfl rfl rfl hb
theorem b_X12_lasts (cuts : List Nat) {pc : Nat} {K : Option Value → AH → Prop} {L : AL} {S : List Value} {h : AH} (hb : am_blk cuts (fun t L S h => am_E i_X12_lasts t L S h K) (fun np id aa L S h => am_M id aa h (fun r h1 => am_E i_X12_lasts np L (am_psh r S) h1 K)) K (am_seek cd_X12_lasts pc) L S h) : am_E i_X12_lasts pc L S h K := am_run cuts (q := me_X12_lasts) rfl rfl hb
theorem e_X12_lasts (cuts : List Nat) {K : Option Value → AH → Prop} {aa : List Value} {h : AH} (hb : am_ent aa 5 (fun L => am_blk cuts (fun t L S h => am_E i_X12_lasts t L S h K) (fun np id aa L S h => am_M id aa h (fun r h1 => am_E i_X12_lasts np L (am_psh r S) h1 K)) K cd_X12_lasts L [] h)) : am_M i_X12_lasts aa h K := am_into cuts (q := me_X12_lasts) rfl rfl rfl hb
theorem b_X12_left (cuts : List Nat) {pc : Nat} {K : Option Value → AH → Prop} {L : AL} {S : List Value} {h : AH} (hb : am_blk cuts (fun t L S h => am_E i_X12_left t L S h K) (fun np id aa L S h => am_M id aa h (fun r h1 => am_E i_X12_left np L (am_psh r S) h1 K)) K (am_seek cd_X12_left pc) L S h) : am_E i_X12_left pc L S h K := am_run cuts (q := me_X12_left) rfl rfl hb
theorem e_X12_left (cuts : List Nat) {K : Option Value → AH → Prop} {aa : List Value} {h : AH} (hb : am_ent aa 7 (fun L => am_blk cuts (fun t L S h => am_E i_X12_left t L S h K) (fun np id aa L S h => am_M id aa h (fun r h1 => am_E i_X12_left np L (am_psh r S) h1 K)) K cd_X12_left L [] h)) : am_M i_X12_left aa h K := am_into cuts (q := me_X12_left) rfl rfl rfl hb
theorem b_X12_divisor (cuts : List Nat) {pc : Nat} {K : Option Value → AH → Prop} {L : AL} {S : List Value} {h : AH} (hb : am_blk cuts (fun t L S h => am_E i_X12_divisor t L S h K) (fun np id aa L S h => am_M id aa h (fun r h1 => am_E i_X12_divisor np L (am_psh r S) h1 K)) K (am_seek cd_X12_divisor pc) L S h) : am_E i_X12_divisor pc L S h K := am_run cuts (q := me_X12_divisor) rfl rfl hb
theorem e_X12_divisor (cuts : List Nat) {K : Option Value → AH → Prop} {aa : List Value} {h : AH} (hb : am_ent aa 10 (fun L => am_blk cuts (fun t L S h => am_E i_X12_divisor t L S h K) (fun np id aa L S h => am_M id aa h (fun r h1 => am_E i_X12_divisor np L (am_psh r S) h1 K)) K cd_X12_divisor L [] h)) : am_M i_X12_divisor aa h K := am_into cuts (q := me_X12_divisor) rfl rfl rfl hb
theorem b_X12_power (cuts : List Nat) {pc : Nat} {K : Option Value → AH → Prop} {L : AL} {S : List Value} {h : AH} (hb : am_blk cuts (fun t L S h => am_E i_X12_power t L S h K) (fun np id aa L S h => am_M id aa h (fun r h1 => am_E i_X12_power np L (am_psh r S) h1 K)) K (am_seek cd_X12_power pc) L S h) : am_E i_X12_power pc L S h K := am_run cuts (q := me_X12_power) rfl rfl hb
theorem e_X12_power (cuts : List Nat) {K : Option Value → AH → Prop} {aa : List Value} {h : AH} (hb : am_ent aa 5 (fun L => am_blk cuts (fun t L S h => am_E i_X12_power t L S h K) (fun np id aa L S h => am_M id aa h (fun r h1 => am_E i_X12_power np L (am_psh r S) h1 K)) K cd_X12_power L [] h)) : am_M i_X12_power aa h K := am_into cuts (q := me_X12_power) rfl rfl rfl hb
theorem b_X12_ways (cuts : List Nat) {pc : Nat} {K : Option Value → AH → Prop} {L : AL} {S : List Value} {h : AH} (hb : am_blk cuts (fun t L S h => am_E i_X12_ways t L S h K) (fun np id aa L S h => am_M id aa h (fun r h1 => am_E i_X12_ways np L (am_psh r S) h1 K)) K (am_seek cd_X12_ways pc) L S h) : am_E i_X12_ways pc L S h K := am_run cuts (q := me_X12_ways) rfl rfl hb
theorem e_X12_ways (cuts : List Nat) {K : Option Value → AH → Prop} {aa : List Value} {h : AH} (hb : am_ent aa 5 (fun L => am_blk cuts (fun t L S h => am_E i_X12_ways t L S h K) (fun np id aa L S h => am_M id aa h (fun r h1 => am_E i_X12_ways np L (am_psh r S) h1 K)) K cd_X12_ways L [] h)) : am_M i_X12_ways aa h K := am_into cuts (q := me_X12_ways) rfl rfl rfl hb
theorem b_X12_chance (cuts : List Nat) {pc : Nat} {K : Option Value → AH → Prop} {L : AL} {S : List Value} {h : AH} (hb : am_blk cuts (fun t L S h => am_E i_X12_chance t L S h K) (fun np id aa L S h => am_M id aa h (fun r h1 => am_E i_X12_chance np L (am_psh r S) h1 K)) K (am_seek cd_X12_chance pc) L S h) : am_E i_X12_chance pc L S h K := am_run cuts (q := me_X12_chance) rfl rfl hb
theorem e_X12_chance (cuts : List Nat) {K : Option Value → AH → Prop} {aa : List Value} {h : AH} (hb : am_ent aa 12 (fun L => am_blk cuts (fun t L S h => am_E i_X12_chance t L S h K) (fun np id aa L S h => am_M id aa h (fun r h1 => am_E i_X12_chance np L (am_psh r S) h1 K)) K cd_X12_chance L [] h)) : am_M i_X12_chance aa h K := am_into cuts (q := me_X12_chance) rfl rfl rfl hb
theorem b_X12_apartBy (cuts : List Nat) {pc : Nat} {K : Option Value → AH → Prop} {L : AL} {S : List Value} {h : AH} (hb : am_blk cuts (fun t L S h => am_E i_X12_apartBy t L S h K) (fun np id aa L S h => am_M id aa h (fun r h1 => am_E i_X12_apartBy np L (am_psh r S) h1 K)) K (am_seek cd_X12_apartBy pc) L S h) : am_E i_X12_apartBy pc L S h K := am_run cuts (q := me_X12_apartBy) rfl rfl hb
theorem e_X12_apartBy (cuts : List Nat) {K : Option Value → AH → Prop} {aa : List Value} {h : AH} (hb : am_ent aa 6 (fun L => am_blk cuts (fun t L S h => am_E i_X12_apartBy t L S h K) (fun np id aa L S h => am_M id aa h (fun r h1 => am_E i_X12_apartBy np L (am_psh r S) h1 K)) K cd_X12_apartBy L [] h)) : am_M i_X12_apartBy aa h K := am_into cuts (q := me_X12_apartBy) rfl rfl rfl hb
theorem b_X12_twins (cuts : List Nat) {pc : Nat} {K : Option Value → AH → Prop} {L : AL} {S : List Value} {h : AH} (hb : am_blk cuts (fun t L S h => am_E i_X12_twins t L S h K) (fun np id aa L S h => am_M id aa h (fun r h1 => am_E i_X12_twins np L (am_psh r S) h1 K)) K (am_seek cd_X12_twins pc) L S h) : am_E i_X12_twins pc L S h K := am_run cuts (q := me_X12_twins) rfl rfl hb
theorem e_X12_twins (cuts : List Nat) {K : Option Value → AH → Prop} {aa : List Value} {h : AH} (hb : am_ent aa 8 (fun L => am_blk cuts (fun t L S h => am_E i_X12_twins t L S h K) (fun np id aa L S h => am_M id aa h (fun r h1 => am_E i_X12_twins np L (am_psh r S) h1 K)) K cd_X12_twins L [] h)) : am_M i_X12_twins aa h K := am_into cuts (q := me_X12_twins) rfl rfl rfl hb
theorem b_X12_heardBy (cuts : List Nat) {pc : Nat} {K : Option Value → AH → Prop} {L : AL} {S : List Value} {h : AH} (hb : am_blk cuts (fun t L S h => am_E i_X12_heardBy t L S h K) (fun np id aa L S h => am_M id aa h (fun r h1 => am_E i_X12_heardBy np L (am_psh r S) h1 K)) K (am_seek cd_X12_heardBy pc) L S h) : am_E i_X12_heardBy pc L S h K := am_run cuts (q := me_X12_heardBy) rfl rfl hb
theorem e_X12_heardBy (cuts : List Nat) {K : Option Value → AH → Prop} {aa : List Value} {h : AH} (hb : am_ent aa 5 (fun L => am_blk cuts (fun t L S h => am_E i_X12_heardBy t L S h K) (fun np id aa L S h => am_M id aa h (fun r h1 => am_E i_X12_heardBy np L (am_psh r S) h1 K)) K cd_X12_heardBy L [] h)) : am_M i_X12_heardBy aa h K := am_into cuts (q := me_X12_heardBy) rfl rfl rfl hb
theorem b_X12_hum (cuts : List Nat) {pc : Nat} {K : Option Value → AH → Prop} {L : AL} {S : List Value} {h : AH} (hb : am_blk cuts (fun t L S h => am_E i_X12_hum t L S h K) (fun np id aa L S h => am_M id aa h (fun r h1 => am_E i_X12_hum np L (am_psh r S) h1 K)) K (am_seek cd_X12_hum pc) L S h) : am_E i_X12_hum pc L S h K := am_run cuts (q := me_X12_hum) rfl rfl hb
theorem e_X12_hum (cuts : List Nat) {K : Option Value → AH → Prop} {aa : List Value} {h : AH} (hb : am_ent aa 7 (fun L => am_blk cuts (fun t L S h => am_E i_X12_hum t L S h K) (fun np id aa L S h => am_M id aa h (fun r h1 => am_E i_X12_hum np L (am_psh r S) h1 K)) K cd_X12_hum L [] h)) : am_M i_X12_hum aa h K := am_into cuts (q := me_X12_hum) rfl rfl rfl hb
theorem b_X12_apart (cuts : List Nat) {pc : Nat} {K : Option Value → AH → Prop} {L : AL} {S : List Value} {h : AH} (hb : am_blk cuts (fun t L S h => am_E i_X12_apart t L S h K) (fun np id aa L S h => am_M id aa h (fun r h1 => am_E i_X12_apart np L (am_psh r S) h1 K)) K (am_seek cd_X12_apart pc) L S h) : am_E i_X12_apart pc L S h K := am_run cuts (q := me_X12_apart) rfl rfl hb
theorem e_X12_apart (cuts : List Nat) {K : Option Value → AH → Prop} {aa : List Value} {h : AH} (hb : am_ent aa 4 (fun L => am_blk cuts (fun t L S h => am_E i_X12_apart t L S h K) (fun np id aa L S h => am_M id aa h (fun r h1 => am_E i_X12_apart np L (am_psh r S) h1 K)) K cd_X12_apart L [] h)) : am_M i_X12_apart aa h K := am_into cuts (q := me_X12_apart) rfl rfl rfl hb
theorem b_X12_heaps (cuts : List Nat) {pc : Nat} {K : Option Value → AH → Prop} {L : AL} {S : List Value} {h : AH} (hb : am_blk cuts (fun t L S h => am_E i_X12_heaps t L S h K) (fun np id aa L S h => am_M id aa h (fun r h1 => am_E i_X12_heaps np L (am_psh r S) h1 K)) K (am_seek cd_X12_heaps pc) L S h) : am_E i_X12_heaps pc L S h K := am_run cuts (q := me_X12_heaps) rfl rfl hb
theorem e_X12_heaps (cuts : List Nat) {K : Option Value → AH → Prop} {aa : List Value} {h : AH} (hb : am_ent aa 4 (fun L => am_blk cuts (fun t L S h => am_E i_X12_heaps t L S h K) (fun np id aa L S h => am_M id aa h (fun r h1 => am_E i_X12_heaps np L (am_psh r S) h1 K)) K cd_X12_heaps L [] h)) : am_M i_X12_heaps aa h K := am_into cuts (q := me_X12_heaps) rfl rfl rfl hb
theorem b_X12_codesOf (cuts : List Nat) {pc : Nat} {K : Option Value → AH → Prop} {L : AL} {S : List Value} {h : AH} (hb : am_blk cuts (fun t L S h => am_E i_X12_codesOf t L S h K) (fun np id aa L S h => am_M id aa h (fun r h1 => am_E i_X12_codesOf np L (am_psh r S) h1 K)) K (am_seek cd_X12_codesOf pc) L S h) : am_E i_X12_codesOf pc L S h K := am_run cuts (q := me_X12_codesOf) rfl rfl hb
theorem e_X12_codesOf (cuts : List Nat) {K : Option Value → AH → Prop} {aa : List Value} {h : AH} (hb : am_ent aa 8 (fun L => am_blk cuts (fun t L S h => am_E i_X12_codesOf t L S h K) (fun np id aa L S h => am_M id aa h (fun r h1 => am_E i_X12_codesOf np L (am_psh r S) h1 K)) K cd_X12_codesOf L [] h)) : am_M i_X12_codesOf aa h K := am_into cuts (q := me_X12_codesOf) rfl rfl rfl hb
theorem b_X12_codes (cuts : List Nat) {pc : Nat} {K : Option Value → AH → Prop} {L : AL} {S : List Value} {h : AH} (hb : am_blk cuts (fun t L S h => am_E i_X12_codes t L S h K) (fun np id aa L S h => am_M id aa h (fun r h1 => am_E i_X12_codes np L (am_psh r S) h1 K)) K (am_seek cd_X12_codes pc) L S h) : am_E i_X12_codes pc L S h K := am_run cuts (q := me_X12_codes) rfl rfl hb
theorem e_X12_codes (cuts : List Nat) {K : Option Value → AH → Prop} {aa : List Value} {h : AH} (hb : am_ent aa 4 (fun L => am_blk cuts (fun t L S h => am_E i_X12_codes t L S h K) (fun np id aa L S h => am_M id aa h (fun r h1 => am_E i_X12_codes np L (am_psh r S) h1 K)) K cd_X12_codes L [] h)) : am_M i_X12_codes aa h K := am_into cuts (q := me_X12_codes) rfl rfl rfl hb
theorem b_X12_secret (cuts : List Nat) {pc : Nat} {K : Option Value → AH → Prop} {L : AL} {S : List Value} {h : AH} (hb : am_blk cuts (fun t L S h => am_E i_X12_secret t L S h K) (fun np id aa L S h => am_M id aa h (fun r h1 => am_E i_X12_secret np L (am_psh r S) h1 K)) K (am_seek cd_X12_secret pc) L S h) : am_E i_X12_secret pc L S h K := am_run cuts (q := me_X12_secret) rfl rfl hb
theorem e_X12_secret (cuts : List Nat) {K : Option Value → AH → Prop} {aa : List Value} {h : AH} (hb : am_ent aa 5 (fun L => am_blk cuts (fun t L S h => am_E i_X12_secret t L S h K) (fun np id aa L S h => am_M id aa h (fun r h1 => am_E i_X12_secret np L (am_psh r S) h1 K)) K cd_X12_secret L [] h)) : am_M i_X12_secret aa h K := am_into cuts (q := me_X12_secret) rfl rfl rfl hb
theorem b_X12_tough (cuts : List Nat) {pc : Nat} {K : Option Value → AH → Prop} {L : AL} {S : List Value} {h : AH} (hb : am_blk cuts (fun t L S h => am_E i_X12_tough t L S h K) (fun np id aa L S h => am_M id aa h (fun r h1 => am_E i_X12_tough np L (am_psh r S) h1 K)) K (am_seek cd_X12_tough pc) L S h) : am_E i_X12_tough pc L S h K := am_run cuts (q := me_X12_tough) rfl rfl hb
theorem e_X12_tough (cuts : List Nat) {K : Option Value → AH → Prop} {aa : List Value} {h : AH} (hb : am_ent aa 3 (fun L => am_blk cuts (fun t L S h => am_E i_X12_tough t L S h K) (fun np id aa L S h => am_M id aa h (fun r h1 => am_E i_X12_tough np L (am_psh r S) h1 K)) K cd_X12_tough L [] h)) : am_M i_X12_tough aa h K := am_into cuts (q := me_X12_tough) rfl rfl rfl hb
theorem b_X12_centre (cuts : List Nat) {pc : Nat} {K : Option Value → AH → Prop} {L : AL} {S : List Value} {h : AH} (hb : am_blk cuts (fun t L S h => am_E i_X12_centre t L S h K) (fun np id aa L S h => am_M id aa h (fun r h1 => am_E i_X12_centre np L (am_psh r S) h1 K)) K (am_seek cd_X12_centre pc) L S h) : am_E i_X12_centre pc L S h K := am_run cuts (q := me_X12_centre) rfl rfl hb
theorem e_X12_centre (cuts : List Nat) {K : Option Value → AH → Prop} {aa : List Value} {h : AH} (hb : am_ent aa 7 (fun L => am_blk cuts (fun t L S h => am_E i_X12_centre t L S h K) (fun np id aa L S h => am_M id aa h (fun r h1 => am_E i_X12_centre np L (am_psh r S) h1 K)) K cd_X12_centre L [] h)) : am_M i_X12_centre aa h K := am_into cuts (q := me_X12_centre) rfl rfl rfl hb
theorem b_X12_manyBy (cuts : List Nat) {pc : Nat} {K : Option Value → AH → Prop} {L : AL} {S : List Value} {h : AH} (hb : am_blk cuts (fun t L S h => am_E i_X12_manyBy t L S h K) (fun np id aa L S h => am_M id aa h (fun r h1 => am_E i_X12_manyBy np L (am_psh r S) h1 K)) K (am_seek cd_X12_manyBy pc) L S h) : am_E i_X12_manyBy pc L S h K := am_run cuts (q := me_X12_manyBy) rfl rfl hb
theorem e_X12_manyBy (cuts : List Nat) {K : Option Value → AH → Prop} {aa : List Value} {h : AH} (hb : am_ent aa 3 (fun L => am_blk cuts (fun t L S h => am_E i_X12_manyBy t L S h K) (fun np id aa L S h => am_M id aa h (fun r h1 => am_E i_X12_manyBy np L (am_psh r S) h1 K)) K cd_X12_manyBy L [] h)) : am_M i_X12_manyBy aa h K := am_into cuts (q := me_X12_manyBy) rfl rfl rfl hb
theorem b_X12_bestMend (cuts : List Nat) {pc : Nat} {K : Option Value → AH → Prop} {L : AL} {S : List Value} {h : AH} (hb : am_blk cuts (fun t L S h => am_E i_X12_bestMend t L S h K) (fun np id aa L S h => am_M id aa h (fun r h1 => am_E i_X12_bestMend np L (am_psh r S) h1 K)) K (am_seek cd_X12_bestMend pc) L S h) : am_E i_X12_bestMend pc L S h K := am_run cuts (q := me_X12_bestMend) rfl rfl hb
theorem e_X12_bestMend (cuts : List Nat) {K : Option Value → AH → Prop} {aa : List Value} {h : AH} (hb : am_ent aa 9 (fun L => am_blk cuts (fun t L S h => am_E i_X12_bestMend t L S h K) (fun np id aa L S h => am_M id aa h (fun r h1 => am_E i_X12_bestMend np L (am_psh r S) h1 K)) K cd_X12_bestMend L [] h)) : am_M i_X12_bestMend aa h K := am_into cuts (q := me_X12_bestMend) rfl rfl rfl hb
theorem b_X12_bestFigure (cuts : List Nat) {pc : Nat} {K : Option Value → AH → Prop} {L : AL} {S : List Value} {h : AH} (hb : am_blk cuts (fun t L S h => am_E i_X12_bestFigure t L S h K) (fun np id aa L S h => am_M id aa h (fun r h1 => am_E i_X12_bestFigure np L (am_psh r S) h1 K)) K (am_seek cd_X12_bestFigure pc) L S h) : am_E i_X12_bestFigure pc L S h K := am_run cuts (q := me_X12_bestFigure) rfl rfl hb
theorem e_X12_bestFigure (cuts : List Nat) {K : Option Value → AH → Prop} {aa : List Value} {h : AH} (hb : am_ent aa 10 (fun L => am_blk cuts (fun t L S h => am_E i_X12_bestFigure t L S h K) (fun np id aa L S h => am_M id aa h (fun r h1 => am_E i_X12_bestFigure np L (am_psh r S) h1 K)) K cd_X12_bestFigure L [] h)) : am_M i_X12_bestFigure aa h K := am_into cuts (q := me_X12_bestFigure) rfl rfl rfl hb
theorem b_X12_domino (cuts : List Nat) {pc : Nat} {K : Option Value → AH → Prop} {L : AL} {S : List Value} {h : AH} (hb : am_blk cuts (fun t L S h => am_E i_X12_domino t L S h K) (fun np id aa L S h => am_M id aa h (fun r h1 => am_E i_X12_domino np L (am_psh r S) h1 K)) K (am_seek cd_X12_domino pc) L S h) : am_E i_X12_domino pc L S h K := am_run cuts (q := me_X12_domino) rfl rfl hb
theorem e_X12_domino (cuts : List Nat) {K : Option Value → AH → Prop} {aa : List Value} {h : AH} (hb : am_ent aa 5 (fun L => am_blk cuts (fun t L S h => am_E i_X12_domino t L S h K) (fun np id aa L S h => am_M id aa h (fun r h1 => am_E i_X12_domino np L (am_psh r S) h1 K)) K cd_X12_domino L [] h)) : am_M i_X12_domino aa h K := am_into cuts (q := me_X12_domino) rfl rfl rfl hb
theorem b_X12_linkOf (cuts : List Nat) {pc : Nat} {K : Option Value → AH → Prop} {L : AL} {S : List Value} {h : AH} (hb : am_blk cuts (fun t L S h => am_E i_X12_linkOf t L S h K) (fun np id aa L S h => am_M id aa h (fun r h1 => am_E i_X12_linkOf np L (am_psh r S) h1 K)) K (am_seek cd_X12_linkOf pc) L S h) : am_E i_X12_linkOf pc L S h K := am_run cuts (q := me_X12_linkOf) rfl rfl hb
theorem e_X12_linkOf (cuts : List Nat) {K : Option Value → AH → Prop} {aa : List Value} {h : AH} (hb : am_ent aa 2 (fun L => am_blk cuts (fun t L S h => am_E i_X12_linkOf t L S h K) (fun np id aa L S h => am_M id aa h (fun r h1 => am_E i_X12_linkOf np L (am_psh r S) h1 K)) K cd_X12_linkOf L [] h)) : am_M i_X12_linkOf aa h K := am_into cuts (q := me_X12_linkOf) rfl rfl rfl hb
theorem b_X12_longest (cuts : List Nat) {pc : Nat} {K : Option Value → AH → Prop} {L : AL} {S : List Value} {h : AH} (hb : am_blk cuts (fun t L S h => am_E i_X12_longest t L S h K) (fun np id aa L S h => am_M id aa h (fun r h1 => am_E i_X12_longest np L (am_psh r S) h1 K)) K (am_seek cd_X12_longest pc) L S h) : am_E i_X12_longest pc L S h K := am_run cuts (q := me_X12_longest) rfl rfl hb
theorem e_X12_longest (cuts : List Nat) {K : Option Value → AH → Prop} {aa : List Value} {h : AH} (hb : am_ent aa 4 (fun L => am_blk cuts (fun t L S h => am_E i_X12_longest t L S h K) (fun np id aa L S h => am_M id aa h (fun r h1 => am_E i_X12_longest np L (am_psh r S) h1 K)) K cd_X12_longest L [] h)) : am_M i_X12_longest aa h K := am_into cuts (q := me_X12_longest) rfl rfl rfl hb
theorem b_X12_spared (cuts : List Nat) {pc : Nat} {K : Option Value → AH → Prop} {L : AL} {S : List Value} {h : AH} (hb : am_blk cuts (fun t L S h => am_E i_X12_spared t L S h K) (fun np id aa L S h => am_M id aa h (fun r h1 => am_E i_X12_spared np L (am_psh r S) h1 K)) K (am_seek cd_X12_spared pc) L S h) : am_E i_X12_spared pc L S h K := am_run cuts (q := me_X12_spared) rfl rfl hb
theorem e_X12_spared (cuts : List Nat) {K : Option Value → AH → Prop} {aa : List Value} {h : AH} (hb : am_ent aa 5 (fun L => am_blk cuts (fun t L S h => am_E i_X12_spared t L S h K) (fun np id aa L S h => am_M id aa h (fun r h1 => am_E i_X12_spared np L (am_psh r S) h1 K)) K cd_X12_spared L [] h)) : am_M i_X12_spared aa h K := am_into cuts (q := me_X12_spared) rfl rfl rfl hb
theorem b_X12_hears (cuts : List Nat) {pc : Nat} {K : Option Value → AH → Prop} {L : AL} {S : List Value} {h : AH} (hb : am_blk cuts (fun t L S h => am_E i_X12_hears t L S h K) (fun np id aa L S h => am_M id aa h (fun r h1 => am_E i_X12_hears np L (am_psh r S) h1 K)) K (am_seek cd_X12_hears pc) L S h) : am_E i_X12_hears pc L S h K := am_run cuts (q := me_X12_hears) rfl rfl hb
theorem e_X12_hears (cuts : List Nat) {K : Option Value → AH → Prop} {aa : List Value} {h : AH} (hb : am_ent aa 4 (fun L => am_blk cuts (fun t L S h => am_E i_X12_hears t L S h K) (fun np id aa L S h => am_M id aa h (fun r h1 => am_E i_X12_hears np L (am_psh r S) h1 K)) K cd_X12_hears L [] h)) : am_M i_X12_hears aa h K := am_into cuts (q := me_X12_hears) rfl rfl rfl hb
theorem b_X12_mutual (cuts : List Nat) {pc : Nat} {K : Option Value → AH → Prop} {L : AL} {S : List Value} {h : AH} (hb : am_blk cuts (fun t L S h => am_E i_X12_mutual t L S h K) (fun np id aa L S h => am_M id aa h (fun r h1 => am_E i_X12_mutual np L (am_psh r S) h1 K)) K (am_seek cd_X12_mutual pc) L S h) : am_E i_X12_mutual pc L S h K := am_run cuts (q := me_X12_mutual) rfl rfl hb
theorem e_X12_mutual (cuts : List Nat) {K : Option Value → AH → Prop} {aa : List Value} {h : AH} (hb : am_ent aa 6 (fun L => am_blk cuts (fun t L S h => am_E i_X12_mutual t L S h K) (fun np id aa L S h => am_M id aa h (fun r h1 => am_E i_X12_mutual np L (am_psh r S) h1 K)) K cd_X12_mutual L [] h)) : am_M i_X12_mutual aa h K := am_into cuts (q := me_X12_mutual) rfl rfl rfl hb
theorem b_X12_row (cuts : List Nat) {pc : Nat} {K : Option Value → AH → Prop} {L : AL} {S : List Value} {h : AH} (hb : am_blk cuts (fun t L S h => am_E i_X12_row t L S h K) (fun np id aa L S h => am_M id aa h (fun r h1 => am_E i_X12_row np L (am_psh r S) h1 K)) K (am_seek cd_X12_row pc) L S h) : am_E i_X12_row pc L S h K := am_run cuts (q := me_X12_row) rfl rfl hb
theorem e_X12_row (cuts : List Nat) {K : Option Value → AH → Prop} {aa : List Value} {h : AH} (hb : am_ent aa 3 (fun L => am_blk cuts (fun t L S h => am_E i_X12_row t L S h K) (fun np id aa L S h => am_M id aa h (fun r h1 => am_E i_X12_row np L (am_psh r S) h1 K)) K cd_X12_row L [] h)) : am_M i_X12_row aa h K := am_into cuts (q := me_X12_row) rfl rfl rfl hb
theorem b_X12_judge (cuts : List Nat) {pc : Nat} {K : Option Value → AH → Prop} {L : AL} {S : List Value} {h : AH} (hb : am_blk cuts (fun t L S h => am_E i_X12_judge t L S h K) (fun np id aa L S h => am_M id aa h (fun r h1 => am_E i_X12_judge np L (am_psh r S) h1 K)) K (am_seek cd_X12_judge pc) L S h) : am_E i_X12_judge pc L S h K := am_run cuts (q := me_X12_judge) rfl rfl hb
theorem e_X12_judge (cuts : List Nat) {K : Option Value → AH → Prop} {aa : List Value} {h : AH} (hb : am_ent aa 3 (fun L => am_blk cuts (fun t L S h => am_E i_X12_judge t L S h K) (fun np id aa L S h => am_M id aa h (fun r h1 => am_E i_X12_judge np L (am_psh r S) h1 K)) K cd_X12_judge L [] h)) : am_M i_X12_judge aa h K := am_into cuts (q := me_X12_judge) rfl rfl rfl hb
theorem b_X12_clear (cuts : List Nat) {pc : Nat} {K : Option Value → AH → Prop} {L : AL} {S : List Value} {h : AH} (hb : am_blk cuts (fun t L S h => am_E i_X12_clear t L S h K) (fun np id aa L S h => am_M id aa h (fun r h1 => am_E i_X12_clear np L (am_psh r S) h1 K)) K (am_seek cd_X12_clear pc) L S h) : am_E i_X12_clear pc L S h K := am_run cuts (q := me_X12_clear) rfl rfl hb
theorem e_X12_clear (cuts : List Nat) {K : Option Value → AH → Prop} {aa : List Value} {h : AH} (hb : am_ent aa 2 (fun L => am_blk cuts (fun t L S h => am_E i_X12_clear t L S h K) (fun np id aa L S h => am_M id aa h (fun r h1 => am_E i_X12_clear np L (am_psh r S) h1 K)) K cd_X12_clear L [] h)) : am_M i_X12_clear aa h K := am_into cuts (q := me_X12_clear) rfl rfl rfl hb
theorem b_X12_draw (cuts : List Nat) {pc : Nat} {K : Option Value → AH → Prop} {L : AL} {S : List Value} {h : AH} (hb : am_blk cuts (fun t L S h => am_E i_X12_draw t L S h K) (fun np id aa L S h => am_M id aa h (fun r h1 => am_E i_X12_draw np L (am_psh r S) h1 K)) K (am_seek cd_X12_draw pc) L S h) : am_E i_X12_draw pc L S h K := am_run cuts (q := me_X12_draw) rfl rfl hb
theorem e_X12_draw (cuts : List Nat) {K : Option Value → AH → Prop} {aa : List Value} {h : AH} (hb : am_ent aa 2 (fun L => am_blk cuts (fun t L S h => am_E i_X12_draw t L S h K) (fun np id aa L S h => am_M id aa h (fun r h1 => am_E i_X12_draw np L (am_psh r S) h1 K)) K cd_X12_draw L [] h)) : am_M i_X12_draw aa h K := am_into cuts (q := me_X12_draw) rfl rfl rfl hb
theorem b_X12_lots (cuts : List Nat) {pc : Nat} {K : Option Value → AH → Prop} {L : AL} {S : List Value} {h : AH} (hb : am_blk cuts (fun t L S h => am_E i_X12_lots t L S h K) (fun np id aa L S h => am_M id aa h (fun r h1 => am_E i_X12_lots np L (am_psh r S) h1 K)) K (am_seek cd_X12_lots pc) L S h) : am_E i_X12_lots pc L S h K := am_run cuts (q := me_X12_lots) rfl rfl hb
theorem e_X12_lots (cuts : List Nat) {K : Option Value → AH → Prop} {aa : List Value} {h : AH} (hb : am_ent aa 10 (fun L => am_blk cuts (fun t L S h => am_E i_X12_lots t L S h K) (fun np id aa L S h => am_M id aa h (fun r h1 => am_E i_X12_lots np L (am_psh r S) h1 K)) K cd_X12_lots L [] h)) : am_M i_X12_lots aa h K := am_into cuts (q := me_X12_lots) rfl rfl rfl hb
theorem b_X12_count (cuts : List Nat) {pc : Nat} {K : Option Value → AH → Prop} {L : AL} {S : List Value} {h : AH} (hb : am_blk cuts (fun t L S h => am_E i_X12_count t L S h K) (fun np id aa L S h => am_M id aa h (fun r h1 => am_E i_X12_count np L (am_psh r S) h1 K)) K (am_seek cd_X12_count pc) L S h) : am_E i_X12_count pc L S h K := am_run cuts (q := me_X12_count) rfl rfl hb
theorem e_X12_count (cuts : List Nat) {K : Option Value → AH → Prop} {aa : List Value} {h : AH} (hb : am_ent aa 4 (fun L => am_blk cuts (fun t L S h => am_E i_X12_count t L S h K) (fun np id aa L S h => am_M id aa h (fun r h1 => am_E i_X12_count np L (am_psh r S) h1 K)) K cd_X12_count L [] h)) : am_M i_X12_count aa h K := am_into cuts (q := me_X12_count) rfl rfl rfl hb
theorem b_J6_bitCount_0f7a4 (cuts : List Nat) {pc : Nat} {K : Option Value → AH → Prop} {L : AL} {S : List Value} {h : AH} (hb : am_blk cuts (fun t L S h => am_E i_J6_bitCount_0f7a4 t L S h K) (fun np id aa L S h => am_M id aa h (fun r h1 => am_E i_J6_bitCount_0f7a4 np L (am_psh r S) h1 K)) K (am_seek cd_J6_bitCount_0f7a4 pc) L S h) : am_E i_J6_bitCount_0f7a4 pc L S h K := am_run cuts (q := me_J6_bitCount_0f7a4) rfl rfl hb
theorem e_J6_bitCount_0f7a4 (cuts : List Nat) {K : Option Value → AH → Prop} {aa : List Value} {h : AH} (hb : am_ent aa 1 (fun L => am_blk cuts (fun t L S h => am_E i_J6_bitCount_0f7a4 t L S h K) (fun np id aa L S h => am_M id aa h (fun r h1 => am_E i_J6_bitCount_0f7a4 np L (am_psh r S) h1 K)) K cd_J6_bitCount_0f7a4 L [] h)) : am_M i_J6_bitCount_0f7a4 aa h K := am_into cuts (q := me_J6_bitCount_0f7a4) rfl rfl rfl hb
theorem b_J13_bitCount_95d88 (cuts : List Nat) {pc : Nat} {K : Option Value → AH → Prop} {L : AL} {S : List Value} {h : AH} (hb : am_blk cuts (fun t L S h => am_E i_J13_bitCount_95d88 t L S h K) (fun np id aa L S h => am_M id aa h (fun r h1 => am_E i_J13_bitCount_95d88 np L (am_psh r S) h1 K)) K (am_seek cd_J13_bitCount_95d88 pc) L S h) : am_E i_J13_bitCount_95d88 pc L S h K := am_run cuts (q := me_J13_bitCount_95d88) rfl rfl hb
theorem e_J13_bitCount_95d88 (cuts : List Nat) {K : Option Value → AH → Prop} {aa : List Value} {h : AH} (hb : am_ent aa 2 (fun L => am_blk cuts (fun t L S h => am_E i_J13_bitCount_95d88 t L S h K) (fun np id aa L S h => am_M id aa h (fun r h1 => am_E i_J13_bitCount_95d88 np L (am_psh r S) h1 K)) K cd_J13_bitCount_95d88 L [] h)) : am_M i_J13_bitCount_95d88 aa h K := am_into cuts (q := me_J13_bitCount_95d88) rfl rfl rfl hb
end
section
/-! THE FRAME: what is shown over a few cells holds over any heap that holds them at places of its own -/
def am_rc (f : Nat → Nat) : AC → AC
  | .inl q => .inl q
  | .inr (.inl q) => .inr (.inl (q.1, fun k => (q.2 k).map f))
  | .inr (.inr q) => .inr (.inr (q.1, q.2.map (am_cv f)))
def am_emb (f : Nat → Nat) (h H : AH) : Prop := ∀ (i : Nat) (c : AC), h[i]? = some c → H[f i]? = some (am_rc f c)
def am_inj (f : Nat → Nat) (n : Nat) : Prop := ∀ i j, i < n → j < n → f i = f j → i = j
/-- H is B but for the places of n cells -/
def am_out (f : Nat → Nat) (n : Nat) (B H : AH) : Prop := H.length = B.length ∧ ∀ j, (∀ i, i < n → f i ≠ j) → H[j]? = B[j]?
abbrev am_rL (f : Nat → Nat) (L : AL) : AL := L.map (fun o => o.map (am_cv f))
abbrev am_rS (f : Nat → Nat) (S : List Value) : List Value := S.map (am_cv f)
theorem am_g_rn (f : Nat → Nat) : ∀ (L : AL) (i : Nat) {k k2 : Value → Prop}, (∀ v, k v → k2 (am_cv f v)) → am_g L i k → am_g (am_rL f L) i k2
  | [], _, _, _, _, h => h
  | some _ :: _, 0, _, _, g, h => g _ h
  | none :: _, 0, _, _, _, h => h
  | some _ :: t, n + 1, _, _, g, h => am_g_rn f t n g h
  | none :: t, n + 1, _, _, g, h => am_g_rn f t n g h
theorem am_nl_rn (f : Nat → Nat) (o : Option Value) {k k2 : Option Value → Prop} (g : ∀ v, k v → k2 (v.map (am_cv f))) (h : am_nl o k) : am_nl (o.map (am_cv f)) k2 := by
  cases o with
  | none => exact g _ h
  | some w => cases w <;> exact g _ h
theorem am_st_rn (f : Nat → Nat) : ∀ (i : Nat) (L : AL) (v : Value) {k k2 : AL → Prop}, (∀ L, k L → k2 (am_rL f L)) → am_st L i v k → am_st (am_rL f L) i (am_cv f v) k2
  | 0, [], _, _, _, _, h => h
  | _ + 1, [], _, _, _, _, h => h
  | 0, _ :: _, _, _, _, g, h => g _ h
  | 1, [_], _, _, _, _, h => h
  | 1, o :: _ :: t, v, k, k2, g, h => am_nl_rn f o (k := fun o2 => k (o2 :: some v :: t)) (k2 := fun o2 => k2 (o2 :: some (am_cv f v) :: am_rL f t)) (fun _ q => g _ q) h
  | n + 2, o :: t, v, k, k2, g, h => am_st_rn f (n + 1) t v (k := fun t2 => k (o :: t2)) (k2 := fun t2 => k2 (o.map (am_cv f) :: t2)) (fun _ q => g _ q) h
theorem am_st2_rn (f : Nat → Nat) : ∀ (i : Nat) (L : AL) (v : Value) {k k2 : AL → Prop}, (∀ L, k L → k2 (am_rL f L)) → am_st2 L i v k → am_st2 (am_rL f L) i (am_cv f v) k2
  | 0, [], _, _, _, _, h => h
  | _ + 1, [], _, _, _, _, h => h
  | 0, [_], _, _, _, _, h => h
  | 0, _ :: _ :: _, _, _, _, g, h => g _ h
  | 1, [_], _, _, _, _, h => h
  | 1, [_, _], _, _, _, _, h => h
  | 1, o :: _ :: _ :: t, v, k, k2, g, h => am_nl_rn f o (k := fun o2 => k (o2 :: some v :: none :: t)) (k2 := fun o2 => k2 (o2 :: some (am_cv f v) :: none :: am_rL f t)) (fun _ q => g _ q) h
  | n + 2, o :: t, v, k, k2, g, h => am_st2_rn f (n + 1) t v (k := fun t2 => k (o :: t2)) (k2 := fun t2 => k2 (o.map (am_cv f) :: t2)) (fun _ q => g _ q) h
theorem am_pad_rn (f : Nat → Nat) : ∀ (n : Nat) {k k2 : AL → Prop}, (∀ L, k L → k2 (am_rL f L)) → am_pad n k → am_pad n k2
  | 0, _, _, g, h => g _ h
  | n + 1, k, k2, g, h => am_pad_rn f n (k := fun t => k (none :: t)) (k2 := fun t => k2 (none :: t)) (fun _ q => g _ q) h
theorem am_ent_rn (f : Nat → Nat) : ∀ (vs : List Value) (n : Nat) {k k2 : AL → Prop}, (∀ L, k L → k2 (am_rL f L)) → am_ent vs n k → am_ent (am_rS f vs) n k2
  | [], n, _, _, g, h => am_pad_rn f n g h
  | v :: vs, n, k, k2, g, h => by
    cases v with
    | long x =>
      match n, h with
      | m + 2, h => exact am_ent_rn f vs m (k := fun t => k (some (.long x) :: none :: t)) (k2 := fun t => k2 (some (.long x) :: none :: t)) (fun _ q => g _ q) h
      | 0, h => exact h.elim
      | 1, h => exact h.elim
    | double x => exact h.elim
    | int x =>
      cases n with
      | zero => exact h.elim
      | succ m => exact am_ent_rn f vs m (k := fun t => k (some (.int x) :: t)) (k2 := fun t => k2 (some (.int x) :: t)) (fun _ q => g _ q) h
    | float x =>
      cases n with
      | zero => exact h.elim
      | succ m => exact am_ent_rn f vs m (k := fun t => k (some (.float x) :: t)) (k2 := fun t => k2 (some (.float x) :: t)) (fun _ q => g _ q) h
    | null =>
      cases n with
      | zero => exact h.elim
      | succ m => exact am_ent_rn f vs m (k := fun t => k (some .null :: t)) (k2 := fun t => k2 (some .null :: t)) (fun _ q => g _ q) h
    | ref x =>
      cases n with
      | zero => exact h.elim
      | succ m => exact am_ent_rn f vs m (k := fun t => k (some (.ref x) :: t)) (k2 := fun t => k2 (some (.ref (f x)) :: t)) (fun _ q => g _ q) h
    | retAddr x =>
      cases n with
      | zero => exact h.elim
      | succ m => exact am_ent_rn f vs m (k := fun t => k (some (.retAddr x) :: t)) (k2 := fun t => k2 (some (.retAddr x) :: t)) (fun _ q => g _ q) h
theorem am_hg_iff : ∀ (h : AH) (a : Nat) (k : AC → Prop) (c : AC), h[a]? = some c → k c → am_hg h a k
  | [], _, _, _, q, _ => by simp at q
  | _ :: _, 0, _, _, q, hk => by simp at q; subst q; exact hk
  | _ :: t, n + 1, k, c, q, hk => am_hg_iff t n k c (by simpa using q) hk
theorem am_hs_iff : ∀ (h : AH) (a : Nat) (c : AC) (k : AH → Prop), a < h.length → k (h.set a c) → am_hs h a c k
  | [], _, _, _, q, _ => by simp at q
  | _ :: _, 0, _, _, _, hk => by simpa [am_hs] using hk
  | x :: t, n + 1, c, k, q, hk => by
    simp only [am_hs]
    exact am_hs_iff t n c _ (by simpa using q) (by simpa using hk)
theorem am_fg_rn (f : Nat → Nat) : ∀ (h : List Value) (a : Nat) {k k2 : Value → Prop}, (∀ c, k c → k2 (am_cv f c)) → am_fg h a k → am_fg (am_rS f h) a k2
  | [], _, _, _, _, h => h
  | _ :: _, 0, _, _, g, h => g _ h
  | _ :: t, n + 1, _, _, g, h => am_fg_rn f t n g h
theorem am_fs_rn (f : Nat → Nat) : ∀ (h : List Value) (a : Nat) (c : Value) {k k2 : List Value → Prop}, (∀ h, k h → k2 (am_rS f h)) → am_fs h a c k → am_fs (am_rS f h) a (am_cv f c) k2
  | [], _, _, _, _, _, h => h
  | _ :: _, 0, _, _, _, g, h => g _ h
  | x :: t, n + 1, c, k, k2, g, h => am_fs_rn f t n c (k := fun t2 => k (x :: t2)) (k2 := fun t2 => k2 (am_cv f x :: t2)) (fun _ q => g _ q) h
theorem am_pop_rn (f : Nat → Nat) : ∀ (n : Nat) (S acc : List Value) {k k2 : List Value → List Value → Prop}, (∀ a b, k a b → k2 (am_rS f a) (am_rS f b)) → am_pop n S acc k → am_pop n (am_rS f S) (am_rS f acc) k2
  | 0, _, _, _, _, g, h => g _ _ h
  | _ + 1, [], _, _, _, _, h => h
  | n + 1, v :: S, acc, _, _, g, h => am_pop_rn f n S (v :: acc) g h
theorem am_pv_rn {f : Nat → Nat} {t : Nat} {v : Value} {P P2 : Prop} (g : P → P2) (h : am_pv t v P) : am_pv t (am_cv f v) P2 := by
  match t, h with
  | 0, h => cases v <;> first | exact g h | exact h.elim
  | 1, h => cases v <;> first | exact g h | exact h.elim
  | 2, h => cases v <;> first | exact ⟨h.1, g h.2⟩ | exact h.elim
  | _ + 3, h => exact h.elim
theorem am_psh_rn (f : Nat → Nat) (r : Option Value) (S : List Value) : am_rS f (am_psh r S) = am_psh (r.map (am_cv f)) (am_rS f S) := by cases r <;> rfl
/-- a cell written on both sides -/
theorem am_emb_set {f : Nat → Nat} {n : Nat} {h H B : AH} (hn : h.length = n) (hi : am_inj f n) (he : am_emb f h H) (ho : am_out f n B H) {a : Nat} (ha : a < h.length) (c : AC) : f a < H.length ∧ am_emb f (h.set a c) (H.set (f a) (am_rc f c)) ∧ am_out f n B (H.set (f a) (am_rc f c)) := by
  have hlt : f a < H.length := by
    have := he a _ (List.getElem?_eq_getElem ha)
    exact (List.getElem?_eq_some_iff.mp this).1
  refine ⟨hlt, fun i x hx => ?_, ⟨by rw [List.length_set]; exact ho.1, fun j hj => ?_⟩⟩
  · by_cases hia : i = a
    · subst hia
      rw [List.getElem?_set_self ha] at hx
      cases hx
      rw [List.getElem?_set_self hlt]
    · rw [List.getElem?_set_ne (Ne.symm hia)] at hx
      have hil : i < h.length := (List.getElem?_eq_some_iff.mp hx).1
      rw [List.getElem?_set_ne (fun z => hia (hi _ _ (by omega) (by omega) z.symm))]
      exact he i x hx
  · rw [List.getElem?_set_ne (hj a (by omega))]
    exact ho.2 j hj
section FR
variable {f : Nat → Nat} {n : Nat} {B H : AH} {nx nx2 : AL → List Value → AH → Prop} {J J2 : Nat → AL → List Value → AH → Prop} {C C2 : Nat → List Value → AL → List Value → AH → Prop} {Rr R2 : Option Value → AH → Prop} {L : AL} {S : List Value} {h : AH}
theorem am_i0_rn (he : am_emb f h H) (gs : ∀ (a : Nat) (c : AC) (L : AL) (S : List Value), am_hs h a c (fun h => nx L S h) → am_hs H (f a) (am_rc f c) (fun h => nx2 (am_rL f L) (am_rS f S) h)) (Hs : am_i0 nx L S h) : am_i0 nx2 (am_rL f L) (am_rS f S) H := by
  unfold am_i0 at Hs
  split at Hs
  · rename_i k dp b sp a S2
    obtain ⟨h1, hz⟩ := am_if_sp Hs
    have h2 : Nat.ble (am_cat (am_rS f S2)) 8 = true := by rw [am_cat_cv]; exact h1
    obtain ⟨c0, h3, h4⟩ := am_hg_sp _ _ _ hz
    obtain ⟨c1, h5, h6⟩ := am_hg_sp _ _ _ h4
    show (bif Nat.ble (am_cat (am_rS f S2)) 8 then _ else False)
    rw [h2]
    refine am_hg_iff _ _ _ _ (he _ _ h3) (am_hg_iff _ _ _ _ (he _ _ h5) ?_)
    split at h6
    · split at h6
      · exact ⟨h6.1, gs _ _ _ _ h6.2⟩
      · exact h6.elim
    · exact h6.elim
  · exact Hs.elim
theorem am_i1_rn (gn : ∀ L S, nx L S h → nx2 (am_rL f L) (am_rS f S) H) (Hs : am_i1 nx L S h) : am_i1 nx2 (am_rL f L) (am_rS f S) H := by
  unfold am_i1 at Hs
  split at Hs
  · obtain ⟨h1, hz⟩ := am_if_sp Hs
    unfold am_i1
    simp only [am_rS, List.map_cons, am_cv, am_cat_cv, h1, cond_true]
    exact gn _ _ hz
  · exact Hs.elim
theorem am_i2_rn (gn : ∀ L S, nx L S h → nx2 (am_rL f L) (am_rS f S) H) (Hs : am_i2 nx L S h) : am_i2 nx2 (am_rL f L) (am_rS f S) H := by
  unfold am_i2 at Hs
  split at Hs
  · obtain ⟨h1, hz⟩ := am_if_sp Hs
    unfold am_i2
    simp only [am_rS, List.map_cons, am_cv, am_cat_cv, h1, cond_true]
    exact gn _ _ hz
  · exact Hs.elim
theorem am_i3_rn (gn : ∀ L S, nx L S h → nx2 (am_rL f L) (am_rS f S) H) (Hs : am_i3 nx L S h) : am_i3 nx2 (am_rL f L) (am_rS f S) H := by
  unfold am_i3 at Hs
  split at Hs
  · obtain ⟨h1, hz⟩ := am_if_sp Hs
    unfold am_i3
    simp only [am_rS, List.map_cons, am_cv, am_cat_cv, h1, cond_true]
    exact gn _ _ hz
  · exact Hs.elim
theorem am_i4_rn (gn : ∀ L S, nx L S h → nx2 (am_rL f L) (am_rS f S) H) (Hs : am_i4 nx L S h) : am_i4 nx2 (am_rL f L) (am_rS f S) H := by
  unfold am_i4 at Hs
  split at Hs
  · obtain ⟨h1, hz⟩ := am_if_sp Hs
    unfold am_i4
    simp only [am_rS, List.map_cons, am_cv, am_cat_cv, h1, cond_true]
    exact gn _ _ hz
  · exact Hs.elim
theorem am_stp_rn (hi : am_inj f n) (hn : h.length = n) (he : am_emb f h H) (ho : am_out f n B H) (g : ∀ L S h H, nx L S h → h.length = n → am_emb f h H → am_out f n B H → nx2 (am_rL f L) (am_rS f S) H) (gj : ∀ t L S h H, J t L S h → h.length = n → am_emb f h H → am_out f n B H → J2 t (am_rL f L) (am_rS f S) H) (gc : ∀ t a L S h H, C t a L S h → h.length = n → am_emb f h H → am_out f n B H → C2 t (am_rS f a) (am_rL f L) (am_rS f S) H) (gr : ∀ r h H, Rr r h → h.length = n → am_emb f h H → am_out f n B H → R2 (r.map (am_cv f)) H) : ∀ ri : Instr, am_stp ri nx J C Rr L S h → am_stp ri nx2 J2 C2 R2 (am_rL f L) (am_rS f S) H := by
  have gn : ∀ L S, nx L S h → nx2 (am_rL f L) (am_rS f S) H := fun L S z => g L S h H z hn he ho
  have gjn : ∀ t L S, J t L S h → J2 t (am_rL f L) (am_rS f S) H := fun t L S z => gj t L S h H z hn he ho
  have gs : ∀ (a : Nat) (c : AC) (L : AL) (S : List Value), am_hs h a c (fun h => nx L S h) → am_hs H (f a) (am_rc f c) (fun h => nx2 (am_rL f L) (am_rS f S) h) := by
    intro a c L S z
    obtain ⟨z1, z2⟩ := am_hs_sp _ _ _ _ z
    obtain ⟨y1, y2, y3⟩ := am_emb_set hn hi he ho z2 c
    exact am_hs_iff _ _ _ _ y1 (g _ _ _ _ z1 (by simpa using hn) y2 y3)
  intro ri Hs
  cases ri with
  | iload i =>
    exact am_g_rn f L i (fun v hv => by cases v <;> first | exact gn _ _ hv | exact hv.elim) Hs
  | lload i =>
    exact am_g_rn f L i (fun v hv => by cases v <;> first | exact gn _ _ hv | exact hv.elim) Hs
  | aload i =>
    exact am_g_rn f L i (fun v hv => by cases v <;> first | exact gn _ _ hv | exact hv.elim) Hs
  | istore i =>
    dsimp only [am_stp] at Hs
    split at Hs
    · exact am_st_rn f i L _ (fun _ q => gn _ _ q) Hs
    · exact Hs.elim
  | astore i =>
    dsimp only [am_stp] at Hs
    split at Hs
    · exact am_st_rn f i L _ (fun _ q => gn _ _ q) Hs
    · exact Hs.elim
  | lstore i =>
    dsimp only [am_stp] at Hs
    split at Hs
    · exact am_st2_rn f i L _ (fun _ q => gn _ _ q) Hs
    · exact Hs.elim
  | iinc i k =>
    exact am_g_rn f L i (fun v hv => by cases v <;> first | exact am_st_rn f i L (.int _) (fun _ q => gn _ _ q) hv | exact hv.elim) Hs
  | anewarray k =>
    exact gn _ _ Hs
  | iconst k =>
    exact gn _ _ Hs
  | ldc2_w k =>
    exact gn _ _ Hs
  | iadd =>
    dsimp only [am_stp] at Hs
    split at Hs
    · exact gn _ _ Hs
    · exact Hs.elim
  | isub =>
    dsimp only [am_stp] at Hs
    split at Hs
    · exact gn _ _ Hs
    · exact Hs.elim
  | imul =>
    dsimp only [am_stp] at Hs
    split at Hs
    · exact gn _ _ Hs
    · exact Hs.elim
  | iand =>
    dsimp only [am_stp] at Hs
    split at Hs
    · exact gn _ _ Hs
    · exact Hs.elim
  | ior =>
    dsimp only [am_stp] at Hs
    split at Hs
    · exact gn _ _ Hs
    · exact Hs.elim
  | ixor =>
    dsimp only [am_stp] at Hs
    split at Hs
    · exact gn _ _ Hs
    · exact Hs.elim
  | ineg =>
    dsimp only [am_stp] at Hs
    split at Hs
    · exact gn _ _ Hs
    · exact Hs.elim
  | ishl =>
    dsimp only [am_stp] at Hs
    split at Hs
    · exact gn _ _ Hs
    · exact Hs.elim
  | ishr =>
    dsimp only [am_stp] at Hs
    split at Hs
    · exact gn _ _ Hs
    · exact Hs.elim
  | iushr =>
    dsimp only [am_stp] at Hs
    split at Hs
    · exact gn _ _ Hs
    · exact Hs.elim
  | ladd =>
    dsimp only [am_stp] at Hs
    split at Hs
    · exact gn _ _ Hs
    · exact Hs.elim
  | lsub =>
    dsimp only [am_stp] at Hs
    split at Hs
    · exact gn _ _ Hs
    · exact Hs.elim
  | lmul =>
    dsimp only [am_stp] at Hs
    split at Hs
    · exact gn _ _ Hs
    · exact Hs.elim
  | land =>
    dsimp only [am_stp] at Hs
    split at Hs
    · exact gn _ _ Hs
    · exact Hs.elim
  | lor =>
    dsimp only [am_stp] at Hs
    split at Hs
    · exact gn _ _ Hs
    · exact Hs.elim
  | lshl =>
    dsimp only [am_stp] at Hs
    split at Hs
    · exact gn _ _ Hs
    · exact Hs.elim
  | lshr =>
    dsimp only [am_stp] at Hs
    split at Hs
    · exact gn _ _ Hs
    · exact Hs.elim
  | lushr =>
    dsimp only [am_stp] at Hs
    split at Hs
    · exact gn _ _ Hs
    · exact Hs.elim
  | i2l =>
    dsimp only [am_stp] at Hs
    split at Hs
    · exact gn _ _ Hs
    · exact Hs.elim
  | l2i =>
    dsimp only [am_stp] at Hs
    split at Hs
    · exact gn _ _ Hs
    · exact Hs.elim
  | lcmp =>
    dsimp only [am_stp] at Hs
    split at Hs
    · exact gn _ _ Hs
    · exact Hs.elim
  | idiv =>
    dsimp only [am_stp] at Hs
    split at Hs
    · exact ⟨Hs.1, gn _ _ Hs.2⟩
    · exact Hs.elim
  | irem =>
    dsimp only [am_stp] at Hs
    split at Hs
    · exact ⟨Hs.1, gn _ _ Hs.2⟩
    · exact Hs.elim
  | ldiv =>
    dsimp only [am_stp] at Hs
    split at Hs
    · exact ⟨Hs.1, gn _ _ Hs.2⟩
    · exact Hs.elim
  | lrem =>
    dsimp only [am_stp] at Hs
    split at Hs
    · exact ⟨Hs.1, gn _ _ Hs.2⟩
    · exact Hs.elim
  | dup =>
    dsimp only [am_stp] at Hs
    split at Hs
    · exact gn _ _ Hs
    · exact gn _ _ Hs
    · exact Hs.elim
  | dup2 =>
    dsimp only [am_stp] at Hs
    split at Hs
    · exact gn _ _ Hs
    · exact gn _ _ Hs
    · exact Hs.elim
  | pop =>
    dsimp only [am_stp] at Hs
    split at Hs
    · exact gn _ _ Hs
    · exact gn _ _ Hs
    · exact Hs.elim
  | if_icmp c t =>
    dsimp only [am_stp] at Hs
    split at Hs
    · exact am_c2_mo c _ _ (gjn _ _ _) (gn _ _) Hs
    · exact Hs.elim
  | ifCond c t =>
    dsimp only [am_stp] at Hs
    split at Hs
    · exact am_c1_mo c _ (gjn _ _ _) (gn _ _) Hs
    · exact Hs.elim
  | goto t =>
    exact gjn _ _ _ Hs
  | tableswitch d lo hi2 ts =>
    dsimp only [am_stp] at Hs
    split at Hs
    · exact am_tab_mo _ (fun t q => gjn _ _ _ q) (gjn _ _ _) _ _ Hs
    · exact Hs.elim
  | lookupswitch d ps =>
    dsimp only [am_stp] at Hs
    split at Hs
    · exact am_lkp_mo _ (fun t q => gjn _ _ _ q) (gjn _ _ _) _ Hs
    · exact Hs.elim
  | getfield r =>
    dsimp only [am_stp] at Hs
    split at Hs
    · obtain ⟨c, h1, hc⟩ := am_hg_sp _ _ _ Hs
      refine am_hg_iff _ _ _ _ (he _ _ h1) ?_
      split at hc
      · exact am_if_mo (am_fg_rn f _ _ (fun v q => gn _ _ q)) hc
      · exact hc.elim
    · exact Hs.elim
  | putfield r =>
    dsimp only [am_stp] at Hs
    split at Hs
    · obtain ⟨c, h1, hc⟩ := am_hg_sp _ _ _ Hs
      refine am_hg_iff _ _ _ _ (he _ _ h1) ?_
      split at hc
      · exact am_if_mo (am_pv_rn (am_fs_rn f _ _ _ (fun fs q => gs _ _ _ _ q))) hc
      · exact hc.elim
    · exact Hs.elim
  | iaload =>
    dsimp only [am_stp] at Hs
    split at Hs
    · obtain ⟨c, h1, hc⟩ := am_hg_sp _ _ _ Hs
      refine am_hg_iff _ _ _ _ (he _ _ h1) ?_
      split at hc
      · exact ⟨hc.1, gn _ _ hc.2⟩
      · exact hc.elim
    · exact Hs.elim
  | iastore =>
    dsimp only [am_stp] at Hs
    split at Hs
    · obtain ⟨c, h1, hc⟩ := am_hg_sp _ _ _ Hs
      refine am_hg_iff _ _ _ _ (he _ _ h1) ?_
      split at hc
      · exact ⟨hc.1, gs _ _ _ _ hc.2⟩
      · exact hc.elim
    · exact Hs.elim
  | aaload =>
    dsimp only [am_stp] at Hs
    split at Hs
    · rename_i i a S2
      obtain ⟨c, h1, hc⟩ := am_hg_sp _ _ _ Hs
      refine am_hg_iff _ _ _ _ (he _ _ h1) ?_
      split at hc
      · rename_i nn f0
        refine ⟨hc.1, ?_⟩
        have h2 := hc.2
        split at h2
        · rename_i x hx
          show (match (f0 i.toNatClampNeg).map f with | some q => nx2 (am_rL f L) (.ref q :: am_rS f S2) H | none => False)
          rw [hx]
          exact gn _ _ h2
        · exact h2.elim
      · exact hc.elim
    · exact Hs.elim
  | arraylength =>
    dsimp only [am_stp] at Hs
    split at Hs
    · obtain ⟨c, h1, hc⟩ := am_hg_sp _ _ _ Hs
      refine am_hg_iff _ _ _ _ (he _ _ h1) ?_
      split at hc
      · exact gn _ _ hc
      · exact hc.elim
    · exact Hs.elim
  | invokeinterface r k =>
    refine am_pop_rn f k S [] (fun a b hq => ?_) Hs
    obtain ⟨h1, hz⟩ := am_if_sp hq
    have h2 : Nat.ble (am_cat (am_rS f b)) 8 = true := by rw [am_cat_cv]; exact h1
    rw [h2]
    split at hz
    · exact gc _ _ _ _ _ _ hz hn he ho
    · split at hz
      · obtain ⟨c, h3, hc⟩ := am_hg_sp _ _ _ hz
        refine am_hg_iff _ _ _ _ (he _ _ h3) ?_
        split at hc
        · exact am_if_mo (fun z => gc _ _ _ _ _ _ z hn he ho) hc
        · exact hc.elim
      · exact hz.elim
  | invokedynamic k =>
    match k, Hs with
    | 0, Hs => exact am_i0_rn he gs Hs
    | 1, Hs => exact am_i1_rn gn Hs
    | 2, Hs => exact am_i2_rn gn Hs
    | 3, Hs => exact am_i3_rn gn Hs
    | 4, Hs => exact am_i4_rn gn Hs
    | _ + 5, Hs => exact Hs.elim
  | ireturn =>
    dsimp only [am_stp] at Hs
    split at Hs
    · exact gr _ _ _ Hs hn he ho
    · exact Hs.elim
  | lreturn =>
    dsimp only [am_stp] at Hs
    split at Hs
    · exact gr _ _ _ Hs hn he ho
    · exact Hs.elim
  | areturn =>
    dsimp only [am_stp] at Hs
    split at Hs
    · exact gr _ _ _ Hs hn he ho
    · exact Hs.elim
  | return_ =>
    dsimp only [am_stp] at Hs
    split at Hs
    · exact gr _ _ _ Hs hn he ho
    · exact Hs.elim
  | dreturn =>
    dsimp only [am_stp] at Hs
    split at Hs
    · exact ⟨Hs.1, gr _ _ _ Hs.2 hn he ho⟩
    · exact Hs.elim
  | _ => exact Hs.elim
end FR
def am_FP : am_PT := fun k pc L S h K => ∀ (f : Nat → Nat) (n : Nat) (B H : AH) (K2 : Option Value → AH → Prop), am_inj f n → h.length = n → am_emb f h H → am_out f n B H →
  (∀ r h H, K r h → h.length = n → am_emb f h H → am_out f n B H → K2 (r.map (am_cv f)) H) → am_E k pc (am_rL f L) (am_rS f S) H K2
theorem am_FP_clo : am_Clo am_FP := by
  refine ⟨fun k pc L S h K K2 g H f n B H2 K3 hi hn he ho hk => H f n B H2 K3 hi hn he ho (fun r h H z => hk r h H (g r h z)), ?_⟩
  intro k pc L S h K q e hq hm hpc hst f n B H K2 hi hn he ho hk
  refine am_E_clo.2 k pc _ _ _ _ q e hq hm hpc (am_stp_rn (f := f) (n := n) (B := B) hi hn he ho (fun L S h H z a b c => z f n B H K2 hi a b c hk) (fun t L S h H z a b c => z f n B H K2 hi a b c hk) ?_ hk e.2.1 hst)
  rintro id aa L S h H ⟨y, hy, hz⟩ a b c
  refine ⟨y, hy, am_ent_rn f _ _ (fun L2 z => ?_) hz⟩
  refine z f n B H _ hi a b c (fun r h1 H1 z2 a2 b2 c2 => ?_)
  rw [← am_psh_rn]
  exact z2 f n B H1 K2 hi a2 b2 c2 hk
theorem am_frameM {id : Nat} {aa : List Value} {h H : AH} {K K2 : Option Value → AH → Prop} {f : Nat → Nat} (hi : am_inj f h.length) (he : am_emb f h H) (hm : am_M id aa h K) (hk : ∀ r h2 H2, K r h2 → h2.length = h.length → am_emb f h2 H2 → am_out f h.length H H2 → K2 (r.map (am_cv f)) H2) : am_M id (am_rS f aa) H K2 := by
  rw [am_M_def] at hm ⊢
  obtain ⟨y, hy, hz⟩ := hm
  refine ⟨y, hy, am_ent_rn f _ _ (fun L z => ?_) hz⟩
  rw [am_E_def] at z
  exact z am_FP am_FP_clo f h.length H H K2 hi rfl he ⟨rfl, fun _ _ => rfl⟩ hk
end
section
/-! a method over a few cells, at the places of a list: its rule for use -/
def am_pl (ps : List Nat) (i : Nat) : Nat := (nth ps i).getD 0
def am_plK : List Nat → Nat → (Nat → Prop) → Prop
  | [], _, _ => False
  | p :: _, 0, k => k p
  | _ :: ps, n + 1, k => am_plK ps n k
def am_vK (ps : List Nat) (v : Value) (k : Value → Prop) : Prop := match v with
  | .ref a => am_plK ps a (fun b => k (.ref b))
  | .int x => k (.int x)
  | .long x => k (.long x)
  | .null => k .null
  | .float x => k (.float x)
  | .double x => k (.double x)
  | .retAddr x => k (.retAddr x)
def am_vsK (ps : List Nat) : List Value → (List Value → Prop) → Prop
  | [], k => k []
  | v :: vs, k => am_vK ps v (fun w => am_vsK ps vs (fun ws => k (w :: ws)))
def am_cK (ps : List Nat) (c : AC) (k : AC → Prop) : Prop := match c with
  | .inl q => k (.inl q)
  | .inr (.inl (n, g)) => k (.inr (.inl (n, fun j => (g j).map (am_pl ps))))
  | .inr (.inr (c, fs)) => am_vsK ps fs (fun fs => k (.inr (.inr (c, fs))))
def am_oK (ps : List Nat) (r : Option Value) (k : Option Value → Prop) : Prop := match r with
  | none => k none
  | some v => am_vK ps v (fun w => k (some w))
def am_psK (pa : List Nat) : List Nat → AH → AH → (AH → Prop) → Prop
  | _, [], H, k => k H
  | [], _ :: _, _, _ => False
  | p :: ps, c :: cs, H, k => am_cK pa c (fun c2 => am_hs H p c2 (fun H => am_psK pa ps cs H k))
def am_pst : List Nat → AH → AH → AH
  | p :: ps, c :: cs, H => am_pst ps cs (H.set p c)
  | _, _, H => H
theorem am_plK_sp : ∀ (ps : List Nat) (a : Nat) (k : Nat → Prop), am_plK ps a k → k (am_pl ps a)
  | [], _, _, h => h.elim
  | _ :: _, 0, _, h => h
  | _ :: ps, n + 1, k, h => am_plK_sp ps n k h
theorem am_vK_sp {ps : List Nat} {v : Value} {k : Value → Prop} (h : am_vK ps v k) : k (am_cv (am_pl ps) v) := by
  cases v <;> first | exact h | exact am_plK_sp _ _ (fun b => k (.ref b)) h
theorem am_vsK_sp {ps : List Nat} : ∀ (vs : List Value) (k : List Value → Prop), am_vsK ps vs k → k (vs.map (am_cv (am_pl ps)))
  | [], _, h => h
  | v :: vs, k, h => am_vsK_sp vs (fun ws => k (am_cv (am_pl ps) v :: ws)) (am_vK_sp (k := fun w => am_vsK ps vs (fun ws => k (w :: ws))) h)
theorem am_cK_sp {ps : List Nat} {c : AC} {k : AC → Prop} (h : am_cK ps c k) : k (am_rc (am_pl ps) c) := by
  match c, h with
  | .inl q, h => exact h
  | .inr (.inl (n, g)), h => exact h
  | .inr (.inr (c, fs)), h => exact am_vsK_sp fs (fun fs => k (.inr (.inr (c, fs)))) h
theorem am_oK_sp {ps : List Nat} {r : Option Value} {k : Option Value → Prop} (h : am_oK ps r k) : k (r.map (am_cv (am_pl ps))) := by
  cases r with
  | none => exact h
  | some v => exact am_vK_sp (k := fun w => k (some w)) h
theorem am_psK_sp {pa : List Nat} : ∀ (ps : List Nat) (cs H : AH) (k : AH → Prop), am_psK pa ps cs H k → k (am_pst ps (cs.map (am_rc (am_pl pa))) H)
  | [], [], _, _, h => h
  | _ :: _, [], _, _, h => by simpa [am_psK, am_pst] using h
  | [], _ :: _, _, _, h => h.elim
  | p :: ps, c :: cs, H, k, h => by
    have h1 := am_cK_sp (k := fun c2 => am_hs H p c2 (fun H => am_psK pa ps cs H k)) h
    exact am_psK_sp ps cs _ k (am_hs_sp _ _ _ _ h1).1
theorem am_pst_len : ∀ (ps : List Nat) (cs H : AH), (am_pst ps cs H).length = H.length
  | [], [], _ => rfl
  | _ :: _, [], _ => rfl
  | [], _ :: _, _ => rfl
  | p :: ps, c :: cs, H => by rw [am_pst, am_pst_len ps cs, List.length_set]
def am_ndp : List Nat → Bool
  | [] => true
  | p :: ps => ps.all (fun q => !(Nat.beq p q)) && am_ndp ps
theorem am_ndp_sp : ∀ (ps : List Nat), am_ndp ps = true → ∀ (i j a : Nat), ps[i]? = some a → ps[j]? = some a → i = j
  | [], _, _, _, _, h, _ => by simp at h
  | p :: ps, h, i, j, a, hi, hj => by
    simp only [am_ndp, Bool.and_eq_true, List.all_eq_true, Bool.not_eq_true'] at h
    have key : ∀ m : Nat, ps[m]? = some p → False := by
      intro m hm
      have := h.1 p (List.mem_of_getElem? hm)
      rw [Nat.beq_refl] at this
      cases this
    match i, j, hi, hj with
    | 0, 0, _, _ => rfl
    | 0, j + 1, hi, hj =>
      simp at hi hj
      subst hi
      exact (key j (by simpa using hj)).elim
    | i + 1, 0, hi, hj =>
      simp at hi hj
      subst hj
      exact (key i (by simpa using hi)).elim
    | i + 1, j + 1, hi, hj => rw [am_ndp_sp ps h.2 i j a (by simpa using hi) (by simpa using hj)]
theorem am_pst_out : ∀ (ps : List Nat) (cs H : AH) (j : Nat), (∀ i, i < cs.length → ps[i]? ≠ some j) → (am_pst ps cs H)[j]? = H[j]?
  | [], [], _, _, _ => rfl
  | _ :: _, [], _, _, _ => rfl
  | [], _ :: _, _, _, _ => rfl
  | p :: ps, c :: cs, H, j, h => by
    rw [am_pst, am_pst_out ps cs _ j (fun i hi => by have := h (i + 1) (by simpa using hi); simpa using this)]
    exact List.getElem?_set_ne (fun z => h 0 (by simp) (by simp [z]))
theorem am_pst_in : ∀ (ps : List Nat) (cs H : AH) (i p : Nat) (c : AC), (∀ (i j a : Nat), ps[i]? = some a → ps[j]? = some a → i = j) → ps[i]? = some p → cs[i]? = some c → p < H.length → (am_pst ps cs H)[p]? = some c
  | [], _, _, _, _, _, _, h, _, _ => by simp at h
  | _ :: _, [], _, _, _, _, _, _, h, _ => by simp at h
  | q :: ps, d :: cs, H, 0, p, c, hd, hp, hc, hl => by
    simp at hp hc
    subst hp; subst hc
    rw [am_pst, am_pst_out ps cs _ q (fun i _ z => by have := hd 0 (i + 1) q (by simp) (by simpa using z); omega)]
    exact List.getElem?_set_self hl
  | q :: ps, d :: cs, H, i + 1, p, c, hd, hp, hc, hl => by
    rw [am_pst]
    exact am_pst_in ps cs _ i p c (fun i j a hi hj => by have := hd (i + 1) (j + 1) a (by simpa using hi) (by simpa using hj); omega) (by simpa using hp) (by simpa using hc) (by rw [List.length_set]; exact hl)
/-- the few cells lie at the places -/
def am_cut (pa : List Nat) (H : AH) : List Nat → AH → Prop
  | _, [] => True
  | [], _ :: _ => False
  | p :: ps, c :: cs => nth H p = some (am_rc (am_pl pa) c) ∧ am_cut pa H ps cs
theorem am_cut_sp {pa : List Nat} {H : AH} : ∀ (ps : List Nat) (cs : AH), am_cut pa H ps cs → ∀ (i : Nat) (c : AC), cs[i]? = some c → ∃ p : Nat, ps[i]? = some p ∧ H[p]? = some (am_rc (am_pl pa) c)
  | _, [], _, _, _, h => by simp at h
  | [], _ :: _, h, _, _, _ => h.elim
  | p :: _, d :: _, h, 0, c, hc => by
    simp at hc
    subst hc
    exact ⟨p, rfl, by rw [← nth_eq]; exact h.1⟩
  | _ :: ps, _ :: cs, h, i + 1, c, hc => by
    obtain ⟨p, h1, h2⟩ := am_cut_sp ps cs h.2 i c (by simpa using hc)
    exact ⟨p, by simpa using h1, h2⟩
theorem am_fr (ps : List Nat) {id : Nat} {aa aaB : List Value} {h H h2 : AH} {r0 : Option Value} {K2 : Option Value → AH → Prop} (hm : ∀ K : Option Value → AH → Prop, K r0 h2 → am_M id aa h K) (haa : am_rS (am_pl ps) aa = aaB) (hnd : am_ndp ps = true) (hc : am_cut ps H ps h) (hl : h2.length = h.length) (hk : am_psK ps ps h2 H (fun H2 => am_oK ps r0 (fun r => K2 r H2))) : am_M id aaB H K2 := by
  subst haa
  have hnd2 := am_ndp_sp ps hnd
  have hpl : ∀ i p, ps[i]? = some p → am_pl ps i = p := by
    intro i p hp
    rw [am_pl, nth_eq, hp]
    rfl
  have hin : ∀ i, i < h.length → ∃ p, ps[i]? = some p ∧ am_pl ps i = p := by
    intro i hi
    obtain ⟨p, h1, -⟩ := am_cut_sp ps h hc i _ (List.getElem?_eq_getElem hi)
    exact ⟨p, h1, hpl i p h1⟩
  refine am_frameM (f := am_pl ps) ?_ ?_ (hm (fun r h3 => r = r0 ∧ h3 = h2) ⟨rfl, rfl⟩) ?_
  · intro i j hi hj hij
    obtain ⟨p, h1, h3⟩ := hin i hi
    obtain ⟨p2, h4, h5⟩ := hin j hj
    have : p = p2 := by rw [← h3, ← h5, hij]
    subst this
    exact hnd2 i j p h1 h4
  · intro i c hic
    obtain ⟨p, h1, h3⟩ := am_cut_sp ps h hc i c hic
    rw [hpl i p h1]
    exact h3
  · rintro r h3 H2 ⟨rfl, rfl⟩ hl3 he ho
    have hz := am_oK_sp (k := fun r => K2 r (am_pst ps (h3.map (am_rc (am_pl ps))) H)) (am_psK_sp ps h3 H _ hk)
    have hH : H2 = am_pst ps (h3.map (am_rc (am_pl ps))) H := by
      apply List.ext_getElem?
      intro j
      by_cases hj : ∃ i, i < h.length ∧ am_pl ps i = j
      · obtain ⟨i, hi, rfl⟩ := hj
        obtain ⟨p, h1, h5⟩ := hin i hi
        have hc3 : h3[i]? = some (h3[i]'(by omega)) := List.getElem?_eq_getElem _
        rw [he i _ hc3, h5]
        refine (am_pst_in ps _ H i p _ hnd2 h1 (by rw [List.getElem?_map, hc3]; rfl) ?_).symm
        obtain ⟨p2, h6, h7⟩ := am_cut_sp ps h hc i _ (List.getElem?_eq_getElem hi)
        rw [h1] at h6
        cases h6
        exact (List.getElem?_eq_some_iff.mp h7).1
      · rw [ho.2 j (fun i hi z => hj ⟨i, hi, z⟩), am_pst_out ps _ H j (fun i hi z => hj ⟨i, by simpa [hl] using hi, hpl i j z⟩)]
    rw [hH]
    exact hz
end
section
/-! fewer locals known, as much shown: a dead local may be forgotten -/
def am_le : AL → AL → Prop
  | [], [] => True
  | a :: t, b :: u => (a = none ∨ a = b) ∧ am_le t u
  | _, _ => False
theorem am_le_rf : ∀ L : AL, am_le L L
  | [] => trivial
  | _ :: t => ⟨Or.inr rfl, am_le_rf t⟩
theorem am_g_wk : ∀ (L L2 : AL) (i : Nat) {k : Value → Prop}, am_le L L2 → am_g L i k → am_g L2 i k
  | [], [], _, _, _, h => h
  | [], _ :: _, _, _, w, _ => w.elim
  | _ :: _, [], _, _, w, _ => w.elim
  | some v :: t, b :: u, 0, k, w, h => by
    rcases w.1 with z | z
    · cases z
    · subst z; exact h
  | none :: _, _ :: _, 0, _, _, h => h.elim
  | some _ :: t, b :: u, n + 1, k, w, h => by cases b <;> exact am_g_wk t u n w.2 h
  | none :: t, b :: u, n + 1, k, w, h => by cases b <;> exact am_g_wk t u n w.2 h
theorem am_nl_wk (a b : Option Value) {k k2 : Option Value → Prop} (w : a = none ∨ a = b) (f : ∀ x y, (x = none ∨ x = y) → k x → k2 y) (h : am_nl a k) : am_nl b k2 := by
  rcases w with rfl | rfl
  · cases b with
    | none => exact f _ _ (Or.inl rfl) h
    | some v => cases v <;> exact f _ _ (Or.inl rfl) h
  · exact am_nl_mo a (fun v q => f _ _ (Or.inr rfl) q) h
theorem am_st_wk : ∀ (i : Nat) (L L2 : AL) (v : Value) {k k2 : AL → Prop}, am_le L L2 → (∀ L L2, am_le L L2 → k L → k2 L2) → am_st L i v k → am_st L2 i v k2
  | _, [], [], _, _, _, _, _, h => by cases ‹Nat› <;> exact h
  | _, [], _ :: _, _, _, _, w, _, _ => w.elim
  | _, _ :: _, [], _, _, _, w, _, _ => w.elim
  | 0, _ :: t, _ :: u, v, _, _, w, f, h => f (some v :: t) (some v :: u) ⟨Or.inr rfl, w.2⟩ h
  | 1, [_], [_], _, _, _, _, _, h => h.elim
  | 1, [_], _ :: _ :: _, _, _, _, w, _, _ => w.2.elim
  | 1, _ :: _ :: _, [_], _, _, _, w, _, _ => w.2.elim
  | 1, a :: _ :: t, b :: _ :: u, v, k, k2, w, f, h => am_nl_wk a b (k := fun o2 => k (o2 :: some v :: t)) (k2 := fun o2 => k2 (o2 :: some v :: u)) w.1 (fun x y z q => f (x :: some v :: t) (y :: some v :: u) ⟨z, Or.inr rfl, w.2.2⟩ q) h
  | n + 2, a :: t, b :: u, v, k, k2, w, f, h => am_st_wk (n + 1) t u v (k := fun t2 => k (a :: t2)) (k2 := fun t2 => k2 (b :: t2)) w.2 (fun x y z q => f (a :: x) (b :: y) ⟨w.1, z⟩ q) h
theorem am_st2_wk : ∀ (i : Nat) (L L2 : AL) (v : Value) {k k2 : AL → Prop}, am_le L L2 → (∀ L L2, am_le L L2 → k L → k2 L2) → am_st2 L i v k → am_st2 L2 i v k2
  | _, [], [], _, _, _, _, _, h => by cases ‹Nat› <;> exact h
  | _, [], _ :: _, _, _, _, w, _, _ => w.elim
  | _, _ :: _, [], _, _, _, w, _, _ => w.elim
  | 0, [_], [_], _, _, _, _, _, h => h.elim
  | 0, [_], _ :: _ :: _, _, _, _, w, _, _ => w.2.elim
  | 0, _ :: _ :: _, [_], _, _, _, w, _, _ => w.2.elim
  | 0, _ :: _ :: t, _ :: _ :: u, v, _, _, w, f, h => f (some v :: none :: t) (some v :: none :: u) ⟨Or.inr rfl, Or.inl rfl, w.2.2⟩ h
  | 1, [_], [_], _, _, _, _, _, h => h.elim
  | 1, [_, _], [_, _], _, _, _, _, _, h => h.elim
  | 1, [_], _ :: _ :: _, _, _, _, w, _, _ => w.2.elim
  | 1, _ :: _ :: _, [_], _, _, _, w, _, _ => w.2.elim
  | 1, [_, _], _ :: _ :: _ :: _, _, _, _, w, _, _ => w.2.2.elim
  | 1, _ :: _ :: _ :: _, [_, _], _, _, _, w, _, _ => w.2.2.elim
  | 1, a :: _ :: _ :: t, b :: _ :: _ :: u, v, k, k2, w, f, h => am_nl_wk a b (k := fun o2 => k (o2 :: some v :: none :: t)) (k2 := fun o2 => k2 (o2 :: some v :: none :: u)) w.1 (fun x y z q => f (x :: some v :: none :: t) (y :: some v :: none :: u) ⟨z, Or.inr rfl, Or.inl rfl, w.2.2.2⟩ q) h
  | n + 2, a :: t, b :: u, v, k, k2, w, f, h => am_st2_wk (n + 1) t u v (k := fun t2 => k (a :: t2)) (k2 := fun t2 => k2 (b :: t2)) w.2 (fun x y z q => f (a :: x) (b :: y) ⟨w.1, z⟩ q) h
section WK
variable {nx nx2 : AL → List Value → AH → Prop} {J J2 : Nat → AL → List Value → AH → Prop} {C C2 : Nat → List Value → AL → List Value → AH → Prop} {Rr : Option Value → AH → Prop} {L L2 : AL} {S : List Value} {h : AH}
/-- the steps that don't touch the locals -/
def am_pure : Instr → Bool
  | .iload _ | .lload _ | .aload _ | .istore _ | .astore _ | .lstore _ | .iinc _ _ => false
  | _ => true
theorem am_stp_at (ri : Instr) (hp : am_pure ri = true) {nx nx2 : AL → List Value → AH → Prop} {J J2 : Nat → AL → List Value → AH → Prop} {C C2 : Nat → List Value → AL → List Value → AH → Prop} {Rr : Option Value → AH → Prop} {L L2 : AL} {S : List Value} {h : AH} (H : am_stp ri nx J C Rr L S h) (hn : nx2 L2 = nx L) (hj : ∀ t, J2 t L2 = J t L) (hc : ∀ t a, C2 t a L2 = C t a L) : am_stp ri nx2 J2 C2 Rr L2 S h := by
  cases ri <;> first
    | exact absurd hp Bool.false_ne_true
    | exact H.elim
    | (simp only [am_stp, am_i0, am_i1, am_i2, am_i3, am_i4, hn, hj, hc] at H ⊢; exact H)
theorem am_stp_wk (w : am_le L L2) (f : ∀ L L2 S h, am_le L L2 → nx L S h → nx2 L2 S h) (fj : ∀ t L L2 S h, am_le L L2 → J t L S h → J2 t L2 S h) (fc : ∀ t a L L2 S h, am_le L L2 → C t a L S h → C2 t a L2 S h) (ri : Instr) (H : am_stp ri nx J C Rr L S h) : am_stp ri nx2 J2 C2 Rr L2 S h := by
  cases ri with
  | iload i =>
    exact am_g_wk L L2 i w (am_g_mo L i (fun v hv => by cases v <;> first | exact f _ _ _ _ w hv | exact hv.elim) H)
  | lload i =>
    exact am_g_wk L L2 i w (am_g_mo L i (fun v hv => by cases v <;> first | exact f _ _ _ _ w hv | exact hv.elim) H)
  | aload i =>
    exact am_g_wk L L2 i w (am_g_mo L i (fun v hv => by cases v <;> first | exact f _ _ _ _ w hv | exact hv.elim) H)
  | istore i =>
    dsimp only [am_stp] at H ⊢
    split at H
    · exact am_st_wk i L L2 _ w (fun _ _ z q => f _ _ _ _ z q) H
    · exact H.elim
  | astore i =>
    dsimp only [am_stp] at H ⊢
    split at H
    · exact am_st_wk i L L2 _ w (fun _ _ z q => f _ _ _ _ z q) H
    · exact H.elim
  | lstore i =>
    dsimp only [am_stp] at H ⊢
    split at H
    · exact am_st2_wk i L L2 _ w (fun _ _ z q => f _ _ _ _ z q) H
    · exact H.elim
  | iinc i k =>
    exact am_g_wk L L2 i w (am_g_mo L i (fun v hv => by cases v <;> first | exact am_st_wk i L L2 _ w (fun _ _ z q => f _ _ _ _ z q) hv | exact hv.elim) H)
  | anewarray k =>
    exact am_stp_mo (fun _ _ _ z => z.2 ▸ f _ _ _ _ w z.1) (fun _ _ _ _ z => z.2 ▸ fj _ _ _ _ _ w z.1) (fun _ _ _ _ _ z => z.2 ▸ fc _ _ _ _ _ _ w z.1) (fun _ _ z => z) (.anewarray k) (am_stp_at (.anewarray k) rfl (nx2 := fun L' S h => nx L S h ∧ L2 = L') (J2 := fun t L' S h => J t L S h ∧ L2 = L') (C2 := fun t a L' S h => C t a L S h ∧ L2 = L') H (by funext S h; simp) (fun t => by funext S h; simp) (fun t a => by funext S h; simp))
  | iconst k =>
    exact am_stp_mo (fun _ _ _ z => z.2 ▸ f _ _ _ _ w z.1) (fun _ _ _ _ z => z.2 ▸ fj _ _ _ _ _ w z.1) (fun _ _ _ _ _ z => z.2 ▸ fc _ _ _ _ _ _ w z.1) (fun _ _ z => z) (.iconst k) (am_stp_at (.iconst k) rfl (nx2 := fun L' S h => nx L S h ∧ L2 = L') (J2 := fun t L' S h => J t L S h ∧ L2 = L') (C2 := fun t a L' S h => C t a L S h ∧ L2 = L') H (by funext S h; simp) (fun t => by funext S h; simp) (fun t a => by funext S h; simp))
  | ldc2_w k =>
    exact am_stp_mo (fun _ _ _ z => z.2 ▸ f _ _ _ _ w z.1) (fun _ _ _ _ z => z.2 ▸ fj _ _ _ _ _ w z.1) (fun _ _ _ _ _ z => z.2 ▸ fc _ _ _ _ _ _ w z.1) (fun _ _ z => z) (.ldc2_w k) (am_stp_at (.ldc2_w k) rfl (nx2 := fun L' S h => nx L S h ∧ L2 = L') (J2 := fun t L' S h => J t L S h ∧ L2 = L') (C2 := fun t a L' S h => C t a L S h ∧ L2 = L') H (by funext S h; simp) (fun t => by funext S h; simp) (fun t a => by funext S h; simp))
  | iadd =>
    exact am_stp_mo (fun _ _ _ z => z.2 ▸ f _ _ _ _ w z.1) (fun _ _ _ _ z => z.2 ▸ fj _ _ _ _ _ w z.1) (fun _ _ _ _ _ z => z.2 ▸ fc _ _ _ _ _ _ w z.1) (fun _ _ z => z) .iadd (am_stp_at .iadd rfl (nx2 := fun L' S h => nx L S h ∧ L2 = L') (J2 := fun t L' S h => J t L S h ∧ L2 = L') (C2 := fun t a L' S h => C t a L S h ∧ L2 = L') H (by funext S h; simp) (fun t => by funext S h; simp) (fun t a => by funext S h; simp))
  | isub =>
    exact am_stp_mo (fun _ _ _ z => z.2 ▸ f _ _ _ _ w z.1) (fun _ _ _ _ z => z.2 ▸ fj _ _ _ _ _ w z.1) (fun _ _ _ _ _ z => z.2 ▸ fc _ _ _ _ _ _ w z.1) (fun _ _ z => z) .isub (am_stp_at .isub rfl (nx2 := fun L' S h => nx L S h ∧ L2 = L') (J2 := fun t L' S h => J t L S h ∧ L2 = L') (C2 := fun t a L' S h => C t a L S h ∧ L2 = L') H (by funext S h; simp) (fun t => by funext S h; simp) (fun t a => by funext S h; simp))
  | imul =>
    exact am_stp_mo (fun _ _ _ z => z.2 ▸ f _ _ _ _ w z.1) (fun _ _ _ _ z => z.2 ▸ fj _ _ _ _ _ w z.1) (fun _ _ _ _ _ z => z.2 ▸ fc _ _ _ _ _ _ w z.1) (fun _ _ z => z) .imul (am_stp_at .imul rfl (nx2 := fun L' S h => nx L S h ∧ L2 = L') (J2 := fun t L' S h => J t L S h ∧ L2 = L') (C2 := fun t a L' S h => C t a L S h ∧ L2 = L') H (by funext S h; simp) (fun t => by funext S h; simp) (fun t a => by funext S h; simp))
  | iand =>
    exact am_stp_mo (fun _ _ _ z => z.2 ▸ f _ _ _ _ w z.1) (fun _ _ _ _ z => z.2 ▸ fj _ _ _ _ _ w z.1) (fun _ _ _ _ _ z => z.2 ▸ fc _ _ _ _ _ _ w z.1) (fun _ _ z => z) .iand (am_stp_at .iand rfl (nx2 := fun L' S h => nx L S h ∧ L2 = L') (J2 := fun t L' S h => J t L S h ∧ L2 = L') (C2 := fun t a L' S h => C t a L S h ∧ L2 = L') H (by funext S h; simp) (fun t => by funext S h; simp) (fun t a => by funext S h; simp))
  | ior =>
    exact am_stp_mo (fun _ _ _ z => z.2 ▸ f _ _ _ _ w z.1) (fun _ _ _ _ z => z.2 ▸ fj _ _ _ _ _ w z.1) (fun _ _ _ _ _ z => z.2 ▸ fc _ _ _ _ _ _ w z.1) (fun _ _ z => z) .ior (am_stp_at .ior rfl (nx2 := fun L' S h => nx L S h ∧ L2 = L') (J2 := fun t L' S h => J t L S h ∧ L2 = L') (C2 := fun t a L' S h => C t a L S h ∧ L2 = L') H (by funext S h; simp) (fun t => by funext S h; simp) (fun t a => by funext S h; simp))
  | ixor =>
    exact am_stp_mo (fun _ _ _ z => z.2 ▸ f _ _ _ _ w z.1) (fun _ _ _ _ z => z.2 ▸ fj _ _ _ _ _ w z.1) (fun _ _ _ _ _ z => z.2 ▸ fc _ _ _ _ _ _ w z.1) (fun _ _ z => z) .ixor (am_stp_at .ixor rfl (nx2 := fun L' S h => nx L S h ∧ L2 = L') (J2 := fun t L' S h => J t L S h ∧ L2 = L') (C2 := fun t a L' S h => C t a L S h ∧ L2 = L') H (by funext S h; simp) (fun t => by funext S h; simp) (fun t a => by funext S h; simp))
  | ineg =>
    exact am_stp_mo (fun _ _ _ z => z.2 ▸ f _ _ _ _ w z.1) (fun _ _ _ _ z => z.2 ▸ fj _ _ _ _ _ w z.1) (fun _ _ _ _ _ z => z.2 ▸ fc _ _ _ _ _ _ w z.1) (fun _ _ z => z) .ineg (am_stp_at .ineg rfl (nx2 := fun L' S h => nx L S h ∧ L2 = L') (J2 := fun t L' S h => J t L S h ∧ L2 = L') (C2 := fun t a L' S h => C t a L S h ∧ L2 = L') H (by funext S h; simp) (fun t => by funext S h; simp) (fun t a => by funext S h; simp))
  | ishl =>
    exact am_stp_mo (fun _ _ _ z => z.2 ▸ f _ _ _ _ w z.1) (fun _ _ _ _ z => z.2 ▸ fj _ _ _ _ _ w z.1) (fun _ _ _ _ _ z => z.2 ▸ fc _ _ _ _ _ _ w z.1) (fun _ _ z => z) .ishl (am_stp_at .ishl rfl (nx2 := fun L' S h => nx L S h ∧ L2 = L') (J2 := fun t L' S h => J t L S h ∧ L2 = L') (C2 := fun t a L' S h => C t a L S h ∧ L2 = L') H (by funext S h; simp) (fun t => by funext S h; simp) (fun t a => by funext S h; simp))
  | ishr =>
    exact am_stp_mo (fun _ _ _ z => z.2 ▸ f _ _ _ _ w z.1) (fun _ _ _ _ z => z.2 ▸ fj _ _ _ _ _ w z.1) (fun _ _ _ _ _ z => z.2 ▸ fc _ _ _ _ _ _ w z.1) (fun _ _ z => z) .ishr (am_stp_at .ishr rfl (nx2 := fun L' S h => nx L S h ∧ L2 = L') (J2 := fun t L' S h => J t L S h ∧ L2 = L') (C2 := fun t a L' S h => C t a L S h ∧ L2 = L') H (by funext S h; simp) (fun t => by funext S h; simp) (fun t a => by funext S h; simp))
  | iushr =>
    exact am_stp_mo (fun _ _ _ z => z.2 ▸ f _ _ _ _ w z.1) (fun _ _ _ _ z => z.2 ▸ fj _ _ _ _ _ w z.1) (fun _ _ _ _ _ z => z.2 ▸ fc _ _ _ _ _ _ w z.1) (fun _ _ z => z) .iushr (am_stp_at .iushr rfl (nx2 := fun L' S h => nx L S h ∧ L2 = L') (J2 := fun t L' S h => J t L S h ∧ L2 = L') (C2 := fun t a L' S h => C t a L S h ∧ L2 = L') H (by funext S h; simp) (fun t => by funext S h; simp) (fun t a => by funext S h; simp))
  | ladd =>
    exact am_stp_mo (fun _ _ _ z => z.2 ▸ f _ _ _ _ w z.1) (fun _ _ _ _ z => z.2 ▸ fj _ _ _ _ _ w z.1) (fun _ _ _ _ _ z => z.2 ▸ fc _ _ _ _ _ _ w z.1) (fun _ _ z => z) .ladd (am_stp_at .ladd rfl (nx2 := fun L' S h => nx L S h ∧ L2 = L') (J2 := fun t L' S h => J t L S h ∧ L2 = L') (C2 := fun t a L' S h => C t a L S h ∧ L2 = L') H (by funext S h; simp) (fun t => by funext S h; simp) (fun t a => by funext S h; simp))
  | lsub =>
    exact am_stp_mo (fun _ _ _ z => z.2 ▸ f _ _ _ _ w z.1) (fun _ _ _ _ z => z.2 ▸ fj _ _ _ _ _ w z.1) (fun _ _ _ _ _ z => z.2 ▸ fc _ _ _ _ _ _ w z.1) (fun _ _ z => z) .lsub (am_stp_at .lsub rfl (nx2 := fun L' S h => nx L S h ∧ L2 = L') (J2 := fun t L' S h => J t L S h ∧ L2 = L') (C2 := fun t a L' S h => C t a L S h ∧ L2 = L') H (by funext S h; simp) (fun t => by funext S h; simp) (fun t a => by funext S h; simp))
  | lmul =>
    exact am_stp_mo (fun _ _ _ z => z.2 ▸ f _ _ _ _ w z.1) (fun _ _ _ _ z => z.2 ▸ fj _ _ _ _ _ w z.1) (fun _ _ _ _ _ z => z.2 ▸ fc _ _ _ _ _ _ w z.1) (fun _ _ z => z) .lmul (am_stp_at .lmul rfl (nx2 := fun L' S h => nx L S h ∧ L2 = L') (J2 := fun t L' S h => J t L S h ∧ L2 = L') (C2 := fun t a L' S h => C t a L S h ∧ L2 = L') H (by funext S h; simp) (fun t => by funext S h; simp) (fun t a => by funext S h; simp))
  | land =>
    exact am_stp_mo (fun _ _ _ z => z.2 ▸ f _ _ _ _ w z.1) (fun _ _ _ _ z => z.2 ▸ fj _ _ _ _ _ w z.1) (fun _ _ _ _ _ z => z.2 ▸ fc _ _ _ _ _ _ w z.1) (fun _ _ z => z) .land (am_stp_at .land rfl (nx2 := fun L' S h => nx L S h ∧ L2 = L') (J2 := fun t L' S h => J t L S h ∧ L2 = L') (C2 := fun t a L' S h => C t a L S h ∧ L2 = L') H (by funext S h; simp) (fun t => by funext S h; simp) (fun t a => by funext S h; simp))
  | lor =>
    exact am_stp_mo (fun _ _ _ z => z.2 ▸ f _ _ _ _ w z.1) (fun _ _ _ _ z => z.2 ▸ fj _ _ _ _ _ w z.1) (fun _ _ _ _ _ z => z.2 ▸ fc _ _ _ _ _ _ w z.1) (fun _ _ z => z) .lor (am_stp_at .lor rfl (nx2 := fun L' S h => nx L S h ∧ L2 = L') (J2 := fun t L' S h => J t L S h ∧ L2 = L') (C2 := fun t a L' S h => C t a L S h ∧ L2 = L') H (by funext S h; simp) (fun t => by funext S h; simp) (fun t a => by funext S h; simp))
  | lshl =>
    exact am_stp_mo (fun _ _ _ z => z.2 ▸ f _ _ _ _ w z.1) (fun _ _ _ _ z => z.2 ▸ fj _ _ _ _ _ w z.1) (fun _ _ _ _ _ z => z.2 ▸ fc _ _ _ _ _ _ w z.1) (fun _ _ z => z) .lshl (am_stp_at .lshl rfl (nx2 := fun L' S h => nx L S h ∧ L2 = L') (J2 := fun t L' S h => J t L S h ∧ L2 = L') (C2 := fun t a L' S h => C t a L S h ∧ L2 = L') H (by funext S h; simp) (fun t => by funext S h; simp) (fun t a => by funext S h; simp))
  | lshr =>
    exact am_stp_mo (fun _ _ _ z => z.2 ▸ f _ _ _ _ w z.1) (fun _ _ _ _ z => z.2 ▸ fj _ _ _ _ _ w z.1) (fun _ _ _ _ _ z => z.2 ▸ fc _ _ _ _ _ _ w z.1) (fun _ _ z => z) .lshr (am_stp_at .lshr rfl (nx2 := fun L' S h => nx L S h ∧ L2 = L') (J2 := fun t L' S h => J t L S h ∧ L2 = L') (C2 := fun t a L' S h => C t a L S h ∧ L2 = L') H (by funext S h; simp) (fun t => by funext S h; simp) (fun t a => by funext S h; simp))
  | lushr =>
    exact am_stp_mo (fun _ _ _ z => z.2 ▸ f _ _ _ _ w z.1) (fun _ _ _ _ z => z.2 ▸ fj _ _ _ _ _ w z.1) (fun _ _ _ _ _ z => z.2 ▸ fc _ _ _ _ _ _ w z.1) (fun _ _ z => z) .lushr (am_stp_at .lushr rfl (nx2 := fun L' S h => nx L S h ∧ L2 = L') (J2 := fun t L' S h => J t L S h ∧ L2 = L') (C2 := fun t a L' S h => C t a L S h ∧ L2 = L') H (by funext S h; simp) (fun t => by funext S h; simp) (fun t a => by funext S h; simp))
  | i2l =>
    exact am_stp_mo (fun _ _ _ z => z.2 ▸ f _ _ _ _ w z.1) (fun _ _ _ _ z => z.2 ▸ fj _ _ _ _ _ w z.1) (fun _ _ _ _ _ z => z.2 ▸ fc _ _ _ _ _ _ w z.1) (fun _ _ z => z) .i2l (am_stp_at .i2l rfl (nx2 := fun L' S h => nx L S h ∧ L2 = L') (J2 := fun t L' S h => J t L S h ∧ L2 = L') (C2 := fun t a L' S h => C t a L S h ∧ L2 = L') H (by funext S h; simp) (fun t => by funext S h; simp) (fun t a => by funext S h; simp))
  | l2i =>
    exact am_stp_mo (fun _ _ _ z => z.2 ▸ f _ _ _ _ w z.1) (fun _ _ _ _ z => z.2 ▸ fj _ _ _ _ _ w z.1) (fun _ _ _ _ _ z => z.2 ▸ fc _ _ _ _ _ _ w z.1) (fun _ _ z => z) .l2i (am_stp_at .l2i rfl (nx2 := fun L' S h => nx L S h ∧ L2 = L') (J2 := fun t L' S h => J t L S h ∧ L2 = L') (C2 := fun t a L' S h => C t a L S h ∧ L2 = L') H (by funext S h; simp) (fun t => by funext S h; simp) (fun t a => by funext S h; simp))
  | lcmp =>
    exact am_stp_mo (fun _ _ _ z => z.2 ▸ f _ _ _ _ w z.1) (fun _ _ _ _ z => z.2 ▸ fj _ _ _ _ _ w z.1) (fun _ _ _ _ _ z => z.2 ▸ fc _ _ _ _ _ _ w z.1) (fun _ _ z => z) .lcmp (am_stp_at .lcmp rfl (nx2 := fun L' S h => nx L S h ∧ L2 = L') (J2 := fun t L' S h => J t L S h ∧ L2 = L') (C2 := fun t a L' S h => C t a L S h ∧ L2 = L') H (by funext S h; simp) (fun t => by funext S h; simp) (fun t a => by funext S h; simp))
  | idiv =>
    exact am_stp_mo (fun _ _ _ z => z.2 ▸ f _ _ _ _ w z.1) (fun _ _ _ _ z => z.2 ▸ fj _ _ _ _ _ w z.1) (fun _ _ _ _ _ z => z.2 ▸ fc _ _ _ _ _ _ w z.1) (fun _ _ z => z) .idiv (am_stp_at .idiv rfl (nx2 := fun L' S h => nx L S h ∧ L2 = L') (J2 := fun t L' S h => J t L S h ∧ L2 = L') (C2 := fun t a L' S h => C t a L S h ∧ L2 = L') H (by funext S h; simp) (fun t => by funext S h; simp) (fun t a => by funext S h; simp))
  | irem =>
    exact am_stp_mo (fun _ _ _ z => z.2 ▸ f _ _ _ _ w z.1) (fun _ _ _ _ z => z.2 ▸ fj _ _ _ _ _ w z.1) (fun _ _ _ _ _ z => z.2 ▸ fc _ _ _ _ _ _ w z.1) (fun _ _ z => z) .irem (am_stp_at .irem rfl (nx2 := fun L' S h => nx L S h ∧ L2 = L') (J2 := fun t L' S h => J t L S h ∧ L2 = L') (C2 := fun t a L' S h => C t a L S h ∧ L2 = L') H (by funext S h; simp) (fun t => by funext S h; simp) (fun t a => by funext S h; simp))
  | ldiv =>
    exact am_stp_mo (fun _ _ _ z => z.2 ▸ f _ _ _ _ w z.1) (fun _ _ _ _ z => z.2 ▸ fj _ _ _ _ _ w z.1) (fun _ _ _ _ _ z => z.2 ▸ fc _ _ _ _ _ _ w z.1) (fun _ _ z => z) .ldiv (am_stp_at .ldiv rfl (nx2 := fun L' S h => nx L S h ∧ L2 = L') (J2 := fun t L' S h => J t L S h ∧ L2 = L') (C2 := fun t a L' S h => C t a L S h ∧ L2 = L') H (by funext S h; simp) (fun t => by funext S h; simp) (fun t a => by funext S h; simp))
  | lrem =>
    exact am_stp_mo (fun _ _ _ z => z.2 ▸ f _ _ _ _ w z.1) (fun _ _ _ _ z => z.2 ▸ fj _ _ _ _ _ w z.1) (fun _ _ _ _ _ z => z.2 ▸ fc _ _ _ _ _ _ w z.1) (fun _ _ z => z) .lrem (am_stp_at .lrem rfl (nx2 := fun L' S h => nx L S h ∧ L2 = L') (J2 := fun t L' S h => J t L S h ∧ L2 = L') (C2 := fun t a L' S h => C t a L S h ∧ L2 = L') H (by funext S h; simp) (fun t => by funext S h; simp) (fun t a => by funext S h; simp))
  | dup =>
    exact am_stp_mo (fun _ _ _ z => z.2 ▸ f _ _ _ _ w z.1) (fun _ _ _ _ z => z.2 ▸ fj _ _ _ _ _ w z.1) (fun _ _ _ _ _ z => z.2 ▸ fc _ _ _ _ _ _ w z.1) (fun _ _ z => z) .dup (am_stp_at .dup rfl (nx2 := fun L' S h => nx L S h ∧ L2 = L') (J2 := fun t L' S h => J t L S h ∧ L2 = L') (C2 := fun t a L' S h => C t a L S h ∧ L2 = L') H (by funext S h; simp) (fun t => by funext S h; simp) (fun t a => by funext S h; simp))
  | dup2 =>
    exact am_stp_mo (fun _ _ _ z => z.2 ▸ f _ _ _ _ w z.1) (fun _ _ _ _ z => z.2 ▸ fj _ _ _ _ _ w z.1) (fun _ _ _ _ _ z => z.2 ▸ fc _ _ _ _ _ _ w z.1) (fun _ _ z => z) .dup2 (am_stp_at .dup2 rfl (nx2 := fun L' S h => nx L S h ∧ L2 = L') (J2 := fun t L' S h => J t L S h ∧ L2 = L') (C2 := fun t a L' S h => C t a L S h ∧ L2 = L') H (by funext S h; simp) (fun t => by funext S h; simp) (fun t a => by funext S h; simp))
  | pop =>
    exact am_stp_mo (fun _ _ _ z => z.2 ▸ f _ _ _ _ w z.1) (fun _ _ _ _ z => z.2 ▸ fj _ _ _ _ _ w z.1) (fun _ _ _ _ _ z => z.2 ▸ fc _ _ _ _ _ _ w z.1) (fun _ _ z => z) .pop (am_stp_at .pop rfl (nx2 := fun L' S h => nx L S h ∧ L2 = L') (J2 := fun t L' S h => J t L S h ∧ L2 = L') (C2 := fun t a L' S h => C t a L S h ∧ L2 = L') H (by funext S h; simp) (fun t => by funext S h; simp) (fun t a => by funext S h; simp))
  | if_icmp c t =>
    exact am_stp_mo (fun _ _ _ z => z.2 ▸ f _ _ _ _ w z.1) (fun _ _ _ _ z => z.2 ▸ fj _ _ _ _ _ w z.1) (fun _ _ _ _ _ z => z.2 ▸ fc _ _ _ _ _ _ w z.1) (fun _ _ z => z) (.if_icmp c t) (am_stp_at (.if_icmp c t) rfl (nx2 := fun L' S h => nx L S h ∧ L2 = L') (J2 := fun t L' S h => J t L S h ∧ L2 = L') (C2 := fun t a L' S h => C t a L S h ∧ L2 = L') H (by funext S h; simp) (fun t => by funext S h; simp) (fun t a => by funext S h; simp))
  | ifCond c t =>
    exact am_stp_mo (fun _ _ _ z => z.2 ▸ f _ _ _ _ w z.1) (fun _ _ _ _ z => z.2 ▸ fj _ _ _ _ _ w z.1) (fun _ _ _ _ _ z => z.2 ▸ fc _ _ _ _ _ _ w z.1) (fun _ _ z => z) (.ifCond c t) (am_stp_at (.ifCond c t) rfl (nx2 := fun L' S h => nx L S h ∧ L2 = L') (J2 := fun t L' S h => J t L S h ∧ L2 = L') (C2 := fun t a L' S h => C t a L S h ∧ L2 = L') H (by funext S h; simp) (fun t => by funext S h; simp) (fun t a => by funext S h; simp))
  | goto t =>
    exact am_stp_mo (fun _ _ _ z => z.2 ▸ f _ _ _ _ w z.1) (fun _ _ _ _ z => z.2 ▸ fj _ _ _ _ _ w z.1) (fun _ _ _ _ _ z => z.2 ▸ fc _ _ _ _ _ _ w z.1) (fun _ _ z => z) (.goto t) (am_stp_at (.goto t) rfl (nx2 := fun L' S h => nx L S h ∧ L2 = L') (J2 := fun t L' S h => J t L S h ∧ L2 = L') (C2 := fun t a L' S h => C t a L S h ∧ L2 = L') H (by funext S h; simp) (fun t => by funext S h; simp) (fun t a => by funext S h; simp))
  | tableswitch d lo hi ts =>
    exact am_stp_mo (fun _ _ _ z => z.2 ▸ f _ _ _ _ w z.1) (fun _ _ _ _ z => z.2 ▸ fj _ _ _ _ _ w z.1) (fun _ _ _ _ _ z => z.2 ▸ fc _ _ _ _ _ _ w z.1) (fun _ _ z => z) (.tableswitch d lo hi ts) (am_stp_at (.tableswitch d lo hi ts) rfl (nx2 := fun L' S h => nx L S h ∧ L2 = L') (J2 := fun t L' S h => J t L S h ∧ L2 = L') (C2 := fun t a L' S h => C t a L S h ∧ L2 = L') H (by funext S h; simp) (fun t => by funext S h; simp) (fun t a => by funext S h; simp))
  | lookupswitch d ps =>
    exact am_stp_mo (fun _ _ _ z => z.2 ▸ f _ _ _ _ w z.1) (fun _ _ _ _ z => z.2 ▸ fj _ _ _ _ _ w z.1) (fun _ _ _ _ _ z => z.2 ▸ fc _ _ _ _ _ _ w z.1) (fun _ _ z => z) (.lookupswitch d ps) (am_stp_at (.lookupswitch d ps) rfl (nx2 := fun L' S h => nx L S h ∧ L2 = L') (J2 := fun t L' S h => J t L S h ∧ L2 = L') (C2 := fun t a L' S h => C t a L S h ∧ L2 = L') H (by funext S h; simp) (fun t => by funext S h; simp) (fun t a => by funext S h; simp))
  | getfield r =>
    exact am_stp_mo (fun _ _ _ z => z.2 ▸ f _ _ _ _ w z.1) (fun _ _ _ _ z => z.2 ▸ fj _ _ _ _ _ w z.1) (fun _ _ _ _ _ z => z.2 ▸ fc _ _ _ _ _ _ w z.1) (fun _ _ z => z) (.getfield r) (am_stp_at (.getfield r) rfl (nx2 := fun L' S h => nx L S h ∧ L2 = L') (J2 := fun t L' S h => J t L S h ∧ L2 = L') (C2 := fun t a L' S h => C t a L S h ∧ L2 = L') H (by funext S h; simp) (fun t => by funext S h; simp) (fun t a => by funext S h; simp))
  | putfield r =>
    exact am_stp_mo (fun _ _ _ z => z.2 ▸ f _ _ _ _ w z.1) (fun _ _ _ _ z => z.2 ▸ fj _ _ _ _ _ w z.1) (fun _ _ _ _ _ z => z.2 ▸ fc _ _ _ _ _ _ w z.1) (fun _ _ z => z) (.putfield r) (am_stp_at (.putfield r) rfl (nx2 := fun L' S h => nx L S h ∧ L2 = L') (J2 := fun t L' S h => J t L S h ∧ L2 = L') (C2 := fun t a L' S h => C t a L S h ∧ L2 = L') H (by funext S h; simp) (fun t => by funext S h; simp) (fun t a => by funext S h; simp))
  | iaload =>
    exact am_stp_mo (fun _ _ _ z => z.2 ▸ f _ _ _ _ w z.1) (fun _ _ _ _ z => z.2 ▸ fj _ _ _ _ _ w z.1) (fun _ _ _ _ _ z => z.2 ▸ fc _ _ _ _ _ _ w z.1) (fun _ _ z => z) .iaload (am_stp_at .iaload rfl (nx2 := fun L' S h => nx L S h ∧ L2 = L') (J2 := fun t L' S h => J t L S h ∧ L2 = L') (C2 := fun t a L' S h => C t a L S h ∧ L2 = L') H (by funext S h; simp) (fun t => by funext S h; simp) (fun t a => by funext S h; simp))
  | iastore =>
    exact am_stp_mo (fun _ _ _ z => z.2 ▸ f _ _ _ _ w z.1) (fun _ _ _ _ z => z.2 ▸ fj _ _ _ _ _ w z.1) (fun _ _ _ _ _ z => z.2 ▸ fc _ _ _ _ _ _ w z.1) (fun _ _ z => z) .iastore (am_stp_at .iastore rfl (nx2 := fun L' S h => nx L S h ∧ L2 = L') (J2 := fun t L' S h => J t L S h ∧ L2 = L') (C2 := fun t a L' S h => C t a L S h ∧ L2 = L') H (by funext S h; simp) (fun t => by funext S h; simp) (fun t a => by funext S h; simp))
  | aaload =>
    exact am_stp_mo (fun _ _ _ z => z.2 ▸ f _ _ _ _ w z.1) (fun _ _ _ _ z => z.2 ▸ fj _ _ _ _ _ w z.1) (fun _ _ _ _ _ z => z.2 ▸ fc _ _ _ _ _ _ w z.1) (fun _ _ z => z) .aaload (am_stp_at .aaload rfl (nx2 := fun L' S h => nx L S h ∧ L2 = L') (J2 := fun t L' S h => J t L S h ∧ L2 = L') (C2 := fun t a L' S h => C t a L S h ∧ L2 = L') H (by funext S h; simp) (fun t => by funext S h; simp) (fun t a => by funext S h; simp))
  | arraylength =>
    exact am_stp_mo (fun _ _ _ z => z.2 ▸ f _ _ _ _ w z.1) (fun _ _ _ _ z => z.2 ▸ fj _ _ _ _ _ w z.1) (fun _ _ _ _ _ z => z.2 ▸ fc _ _ _ _ _ _ w z.1) (fun _ _ z => z) .arraylength (am_stp_at .arraylength rfl (nx2 := fun L' S h => nx L S h ∧ L2 = L') (J2 := fun t L' S h => J t L S h ∧ L2 = L') (C2 := fun t a L' S h => C t a L S h ∧ L2 = L') H (by funext S h; simp) (fun t => by funext S h; simp) (fun t a => by funext S h; simp))
  | invokeinterface r k =>
    exact am_stp_mo (fun _ _ _ z => z.2 ▸ f _ _ _ _ w z.1) (fun _ _ _ _ z => z.2 ▸ fj _ _ _ _ _ w z.1) (fun _ _ _ _ _ z => z.2 ▸ fc _ _ _ _ _ _ w z.1) (fun _ _ z => z) (.invokeinterface r k) (am_stp_at (.invokeinterface r k) rfl (nx2 := fun L' S h => nx L S h ∧ L2 = L') (J2 := fun t L' S h => J t L S h ∧ L2 = L') (C2 := fun t a L' S h => C t a L S h ∧ L2 = L') H (by funext S h; simp) (fun t => by funext S h; simp) (fun t a => by funext S h; simp))
  | invokedynamic k =>
    exact am_stp_mo (fun _ _ _ z => z.2 ▸ f _ _ _ _ w z.1) (fun _ _ _ _ z => z.2 ▸ fj _ _ _ _ _ w z.1) (fun _ _ _ _ _ z => z.2 ▸ fc _ _ _ _ _ _ w z.1) (fun _ _ z => z) (.invokedynamic k) (am_stp_at (.invokedynamic k) rfl (nx2 := fun L' S h => nx L S h ∧ L2 = L') (J2 := fun t L' S h => J t L S h ∧ L2 = L') (C2 := fun t a L' S h => C t a L S h ∧ L2 = L') H (by funext S h; simp) (fun t => by funext S h; simp) (fun t a => by funext S h; simp))
  | ireturn =>
    exact am_stp_mo (fun _ _ _ z => z.2 ▸ f _ _ _ _ w z.1) (fun _ _ _ _ z => z.2 ▸ fj _ _ _ _ _ w z.1) (fun _ _ _ _ _ z => z.2 ▸ fc _ _ _ _ _ _ w z.1) (fun _ _ z => z) .ireturn (am_stp_at .ireturn rfl (nx2 := fun L' S h => nx L S h ∧ L2 = L') (J2 := fun t L' S h => J t L S h ∧ L2 = L') (C2 := fun t a L' S h => C t a L S h ∧ L2 = L') H (by funext S h; simp) (fun t => by funext S h; simp) (fun t a => by funext S h; simp))
  | lreturn =>
    exact am_stp_mo (fun _ _ _ z => z.2 ▸ f _ _ _ _ w z.1) (fun _ _ _ _ z => z.2 ▸ fj _ _ _ _ _ w z.1) (fun _ _ _ _ _ z => z.2 ▸ fc _ _ _ _ _ _ w z.1) (fun _ _ z => z) .lreturn (am_stp_at .lreturn rfl (nx2 := fun L' S h => nx L S h ∧ L2 = L') (J2 := fun t L' S h => J t L S h ∧ L2 = L') (C2 := fun t a L' S h => C t a L S h ∧ L2 = L') H (by funext S h; simp) (fun t => by funext S h; simp) (fun t a => by funext S h; simp))
  | areturn =>
    exact am_stp_mo (fun _ _ _ z => z.2 ▸ f _ _ _ _ w z.1) (fun _ _ _ _ z => z.2 ▸ fj _ _ _ _ _ w z.1) (fun _ _ _ _ _ z => z.2 ▸ fc _ _ _ _ _ _ w z.1) (fun _ _ z => z) .areturn (am_stp_at .areturn rfl (nx2 := fun L' S h => nx L S h ∧ L2 = L') (J2 := fun t L' S h => J t L S h ∧ L2 = L') (C2 := fun t a L' S h => C t a L S h ∧ L2 = L') H (by funext S h; simp) (fun t => by funext S h; simp) (fun t a => by funext S h; simp))
  | return_ =>
    exact am_stp_mo (fun _ _ _ z => z.2 ▸ f _ _ _ _ w z.1) (fun _ _ _ _ z => z.2 ▸ fj _ _ _ _ _ w z.1) (fun _ _ _ _ _ z => z.2 ▸ fc _ _ _ _ _ _ w z.1) (fun _ _ z => z) .return_ (am_stp_at .return_ rfl (nx2 := fun L' S h => nx L S h ∧ L2 = L') (J2 := fun t L' S h => J t L S h ∧ L2 = L') (C2 := fun t a L' S h => C t a L S h ∧ L2 = L') H (by funext S h; simp) (fun t => by funext S h; simp) (fun t a => by funext S h; simp))
  | dreturn =>
    exact am_stp_mo (fun _ _ _ z => z.2 ▸ f _ _ _ _ w z.1) (fun _ _ _ _ z => z.2 ▸ fj _ _ _ _ _ w z.1) (fun _ _ _ _ _ z => z.2 ▸ fc _ _ _ _ _ _ w z.1) (fun _ _ z => z) .dreturn (am_stp_at .dreturn rfl (nx2 := fun L' S h => nx L S h ∧ L2 = L') (J2 := fun t L' S h => J t L S h ∧ L2 = L') (C2 := fun t a L' S h => C t a L S h ∧ L2 = L') H (by funext S h; simp) (fun t => by funext S h; simp) (fun t a => by funext S h; simp))
  | _ => exact H.elim
end WK
def am_WP : am_PT := fun k pc L S h K => ∀ L2, am_le L L2 → am_E k pc L2 S h K
theorem am_WP_clo : am_Clo am_WP := by
  refine ⟨fun k pc L S h K K2 g H L2 w => am_E_mo g (H L2 w), ?_⟩
  intro k pc L S h K q e hq hm hpc hst L2 w
  refine am_E_clo.2 k pc L2 S h K q e hq hm hpc (am_stp_wk w (fun L L2 S h z H => H L2 z) (fun t L L2 S h z H => H L2 z) ?_ e.2.1 hst)
  rintro id aa L L2 S h z ⟨y, hy, hz⟩
  exact ⟨y, hy, am_ent_mo _ _ (fun L3 q => am_E_mo (fun r h1 q2 => q2 L2 z) (q L3 (am_le_rf L3))) hz⟩
theorem am_wk {k pc : Nat} {L L2 : AL} {S : List Value} {h : AH} {K : Option Value → AH → Prop} (w : am_le L L2) (H : am_E k pc L S h K) : am_E k pc L2 S h K := by
  rw [am_E_def] at H
  exact H am_WP am_WP_clo L2 w
end
section
/-! SPECS: the leaves. bI: a boolean as an int; hasB: a bit of a set -/
theorem nI_one : nI 1 = 1 := by decide +kernel
def bI (b : Bool) : Int32 := if b then nI 1 else nI 0
theorem bI_0 {b : Bool} : bI b = 0 ↔ b = false := by cases b <;> decide
theorem bI_t : bI true = nI 1 := rfl
theorem bI_f : bI false = nI 0 := rfl
theorem bI_01 (b : Bool) : bI b = 0 ∨ bI b = 1 := by cases b <;> decide
def bmask (x : Int32) : Int32 := nI 1 <<< (x &&& 31)
def hasB (s x : Int32) : Bool := !(decide ((s &&& bmask x) = 0))
theorem hasB_t {s x : Int32} (h : ¬ (s &&& (nI 1 <<< (x &&& 31))) = 0) : hasB s x = true := by simp [hasB, bmask, h]
theorem hasB_f {s x : Int32} (h : (s &&& (nI 1 <<< (x &&& 31))) = 0) : hasB s x = false := by simp [hasB, bmask, h]
theorem am_hgn {h : AH} {a : Nat} {c : AC} {k : AC → Prop} (hh : nth h a = some c) (hk : k c) : am_hg h a k := am_hg_iff h a k c (by rw [← nth_eq]; exact hh) hk
def fFirst (a b : Int32) : Int32 := if a = 0 then b else a
theorem s_first {a b : Int32} {h : AH} {K : Option Value → AH → Prop} (hK : K (some (.int (fFirst a b))) h) : am_M i_X11_first [.int a, .int b] h K := by
  refine e_X11_first [] ?_
  conv => whnf
  refine ⟨fun c1 => ?_, fun c1 => ?_⟩
  · refine b_X11_first [] ?_
    conv => whnf
    simp only [fFirst, c1, ↓reduceIte] at hK; exact hK
  · conv => whnf
    refine b_X11_first [] ?_
    conv => whnf
    simp only [fFirst, c1, ↓reduceIte] at hK; exact hK
def fBelow (a b : Int32) : Int32 := if b ≤ a then nI 0 else Int32.ofInt (-4)
theorem s_below {a b : Int32} {h : AH} {K : Option Value → AH → Prop} (hK : K (some (.int (fBelow a b))) h) : am_M i_X11_below [.int a, .int b] h K := by
  refine e_X11_below [] ?_
  conv => whnf
  refine ⟨fun c2 => ?_, fun c2 => ?_⟩
  · refine b_X11_below [] ?_
    conv => whnf
    simp only [fBelow, c2, ↓reduceIte] at hK; exact hK
  · conv => whnf
    refine b_X11_below [] ?_
    conv => whnf
    simp only [fBelow, c2, ↓reduceIte] at hK; exact hK
def fAbove (a b : Int32) : Int32 := if a ≤ b then nI 0 else Int32.ofInt (-6)
theorem s_above {a b : Int32} {h : AH} {K : Option Value → AH → Prop} (hK : K (some (.int (fAbove a b))) h) : am_M i_X11_above [.int a, .int b] h K := by
  refine e_X11_above [] ?_
  conv => whnf
  refine ⟨fun c2 => ?_, fun c2 => ?_⟩
  · refine b_X11_above [] ?_
    conv => whnf
    simp only [fAbove, c2, ↓reduceIte] at hK; exact hK
  · conv => whnf
    refine b_X11_above [] ?_
    conv => whnf
    simp only [fAbove, c2, ↓reduceIte] at hK; exact hK
def fUnk (a b : Int32) : Int32 := if a < 0 then Int32.ofInt (-2) else if a ≤ b then nI 0 else Int32.ofInt (-2)
theorem s_unknown {a b : Int32} {h : AH} {K : Option Value → AH → Prop} (hK : K (some (.int (fUnk a b))) h) : am_M i_X11_unknown [.int a, .int b] h K := by
  refine e_X11_unknown [] ?_
  conv => whnf
  refine ⟨fun c1 => ?_, fun c1 => ?_⟩
  · refine b_X11_unknown [] ?_
    conv => whnf
    refine b_X11_unknown [] ?_
    conv => whnf
    simp only [fUnk, c1, ↓reduceIte] at hK; exact hK
  · conv => whnf
    refine ⟨fun c6 => ?_, fun c6 => ?_⟩
    · refine b_X11_unknown [] ?_
      conv => whnf
      simp only [fUnk, c1, c6, ↓reduceIte] at hK; exact hK
    · conv => whnf
      refine b_X11_unknown [] ?_
      conv => whnf
      simp only [fUnk, c1, c6, ↓reduceIte] at hK; exact hK
def fNoBlow (a : Int32) : Int32 := fFirst (fBelow a (nI 1)) (fAbove a (nI 60))
theorem s_noBlow {a : Int32} {h : AH} {K : Option Value → AH → Prop} (hK : K (some (.int (fNoBlow a))) h) : am_M i_X11_noBlow [.int a] h K := by
  refine e_X11_noBlow [] ?_
  conv => whnf
  refine s_below ?_
  refine b_X11_noBlow [] ?_
  conv => whnf
  refine s_above ?_
  refine b_X11_noBlow [] ?_
  conv => whnf
  refine s_first ?_
  refine b_X11_noBlow [] ?_
  conv => whnf
  exact hK
def fLoss (k f : Int32) : Int32 := if k = nI 1 then (nI 1 + f) / nI 2 else if k = nI 2 then nI 1 + f + nI 2 else if k = nI 3 then nI 1 else if k = nI 4 then (nI 1 + f + nI 2) / nI 2 else if k = nI 5 then (nI 1 + f) / nI 2 + nI 1 else nI 1 + f
theorem s_lossOf {k f : Int32} {h : AH} {K : Option Value → AH → Prop} (hK : K (some (.int (fLoss k f))) h) : am_M i_X3_lossOf [.int k, .int f] h K := by
  refine e_X3_lossOf [] ?_
  conv => whnf
  refine ⟨(by decide), ?_⟩
  conv => whnf
  refine ⟨fun (s14_1 : _ = nI 1) => ?_, fun (s14_1 : ¬ _ = nI 1) => ?_⟩
  · conv => whnf
    refine b_X3_lossOf [] ?_
    conv => whnf
    rw [fLoss, if_pos s14_1] at hK; exact hK
  conv => whnf
  refine ⟨fun (s14_2 : _ = nI 2) => ?_, fun (s14_2 : ¬ _ = nI 2) => ?_⟩
  · conv => whnf
    refine b_X3_lossOf [] ?_
    conv => whnf
    rw [fLoss, if_neg s14_1, if_pos s14_2] at hK; exact hK
  conv => whnf
  refine ⟨fun (s14_3 : _ = nI 3) => ?_, fun (s14_3 : ¬ _ = nI 3) => ?_⟩
  · conv => whnf
    refine b_X3_lossOf [] ?_
    conv => whnf
    rw [fLoss, if_neg s14_1, if_neg s14_2, if_pos s14_3] at hK; exact hK
  conv => whnf
  refine ⟨fun (s14_4 : _ = nI 4) => ?_, fun (s14_4 : ¬ _ = nI 4) => ?_⟩
  · conv => whnf
    refine b_X3_lossOf [] ?_
    conv => whnf
    refine ⟨(by decide), ?_⟩
    conv => whnf
    rw [fLoss, if_neg s14_1, if_neg s14_2, if_neg s14_3, if_pos s14_4] at hK; exact hK
  conv => whnf
  refine ⟨fun (s14_5 : _ = nI 5) => ?_, fun (s14_5 : ¬ _ = nI 5) => ?_⟩
  · conv => whnf
    refine b_X3_lossOf [] ?_
    conv => whnf
    rw [fLoss, if_neg s14_1, if_neg s14_2, if_neg s14_3, if_neg s14_4, if_pos s14_5] at hK; exact hK
  conv => whnf
  refine b_X3_lossOf [] ?_
  conv => whnf
  rw [fLoss, if_neg s14_1, if_neg s14_2, if_neg s14_3, if_neg s14_4, if_neg s14_5] at hK; exact hK
def fStands (k f : Int32) : Int32 := if k = nI 1 then nI 10 + f - nI 4 else if k = nI 2 then nI 10 + f + nI 5 else if k = nI 3 then (nI 10 + f - nI 4) / nI 2 else if k = nI 4 then nI 99 else if k = nI 5 then nI 10 + f - nI 4 - f else nI 10 + f
theorem s_standsOf {k f : Int32} {h : AH} {K : Option Value → AH → Prop} (hK : K (some (.int (fStands k f))) h) : am_M i_X3_standsOf [.int k, .int f] h K := by
  refine e_X3_standsOf [] ?_
  conv => whnf
  refine ⟨fun (s10_1 : _ = nI 1) => ?_, fun (s10_1 : ¬ _ = nI 1) => ?_⟩
  · conv => whnf
    refine b_X3_standsOf [] ?_
    conv => whnf
    rw [fStands, if_pos s10_1] at hK; exact hK
  conv => whnf
  refine ⟨fun (s10_2 : _ = nI 2) => ?_, fun (s10_2 : ¬ _ = nI 2) => ?_⟩
  · conv => whnf
    refine b_X3_standsOf [] ?_
    conv => whnf
    rw [fStands, if_neg s10_1, if_pos s10_2] at hK; exact hK
  conv => whnf
  refine ⟨fun (s10_3 : _ = nI 3) => ?_, fun (s10_3 : ¬ _ = nI 3) => ?_⟩
  · conv => whnf
    refine b_X3_standsOf [] ?_
    conv => whnf
    refine ⟨(by decide), ?_⟩
    conv => whnf
    rw [fStands, if_neg s10_1, if_neg s10_2, if_pos s10_3] at hK; exact hK
  conv => whnf
  refine ⟨fun (s10_4 : _ = nI 4) => ?_, fun (s10_4 : ¬ _ = nI 4) => ?_⟩
  · conv => whnf
    refine b_X3_standsOf [] ?_
    conv => whnf
    rw [fStands, if_neg s10_1, if_neg s10_2, if_neg s10_3, if_pos s10_4] at hK; exact hK
  conv => whnf
  refine ⟨fun (s10_5 : _ = nI 5) => ?_, fun (s10_5 : ¬ _ = nI 5) => ?_⟩
  · conv => whnf
    refine b_X3_standsOf [] ?_
    conv => whnf
    rw [fStands, if_neg s10_1, if_neg s10_2, if_neg s10_3, if_neg s10_4, if_pos s10_5] at hK; exact hK
  conv => whnf
  refine b_X3_standsOf [] ?_
  conv => whnf
  rw [fStands, if_neg s10_1, if_neg s10_2, if_neg s10_3, if_neg s10_4, if_neg s10_5] at hK; exact hK
def fJump (k v : Int32) : Int32 := if 0 < v then (if k = nI 1 then v / nI 2 + nI 1 else if k = nI 2 then v / nI 3 else if k = nI 3 then nI 2 * (v / nI 2 + nI 1) else if k = nI 4 then nI 0 else if k = nI 5 then v / nI 2 + nI 1 else v / nI 2) else nI 0
theorem s_jumpBy {k v : Int32} {h : AH} {K : Option Value → AH → Prop} (hK : K (some (.int (fJump k v))) h) : am_M i_X3_jumpBy [.int k, .int v] h K := by
  refine e_X3_jumpBy [] ?_
  conv => whnf
  refine ⟨fun c1 => ?_, fun c1 => ?_⟩
  · refine b_X3_jumpBy [] ?_
    conv => whnf
    refine ⟨(by decide), ?_⟩
    conv => whnf
    refine ⟨fun (s15_1 : _ = nI 1) => ?_, fun (s15_1 : ¬ _ = nI 1) => ?_⟩
    · conv => whnf
      refine b_X3_jumpBy [] ?_
      conv => whnf
      rw [fJump, if_pos c1] at hK; rw [if_pos s15_1] at hK; exact hK
    conv => whnf
    refine ⟨fun (s15_2 : _ = nI 2) => ?_, fun (s15_2 : ¬ _ = nI 2) => ?_⟩
    · conv => whnf
      refine b_X3_jumpBy [] ?_
      conv => whnf
      refine ⟨(by decide), ?_⟩
      conv => whnf
      rw [fJump, if_pos c1] at hK; rw [if_neg s15_1, if_pos s15_2] at hK; exact hK
    conv => whnf
    refine ⟨fun (s15_3 : _ = nI 3) => ?_, fun (s15_3 : ¬ _ = nI 3) => ?_⟩
    · conv => whnf
      refine b_X3_jumpBy [] ?_
      conv => whnf
      rw [fJump, if_pos c1] at hK; rw [if_neg s15_1, if_neg s15_2, if_pos s15_3] at hK; exact hK
    conv => whnf
    refine ⟨fun (s15_4 : _ = nI 4) => ?_, fun (s15_4 : ¬ _ = nI 4) => ?_⟩
    · conv => whnf
      refine b_X3_jumpBy [] ?_
      conv => whnf
      rw [fJump, if_pos c1] at hK; rw [if_neg s15_1, if_neg s15_2, if_neg s15_3, if_pos s15_4] at hK; exact hK
    conv => whnf
    refine ⟨fun (s15_5 : _ = nI 5) => ?_, fun (s15_5 : ¬ _ = nI 5) => ?_⟩
    · conv => whnf
      refine b_X3_jumpBy [] ?_
      conv => whnf
      rw [fJump, if_pos c1] at hK; rw [if_neg s15_1, if_neg s15_2, if_neg s15_3, if_neg s15_4, if_pos s15_5] at hK; exact hK
    conv => whnf
    refine b_X3_jumpBy [] ?_
    conv => whnf
    rw [fJump, if_pos c1] at hK; rw [if_neg s15_1, if_neg s15_2, if_neg s15_3, if_neg s15_4, if_neg s15_5] at hK; exact hK
  · conv => whnf
    rw [fJump, if_neg c1] at hK; exact hK
theorem s_isBroken {h : AH} {a : Nat} {t br cu dy x : Int32} {fs : List Value} (hh : nth h a = some (.inr (.inr (9, .int t :: .int br :: .int cu :: .int dy :: fs)))) {K : Option Value → AH → Prop} (hK : K (some (.int (bI (hasB br x)))) h) : am_M i_X10_isBroken [.ref a, .int x] h K := by
  refine e_X10_isBroken [] ?_
  conv => whnf
  refine am_hgn hh ?_
  conv => whnf
  refine ⟨fun c8 => ?_, fun c8 => ?_⟩
  · refine b_X10_isBroken [] ?_
    conv => whnf
    refine ⟨(by first | exact Or.inl nI_0 | exact Or.inr nI_one | assumption), ?_⟩
    rw [hasB_f c8] at hK; exact hK
  · conv => whnf
    refine b_X10_isBroken [] ?_
    conv => whnf
    refine ⟨(by first | exact Or.inl nI_0 | exact Or.inr nI_one | assumption), ?_⟩
    rw [hasB_t c8] at hK; exact hK
def fCut (cu x : Int32) : Bool := !(decide (x < 0)) && hasB cu x
theorem s_isCut {h : AH} {a : Nat} {t br cu dy x : Int32} {fs : List Value} (hh : nth h a = some (.inr (.inr (9, .int t :: .int br :: .int cu :: .int dy :: fs)))) {K : Option Value → AH → Prop} (hK : K (some (.int (bI (fCut cu x)))) h) : am_M i_X10_isCut [.ref a, .int x] h K := by
  refine e_X10_isCut [] ?_
  conv => whnf
  refine ⟨fun c1 => ?_, fun c1 => ?_⟩
  · refine b_X10_isCut [] ?_
    conv => whnf
    refine ⟨(by first | exact Or.inl nI_0 | exact Or.inr nI_one | assumption), ?_⟩
    simp only [fCut, c1, decide_true, Bool.not_true, Bool.false_and] at hK; exact hK
  · conv => whnf
    refine am_hgn hh ?_
    conv => whnf
    refine ⟨fun c12 => ?_, fun c12 => ?_⟩
    · refine b_X10_isCut [] ?_
      conv => whnf
      refine ⟨(by first | exact Or.inl nI_0 | exact Or.inr nI_one | assumption), ?_⟩
      simp only [fCut, c1, hasB_f c12, decide_false, Bool.not_false, Bool.true_and] at hK; exact hK
    · conv => whnf
      refine b_X10_isCut [] ?_
      conv => whnf
      refine ⟨(by first | exact Or.inl nI_0 | exact Or.inr nI_one | assumption), ?_⟩
      simp only [fCut, c1, hasB_t c12, decide_false, Bool.not_false, Bool.true_and] at hK; exact hK
def fNoTh (t x : Int32) : Int32 := if x < 0 then Int32.ofInt (-1) else if x < t then nI 0 else Int32.ofInt (-1)
theorem s_noThing {h : AH} {a : Nat} {t br cu dy x : Int32} {fs : List Value} (hh : nth h a = some (.inr (.inr (9, .int t :: .int br :: .int cu :: .int dy :: fs)))) {K : Option Value → AH → Prop} (hK : K (some (.int (fNoTh t x))) h) : am_M i_X10_noThing [.ref a, .int x] h K := by
  refine e_X10_noThing [] ?_
  conv => whnf
  refine ⟨fun c1 => ?_, fun c1 => ?_⟩
  · refine b_X10_noThing [] ?_
    conv => whnf
    refine b_X10_noThing [] ?_
    conv => whnf
    simp only [fNoTh, c1, ↓reduceIte] at hK; exact hK
  · conv => whnf
    refine am_hgn hh ?_
    conv => whnf
    refine ⟨fun c9 => ?_, fun c9 => ?_⟩
    · refine b_X10_noThing [] ?_
      conv => whnf
      simp only [fNoTh, c1, c9, ↓reduceIte] at hK; exact hK
    · conv => whnf
      refine b_X10_noThing [] ?_
      conv => whnf
      simp only [fNoTh, c1, c9, ↓reduceIte] at hK; exact hK
theorem s_noLink {h : AH} {a : Nat} {t br cu dy x : Int32} {fs : List Value} (hh : nth h a = some (.inr (.inr (9, .int t :: .int br :: .int cu :: .int dy :: fs)))) {K : Option Value → AH → Prop} (hK : K (some (.int (fNoTh (t - nI 1) x))) h) : am_M i_X10_noLink [.ref a, .int x] h K := by
  refine e_X10_noLink [] ?_
  conv => whnf
  refine ⟨fun c1 => ?_, fun c1 => ?_⟩
  · refine b_X10_noLink [] ?_
    conv => whnf
    refine b_X10_noLink [] ?_
    conv => whnf
    simp only [fNoTh, c1, ↓reduceIte] at hK; exact hK
  · conv => whnf
    refine am_hgn hh ?_
    conv => whnf
    refine ⟨fun c11 => ?_, fun c11 => ?_⟩
    · refine b_X10_noLink [] ?_
      conv => whnf
      simp only [fNoTh, c1, c11, ↓reduceIte] at hK; exact hK
    · conv => whnf
      refine b_X10_noLink [] ?_
      conv => whnf
      simp only [fNoTh, c1, c11, ↓reduceIte] at hK; exact hK
def ushr (x : Int32) (k : Nat) : Int32 := (x.toUInt32 >>> ((nI k).toUInt32 &&& Int32.toUInt32 31)).toInt32
def fBc1 (x : Int32) : Int32 := x - (ushr x 1 &&& nI 1431655765)
def fBc2 (x : Int32) : Int32 := (x &&& nI 858993459) + (ushr x 2 &&& nI 858993459)
def fBc3 (x : Int32) : Int32 := x + ushr x 4 &&& nI 252645135
def fBc4 (x : Int32) : Int32 := x + ushr x 8
def fBc5 (x : Int32) : Int32 := x + ushr x 16
def fBc (x : Int32) : Int32 := fBc5 (fBc4 (fBc3 (fBc2 (fBc1 x)))) &&& nI 63
theorem s_bc {x : Int32} {h : AH} {K : Option Value → AH → Prop} (hK : K (some (.int (fBc x))) h) : am_M i_J6_bitCount_0f7a4 [.int x] h K := by
  refine e_J6_bitCount_0f7a4 [] ?_
  conv => whnf
  exact hK
def ushrL (x : Int64) (k : Nat) : Int64 := (x.toUInt64 >>> ((nI k).toInt64.toUInt64 &&& Int64.toUInt64 63)).toInt64
def fBl1 (x : Int64) : Int64 := x - (ushrL x 1 &&& Int64.ofNat 6148914691236517205)
def fBl2 (x : Int64) : Int64 := (x &&& Int64.ofNat 3689348814741910323) + (ushrL x 2 &&& Int64.ofNat 3689348814741910323)
def fBl3 (x : Int64) : Int64 := x + ushrL x 4 &&& Int64.ofNat 1085102592571150095
def fBl4 (x : Int64) : Int64 := x + ushrL x 8
def fBl5 (x : Int64) : Int64 := x + ushrL x 16
def fBl6 (x : Int64) : Int64 := x + ushrL x 32
def fBl (x : Int64) : Int32 := (fBl6 (fBl5 (fBl4 (fBl3 (fBl2 (fBl1 x)))))).toInt32 &&& nI 127
theorem s_bcL {x : Int64} {h : AH} {K : Option Value → AH → Prop} (hK : K (some (.int (fBl x))) h) : am_M i_J13_bitCount_95d88 [.long x] h K := by
  refine e_J13_bitCount_95d88 [] ?_
  conv => whnf
  exact hK
end
section
/-! SPECS: a wave along a wire -/
abbrev WS : Type := (Nat → Int32) × (Nat → Nat → Int32)
def wO (b : Nat) (w : WS) : AC := .inr (.inr (9, [.int (w.1 0), .int (w.1 1), .int (w.1 2), .int (w.1 3), .ref (b + 1), .ref (b + 2), .ref (b + 3), .ref (b + 4), .ref (b + 5)]))
def wC (b : Nat) (w : WS) : AH := [wO b w, .inl (8, w.2 0), .inl (8, w.2 1), .inl (8, w.2 2), .inl (8, w.2 3), .inl (8, w.2 4)]
abbrev S3 : Type := (Nat → Int32) × Int32 × Int32
def uC (b : Nat) (s : S3) : AH := [.inr (.inr (8, [.ref (b + 1), .int s.2.1, .int s.2.2])), .inl (8, s.1)]
/-- a wire in order: n things, their order A, their places P -/
def wOk (w : WS) (n : Nat) (A P : Nat → Nat) : Prop := w.1 0 = nI n ∧ n ≤ 8 ∧ (∀ j, j < n → w.2 3 j = nI (A j) ∧ A j < n ∧ P (A j) = j) ∧ ∀ t, t < n → w.2 4 t = nI (P t) ∧ P t < n ∧ A (P t) = t
theorem bI_n0 {b : Bool} : ¬ bI b = 0 ↔ b = true := by cases b <;> decide
def land1 (t r : Int32) (s : S3) : S3 := (upd s.1 t.toNatClampNeg r, s.2.1 ||| (nI 1 <<< (t &&& 31)), s.2.2)
def vic1 (t : Int32) (s : S3) : S3 := (s.1, s.2.1, s.2.2 ||| (nI 1 <<< (t &&& 31)))
def upF (w : WS) : Nat → Nat → Int32 → S3 → S3
  | 0, _, _, s => s
  | k + 1, j, r, s => if r ≤ 0 then s else if hasB (w.1 1) (w.2 3 j) = true then s else
    if r < fStands (w.2 0 (w.2 3 j).toNatClampNeg) (w.2 1 (w.2 3 j).toNatClampNeg) then
      (if fCut (w.1 2) (nI j) = true then land1 (w.2 3 j) r s else upF w k (j + 1) (r - fLoss (w.2 0 (w.2 3 j).toNatClampNeg) (w.2 1 (w.2 3 j).toNatClampNeg)) (land1 (w.2 3 j) r s))
    else vic1 (w.2 3 j) (land1 (w.2 3 j) r s)
def dnF (w : WS) : Nat → Int32 → S3 → S3
  | 0, _, s => s
  | j + 1, r, s => if r ≤ 0 then s else if hasB (w.1 1) (w.2 3 j) = true then s else
    if r < fStands (w.2 0 (w.2 3 j).toNatClampNeg) (w.2 1 (w.2 3 j).toNatClampNeg) then
      (if fCut (w.1 2) (nI j + Int32.ofInt (-1)) = true then land1 (w.2 3 j) r s else dnF w j (r - fLoss (w.2 0 (w.2 3 j).toNatClampNeg) (w.2 1 (w.2 3 j).toNatClampNeg)) (land1 (w.2 3 j) r s))
    else vic1 (w.2 3 j) (land1 (w.2 3 j) r s)
theorem nI_m1 (j : Nat) : nI (j + 1) + Int32.ofInt (-1) = nI j := pk_m1 j
theorem nI_dn (j : Nat) (h : j < 8) : (if nI j + Int32.ofInt (-1) < nI j then nI j + Int32.ofInt (-1) else nI j) = nI j + Int32.ofInt (-1) := by
  have : ∀ j, j < 8 → nI j + Int32.ofInt (-1) < nI j := by decide +kernel
  rw [if_pos (this j h)]
theorem nI_up (j : Nat) (h : j < 8) : (if nI j + nI 1 < nI j then nI j + nI 1 else nI j) = nI j := by
  have : ∀ j, j < 8 → ¬ nI j + nI 1 < nI j := by decide +kernel
  rw [if_neg (this j h)]
theorem l_spread_up {w : WS} {n : Nat} {sv bv : Int32} {K : Option Value → AH → Prop} (hn : w.1 0 = nI n) (hn8 : n ≤ 8) (hat : ∀ j, j < n → vp_in (w.2 3 j) 8) : ∀ (k j : Nat) (r : Int32) (s : S3) (x7 x8 x9 : Option Value), j + k = n → K none (uC 0 (upF w k j r s) ++ wC 2 w) → am_E i_X9_spread 7 [some (.ref 0), some (.ref 2), some (.int sv), some (.int (nI 1)), some (.int bv), some (.int r), some (.int (nI j)), x7, x8, x9] [] (uC 0 s ++ wC 2 w) K := by
  intro k
  induction k with
  | zero =>
    intro j r s x7 x8 x9 hjk hK
    refine b_X9_spread [7] ?_
    conv => whnf
    refine ⟨fun c9 => absurd c9 (nI_pos (by omega)), fun c9 => ?_⟩
    conv => whnf
    refine ⟨fun c18 => ?_, fun c18 => absurd (by rw [hn]; exact nI_le (by omega) (by omega)) c18⟩
    refine b_X9_spread [7] ?_
    conv => whnf
    exact hK
  | succ k ih =>
    intro j r s x7 x8 x9 hjk hK
    have hj : j < n := by omega
    have e : (nI j).toNatClampNeg = j := nI_clamp (by omega)
    refine b_X9_spread [7] ?_
    conv => whnf
    refine ⟨fun c9 => absurd c9 (nI_pos (by omega)), fun c9 => ?_⟩
    conv => whnf
    refine ⟨fun c18 => absurd c18 (by rw [hn]; exact nI_ge (by omega) (by omega)), fun c18 => ?_⟩
    conv => whnf
    refine ⟨(vp_in_nI (by omega) (by decide)), ?_⟩
    conv => whnf
    rw [e]
    refine ⟨fun c32 => ?_, fun c32 => ?_⟩
    · refine b_X9_spread [7] ?_
      conv => whnf
      rw [upF, if_pos c32] at hK; exact hK
    · conv => whnf
      refine s_isBroken rfl ?_
      refine b_X9_spread [7] ?_
      conv => whnf
      refine ⟨fun c41 => ?_, fun c41 => ?_⟩
      · refine b_X9_spread [7] ?_
        conv => whnf
        refine ⟨(hat j hj), ?_⟩
        conv => whnf
        refine ⟨(hat j hj), ?_⟩
        conv => whnf
        refine ⟨(hat j hj), ?_⟩
        conv => whnf
        refine s_standsOf ?_
        refine b_X9_spread [7] ?_
        conv => whnf
        refine ⟨fun c94 => ?_, fun c94 => ?_⟩
        · refine b_X9_spread [7] ?_
          conv => whnf
          rw [nI_up j (by omega)]
          refine s_isCut rfl ?_
          refine b_X9_spread [7] ?_
          conv => whnf
          refine ⟨fun c124 => ?_, fun c124 => ?_⟩
          · refine b_X9_spread [7] ?_
            conv => whnf
            refine s_lossOf ?_
            refine b_X9_spread [7] ?_
            conv => whnf
            rw [show nI j + nI 1 = nI (j + 1) from nI_add j 1]
            refine ih (j + 1) _ (land1 (w.2 3 j) r s) _ _ _ (by omega) ?_
            rw [upF, if_neg c32, if_neg (by rw [bI_0.mp c41]; decide), if_pos c94, if_neg (by rw [bI_0.mp c124]; decide)] at hK; exact hK
          · conv => whnf
            rw [upF, if_neg c32, if_neg (by rw [bI_0.mp c41]; decide), if_pos c94, if_pos (bI_n0.mp c124)] at hK; exact hK
        · conv => whnf
          rw [upF, if_neg c32, if_neg (by rw [bI_0.mp c41]; decide), if_neg c94] at hK; exact hK
      · conv => whnf
        rw [upF, if_neg c32, if_pos (bI_n0.mp c41)] at hK; exact hK
theorem l_spread_dn {w : WS} {n : Nat} {sv bv : Int32} {K : Option Value → AH → Prop} (hn : w.1 0 = nI n) (hn8 : n ≤ 8) (hat : ∀ j, j < n → vp_in (w.2 3 j) 8) : ∀ (j : Nat) (r : Int32) (s : S3) (x7 x8 x9 : Option Value), j ≤ n → K none (uC 0 (dnF w j r s) ++ wC 2 w) → am_E i_X9_spread 7 [some (.ref 0), some (.ref 2), some (.int sv), some (.int (Int32.ofInt (-1))), some (.int bv), some (.int r), some (.int (nI j + Int32.ofInt (-1))), x7, x8, x9] [] (uC 0 s ++ wC 2 w) K := by
  intro j
  induction j with
  | zero =>
    intro r s x7 x8 x9 hjk hK
    refine b_X9_spread [7] ?_
    conv => whnf
    refine ⟨fun c9 => ?_, fun c9 => absurd (by decide) c9⟩
    refine b_X9_spread [7] ?_
    conv => whnf
    exact hK
  | succ j ih =>
    intro r s x7 x8 x9 hjk hK
    have hj : j < n := by omega
    have e : (nI j).toNatClampNeg = j := nI_clamp (by omega)
    rw [nI_m1]
    refine b_X9_spread [7] ?_
    conv => whnf
    refine ⟨fun c9 => absurd c9 (nI_pos (by omega)), fun c9 => ?_⟩
    conv => whnf
    refine ⟨fun c18 => absurd c18 (by rw [hn]; exact nI_ge (by omega) (by omega)), fun c18 => ?_⟩
    conv => whnf
    refine ⟨(vp_in_nI (by omega) (by decide)), ?_⟩
    conv => whnf
    rw [e]
    refine ⟨fun c32 => ?_, fun c32 => ?_⟩
    · refine b_X9_spread [7] ?_
      conv => whnf
      rw [dnF, if_pos c32] at hK; exact hK
    · conv => whnf
      refine s_isBroken rfl ?_
      refine b_X9_spread [7] ?_
      conv => whnf
      refine ⟨fun c41 => ?_, fun c41 => ?_⟩
      · refine b_X9_spread [7] ?_
        conv => whnf
        refine ⟨(hat j hj), ?_⟩
        conv => whnf
        refine ⟨(hat j hj), ?_⟩
        conv => whnf
        refine ⟨(hat j hj), ?_⟩
        conv => whnf
        refine s_standsOf ?_
        refine b_X9_spread [7] ?_
        conv => whnf
        refine ⟨fun c94 => ?_, fun c94 => ?_⟩
        · refine b_X9_spread [7] ?_
          conv => whnf
          rw [nI_dn j (by omega)]
          refine s_isCut rfl ?_
          refine b_X9_spread [7] ?_
          conv => whnf
          refine ⟨fun c124 => ?_, fun c124 => ?_⟩
          · refine b_X9_spread [7] ?_
            conv => whnf
            refine s_lossOf ?_
            refine b_X9_spread [7] ?_
            conv => whnf
            refine ih _ (land1 (w.2 3 j) r s) _ _ _ (by omega) ?_
            rw [dnF, if_neg c32, if_neg (by rw [bI_0.mp c41]; decide), if_pos c94, if_neg (by rw [bI_0.mp c124]; decide)] at hK; exact hK
          · conv => whnf
            rw [dnF, if_neg c32, if_neg (by rw [bI_0.mp c41]; decide), if_pos c94, if_pos (bI_n0.mp c124)] at hK; exact hK
        · conv => whnf
          rw [dnF, if_neg c32, if_neg (by rw [bI_0.mp c41]; decide), if_neg c94] at hK; exact hK
      · conv => whnf
        rw [dnF, if_neg c32, if_pos (bI_n0.mp c41)] at hK; exact hK
theorem s_spread_up {w : WS} {n p : Nat} {v : Int32} {s : S3} {K : Option Value → AH → Prop} (hn : w.1 0 = nI n) (hn8 : n ≤ 8) (hat : ∀ j, j < n → vp_in (w.2 3 j) 8) (hp : p ≤ n) (hK : K none (uC 0 (upF w (n - p) p v s) ++ wC 2 w)) : am_M i_X9_spread [.ref 0, .ref 2, .int (nI p), .int (nI 1), .int v] (uC 0 s ++ wC 2 w) K := by
  refine e_X9_spread [7] ?_
  conv => whnf
  exact l_spread_up hn hn8 hat (n - p) p v s _ _ _ (by omega) hK
theorem s_spread_dn {w : WS} {n p : Nat} {v : Int32} {s : S3} {K : Option Value → AH → Prop} (hn : w.1 0 = nI n) (hn8 : n ≤ 8) (hat : ∀ j, j < n → vp_in (w.2 3 j) 8) (hp : p < n) (hK : K none (uC 0 (dnF w (p + 1) v s) ++ wC 2 w)) : am_M i_X9_spread [.ref 0, .ref 2, .int (nI p), .int (Int32.ofInt (-1)), .int v] (uC 0 s ++ wC 2 w) K := by
  refine e_X9_spread [7] ?_
  conv => whnf
  rw [← nI_m1 p]
  exact l_spread_dn hn hn8 hat (p + 1) v s _ _ _ (by omega) hK
def zpF (i : Nat) (g : Nat → Int32) : Nat → Int32 := fun j => if j < i then nI 0 else g j
theorem zpF_0 (g : Nat → Int32) : zpF 0 g = g := by funext j; simp [zpF]
theorem zpF_s (i : Nat) (g : Nat → Int32) : upd (zpF i g) i (nI 0) = zpF (i + 1) g := by
  funext j
  simp only [upd, zpF]
  by_cases h : j = i
  · subst h; simp
  · by_cases h2 : j < i
    · rw [if_neg h, if_pos h2, if_pos (by omega)]
    · rw [if_neg h, if_neg h2, if_neg (by omega)]
theorem l_strike_zero {w : WS} {tv v hr vi : Int32} {g : Nat → Int32} {K : Option Value → AH → Prop} (hk : am_E i_X9_strike 24 [some (.ref 0), some (.ref 2), some (.int tv), some (.int v), some (.int (nI 8))] [] (uC 0 (zpF 8 g, hr, vi) ++ wC 2 w) K) : ∀ (k i : Nat), i + k = 8 → am_E i_X9_strike 3 [some (.ref 0), some (.ref 2), some (.int tv), some (.int v), some (.int (nI i))] [] (uC 0 (zpF i g, hr, vi) ++ wC 2 w) K := by
  intro k
  induction k with
  | zero =>
    intro i hi
    obtain rfl : i = 8 := by omega
    refine b_X9_strike [3, 24] ?_
    conv => whnf
    refine ⟨fun c7 => ?_, fun c7 => absurd (by decide) c7⟩
    exact hk
  | succ k ih =>
    intro i hi
    have e : (nI i).toNatClampNeg = i := nI_clamp (by omega)
    refine b_X9_strike [3, 24] ?_
    conv => whnf
    refine ⟨fun c7 => absurd c7 (nI_ge (by omega) (by omega)), fun c7 => ?_⟩
    conv => whnf
    refine ⟨(vp_in_nI (by omega) (by decide)), ?_⟩
    conv => whnf
    rw [e]
    have h2 := ih (i + 1) (by omega)
    rw [← zpF_s, ← nI_add i 1] at h2
    exact h2
/-- what a blow does: what each gets, who hears, who breaks -/
def blw (w : WS) (n p : Nat) (v : Int32) : S3 := dnF w (p + 1) v (upF w (n - p) p v (fun _ => nI 0, nI 0, nI 0))
def ag8 (f g : Nat → Int32) : Prop := ∀ i, i < 8 → f i = g i
theorem upF_ag (w : WS) : ∀ (k j : Nat) (r : Int32) (s s2 : S3), ag8 s.1 s2.1 → s.2 = s2.2 → ag8 (upF w k j r s).1 (upF w k j r s2).1 ∧ (upF w k j r s).2 = (upF w k j r s2).2 := by
  intro k
  induction k with
  | zero => intro j r s s2 h h2; exact ⟨h, h2⟩
  | succ k ih =>
    intro j r s s2 h h2
    have hl : ag8 (land1 (w.2 3 j) r s).1 (land1 (w.2 3 j) r s2).1 := by
      intro i hi
      simp only [land1, upd]
      split
      · rfl
      · exact h i hi
    have hl2 : (land1 (w.2 3 j) r s).2 = (land1 (w.2 3 j) r s2).2 := by simp only [land1, h2]
    simp only [upF]
    split
    · exact ⟨h, h2⟩
    · split
      · exact ⟨h, h2⟩
      · split
        · split
          · exact ⟨hl, hl2⟩
          · exact ih _ _ _ _ hl hl2
        · exact ⟨hl, by simp only [vic1, hl2]⟩
theorem dnF_ag (w : WS) : ∀ (j : Nat) (r : Int32) (s s2 : S3), ag8 s.1 s2.1 → s.2 = s2.2 → ag8 (dnF w j r s).1 (dnF w j r s2).1 ∧ (dnF w j r s).2 = (dnF w j r s2).2 := by
  intro k
  induction k with
  | zero => intro r s s2 h h2; exact ⟨h, h2⟩
  | succ j ih =>
    intro r s s2 h h2
    have hl : ag8 (land1 (w.2 3 j) r s).1 (land1 (w.2 3 j) r s2).1 := by
      intro i hi
      simp only [land1, upd]
      split
      · rfl
      · exact h i hi
    have hl2 : (land1 (w.2 3 j) r s).2 = (land1 (w.2 3 j) r s2).2 := by simp only [land1, h2]
    simp only [dnF]
    split
    · exact ⟨h, h2⟩
    · split
      · exact ⟨h, h2⟩
      · split
        · split
          · exact ⟨hl, hl2⟩
          · exact ih _ _ _ hl hl2
        · exact ⟨hl, by simp only [vic1, hl2]⟩
theorem wOk.at8 {w : WS} {n : Nat} {A P : Nat → Nat} (h : wOk w n A P) : ∀ j, j < n → vp_in (w.2 3 j) 8 := fun j hj => by
  obtain ⟨h1, h2, -⟩ := h.2.2.1 j hj
  have := h.2.1
  rw [h1]
  exact vp_in_nI (by omega) (by decide)
theorem s_strike {w : WS} {n t : Nat} {A P : Nat → Nat} {v : Int32} {s : S3} {K : Option Value → AH → Prop} (hw : wOk w n A P) (ht : t < n) (hK : ∀ g, ag8 g (blw w n (P t) v).1 → K none (uC 0 (g, (blw w n (P t) v).2) ++ wC 2 w)) : am_M i_X9_strike [.ref 0, .ref 2, .int (nI t), .int v] (uC 0 s ++ wC 2 w) K := by
  obtain ⟨hp, hpn, hap⟩ := hw.2.2.2 t ht
  have hn8 := hw.2.1
  have e : (nI t).toNatClampNeg = t := nI_clamp (by omega)
  have g0 : s = (zpF 0 s.1, s.2.1, s.2.2) := by rw [zpF_0]
  rw [g0]
  refine e_X9_strike [3, 24] ?_
  conv => whnf
  refine l_strike_zero ?_ 8 0 rfl
  refine b_X9_strike [3] ?_
  conv => whnf
  refine ⟨(vp_in_nI (by omega) (by decide)), ?_⟩
  conv => whnf
  rw [e, hp]
  refine s_spread_up (s := (zpF 8 s.1, nI 0, nI 0)) hw.1 hn8 hw.at8 (Nat.le_of_lt hpn) ?_
  refine b_X9_strike [3] ?_
  conv => whnf
  refine ⟨(vp_in_nI (by omega) (by decide)), ?_⟩
  conv => whnf
  rw [e, hp]
  refine s_spread_dn (s := upF w (n - P t) (P t) v (zpF 8 s.1, nI 0, nI 0)) hw.1 hn8 hw.at8 hpn ?_
  refine b_X9_strike [3] ?_
  conv => whnf
  have h1 := upF_ag w (n - P t) (P t) v (zpF 8 s.1, nI 0, nI 0) (fun _ => nI 0, nI 0, nI 0) (fun i hi => by simp only [zpF]; rw [if_pos hi]) rfl
  have h2 := dnF_ag w (P t + 1) v _ _ h1.1 h1.2
  have h3 := hK _ h2.1
  unfold blw at h3
  rw [← h2.2] at h3
  exact h3
end
section
/-! bits of a set, as the class and as the model ask for them -/
theorem bm_tp : ∀ t, t < 32 → (nI 1 <<< (nI t &&& 31)).toBitVec = BitVec.twoPow 32 t := by decide +kernel
theorem sh_tp : ∀ t, t < 32 → ((nI t &&& 31).toBitVec.smod 32) = BitVec.ofNat 32 t := by decide +kernel
theorem hasB_bit (s : Int32) (t : Nat) (h : t < 32) : hasB s (nI t) = s.toBitVec.getLsbD t := by
  unfold hasB bmask
  have h1 : (s &&& (nI 1 <<< (nI t &&& 31)) = 0) ↔ (s.toBitVec &&& BitVec.twoPow 32 t) = 0#32 := by
    rw [← Int32.toBitVec_inj, Int32.toBitVec_and, bm_tp t h]
    rfl
  rw [BitVec.and_twoPow] at h1
  cases hb : s.toBitVec.getLsbD t
  · rw [hb] at h1
    simp only [Bool.false_eq_true, ↓reduceIte] at h1
    simp [h1]
  · rw [hb] at h1
    simp only [↓reduceIte] at h1
    have : ¬ BitVec.twoPow 32 t = 0#32 := by
      intro z
      have := congrArg (fun v => BitVec.getLsbD v t) z
      simp [BitVec.getLsbD_twoPow, h] at this
    simp [h1, this]
def hasM (s x : Int32) : Bool := decide ((s >>> (x &&& 31)) &&& nI 1 = nI 1)
theorem hasM_bit (s : Int32) (t : Nat) (h : t < 32) : hasM s (nI t) = s.toBitVec.getLsbD t := by
  unfold hasM
  have h1 : ((s >>> (nI t &&& 31)) &&& nI 1 = nI 1) ↔ ((s.toBitVec.sshiftRight t) &&& BitVec.twoPow 32 0) = BitVec.twoPow 32 0 := by
    rw [← Int32.toBitVec_inj, Int32.toBitVec_and, Int32.toBitVec_shiftRight, sh_tp t h]
    have e1 : (nI 1).toBitVec = BitVec.twoPow 32 0 := by decide
    have e2 : s.toBitVec.sshiftRight' (BitVec.ofNat 32 t) = s.toBitVec.sshiftRight t := by
      rw [BitVec.sshiftRight_eq', BitVec.toNat_ofNat, Nat.mod_eq_of_lt (by omega)]
    rw [e1, e2]
  rw [BitVec.and_twoPow, BitVec.getLsbD_sshiftRight] at h1
  simp only [Nat.add_zero, h, ↓reduceIte, show ¬ (32 ≤ 0) by decide, decide_false, Bool.not_false, Bool.true_and] at h1
  cases hb : s.toBitVec.getLsbD t
  · rw [hb] at h1
    simp only [Bool.false_eq_true, ↓reduceIte] at h1
    have : ¬ 0#32 = BitVec.twoPow 32 0 := by decide
    simp [h1, this]
  · rw [hb] at h1
    simp only [↓reduceIte, iff_true] at h1
    simp [h1]
theorem hasM_B (s : Int32) (t : Nat) (h : t < 32) : hasM s (nI t) = hasB s (nI t) := by rw [hasM_bit s t h, hasB_bit s t h]
/-! SPECS of the model: its leaves. The scratch (got, breaking) apart: g, b -/
abbrev MS : Type := (Nat → Int32) × (Nat → Nat → Int32)
def mO (m : MS) (b : Int32) : AC := .inr (.inr (11, [.ref 1, .ref 2, .ref 3, .ref 4, .ref 5, .int (m.1 5), .int (m.1 6), .int (m.1 7), .int (m.1 8), .ref 6, .ref 7, .ref 8, .ref 9, .int (m.1 13), .int (m.1 14), .int (m.1 15), .ref 10, .int (m.1 17), .int (m.1 18), .int (m.1 19), .int (m.1 20), .ref 11, .int b, .ref 12, .int (m.1 24), .ref 13, .ref 14, .int (m.1 27)]))
def mC (m : MS) (g : Nat → Int32) (b : Int32) : AH := [mO m b, .inl (7, m.2 0), .inl (8, m.2 1), .inl (8, m.2 2), .inl (8, m.2 3), .inl (8, m.2 4), .inl (96, m.2 5), .inl (48, m.2 6), .inl (48, m.2 7), .inl (144, m.2 8), .inl (440, m.2 9), .inl (8, g), .inl (12, m.2 11), .inl (8, m.2 12), .inl (2048, m.2 13)]
/-- the wire that the model holds -/
def mW (m : MS) : WS := (fun i => m.1 (i + 5), fun i => m.2 (i + 1))
def setI (m : MS) (i : Nat) (x : Int32) : MS := (va_up m.1 i x, m.2)
def setA (m : MS) (i : Nat) (f : Nat → Int32) : MS := (m.1, va_up m.2 i f)
/-- a model in order: n things, their order A, their places P -/
def mOk (m : MS) (n : Nat) (A P : Nat → Nat) : Prop := m.1 5 = nI n ∧ n ≤ 8 ∧ (∀ j, j < n → m.2 4 j = nI (A j) ∧ A j < n ∧ P (A j) = j) ∧ ∀ t, t < n → P t < n ∧ A (P t) = t
def fIn (v a b : Int32) : Bool := !(decide (v < a)) && !(decide (b < v))
theorem m_isIn {v a b : Int32} {h : AH} {K : Option Value → AH → Prop} (hK : K (some (.int (bI (fIn v a b)))) h) : am_M i_X12_isIn [.int v, .int a, .int b] h K := by
  refine e_X12_isIn [] ?_
  conv => whnf
  refine ⟨fun c2 => ?_, fun c2 => ?_⟩
  · refine b_X12_isIn [] ?_
    conv => whnf
    refine ⟨(by first | exact Or.inl nI_0 | exact Or.inr nI_one | assumption), ?_⟩
    simp only [fIn, c2, decide_true, Bool.not_true, Bool.false_and] at hK; exact hK
  · conv => whnf
    refine ⟨fun c7 => ?_, fun c7 => ?_⟩
    · refine b_X12_isIn [] ?_
      conv => whnf
      refine ⟨(by first | exact Or.inl nI_0 | exact Or.inr nI_one | assumption), ?_⟩
      simp only [fIn, c2, c7, decide_false, decide_true, Bool.not_true, Bool.not_false, Bool.true_and] at hK; exact hK
    · conv => whnf
      refine b_X12_isIn [] ?_
      conv => whnf
      refine ⟨(by first | exact Or.inl nI_0 | exact Or.inr nI_one | assumption), ?_⟩
      simp only [fIn, c2, c7, decide_false, Bool.not_false, Bool.true_and] at hK; exact hK
def fBound (v a b : Int32) : Int32 := if a ≤ v then (if v ≤ b then nI 0 else Int32.ofInt (-6)) else Int32.ofInt (-4)
theorem m_bound {v a b : Int32} {h : AH} {K : Option Value → AH → Prop} (hK : K (some (.int (fBound v a b))) h) : am_M i_X12_bound [.int v, .int a, .int b] h K := by
  refine e_X12_bound [] ?_
  conv => whnf
  refine ⟨fun c2 => ?_, fun c2 => ?_⟩
  · refine b_X12_bound [] ?_
    conv => whnf
    refine ⟨fun c12 => ?_, fun c12 => ?_⟩
    · refine b_X12_bound [] ?_
      conv => whnf
      simp only [fBound, c2, c12, ↓reduceIte] at hK; exact hK
    · conv => whnf
      refine b_X12_bound [] ?_
      conv => whnf
      simp only [fBound, c2, c12, ↓reduceIte] at hK; exact hK
  · conv => whnf
    refine b_X12_bound [] ?_
    conv => whnf
    simp only [fBound, c2, ↓reduceIte] at hK; exact hK
theorem m_notBlow {v : Int32} {h : AH} {K : Option Value → AH → Prop} (hK : K (some (.int (fBound v (nI 1) (nI 60)))) h) : am_M i_X12_notBlow [.int v] h K := by
  refine e_X12_notBlow [] ?_
  conv => whnf
  refine m_bound ?_
  refine b_X12_notBlow [] ?_
  conv => whnf
  exact hK
theorem m_has {s x : Int32} {h : AH} {K : Option Value → AH → Prop} (hK : K (some (.int (bI (hasM s x)))) h) : am_M i_X12_has [.int s, .int x] h K := by
  refine e_X12_has [] ?_
  conv => whnf
  refine ⟨fun c6 => ?_, fun c6 => ?_⟩
  · conv => whnf
    refine b_X12_has [] ?_
    conv => whnf
    refine ⟨(by first | exact Or.inl nI_0 | exact Or.inr nI_one | assumption), ?_⟩
    simp only [hasM, c6, decide_true] at hK; exact hK
  · refine b_X12_has [] ?_
    conv => whnf
    refine ⟨(by first | exact Or.inl nI_0 | exact Or.inr nI_one | assumption), ?_⟩
    simp only [hasM, c6, decide_false] at hK; exact hK
def fBitsL (x : Int32) : Nat → Nat → Int32 → Int32
  | 0, _, a => a
  | k + 1, i, a => fBitsL x k (i + 1) (a + ((x >>> (nI i &&& 31)) &&& nI 1))
def fBits (x : Int32) : Int32 := fBitsL x 31 0 (nI 0)
theorem l_bits {x : Int32} {h : AH} {K : Option Value → AH → Prop} : ∀ (k i : Nat) (a : Int32), i + k = 31 → K (some (.int (fBitsL x k i a))) h → am_E i_X12_bits 4 [some (.int x), some (.int a), some (.int (nI i))] [] h K := by
  intro k
  induction k with
  | zero =>
    intro i a hi hK
    obtain rfl : i = 31 := by omega
    refine b_X12_bits [4] ?_
    conv => whnf
    refine ⟨fun c7 => ?_, fun c7 => absurd (by decide) c7⟩
    refine b_X12_bits [4] ?_
    conv => whnf
    exact hK
  | succ k ih =>
    intro i a hi hK
    refine b_X12_bits [4] ?_
    conv => whnf
    refine ⟨fun c7 => absurd c7 (nI_ge (by omega) (by omega)), fun c7 => ?_⟩
    conv => whnf
    have h2 := ih (i + 1) _ (by omega) hK
    rw [← nI_add i 1] at h2
    exact h2
theorem m_bits {x : Int32} {h : AH} {K : Option Value → AH → Prop} (hK : K (some (.int (fBits x))) h) : am_M i_X12_bits [.int x] h K := by
  refine e_X12_bits [4] ?_
  conv => whnf
  exact l_bits 31 0 (nI 0) rfl hK
def fFar (a b : Int32) : Int32 := if a ≤ b then b - a else a - b
theorem m_far {a b : Int32} {h : AH} {K : Option Value → AH → Prop} (hK : K (some (.int (fFar a b))) h) : am_M i_X12_far [.int a, .int b] h K := by
  refine e_X12_far [] ?_
  conv => whnf
  refine ⟨fun c2 => ?_, fun c2 => ?_⟩
  · refine b_X12_far [] ?_
    conv => whnf
    simp only [fFar, c2, ↓reduceIte] at hK; exact hK
  · conv => whnf
    refine b_X12_far [] ?_
    conv => whnf
    simp only [fFar, c2, ↓reduceIte] at hK; exact hK
def fIsTh (t x : Int32) : Bool := !(decide (x < 0)) && !(decide (t ≤ x))
theorem m_isThing {m : MS} {g : Nat → Int32} {b : Int32} {x : Int32} {K : Option Value → AH → Prop} (hK : K (some (.int (bI (fIsTh (m.1 5) x)))) (mC m g b)) : am_M i_X12_isThing [.ref 0, .int x] (mC m g b) K := by
  refine e_X12_isThing [] ?_
  conv => whnf
  refine ⟨fun c1 => ?_, fun c1 => ?_⟩
  · refine b_X12_isThing [] ?_
    conv => whnf
    refine ⟨(by first | exact Or.inl nI_0 | exact Or.inr nI_one | assumption), ?_⟩
    simp only [fIsTh, c1, decide_true, Bool.not_true, Bool.false_and] at hK; exact hK
  · conv => whnf
    refine ⟨fun c9 => ?_, fun c9 => ?_⟩
    · refine b_X12_isThing [] ?_
      conv => whnf
      refine ⟨(by first | exact Or.inl nI_0 | exact Or.inr nI_one | assumption), ?_⟩
      simp only [fIsTh, c1, c9, decide_true, decide_false, Bool.not_true, Bool.not_false, Bool.true_and] at hK; exact hK
    · conv => whnf
      refine b_X12_isThing [] ?_
      conv => whnf
      refine ⟨(by first | exact Or.inl nI_0 | exact Or.inr nI_one | assumption), ?_⟩
      simp only [fIsTh, c1, c9, decide_false, Bool.not_false, Bool.true_and] at hK; exact hK
theorem m_isLink {m : MS} {g : Nat → Int32} {b : Int32} {x : Int32} {K : Option Value → AH → Prop} (hK : K (some (.int (bI (fIsTh (m.1 5 - nI 1) x)))) (mC m g b)) : am_M i_X12_isLink [.ref 0, .int x] (mC m g b) K := by
  refine e_X12_isLink [] ?_
  conv => whnf
  refine ⟨fun c1 => ?_, fun c1 => ?_⟩
  · refine b_X12_isLink [] ?_
    conv => whnf
    refine ⟨(by first | exact Or.inl nI_0 | exact Or.inr nI_one | assumption), ?_⟩
    simp only [fIsTh, c1, decide_true, Bool.not_true, Bool.false_and] at hK; exact hK
  · conv => whnf
    refine ⟨fun c11 => ?_, fun c11 => ?_⟩
    · refine b_X12_isLink [] ?_
      conv => whnf
      refine ⟨(by first | exact Or.inl nI_0 | exact Or.inr nI_one | assumption), ?_⟩
      simp only [fIsTh, c1, c11, decide_true, decide_false, Bool.not_true, Bool.not_false, Bool.true_and] at hK; exact hK
    · conv => whnf
      refine b_X12_isLink [] ?_
      conv => whnf
      refine ⟨(by first | exact Or.inl nI_0 | exact Or.inr nI_one | assumption), ?_⟩
      simp only [fIsTh, c1, c11, decide_false, Bool.not_false, Bool.true_and] at hK; exact hK
def mLoss (m : MS) (t : Nat) : Int32 := fLoss (m.2 1 t) (m.2 2 t)
def fStM (k f : Int32) : Int32 := if k = nI 1 then nI 10 + f - nI 4 else if k = nI 2 then nI 10 + f + nI 5 else if k = nI 3 then (nI 10 + f - nI 4) / nI 2 else if k = nI 4 then nI 99 else if k = nI 5 then nI 6 else nI 10 + f
theorem fStM_eq (k f : Int32) : fStM k f = fStands k f := by
  have h : nI 10 + f - nI 4 - f = nI 6 := by
    apply Int32.toBitVec_inj.mp
    simp only [Int32.toBitVec_sub, Int32.toBitVec_add]
    have e1 : (nI 10).toBitVec = 10#32 := by decide
    have e2 : (nI 4).toBitVec = 4#32 := by decide
    have e3 : (nI 6).toBitVec = 6#32 := by decide
    rw [e1, e2, e3]
    bv_omega
  unfold fStM fStands
  rw [h]
def fJuM (k v : Int32) : Int32 := if v = 0 then nI 0 else if k = nI 1 then v / nI 2 + nI 1 else if k = nI 2 then v / nI 3 else if k = nI 3 then nI 2 * (v / nI 2 + nI 1) else if k = nI 4 then nI 0 else if k = nI 5 then v / nI 2 + nI 1 else v / nI 2
theorem m_lossOf {m : MS} {g : Nat → Int32} {b : Int32} {t : Nat} (ht : t < 8) {K : Option Value → AH → Prop} (hK : K (some (.int (fLoss (m.2 1 t) (m.2 2 t)))) (mC m g b)) : am_M i_X12_lossOf [.ref 0, .int (nI t)] (mC m g b) K := by
  have e : (nI t).toNatClampNeg = t := nI_clamp (by omega)
  refine e_X12_lossOf [] ?_
  conv => whnf
  refine ⟨(vp_in_nI ht (by decide)), ?_⟩
  conv => whnf
  refine ⟨(vp_in_nI ht (by decide)), ?_⟩
  conv => whnf
  rw [e]
  refine ⟨fun (s15_1 : _ = nI 1) => ?_, fun (s15_1 : ¬ _ = nI 1) => ?_⟩
  · conv => whnf
    refine b_X12_lossOf [] ?_
    conv => whnf
    refine ⟨(by decide), ?_⟩
    conv => whnf
    rw [fLoss] at hK; rw [if_pos s15_1] at hK; exact hK
  conv => whnf
  refine ⟨fun (s15_2 : _ = nI 2) => ?_, fun (s15_2 : ¬ _ = nI 2) => ?_⟩
  · conv => whnf
    refine b_X12_lossOf [] ?_
    conv => whnf
    rw [fLoss] at hK; rw [if_neg s15_1, if_pos s15_2] at hK; exact hK
  conv => whnf
  refine ⟨fun (s15_3 : _ = nI 3) => ?_, fun (s15_3 : ¬ _ = nI 3) => ?_⟩
  · conv => whnf
    refine b_X12_lossOf [] ?_
    conv => whnf
    rw [fLoss] at hK; rw [if_neg s15_1, if_neg s15_2, if_pos s15_3] at hK; exact hK
  conv => whnf
  refine ⟨fun (s15_4 : _ = nI 4) => ?_, fun (s15_4 : ¬ _ = nI 4) => ?_⟩
  · conv => whnf
    refine b_X12_lossOf [] ?_
    conv => whnf
    refine ⟨(by decide), ?_⟩
    conv => whnf
    rw [fLoss] at hK; rw [if_neg s15_1, if_neg s15_2, if_neg s15_3, if_pos s15_4] at hK; exact hK
  conv => whnf
  refine ⟨fun (s15_5 : _ = nI 5) => ?_, fun (s15_5 : ¬ _ = nI 5) => ?_⟩
  · conv => whnf
    refine b_X12_lossOf [] ?_
    conv => whnf
    refine ⟨(by decide), ?_⟩
    conv => whnf
    rw [fLoss] at hK; rw [if_neg s15_1, if_neg s15_2, if_neg s15_3, if_neg s15_4, if_pos s15_5] at hK; exact hK
  conv => whnf
  refine b_X12_lossOf [] ?_
  conv => whnf
  rw [fLoss] at hK; rw [if_neg s15_1, if_neg s15_2, if_neg s15_3, if_neg s15_4, if_neg s15_5] at hK; exact hK
theorem m_standsOf {m : MS} {g : Nat → Int32} {b : Int32} {t : Nat} (ht : t < 8) {K : Option Value → AH → Prop} (hK : K (some (.int (fStands (m.2 1 t) (m.2 2 t)))) (mC m g b)) : am_M i_X12_standsOf [.ref 0, .int (nI t)] (mC m g b) K := by
  have e : (nI t).toNatClampNeg = t := nI_clamp (by omega)
  refine e_X12_standsOf [] ?_
  conv => whnf
  refine ⟨(vp_in_nI ht (by decide)), ?_⟩
  conv => whnf
  refine ⟨(vp_in_nI ht (by decide)), ?_⟩
  conv => whnf
  rw [e]
  refine ⟨fun (s16_1 : _ = nI 1) => ?_, fun (s16_1 : ¬ _ = nI 1) => ?_⟩
  · conv => whnf
    refine b_X12_standsOf [] ?_
    conv => whnf
    rw [← fStM_eq, fStM] at hK; rw [if_pos s16_1] at hK; exact hK
  conv => whnf
  refine ⟨fun (s16_2 : _ = nI 2) => ?_, fun (s16_2 : ¬ _ = nI 2) => ?_⟩
  · conv => whnf
    refine b_X12_standsOf [] ?_
    conv => whnf
    rw [← fStM_eq, fStM] at hK; rw [if_neg s16_1, if_pos s16_2] at hK; exact hK
  conv => whnf
  refine ⟨fun (s16_3 : _ = nI 3) => ?_, fun (s16_3 : ¬ _ = nI 3) => ?_⟩
  · conv => whnf
    refine b_X12_standsOf [] ?_
    conv => whnf
    refine ⟨(by decide), ?_⟩
    conv => whnf
    rw [← fStM_eq, fStM] at hK; rw [if_neg s16_1, if_neg s16_2, if_pos s16_3] at hK; exact hK
  conv => whnf
  refine ⟨fun (s16_4 : _ = nI 4) => ?_, fun (s16_4 : ¬ _ = nI 4) => ?_⟩
  · conv => whnf
    refine b_X12_standsOf [] ?_
    conv => whnf
    rw [← fStM_eq, fStM] at hK; rw [if_neg s16_1, if_neg s16_2, if_neg s16_3, if_pos s16_4] at hK; exact hK
  conv => whnf
  refine ⟨fun (s16_5 : _ = nI 5) => ?_, fun (s16_5 : ¬ _ = nI 5) => ?_⟩
  · conv => whnf
    refine b_X12_standsOf [] ?_
    conv => whnf
    rw [← fStM_eq, fStM] at hK; rw [if_neg s16_1, if_neg s16_2, if_neg s16_3, if_neg s16_4, if_pos s16_5] at hK; exact hK
  conv => whnf
  refine b_X12_standsOf [] ?_
  conv => whnf
  rw [← fStM_eq, fStM] at hK; rw [if_neg s16_1, if_neg s16_2, if_neg s16_3, if_neg s16_4, if_neg s16_5] at hK; exact hK
theorem m_jumpOf {m : MS} {g : Nat → Int32} {b : Int32} {t : Nat} {v : Int32} (ht : t < 8) {K : Option Value → AH → Prop} (hK : K (some (.int (fJuM (m.2 1 t) v))) (mC m g b)) : am_M i_X12_jumpOf [.ref 0, .int (nI t), .int v] (mC m g b) K := by
  have e : (nI t).toNatClampNeg = t := nI_clamp (by omega)
  refine e_X12_jumpOf [] ?_
  conv => whnf
  refine ⟨fun c1 => ?_, fun c1 => ?_⟩
  · conv => whnf
    rw [fJuM, if_pos c1] at hK; exact hK
  · refine b_X12_jumpOf [] ?_
    conv => whnf
    refine ⟨(vp_in_nI ht (by decide)), ?_⟩
    conv => whnf
    rw [e]
    refine ⟨fun (s12_1 : _ = nI 1) => ?_, fun (s12_1 : ¬ _ = nI 1) => ?_⟩
    · conv => whnf
      refine b_X12_jumpOf [] ?_
      conv => whnf
      refine ⟨(by decide), ?_⟩
      conv => whnf
      rw [fJuM, if_neg c1] at hK; rw [if_pos s12_1] at hK; exact hK
    conv => whnf
    refine ⟨fun (s12_2 : _ = nI 2) => ?_, fun (s12_2 : ¬ _ = nI 2) => ?_⟩
    · conv => whnf
      refine b_X12_jumpOf [] ?_
      conv => whnf
      refine ⟨(by decide), ?_⟩
      conv => whnf
      rw [fJuM, if_neg c1] at hK; rw [if_neg s12_1, if_pos s12_2] at hK; exact hK
    conv => whnf
    refine ⟨fun (s12_3 : _ = nI 3) => ?_, fun (s12_3 : ¬ _ = nI 3) => ?_⟩
    · conv => whnf
      refine b_X12_jumpOf [] ?_
      conv => whnf
      refine ⟨(by decide), ?_⟩
      conv => whnf
      rw [fJuM, if_neg c1] at hK; rw [if_neg s12_1, if_neg s12_2, if_pos s12_3] at hK; exact hK
    conv => whnf
    refine ⟨fun (s12_4 : _ = nI 4) => ?_, fun (s12_4 : ¬ _ = nI 4) => ?_⟩
    · conv => whnf
      refine b_X12_jumpOf [] ?_
      conv => whnf
      rw [fJuM, if_neg c1] at hK; rw [if_neg s12_1, if_neg s12_2, if_neg s12_3, if_pos s12_4] at hK; exact hK
    conv => whnf
    refine ⟨fun (s12_5 : _ = nI 5) => ?_, fun (s12_5 : ¬ _ = nI 5) => ?_⟩
    · conv => whnf
      refine b_X12_jumpOf [] ?_
      conv => whnf
      refine ⟨(by decide), ?_⟩
      conv => whnf
      rw [fJuM, if_neg c1] at hK; rw [if_neg s12_1, if_neg s12_2, if_neg s12_3, if_neg s12_4, if_pos s12_5] at hK; exact hK
    conv => whnf
    refine b_X12_jumpOf [] ?_
    conv => whnf
    refine ⟨(by decide), ?_⟩
    conv => whnf
    rw [fJuM, if_neg c1] at hK; rw [if_neg s12_1, if_neg s12_2, if_neg s12_3, if_neg s12_4, if_neg s12_5] at hK; exact hK
theorem l_placeOf {m : MS} {g : Nat → Int32} {b : Int32} {n t : Nat} {A P : Nat → Nat} (hm : mOk m n A P) (ht : t < n) {K : Option Value → AH → Prop} (hK : K (some (.int (nI (P t)))) (mC m g b)) : ∀ (k i : Nat), i + k = P t → am_E i_X12_placeOf 2 [some (.ref 0), some (.int (nI t)), some (.int (nI i))] [] (mC m g b) K := by
  obtain ⟨hp, hap⟩ := hm.2.2.2 t ht
  have hn8 := hm.2.1
  intro k
  induction k with
  | zero =>
    intro i hi
    obtain rfl : i = P t := by omega
    have e : (nI (P t)).toNatClampNeg = P t := nI_clamp (by omega)
    obtain ⟨h1, h2, h3⟩ := hm.2.2.1 (P t) hp
    refine b_X12_placeOf [2] ?_
    conv => whnf
    refine ⟨(vp_in_nI (by omega) (by decide)), ?_⟩
    conv => whnf
    rw [e, h1, hap]
    refine ⟨fun c9 => ?_, fun c9 => absurd rfl c9⟩
    refine b_X12_placeOf [2] ?_
    conv => whnf
    exact hK
  | succ k ih =>
    intro i hi
    have e : (nI i).toNatClampNeg = i := nI_clamp (by omega)
    obtain ⟨h1, h2, h3⟩ := hm.2.2.1 i (by omega)
    have hne : ¬ nI (A i) = nI t := by
      intro z
      have z := (nI_eq (by omega) (by omega)).mp z
      rw [z] at h3
      omega
    refine b_X12_placeOf [2] ?_
    conv => whnf
    refine ⟨(vp_in_nI (by omega) (by decide)), ?_⟩
    conv => whnf
    rw [e, h1]
    refine ⟨fun c9 => absurd c9 hne, fun c9 => ?_⟩
    conv => whnf
    have h4 := ih (i + 1) (by omega)
    rw [← nI_add i 1] at h4
    exact h4
theorem m_placeOf {m : MS} {g : Nat → Int32} {b : Int32} {n t : Nat} {A P : Nat → Nat} (hm : mOk m n A P) (ht : t < n) {K : Option Value → AH → Prop} (hK : K (some (.int (nI (P t)))) (mC m g b)) : am_M i_X12_placeOf [.ref 0, .int (nI t)] (mC m g b) K := by
  refine e_X12_placeOf [2] ?_
  conv => whnf
  exact l_placeOf hm ht hK (P t) 0 (by omega)
/-- a landing, and what goes on from it -/
def landF (w : WS) (t v : Int32) (s : S3) : S3 := if v < fStands (w.2 0 t.toNatClampNeg) (w.2 1 t.toNatClampNeg) then land1 t v s else vic1 t (land1 t v s)
def outF (w : WS) (t v : Int32) : Int32 := if v < fStands (w.2 0 t.toNatClampNeg) (w.2 1 t.toNatClampNeg) then v - fLoss (w.2 0 t.toNatClampNeg) (w.2 1 t.toNatClampNeg) else nI 0
theorem m_lands {m : MS} {s : S3} {p a : Nat} {v : Int32} (hp : p < 8) (ha : m.2 4 p = nI a) (ha8 : a < 8) {K : Option Value → AH → Prop} (hK : K (some (.int (outF (mW m) (nI a) v))) (mC m (landF (mW m) (nI a) v s).1 (landF (mW m) (nI a) v s).2.2)) : am_M i_X12_lands [.ref 0, .int (nI p), .int v] (mC m s.1 s.2.2) K := by
  have e : (nI p).toNatClampNeg = p := nI_clamp (by omega)
  have e2 : (nI a).toNatClampNeg = a := nI_clamp (by omega)
  unfold landF outF at hK
  rw [e2] at hK
  refine e_X12_lands [] ?_
  conv => whnf
  refine ⟨(vp_in_nI hp (by decide)), ?_⟩
  conv => whnf
  rw [e, ha]
  refine ⟨(vp_in_nI ha8 (by decide)), ?_⟩
  conv => whnf
  refine m_standsOf (m := m) (g := upd s.1 (nI a).toNatClampNeg v) (b := s.2.2) ha8 ?_
  refine b_X12_lands [] ?_
  conv => whnf
  refine ⟨fun c20 => ?_, fun c20 => ?_⟩
  · refine b_X12_lands [] ?_
    conv => whnf
    refine m_lossOf (m := m) (g := upd s.1 (nI a).toNatClampNeg v) (b := s.2.2) ha8 ?_
    refine b_X12_lands [] ?_
    conv => whnf
    have c21 : v < fStands ((mW m).2 0 a) ((mW m).2 1 a) := c20
    rw [if_pos c21, if_pos c21] at hK; exact hK
  · conv => whnf
    have c21 : ¬ v < fStands ((mW m).2 0 a) ((mW m).2 1 a) := c20
    rw [if_neg c21, if_neg c21] at hK; exact hK
end
section
/-! SPECS of the model: a blow; it is the class's -/
def gaU (w : WS) : Nat → Nat → Int32 → S3 → S3
  | 0, _, _, s => s
  | k + 1, j, v, s => if v ≤ 0 then s else if hasB (w.1 2) (nI j) = true then s else if hasB (w.1 1) (w.2 3 (j + 1)) = true then s else gaU w k (j + 1) (outF w (w.2 3 (j + 1)) v) (landF w (w.2 3 (j + 1)) v s)
def gaD (w : WS) : Nat → Int32 → S3 → S3
  | 0, _, s => s
  | j + 1, v, s => if v ≤ 0 then s else if hasB (w.1 2) (nI j) = true then s else if hasB (w.1 1) (w.2 3 j) = true then s else gaD w j (outF w (w.2 3 j) v) (landF w (w.2 3 j) v s)
theorem fCut_nI (cu : Int32) (j : Nat) (h : j < 2 ^ 31) : fCut cu (nI j) = hasB cu (nI j) := by
  unfold fCut
  rw [decide_eq_false (nI_pos h)]
  simp
theorem gaU_0 (w : WS) (k j : Nat) (v : Int32) (s : S3) (h : v ≤ 0) : gaU w k j v s = s := by
  cases k with
  | zero => rfl
  | succ k => rw [gaU, if_pos h]
theorem gaD_0 (w : WS) (j : Nat) (v : Int32) (s : S3) (h : v ≤ 0) : gaD w j v s = s := by
  cases j with
  | zero => rfl
  | succ k => rw [gaD, if_pos h]
theorem upF_ga (w : WS) : ∀ (k j : Nat) (r : Int32) (s : S3), j + k < 2 ^ 30 → upF w (k + 1) j r s = if r ≤ 0 then s else if hasB (w.1 1) (w.2 3 j) = true then s else gaU w k j (outF w (w.2 3 j) r) (landF w (w.2 3 j) r s) := by
  intro k
  induction k with
  | zero =>
    intro j r s hj
    rw [upF]
    split
    · rfl
    · split
      · rfl
      · unfold landF
        rw [gaU]
        split
        · split <;> rfl
        · rfl
  | succ k ih =>
    intro j r s hj
    rw [upF]
    split
    · rfl
    · split
      · rfl
      · unfold landF outF
        split
        · rw [fCut_nI _ _ (by omega), ih (j + 1) _ _ (by omega)]
          rw [gaU]
          by_cases h1 : r - fLoss (w.2 0 (w.2 3 j).toNatClampNeg) (w.2 1 (w.2 3 j).toNatClampNeg) ≤ 0
          · rw [if_pos h1, if_pos h1]
            split <;> rfl
          · rw [if_neg h1, if_neg h1]
        · rw [gaU_0 _ _ _ _ _ (by decide)]
theorem dnF_ga (w : WS) : ∀ (j : Nat) (r : Int32) (s : S3), j < 2 ^ 30 → dnF w (j + 1) r s = if r ≤ 0 then s else if hasB (w.1 1) (w.2 3 j) = true then s else gaD w j (outF w (w.2 3 j) r) (landF w (w.2 3 j) r s) := by
  intro k
  induction k with
  | zero =>
    intro r s hj
    rw [dnF]
    split
    · rfl
    · split
      · rfl
      · unfold landF
        rw [gaD]
        split
        · split <;> rfl
        · rfl
  | succ k ih =>
    intro r s hj
    rw [dnF]
    split
    · rfl
    · split
      · rfl
      · unfold landF outF
        split
        · rw [nI_m1, fCut_nI _ _ (by omega), ih _ _ (by omega)]
          rw [gaD]
          by_cases h1 : r - fLoss (w.2 0 (w.2 3 (k + 1)).toNatClampNeg) (w.2 1 (w.2 3 (k + 1)).toNatClampNeg) ≤ 0
          · rw [if_pos h1, if_pos h1]
            split <;> rfl
          · rw [if_neg h1, if_neg h1]
        · rw [gaD_0 _ _ _ _ (by decide)]
theorem landF_1 (w : WS) (t v : Int32) (s : S3) : (landF w t v s).1 = upd s.1 t.toNatClampNeg v ∧ (landF w t v s).2.1 = s.2.1 ||| (nI 1 <<< (t &&& 31)) := by
  unfold landF
  split <;> exact ⟨rfl, rfl⟩
theorem gaU_got (w : WS) (i : Nat) : ∀ (k j : Nat) (v : Int32) (s : S3), (∀ d, d < k → (w.2 3 (j + 1 + d)).toNatClampNeg ≠ i) → (gaU w k j v s).1 i = s.1 i := by
  intro k
  induction k with
  | zero => intro j v s _; rfl
  | succ k ih =>
    intro j v s h
    rw [gaU]
    split
    · rfl
    · split
      · rfl
      · split
        · rfl
        · rw [ih (j + 1) _ _ (fun d hd => by have := h (d + 1) (by omega); rwa [show j + 1 + (d + 1) = j + 1 + 1 + d by omega] at this), (landF_1 _ _ _ _).1]
          have := h 0 (by omega)
          simp only [upd]
          rw [if_neg (fun z => this z.symm)]
theorem gaU_hr (w : WS) : ∀ (k j : Nat) (v : Int32) (s : S3), s.2.1 ||| (gaU w k j v s).2.1 = (gaU w k j v s).2.1 := by
  intro k
  induction k with
  | zero => intro j v s; exact Int32.or_self
  | succ k ih =>
    intro j v s
    rw [gaU]
    split
    · exact Int32.or_self
    · split
      · exact Int32.or_self
      · split
        · exact Int32.or_self
        · have h1 := ih (j + 1) (outF w (w.2 3 (j + 1)) v) (landF w (w.2 3 (j + 1)) v s)
          rw [(landF_1 _ _ _ _).2] at h1
          rw [← h1, ← Int32.or_assoc, ← Int32.or_assoc, Int32.or_self]
theorem upd_same {f : Nat → Int32} {i : Nat} {v : Int32} (h : f i = v) : upd f i v = f := by
  funext j
  simp only [upd]
  split
  · rename_i z; rw [z, h]
  · rfl
/-- the class's wave, told as the model tells it -/
theorem blw_ga {w : WS} {n t : Nat} {A P : Nat → Nat} {v : Int32} (hn : n ≤ 8) (hA : ∀ j, j < n → w.2 3 j = nI (A j) ∧ A j < n ∧ P (A j) = j) (ht : P t < n ∧ A (P t) = t) (hv : ¬ v ≤ 0) : blw w n (P t) v = if hasB (w.1 1) (nI t) = true then (fun _ => nI 0, nI 0, nI 0) else gaD w (P t) (outF w (nI t) v) (gaU w (n - 1 - P t) (P t) (outF w (nI t) v) (landF w (nI t) v (fun _ => nI 0, nI 0, nI 0))) := by
  obtain ⟨hp, hap⟩ := ht
  have hpt : w.2 3 (P t) = nI t := by rw [(hA _ hp).1, hap]
  have ht8 : t < 8 := by have := (hA _ hp).2.1; omega
  unfold blw
  rw [show n - P t = (n - 1 - P t) + 1 by omega, upF_ga _ _ _ _ _ (by omega), dnF_ga _ _ _ _ (by omega), if_neg hv, if_neg hv, hpt]
  by_cases hb : hasB (w.1 1) (nI t) = true
  · rw [if_pos hb, if_pos hb, if_pos hb]
  · rw [if_neg hb, if_neg hb, if_neg hb]
    congr 1
    have e : (nI t).toNatClampNeg = t := nI_clamp (by omega)
    unfold landF outF
    rw [e]
    split
    · -- it stands
      generalize hs1 : land1 (nI t) v (fun _ => nI 0, nI 0, nI 0) = s1
      have g1 : s1.1 t = v := by rw [← hs1]; simp [land1, upd, e]
      have g2 : s1.2.1 = nI 0 ||| (nI 1 <<< (nI t &&& 31)) := by rw [← hs1]; rfl
      generalize v - fLoss (w.2 0 t) (w.2 1 t) = v2
      have h1 : (gaU w (n - 1 - P t) (P t) v2 s1).1 t = v := by
        rw [gaU_got w t _ _ _ _ (fun d hd => ?_), g1]
        obtain ⟨a1, a2, a3⟩ := hA (P t + 1 + d) (by omega)
        rw [a1, nI_clamp (by omega)]
        intro z
        rw [z] at a3
        omega
      have h2 := gaU_hr w (n - 1 - P t) (P t) v2 s1
      generalize gaU w (n - 1 - P t) (P t) v2 s1 = s2 at h1 h2 ⊢
      obtain ⟨x1, x2, x3⟩ := s2
      simp only [land1, e] at h1 h2 ⊢
      rw [upd_same h1]
      have h3 : x2 ||| (nI 1 <<< (nI t &&& 31)) = x2 := by
        rw [g2] at h2
        rw [← h2]
        have e0 : ∀ y : Int32, nI 0 ||| y = y := fun y => by rw [nI_0]; exact Int32.zero_or
        rw [e0, Int32.or_comm, ← Int32.or_assoc, Int32.or_self]
      rw [h3]
    · rw [gaU_0 _ _ _ _ _ (by decide)]
      simp only [vic1, land1, e]
      rw [upd_same (by simp [upd]), Int32.or_assoc, Int32.or_self]
theorem nI_p1 (j : Nat) : nI (j + 1) - nI 1 = nI j := by rw [pk_sub (by omega)]; rfl
theorem hasM_n {s : Int32} {t : Nat} (h : t < 32) (c : ¬ bI (hasM s (nI t)) = 0) : hasB s (nI t) = true := by rw [← hasM_B s t h]; exact bI_n0.mp c
theorem hasM_z {s : Int32} {t : Nat} (h : t < 32) (c : bI (hasM s (nI t)) = 0) : ¬ hasB s (nI t) = true := by rw [← hasM_B s t h, bI_0.mp c]; decide
theorem l_along_up {m : MS} {n : Nat} {A P : Nat → Nat} {fv ov : Int32} {K : Option Value → AH → Prop} (hm : mOk m n A P) : ∀ (k j : Nat) (v : Int32) (s : S3) (x6 : Option Value), j + 1 + k = n → K none (mC m (gaU (mW m) k j v s).1 (gaU (mW m) k j v s).2.2) → am_E i_X12_goesAlong 6 [some (.ref 0), some (.int fv), some (.int (nI 1)), some (.int ov), some (.int (nI j)), some (.int v), x6] [] (mC m s.1 s.2.2) K := by
  have hn8 := hm.2.1
  intro k
  induction k with
  | zero =>
    intro j v s x6 hj hK
    refine b_X12_goesAlong [6] ?_
    conv => whnf
    refine ⟨fun c8 => ?_, fun c8 => ?_⟩
    · refine b_X12_goesAlong [6] ?_
      conv => whnf
      exact hK
    · conv => whnf
      refine ⟨fun c12 => absurd c12 (by decide), fun c12 => ?_⟩
      conv => whnf
      refine b_X12_goesAlong [6] ?_
      conv => whnf
      refine ⟨fun c34 => absurd c34 (by rw [nI_add]; exact nI_pos (by omega)), fun c34 => ?_⟩
      conv => whnf
      refine ⟨fun c43 => ?_, fun c43 => absurd (by rw [nI_add, hm.1]; exact nI_le (by omega) (by omega)) c43⟩
      refine b_X12_goesAlong [6] ?_
      conv => whnf
      exact hK
  | succ k ih =>
    intro j v s x6 hj hK
    have e : (nI (j + 1)).toNatClampNeg = j + 1 := nI_clamp (by omega)
    obtain ⟨h1, h2, h3⟩ := hm.2.2.1 (j + 1) (by omega)
    have hq : (mW m).2 3 (j + 1) = nI (A (j + 1)) := h1
    refine b_X12_goesAlong [6] ?_
    conv => whnf
    refine ⟨fun c8 => ?_, fun c8 => ?_⟩
    · refine b_X12_goesAlong [6] ?_
      conv => whnf
      rw [gaU, if_pos c8] at hK; exact hK
    · conv => whnf
      refine ⟨fun c12 => absurd c12 (by decide), fun c12 => ?_⟩
      conv => whnf
      refine b_X12_goesAlong [6] ?_
      conv => whnf
      refine ⟨fun c34 => absurd c34 (by rw [nI_add]; exact nI_pos (by omega)), fun c34 => ?_⟩
      conv => whnf
      refine ⟨fun c43 => absurd c43 (by rw [nI_add, hm.1]; exact nI_ge (by omega) (by omega)), fun c43 => ?_⟩
      conv => whnf
      refine m_has ?_
      refine b_X12_goesAlong [6] ?_
      conv => whnf
      refine ⟨fun c55 => ?_, fun c55 => ?_⟩
      · conv => whnf
        refine ⟨(by rw [nI_add]; exact vp_in_nI (by omega) (by decide)), ?_⟩
        conv => whnf
        rw [nI_add j 1, e, h1]
        refine m_has ?_
        refine b_X12_goesAlong [6] ?_
        conv => whnf
        refine ⟨fun c72 => ?_, fun c72 => ?_⟩
        · refine b_X12_goesAlong [6] ?_
          conv => whnf
          refine m_lands (s := s) (p := j + 1) (a := A (j + 1)) (by omega) h1 (by omega) ?_
          refine b_X12_goesAlong [6] ?_
          conv => whnf
          rw [gaU, if_neg c8, if_neg (show ¬ hasB ((mW m).1 2) (nI j) = true from hasM_z (by omega) c55)] at hK
          rw [hq, if_neg (show ¬ hasB ((mW m).1 1) (nI (A (j + 1))) = true from hasM_z (by omega) c72)] at hK
          exact ih (j + 1) _ (landF (mW m) (nI (A (j + 1))) v s) _ (by omega) hK
        · conv => whnf
          rw [gaU, if_neg c8, if_neg (show ¬ hasB ((mW m).1 2) (nI j) = true from hasM_z (by omega) c55)] at hK
          rw [hq, if_pos (show hasB ((mW m).1 1) (nI (A (j + 1))) = true from hasM_n (by omega) c72)] at hK; exact hK
      · refine b_X12_goesAlong [6] ?_
        conv => whnf
        rw [gaU, if_neg c8, if_pos (show hasB ((mW m).1 2) (nI j) = true from hasM_n (by omega) c55)] at hK; exact hK
theorem l_along_dn {m : MS} {n : Nat} {A P : Nat → Nat} {fv ov : Int32} {K : Option Value → AH → Prop} (hm : mOk m n A P) : ∀ (j : Nat) (v : Int32) (s : S3) (x6 : Option Value), j < n → K none (mC m (gaD (mW m) j v s).1 (gaD (mW m) j v s).2.2) → am_E i_X12_goesAlong 6 [some (.ref 0), some (.int fv), some (.int (Int32.ofInt (-1))), some (.int ov), some (.int (nI j)), some (.int v), x6] [] (mC m s.1 s.2.2) K := by
  have hn8 := hm.2.1
  intro j
  induction j with
  | zero =>
    intro v s x6 hj hK
    refine b_X12_goesAlong [6] ?_
    conv => whnf
    refine ⟨fun c8 => ?_, fun c8 => ?_⟩
    · refine b_X12_goesAlong [6] ?_
      conv => whnf
      exact hK
    · conv => whnf
      refine ⟨fun c12 => ?_, fun c12 => absurd (by decide) c12⟩
      refine b_X12_goesAlong [6] ?_
      conv => whnf
      refine ⟨fun c34 => ?_, fun c34 => absurd (by decide) c34⟩
      refine b_X12_goesAlong [6] ?_
      conv => whnf
      exact hK
  | succ j ih =>
    intro v s x6 hj hK
    have e : (nI j).toNatClampNeg = j := nI_clamp (by omega)
    obtain ⟨h1, h2, h3⟩ := hm.2.2.1 j (by omega)
    have hq : (mW m).2 3 j = nI (A j) := h1
    refine b_X12_goesAlong [6] ?_
    conv => whnf
    refine ⟨fun c8 => ?_, fun c8 => ?_⟩
    · refine b_X12_goesAlong [6] ?_
      conv => whnf
      rw [gaD, if_pos c8] at hK; exact hK
    · conv => whnf
      refine ⟨fun c12 => ?_, fun c12 => absurd (by decide) c12⟩
      refine b_X12_goesAlong [6] ?_
      conv => whnf
      refine ⟨fun c34 => absurd c34 (by rw [nI_m1]; exact nI_pos (by omega)), fun c34 => ?_⟩
      conv => whnf
      refine ⟨fun c43 => absurd c43 (by rw [nI_m1, hm.1]; exact nI_ge (by omega) (by omega)), fun c43 => ?_⟩
      conv => whnf
      rw [nI_p1]
      refine m_has ?_
      refine b_X12_goesAlong [6] ?_
      conv => whnf
      refine ⟨fun c55 => ?_, fun c55 => ?_⟩
      · conv => whnf
        refine ⟨(by rw [nI_m1]; exact vp_in_nI (by omega) (by decide)), ?_⟩
        conv => whnf
        rw [nI_m1, e, h1]
        refine m_has ?_
        refine b_X12_goesAlong [6] ?_
        conv => whnf
        refine ⟨fun c72 => ?_, fun c72 => ?_⟩
        · refine b_X12_goesAlong [6] ?_
          conv => whnf
          refine m_lands (s := s) (p := j) (a := A (j)) (by omega) h1 (by omega) ?_
          refine b_X12_goesAlong [6] ?_
          conv => whnf
          rw [gaD, if_neg c8, if_neg (show ¬ hasB ((mW m).1 2) (nI j) = true from hasM_z (by omega) c55)] at hK
          rw [hq, if_neg (show ¬ hasB ((mW m).1 1) (nI (A (j))) = true from hasM_z (by omega) c72)] at hK
          exact ih _ (landF (mW m) (nI (A (j))) v s) _ (by omega) hK
        · conv => whnf
          rw [gaD, if_neg c8, if_neg (show ¬ hasB ((mW m).1 2) (nI j) = true from hasM_z (by omega) c55)] at hK
          rw [hq, if_pos (show hasB ((mW m).1 1) (nI (A (j))) = true from hasM_n (by omega) c72)] at hK; exact hK
      · refine b_X12_goesAlong [6] ?_
        conv => whnf
        rw [gaD, if_neg c8, if_pos (show hasB ((mW m).1 2) (nI j) = true from hasM_n (by omega) c55)] at hK; exact hK
theorem m_along_up {m : MS} {n j : Nat} {A P : Nat → Nat} {v : Int32} {s : S3} {K : Option Value → AH → Prop} (hm : mOk m n A P) (hj : j < n) (hK : K none (mC m (gaU (mW m) (n - 1 - j) j v s).1 (gaU (mW m) (n - 1 - j) j v s).2.2)) : am_M i_X12_goesAlong [.ref 0, .int (nI j), .int (nI 1), .int v] (mC m s.1 s.2.2) K := by
  refine e_X12_goesAlong [6] ?_
  conv => whnf
  exact l_along_up hm _ j v s _ (by omega) hK
theorem m_along_dn {m : MS} {n j : Nat} {A P : Nat → Nat} {v : Int32} {s : S3} {K : Option Value → AH → Prop} (hm : mOk m n A P) (hj : j < n) (hK : K none (mC m (gaD (mW m) j v s).1 (gaD (mW m) j v s).2.2)) : am_M i_X12_goesAlong [.ref 0, .int (nI j), .int (Int32.ofInt (-1)), .int v] (mC m s.1 s.2.2) K := by
  refine e_X12_goesAlong [6] ?_
  conv => whnf
  exact l_along_dn hm j v s _ hj hK
theorem l_fb_zero {m : MS} {tv v b : Int32} {g : Nat → Int32} {x4 : Option Value} {K : Option Value → AH → Prop} (hk : am_E i_X12_findBlow 21 [some (.ref 0), some (.int tv), some (.int v), some (.int (nI 8)), x4] [] (mC m (zpF 8 g) b) K) : ∀ (k i : Nat), i + k = 8 → am_E i_X12_findBlow 2 [some (.ref 0), some (.int tv), some (.int v), some (.int (nI i)), x4] [] (mC m (zpF i g) b) K := by
  intro k
  induction k with
  | zero =>
    intro i hi
    obtain rfl : i = 8 := by omega
    refine b_X12_findBlow [2, 21] ?_
    conv => whnf
    refine ⟨fun c5 => ?_, fun c5 => absurd (by decide) c5⟩
    exact hk
  | succ k ih =>
    intro i hi
    have e : (nI i).toNatClampNeg = i := nI_clamp (by omega)
    refine b_X12_findBlow [2, 21] ?_
    conv => whnf
    refine ⟨fun c5 => absurd c5 (nI_ge (by omega) (by omega)), fun c5 => ?_⟩
    conv => whnf
    refine ⟨(vp_in_nI (by omega) (by decide)), ?_⟩
    conv => whnf
    rw [e]
    have h2 := ih (i + 1) (by omega)
    rw [← zpF_s, ← nI_add i 1] at h2
    exact h2
theorem landF_ag {w : WS} {t v : Int32} {s s2 : S3} (h : ag8 s.1 s2.1) (h2 : s.2 = s2.2) : ag8 (landF w t v s).1 (landF w t v s2).1 ∧ (landF w t v s).2 = (landF w t v s2).2 := by
  have hl : ag8 (land1 t v s).1 (land1 t v s2).1 := by
    intro i hi
    simp only [land1, upd]
    split
    · rfl
    · exact h i hi
  have hl2 : (land1 t v s).2 = (land1 t v s2).2 := by simp only [land1, h2]
  unfold landF
  split
  · exact ⟨hl, hl2⟩
  · exact ⟨hl, by simp only [vic1, hl2]⟩
theorem gaU_ag (w : WS) : ∀ (k j : Nat) (v : Int32) (s s2 : S3), ag8 s.1 s2.1 → s.2 = s2.2 → ag8 (gaU w k j v s).1 (gaU w k j v s2).1 ∧ (gaU w k j v s).2 = (gaU w k j v s2).2 := by
  intro k
  induction k with
  | zero => intro j v s s2 h h2; exact ⟨h, h2⟩
  | succ k ih =>
    intro j v s s2 h h2
    simp only [gaU]
    split
    · exact ⟨h, h2⟩
    · split
      · exact ⟨h, h2⟩
      · split
        · exact ⟨h, h2⟩
        · have := landF_ag (w := w) (t := w.2 3 (j + 1)) (v := v) h h2
          exact ih _ _ _ _ this.1 this.2
theorem gaD_ag (w : WS) : ∀ (j : Nat) (v : Int32) (s s2 : S3), ag8 s.1 s2.1 → s.2 = s2.2 → ag8 (gaD w j v s).1 (gaD w j v s2).1 ∧ (gaD w j v s).2 = (gaD w j v s2).2 := by
  intro k
  induction k with
  | zero => intro v s s2 h h2; exact ⟨h, h2⟩
  | succ k ih =>
    intro v s s2 h h2
    simp only [gaD]
    split
    · exact ⟨h, h2⟩
    · split
      · exact ⟨h, h2⟩
      · split
        · exact ⟨h, h2⟩
        · have := landF_ag (w := w) (t := w.2 3 k) (v := v) h h2
          exact ih _ _ _ this.1 this.2
/-- the model's blow -/
theorem m_findBlow {m : MS} {n t : Nat} {A P : Nat → Nat} {v b : Int32} {g : Nat → Int32} {K : Option Value → AH → Prop} (hm : mOk m n A P) (ht : t < n) (hv : ¬ v ≤ 0) (hK : ∀ g2, ag8 g2 (blw (mW m) n (P t) v).1 → K none (mC m g2 (blw (mW m) n (P t) v).2.2)) : am_M i_X12_findBlow [.ref 0, .int (nI t), .int v] (mC m g b) K := by
  have hn8 := hm.2.1
  obtain ⟨hp, hap⟩ := hm.2.2.2 t ht
  obtain ⟨q1, q2, q3⟩ := hm.2.2.1 (P t) hp
  rw [hap] at q1
  have hz : ag8 (zpF 8 g) (fun _ => nI 0) := fun i hi => by simp only [zpF]; rw [if_pos hi]
  have hb := blw_ga (w := mW m) (t := t) (v := v) hn8 (fun j hj => hm.2.2.1 j hj) ⟨hp, hap⟩ hv
  have g0 : g = zpF 0 g := (zpF_0 g).symm
  rw [g0]
  refine e_X12_findBlow [2, 21] ?_
  conv => whnf
  refine l_fb_zero ?_ 8 0 rfl
  refine b_X12_findBlow [] ?_
  conv => whnf
  refine m_has ?_
  refine b_X12_findBlow [] ?_
  conv => whnf
  refine ⟨fun c34 => ?_, fun c34 => ?_⟩
  · refine b_X12_findBlow [] ?_
    conv => whnf
    refine m_placeOf (m := m) (g := zpF 8 g) (b := nI 0) hm ht ?_
    refine b_X12_findBlow [] ?_
    conv => whnf
    refine m_lands (m := m) (s := (zpF 8 g, nI 0, nI 0)) (a := t) (by omega) q1 (by omega) ?_
    refine b_X12_findBlow [] ?_
    conv => whnf
    refine m_along_up (m := m) (s := landF (mW m) (nI t) v (zpF 8 g, nI 0, nI 0)) hm hp ?_
    refine b_X12_findBlow [] ?_
    conv => whnf
    refine m_along_dn (m := m) (s := gaU (mW m) (n - 1 - P t) (P t) (outF (mW m) (nI t) v) (landF (mW m) (nI t) v (zpF 8 g, nI 0, nI 0))) hm hp ?_
    refine b_X12_findBlow [] ?_
    conv => whnf
    rw [if_neg (show ¬ hasB ((mW m).1 1) (nI t) = true from hasM_z (by omega) c34)] at hb
    have h1 := landF_ag (w := mW m) (t := nI t) (v := v) (s := (zpF 8 g, nI 0, nI 0)) (s2 := (fun _ => nI 0, nI 0, nI 0)) hz rfl
    have h2 := gaU_ag (mW m) (n - 1 - P t) (P t) (outF (mW m) (nI t) v) _ _ h1.1 h1.2
    have h3 := gaD_ag (mW m) (P t) (outF (mW m) (nI t) v) _ _ h2.1 h2.2
    rw [← hb] at h3
    have h4 := hK _ h3.1
    rw [← h3.2] at h4
    exact h4
  · conv => whnf
    rw [if_pos (show hasB ((mW m).1 1) (nI t) = true from hasM_n (by omega) c34)] at hb
    rw [hb] at hK
    exact hK _ hz
end
section
/-! SPECS: what is read of a wave and of a wire, wherever they lie -/
def itr {σ : Type} (f : Nat → σ → σ) : Nat → Nat → σ → σ
  | 0, _, s => s
  | k + 1, i, s => itr f k (i + 1) (f i s)
def wAt (h : AH) (a : Nat) (w : WS) (r : Nat → Nat) : Prop := nth h a = some (.inr (.inr (9, [.int (w.1 0), .int (w.1 1), .int (w.1 2), .int (w.1 3), .ref (r 0), .ref (r 1), .ref (r 2), .ref (r 3), .ref (r 4)]))) ∧ nth h (r 0) = some (.inl (8, w.2 0)) ∧ nth h (r 1) = some (.inl (8, w.2 1)) ∧ nth h (r 2) = some (.inl (8, w.2 2)) ∧ nth h (r 3) = some (.inl (8, w.2 3)) ∧ nth h (r 4) = some (.inl (8, w.2 4))
def uAt (h : AH) (a : Nat) (s : S3) (ga : Nat) : Prop := nth h a = some (.inr (.inr (8, [.ref ga, .int s.2.1, .int s.2.2]))) ∧ nth h ga = some (.inl (8, s.1))
theorem vI8 {n i : Nat} (hn : n ≤ 8) (hi : i < n) : vp_in (nI i) 8 := vp_in_nI (by omega) (by decide)
theorem s_isHeardBy {h : AH} {a ga : Nat} {s : S3} (hu : uAt h a s ga) {x : Int32} {K : Option Value → AH → Prop} (hK : K (some (.int (bI (fCut s.2.1 x)))) h) : am_M i_X9_isHeardBy [.ref a, .int x] h K := by
  refine e_X9_isHeardBy [] ?_
  conv => whnf
  refine ⟨fun c1 => ?_, fun c1 => ?_⟩
  · refine b_X9_isHeardBy [] ?_
    conv => whnf
    refine ⟨(by first | exact Or.inl nI_0 | exact Or.inr nI_one | assumption), ?_⟩
    simp only [fCut, c1, decide_true, Bool.not_true, Bool.false_and] at hK; exact hK
  · conv => whnf
    refine am_hgn hu.1 ?_
    conv => whnf
    refine ⟨fun c12 => ?_, fun c12 => ?_⟩
    · refine b_X9_isHeardBy [] ?_
      conv => whnf
      refine ⟨(by first | exact Or.inl nI_0 | exact Or.inr nI_one | assumption), ?_⟩
      simp only [fCut, c1, hasB_f c12, decide_false, Bool.not_false, Bool.true_and] at hK; exact hK
    · conv => whnf
      refine b_X9_isHeardBy [] ?_
      conv => whnf
      refine ⟨(by first | exact Or.inl nI_0 | exact Or.inr nI_one | assumption), ?_⟩
      simp only [fCut, c1, hasB_t c12, decide_false, Bool.not_false, Bool.true_and] at hK; exact hK
theorem s_hasBroken {h : AH} {a ga : Nat} {s : S3} (hu : uAt h a s ga) {x : Int32} {K : Option Value → AH → Prop} (hK : K (some (.int (bI (hasB s.2.2 x)))) h) : am_M i_X9_hasBroken [.ref a, .int x] h K := by
  refine e_X9_hasBroken [] ?_
  conv => whnf
  refine am_hgn hu.1 ?_
  conv => whnf
  refine ⟨fun c8 => ?_, fun c8 => ?_⟩
  · refine b_X9_hasBroken [] ?_
    conv => whnf
    refine ⟨(by first | exact Or.inl nI_0 | exact Or.inr nI_one | assumption), ?_⟩
    rw [hasB_f c8] at hK; exact hK
  · conv => whnf
    refine b_X9_hasBroken [] ?_
    conv => whnf
    refine ⟨(by first | exact Or.inl nI_0 | exact Or.inr nI_one | assumption), ?_⟩
    rw [hasB_t c8] at hK; exact hK
theorem s_hearerCount {h : AH} {a ga : Nat} {s : S3} (hu : uAt h a s ga) {K : Option Value → AH → Prop} (hK : K (some (.int (fBc s.2.1))) h) : am_M i_X9_hearerCount [.ref a] h K := by
  refine e_X9_hearerCount [] ?_
  conv => whnf
  refine am_hgn hu.1 ?_
  conv => whnf
  refine s_bc ?_
  refine b_X9_hearerCount [] ?_
  conv => whnf
  exact hK
theorem s_brokenCount {h : AH} {a ga : Nat} {s : S3} (hu : uAt h a s ga) {K : Option Value → AH → Prop} (hK : K (some (.int (fBc s.2.2))) h) : am_M i_X9_brokenCount [.ref a] h K := by
  refine e_X9_brokenCount [] ?_
  conv => whnf
  refine am_hgn hu.1 ?_
  conv => whnf
  refine s_bc ?_
  refine b_X9_brokenCount [] ?_
  conv => whnf
  exact hK
def butI (s x : Int32) : Int32 := s &&& ((nI 1 <<< (x &&& 31)) ^^^ Int32.ofInt (-1))
theorem s_othersBroken {h : AH} {a ga : Nat} {s : S3} (hu : uAt h a s ga) {x : Int32} {K : Option Value → AH → Prop} (hK : K (some (.int (fBc (butI s.2.2 x)))) h) : am_M i_X9_othersBroken [.ref a, .int x] h K := by
  refine e_X9_othersBroken [] ?_
  conv => whnf
  refine am_hgn hu.1 ?_
  conv => whnf
  refine s_bc ?_
  refine b_X9_othersBroken [] ?_
  conv => whnf
  exact hK
theorem s_jumpIn {h : AH} {a ga : Nat} {s : S3} (hu : uAt h a s ga) {wa : Nat} {w : WS} {r : Nat → Nat} (hw : wAt h wa w r) {t : Nat} (ht : t < 8) {K : Option Value → AH → Prop} (hK : K (some (.int (fJump (w.2 0 t) (s.1 t)))) h) : am_M i_X9_jumpIn [.ref a, .ref wa, .int (nI t)] h K := by
  have e : (nI t).toNatClampNeg = t := nI_clamp (by omega)
  refine e_X9_jumpIn [] ?_
  conv => whnf
  refine am_hgn hw.1 ?_
  conv => whnf
  refine am_hgn hw.2.1 ?_
  conv => whnf
  refine ⟨(vI8 (Nat.le_refl 8) ht), ?_⟩
  conv => whnf
  refine am_hgn hu.1 ?_
  conv => whnf
  refine am_hgn hu.2 ?_
  conv => whnf
  refine ⟨(vI8 (Nat.le_refl 8) ht), ?_⟩
  conv => whnf
  rw [e]
  refine s_jumpBy ?_
  refine b_X9_jumpIn [] ?_
  conv => whnf
  exact hK
theorem l_jumpsIn {h : AH} {a ga : Nat} {s : S3} (hu : uAt h a s ga) {wa : Nat} {w : WS} {r : Nat → Nat} (hw : wAt h wa w r) {n : Nat} {K : Option Value → AH → Prop} (hn : w.1 0 = nI n) (hn8 : n ≤ 8) : ∀ (k i : Nat) (x : Int32) , i + k = n → (K (some (.int (itr (fun t x => x + fJump (w.2 0 t) (s.1 t)) k i x))) h) → am_E i_X9_jumpsIn 4 [some (.ref a), some (.ref wa), some (.int x), some (.int (nI i))] [] h K := by
  intro k
  induction k with
  | zero =>
    intro i x  hi hK
    obtain rfl : i = n := by omega
    refine b_X9_jumpsIn [4] ?_
    conv => whnf
    refine am_hgn hw.1 ?_
    conv => whnf
    refine ⟨fun c9 => ?_, fun c9 => absurd (by rw [hn]; exact nI_le (Nat.le_refl _) (by omega)) c9⟩
    refine b_X9_jumpsIn [4] ?_
    conv => whnf
    exact hK
  | succ k ih =>
    intro i x  hi hK
    refine b_X9_jumpsIn [4] ?_
    conv => whnf
    refine am_hgn hw.1 ?_
    conv => whnf
    refine ⟨fun c9 => absurd c9 (by rw [hn]; exact nI_ge (by omega) (by omega)), fun c9 => ?_⟩
    conv => whnf
    refine am_hgn hu.1 ?_
    conv => whnf
    refine s_jumpIn hu hw (by omega) ?_
    refine b_X9_jumpsIn [4] ?_
    conv => whnf
    have h2 := ih (i + 1) (x + fJump (w.2 0 i) (s.1 i))  (by omega) hK
    rw [← nI_add i 1] at h2
    exact h2
theorem s_jumpsIn {h : AH} {a ga : Nat} {s : S3} (hu : uAt h a s ga) {wa : Nat} {w : WS} {r : Nat → Nat} (hw : wAt h wa w r) {n : Nat} (hn : w.1 0 = nI n) (hn8 : n ≤ 8) {K : Option Value → AH → Prop} (hK : K (some (.int (itr (fun t x => x + fJump (w.2 0 t) (s.1 t)) n 0 (nI 0)))) h) : am_M i_X9_jumpsIn [.ref a, .ref wa] h K := by
  refine e_X9_jumpsIn [4] ?_
  conv => whnf
  exact l_jumpsIn hu hw hn hn8 n 0 _ (by omega) hK
def absI (x : Int32) : Int32 := if 0 ≤ x then x else 0 - x
def fFarS (w : WS) (s : S3) (pl : Int32) (i : Nat) (q : Int32 × Int32) : Int32 × Int32 := if fCut s.2.1 (w.2 3 i) = true then (if absI (nI i - pl) ≤ q.2 then q else (nI i, absI (nI i - pl))) else q
theorem l_farIn {h : AH} {a ga : Nat} {s : S3} (hu : uAt h a s ga) {wa : Nat} {w : WS} {r : Nat → Nat} (hw : wAt h wa w r) {n : Nat} {tv pl : Int32} {K : Option Value → AH → Prop} (hn : w.1 0 = nI n) (hn8 : n ≤ 8) : ∀ (k i : Nat) (q : Int32 × Int32) , i + k = n → (K (some (.int (itr (fFarS w s pl) k i q).1)) h) → am_E i_X9_farthestIn 17 [some (.ref a), some (.ref wa), some (.int tv), some (.int pl), some (.int q.1), some (.int q.2), some (.int (nI i))] [] h K := by
  intro k
  induction k with
  | zero =>
    intro i q  hi hK
    obtain rfl : i = n := by omega
    refine b_X9_farthestIn [17] ?_
    conv => whnf
    refine am_hgn hw.1 ?_
    conv => whnf
    refine ⟨fun c23 => ?_, fun c23 => absurd (by rw [hn]; exact nI_le (Nat.le_refl _) (by omega)) c23⟩
    refine b_X9_farthestIn [17] ?_
    conv => whnf
    exact hK
  | succ k ih =>
    intro i q  hi hK
    have e : (nI i).toNatClampNeg = i := nI_clamp (by omega)
    refine b_X9_farthestIn [17] ?_
    conv => whnf
    refine am_hgn hw.1 ?_
    conv => whnf
    refine ⟨fun c23 => absurd c23 (by rw [hn]; exact nI_ge (by omega) (by omega)), fun c23 => ?_⟩
    conv => whnf
    refine am_hgn hw.1 ?_
    conv => whnf
    refine am_hgn hw.2.2.2.2.1 ?_
    conv => whnf
    refine ⟨(vI8 hn8 (by omega)), ?_⟩
    conv => whnf
    rw [e]
    refine am_hgn hu.1 ?_
    conv => whnf
    refine s_isHeardBy hu ?_
    refine b_X9_farthestIn [17] ?_
    conv => whnf
    refine ⟨fun c37 => ?_, fun c37 => ?_⟩
    · refine b_X9_farthestIn [17] ?_
      conv => whnf
      simp only [itr, fFarS] at hK
      rw [if_neg (by rw [bI_0.mp c37]; decide)] at hK
      have h2 := ih (i + 1) (q) (by omega) hK
      rw [← nI_add i 1] at h2
      exact h2
    · conv => whnf
      refine ⟨fun c49 => ?_, fun c49 => ?_⟩
      · refine b_X9_farthestIn [17] ?_
        conv => whnf
        simp only [itr, fFarS] at hK
        rw [if_pos (bI_n0.mp c37), if_pos (show absI (nI i - pl) ≤ q.2 from c49)] at hK
        have h2 := ih (i + 1) (q) (by omega) hK
        rw [← nI_add i 1] at h2
        exact h2
      · conv => whnf
        simp only [itr, fFarS] at hK
        rw [if_pos (bI_n0.mp c37), if_neg (show ¬ absI (nI i - pl) ≤ q.2 from c49)] at hK
        have h2 := ih (i + 1) ((nI i, absI (nI i - pl))) (by omega) hK
        rw [← nI_add i 1] at h2
        exact h2
theorem s_farIn {h : AH} {a ga : Nat} {s : S3} (hu : uAt h a s ga) {wa : Nat} {w : WS} {r : Nat → Nat} (hw : wAt h wa w r) {n t : Nat} (hn : w.1 0 = nI n) (hn8 : n ≤ 8) (ht : t < n) {K : Option Value → AH → Prop} (hK : K (some (.int ((itr (fFarS w s (w.2 4 t)) n 0 (Int32.ofInt (-9), Int32.ofInt (-1))).1))) h) : am_M i_X9_farthestIn [.ref a, .ref wa, .int (nI t)] h K := by
  have e : (nI t).toNatClampNeg = t := nI_clamp (by omega)
  refine e_X9_farthestIn [17] ?_
  conv => whnf
  refine am_hgn hw.1 ?_
  conv => whnf
  refine am_hgn hw.2.2.2.2.2 ?_
  conv => whnf
  refine ⟨(vI8 hn8 ht), ?_⟩
  conv => whnf
  rw [e]
  exact l_farIn hu hw hn hn8 n 0 (Int32.ofInt (-9), Int32.ofInt (-1)) (by omega) hK
def fWhole (w : WS) : Int32 := ((nI 1 <<< (w.1 0 &&& 31)) - nI 1) &&& (w.1 1 ^^^ Int32.ofInt (-1))
theorem s_wholeBits {h : AH} {wa : Nat} {w : WS} {r : Nat → Nat} (hw : wAt h wa w r) {K : Option Value → AH → Prop} (hK : K (some (.int (fWhole w))) h) : am_M i_X10_wholeBits [.ref wa] h K := by
  refine e_X10_wholeBits [] ?_
  conv => whnf
  refine am_hgn hw.1 ?_
  conv => whnf
  refine am_hgn hw.1 ?_
  conv => whnf
  exact hK
theorem l_allLoss {h : AH} {wa : Nat} {w : WS} {r : Nat → Nat} (hw : wAt h wa w r) {n : Nat} {K : Option Value → AH → Prop} (hn : w.1 0 = nI n) (hn8 : n ≤ 8) : ∀ (k i : Nat) (x : Int32) , i + k = n → (K (some (.int (itr (fun t x => x + fLoss (w.2 0 t) (w.2 1 t)) k i x))) h) → am_E i_X10_allLoss 4 [some (.ref wa), some (.int x), some (.int (nI i))] [] h K := by
  intro k
  induction k with
  | zero =>
    intro i x  hi hK
    obtain rfl : i = n := by omega
    refine b_X10_allLoss [4] ?_
    conv => whnf
    refine am_hgn hw.1 ?_
    conv => whnf
    refine ⟨fun c9 => ?_, fun c9 => absurd (by rw [hn]; exact nI_le (Nat.le_refl _) (by omega)) c9⟩
    refine b_X10_allLoss [4] ?_
    conv => whnf
    exact hK
  | succ k ih =>
    intro i x  hi hK
    have e : (nI i).toNatClampNeg = i := nI_clamp (by omega)
    refine b_X10_allLoss [4] ?_
    conv => whnf
    refine am_hgn hw.1 ?_
    conv => whnf
    refine ⟨fun c9 => absurd c9 (by rw [hn]; exact nI_ge (by omega) (by omega)), fun c9 => ?_⟩
    conv => whnf
    refine am_hgn hw.1 ?_
    conv => whnf
    refine am_hgn hw.2.1 ?_
    conv => whnf
    refine ⟨(vI8 hn8 (by omega)), ?_⟩
    conv => whnf
    refine am_hgn hw.1 ?_
    conv => whnf
    refine am_hgn hw.2.2.1 ?_
    conv => whnf
    refine ⟨(vI8 hn8 (by omega)), ?_⟩
    conv => whnf
    rw [e]
    refine s_lossOf ?_
    refine b_X10_allLoss [4] ?_
    conv => whnf
    have h2 := ih (i + 1) (x + fLoss (w.2 0 i) (w.2 1 i))  (by omega) hK
    rw [← nI_add i 1] at h2
    exact h2
theorem s_allLoss {h : AH} {wa : Nat} {w : WS} {r : Nat → Nat} (hw : wAt h wa w r) {n : Nat} (hn : w.1 0 = nI n) (hn8 : n ≤ 8) {K : Option Value → AH → Prop} (hK : K (some (.int (itr (fun t x => x + fLoss (w.2 0 t) (w.2 1 t)) n 0 (nI 0)))) h) : am_M i_X10_allLoss [.ref wa] h K := by
  refine e_X10_allLoss [4] ?_
  conv => whnf
  exact l_allLoss hw hn hn8 n 0 _ (by omega) hK
def fWay (w : WS) (i : Nat) : Int32 := absI (w.2 2 (w.2 3 (i + 1)).toNatClampNeg - w.2 2 (w.2 3 i).toNatClampNeg)
theorem s_wayOver {h : AH} {wa : Nat} {w : WS} {r : Nat → Nat} (hw : wAt h wa w r) {n i : Nat} (hn8 : n ≤ 8) (hat : ∀ j, j < n → vp_in (w.2 3 j) 8) (hi : i + 1 < n) {K : Option Value → AH → Prop} (hK : K (some (.int (fWay w i))) h) : am_M i_X10_wayOver [.ref wa, .int (nI i)] h K := by
  have e : (nI i).toNatClampNeg = i := nI_clamp (by omega)
  have e1 : (nI (i + 1)).toNatClampNeg = i + 1 := nI_clamp (by omega)
  refine e_X10_wayOver [] ?_
  conv => whnf
  refine am_hgn hw.1 ?_
  conv => whnf
  refine am_hgn hw.1 ?_
  conv => whnf
  refine am_hgn hw.2.2.2.2.1 ?_
  conv => whnf
  refine ⟨(by rw [nI_add]; exact vI8 hn8 hi), ?_⟩
  conv => whnf
  rw [nI_add, e1]
  refine am_hgn hw.2.2.2.1 ?_
  conv => whnf
  refine ⟨(hat _ hi), ?_⟩
  conv => whnf
  refine am_hgn hw.1 ?_
  conv => whnf
  refine am_hgn hw.1 ?_
  conv => whnf
  refine am_hgn hw.2.2.2.2.1 ?_
  conv => whnf
  refine ⟨(vI8 hn8 (by omega)), ?_⟩
  conv => whnf
  rw [e]
  refine am_hgn hw.2.2.2.1 ?_
  conv => whnf
  refine ⟨(hat _ (by omega)), ?_⟩
  conv => whnf
  exact hK
end
section
/-! SPECS: what a wire's methods answer and do; a wave's drop; the best so far; the row -/
theorem l_walkLen {h : AH} {wa : Nat} {w : WS} {r : Nat → Nat} (hw : wAt h wa w r) {n nl : Nat} {K : Option Value → AH → Prop} (hl : w.1 0 - nI 1 = nI nl) (hn8 : n ≤ 8) (hnl : nl + 1 = n) (hat : ∀ j, j < n → vp_in (w.2 3 j) 8) : ∀ (k i : Nat) (x : Int32) , i + k = nl → (K (some (.int (itr (fun i x => x + fWay w i) k i x))) h) → am_E i_X10_walkLength 4 [some (.ref wa), some (.int x), some (.int (nI i))] [] h K := by
  intro k
  induction k with
  | zero =>
    intro i x  hi hK
    obtain rfl : i = nl := by omega
    refine b_X10_walkLength [4] ?_
    conv => whnf
    refine am_hgn hw.1 ?_
    conv => whnf
    refine ⟨fun c11 => ?_, fun c11 => absurd (by rw [hl]; exact nI_le (Nat.le_refl _) (by omega)) c11⟩
    refine b_X10_walkLength [4] ?_
    conv => whnf
    exact hK
  | succ k ih =>
    intro i x  hi hK
    refine b_X10_walkLength [4] ?_
    conv => whnf
    refine am_hgn hw.1 ?_
    conv => whnf
    refine ⟨fun c11 => absurd c11 (by rw [hl]; exact nI_ge (by omega) (by omega)), fun c11 => ?_⟩
    conv => whnf
    refine am_hgn hw.1 ?_
    conv => whnf
    refine s_wayOver hw hn8 hat (by omega) ?_
    refine b_X10_walkLength [4] ?_
    conv => whnf
    have h2 := ih (i + 1) (x + fWay w i)  (by omega) hK
    rw [← nI_add i 1] at h2
    exact h2
def fWalk (w : WS) (n : Nat) : Int32 := itr (fun i x => x + fWay w i) (n - 1) 0 (nI 0)
theorem nI_m (n : Nat) (h : 0 < n) : nI n - nI 1 = nI (n - 1) := by rw [pk_sub h]
theorem s_walkLen {h : AH} {wa : Nat} {w : WS} {r : Nat → Nat} (hw : wAt h wa w r) {n : Nat} (hn : w.1 0 = nI n) (hn8 : n ≤ 8) (hat : ∀ j, j < n → vp_in (w.2 3 j) 8) {K : Option Value → AH → Prop} (hK : K (some (.int (fWalk w n))) h) : am_M i_X10_walkLength [.ref wa] h K := by
  rcases Nat.eq_zero_or_pos n with rfl | hpos
  · refine e_X10_walkLength [4] ?_
    conv => whnf
    refine b_X10_walkLength [4] ?_
    conv => whnf
    refine am_hgn hw.1 ?_
    conv => whnf
    refine ⟨fun c11 => ?_, fun c11 => absurd (by rw [hn]; decide) c11⟩
    refine b_X10_walkLength [4] ?_
    conv => whnf
    exact hK
  · have hl : w.1 0 - nI 1 = nI (n - 1) := by rw [hn]; exact nI_m n hpos
    refine e_X10_walkLength [4] ?_
    conv => whnf
    exact l_walkLen hw hl hn8 (by omega) hat (n - 1) 0 _ (by omega) hK
def nxW (br : Int32) (n f : Nat) : Nat → Nat → Int32
  | 0, _ => Int32.ofInt (-9)
  | k + 1, i => if hasB br (nI ((f + i) % n)) = true then nxW br n f k (i + 1) else nI ((f + i) % n)
theorem rem_nI {a n : Nat} (h : 0 < n) (ha : a < 2 ^ 30) (hn : n < 2 ^ 30) : nI a - nI a / nI n * nI n = nI (a % n) := pk_rem (by omega) h (by omega)
theorem l_nextW {h : AH} {wa : Nat} {w : WS} {r : Nat → Nat} {n f : Nat} {K : Option Value → AH → Prop} (hw : wAt h wa w r) (hn : w.1 0 = nI n) (hn8 : n ≤ 8) (hf : f ≤ 100) : ∀ (k i : Nat) (x3 : Option Value), i + k = n → K (some (.int (nxW (w.1 1) n f k i))) h → am_E i_X10_nextWhole 2 [some (.ref wa), some (.int (nI f)), some (.int (nI i)), x3] [] h K := by
  intro k
  induction k with
  | zero =>
    intro i x3 hi hK
    obtain rfl : i = n := by omega
    refine b_X10_nextWhole [2] ?_
    conv => whnf
    refine am_hgn hw.1 ?_
    conv => whnf
    refine ⟨fun c7 => ?_, fun c7 => absurd (by rw [hn]; exact nI_le (Nat.le_refl _) (by omega)) c7⟩
    refine b_X10_nextWhole [2] ?_
    conv => whnf
    exact hK
  | succ k ih =>
    intro i x3 hi hK
    have e2 : (nI f + nI i) - (nI f + nI i) / w.1 0 * w.1 0 = nI ((f + i) % n) := by rw [hn, nI_add]; exact rem_nI (by omega) (by omega) (by omega)
    have hm : (f + i) % n < n := Nat.mod_lt _ (by omega)
    refine b_X10_nextWhole [2] ?_
    conv => whnf
    refine am_hgn hw.1 ?_
    conv => whnf
    refine ⟨fun c7 => absurd c7 (by rw [hn]; exact nI_ge (by omega) (by omega)), fun c7 => ?_⟩
    conv => whnf
    refine am_hgn hw.1 ?_
    conv => whnf
    refine ⟨(by rw [hn]; exact nI_ne0 (by omega) (by omega)), ?_⟩
    conv => whnf
    rw [e2]
    refine am_hgn hw.1 ?_
    conv => whnf
    refine s_isBroken hw.1 ?_
    refine b_X10_nextWhole [2] ?_
    conv => whnf
    refine ⟨fun c24 => ?_, fun c24 => ?_⟩
    · conv => whnf
      rw [nxW, if_neg (by rw [bI_0.mp c24]; decide)] at hK; exact hK
    · refine b_X10_nextWhole [2] ?_
      conv => whnf
      rw [nxW, if_pos (bI_n0.mp c24)] at hK
      have h2 := ih (i + 1) (some (.int (nI ((f + i) % n)))) (by omega) hK
      rw [← nI_add i 1] at h2
      exact h2
theorem s_nextW {h : AH} {wa : Nat} {w : WS} {r : Nat → Nat} (hw : wAt h wa w r) {n f : Nat} (hn : w.1 0 = nI n) (hn8 : n ≤ 8) (hf : f ≤ 100) {K : Option Value → AH → Prop} (hK : K (some (.int (nxW (w.1 1) n f n 0))) h) : am_M i_X10_nextWhole [.ref wa, .int (nI f)] h K := by
  refine e_X10_nextWhole [2] ?_
  conv => whnf
  exact l_nextW hw hn hn8 hf n 0 _ (by omega) hK
def fStr (w : WS) (i : Nat) (q : Int32 × Bool) : Int32 × Bool := (if hasB (w.1 1) (w.2 3 i) = true then q.1 else if q.2 = true then q.1 else q.1 + nI 1, !(hasB (w.1 1) (w.2 3 i)) && !(fCut (w.1 2) (nI i)))
theorem bI_1 : bI true = nI 1 ∧ bI false = nI 0 := ⟨rfl, rfl⟩
theorem l_stretch {h : AH} {wa : Nat} {w : WS} {r : Nat → Nat} (hw : wAt h wa w r) {n : Nat} {K : Option Value → AH → Prop} (hn : w.1 0 = nI n) (hn8 : n ≤ 8) : ∀ (k i : Nat) (q : Int32 × Bool) (x4 : Option Value), i + k = n → (K (some (.int (itr (fStr w) k i q).1)) h) → am_E i_X10_stretches 6 [some (.ref wa), some (.int q.1), some (.int (bI q.2)), some (.int (nI i)), x4] [] h K := by
  intro k
  induction k with
  | zero =>
    intro i q x4 hi hK
    obtain rfl : i = n := by omega
    refine b_X10_stretches [6] ?_
    conv => whnf
    refine am_hgn hw.1 ?_
    conv => whnf
    refine ⟨fun c11 => ?_, fun c11 => absurd (by rw [hn]; exact nI_le (Nat.le_refl _) (by omega)) c11⟩
    refine b_X10_stretches [6] ?_
    conv => whnf
    exact hK
  | succ k ih =>
    intro i q x4 hi hK
    have e : (nI i).toNatClampNeg = i := nI_clamp (by omega)
    refine b_X10_stretches [6] ?_
    conv => whnf
    refine am_hgn hw.1 ?_
    conv => whnf
    refine ⟨fun c11 => absurd c11 (by rw [hn]; exact nI_ge (by omega) (by omega)), fun c11 => ?_⟩
    conv => whnf
    refine am_hgn hw.1 ?_
    conv => whnf
    refine am_hgn hw.2.2.2.2.1 ?_
    conv => whnf
    refine ⟨(vI8 hn8 (by omega)), ?_⟩
    conv => whnf
    rw [e]
    refine am_hgn hw.1 ?_
    conv => whnf
    refine s_isBroken hw.1 ?_
    refine b_X10_stretches [6] ?_
    conv => whnf
    refine ⟨fun c24 => ?_, fun c24 => ?_⟩
    · conv => whnf
      refine b_X10_stretches [6] ?_
      conv => whnf
      refine ⟨fun c36 => absurd c36 (by decide), fun c36 => ?_⟩
      conv => whnf
      refine ⟨fun c40 => ?_, fun c40 => ?_⟩
      · conv => whnf
        refine ⟨fun c48 => absurd c48 (by decide), fun c48 => ?_⟩
        conv => whnf
        refine am_hgn hw.1 ?_
        conv => whnf
        refine s_isCut hw.1 ?_
        refine b_X10_stretches [6] ?_
        conv => whnf
        refine ⟨fun c56 => ?_, fun c56 => ?_⟩
        · conv => whnf
          refine b_X10_stretches [6] ?_
          conv => whnf
          have hs : fStr w i q = (q.1 + nI 1, true) := by simp [fStr, bI_0.mp c24, bI_0.mp c40, bI_0.mp c56]
          simp only [itr] at hK
          rw [hs] at hK
          have h2 := ih (i + 1) (q.1 + nI 1, true) (some (.int (nI 1))) (by omega) hK
          rw [← nI_add i 1] at h2
          exact h2
        · refine b_X10_stretches [6] ?_
          conv => whnf
          have hs : fStr w i q = (q.1 + nI 1, false) := by simp [fStr, bI_0.mp c24, bI_0.mp c40, bI_n0.mp c56]
          simp only [itr] at hK
          rw [hs] at hK
          have h2 := ih (i + 1) (q.1 + nI 1, false) (some (.int (nI 1))) (by omega) hK
          rw [← nI_add i 1] at h2
          exact h2
      · refine b_X10_stretches [6] ?_
        conv => whnf
        refine ⟨fun c48 => absurd c48 (by decide), fun c48 => ?_⟩
        conv => whnf
        refine am_hgn hw.1 ?_
        conv => whnf
        refine s_isCut hw.1 ?_
        refine b_X10_stretches [6] ?_
        conv => whnf
        refine ⟨fun c56 => ?_, fun c56 => ?_⟩
        · conv => whnf
          refine b_X10_stretches [6] ?_
          conv => whnf
          have hs : fStr w i q = (q.1, true) := by simp [fStr, bI_0.mp c24, bI_n0.mp c40, bI_0.mp c56]
          simp only [itr] at hK
          rw [hs] at hK
          have h2 := ih (i + 1) (q.1, true) (some (.int (nI 1))) (by omega) hK
          rw [← nI_add i 1] at h2
          exact h2
        · refine b_X10_stretches [6] ?_
          conv => whnf
          have hs : fStr w i q = (q.1, false) := by simp [fStr, bI_0.mp c24, bI_n0.mp c40, bI_n0.mp c56]
          simp only [itr] at hK
          rw [hs] at hK
          have h2 := ih (i + 1) (q.1, false) (some (.int (nI 1))) (by omega) hK
          rw [← nI_add i 1] at h2
          exact h2
    · refine b_X10_stretches [6] ?_
      conv => whnf
      refine ⟨fun c36 => ?_, fun c36 => absurd (by decide) c36⟩
      refine b_X10_stretches [6] ?_
      conv => whnf
      refine ⟨fun c48 => ?_, fun c48 => absurd (by decide) c48⟩
      refine b_X10_stretches [6] ?_
      conv => whnf
      have hs : fStr w i q = (q.1, false) := by simp [fStr, bI_n0.mp c24]
      simp only [itr] at hK
      rw [hs] at hK
      have h2 := ih (i + 1) (q.1, false) (some (.int (nI 0))) (by omega) hK
      rw [← nI_add i 1] at h2
      exact h2
theorem s_stretch {h : AH} {wa : Nat} {w : WS} {r : Nat → Nat} (hw : wAt h wa w r) {n : Nat} (hn : w.1 0 = nI n) (hn8 : n ≤ 8) {K : Option Value → AH → Prop} (hK : K (some (.int ((itr (fStr w) n 0 (nI 0, false)).1))) h) : am_M i_X10_stretches [.ref wa] h K := by
  refine e_X10_stretches [6] ?_
  conv => whnf
  exact l_stretch hw hn hn8 n 0 (nI 0, false) _ (by omega) hK
def bO (b : Int32 × Int32) : AC := .inr (.inr (0, [.int b.1, .int b.2]))
def fLeast (b : Int32 × Int32) (c m : Int32) : Int32 × Int32 := if b.1 = Int32.ofInt (-9) then (c, m) else if b.2 ≤ m then b else (c, m)
def fMost (b : Int32 × Int32) (c m : Int32) : Int32 × Int32 := if b.1 = Int32.ofInt (-9) then (c, m) else if m ≤ b.2 then b else (c, m)
theorem s_none {b : Int32 × Int32} {K : Option Value → AH → Prop} (hK : K none [bO (Int32.ofInt (-9), Int32.ofInt (-9))]) : am_M i_X0_none [.ref 0] [bO b] K := by
  refine e_X0_none [] ?_
  conv => whnf
  exact hK
theorem s_offerLeast {b : Int32 × Int32} {c m : Int32} {K : Option Value → AH → Prop} (hK : K none [bO (fLeast b c m)]) : am_M i_X0_offerLeast [.ref 0, .int c, .int m] [bO b] K := by
  refine e_X0_offerLeast [] ?_
  conv => whnf
  refine ⟨fun c6 => ?_, fun c6 => ?_⟩
  · refine b_X0_offerLeast [] ?_
    conv => whnf
    rw [fLeast, if_pos c6] at hK; exact hK
  · conv => whnf
    refine ⟨fun c14 => ?_, fun c14 => ?_⟩
    · refine b_X0_offerLeast [] ?_
      conv => whnf
      rw [fLeast, if_neg c6, if_pos c14] at hK; exact hK
    · conv => whnf
      rw [fLeast, if_neg c6, if_neg c14] at hK; exact hK
theorem s_offerMost {b : Int32 × Int32} {c m : Int32} {K : Option Value → AH → Prop} (hK : K none [bO (fMost b c m)]) : am_M i_X0_offerMost [.ref 0, .int c, .int m] [bO b] K := by
  refine e_X0_offerMost [] ?_
  conv => whnf
  refine ⟨fun c6 => ?_, fun c6 => ?_⟩
  · refine b_X0_offerMost [] ?_
    conv => whnf
    rw [fMost, if_pos c6] at hK; exact hK
  · conv => whnf
    refine ⟨fun c14 => ?_, fun c14 => ?_⟩
    · refine b_X0_offerMost [] ?_
      conv => whnf
      rw [fMost, if_neg c6, if_pos c14] at hK; exact hK
    · conv => whnf
      rw [fMost, if_neg c6, if_neg c14] at hK; exact hK
theorem s_answer {h : AH} {a : Nat} {b : Int32 × Int32} {x : Int32} (hb : nth h a = some (bO b)) {K : Option Value → AH → Prop} (hK : K (some (.int (if x = 0 then b.1 else b.2))) h) : am_M i_X0_answer [.ref a, .int x] h K := by
  refine e_X0_answer [] ?_
  conv => whnf
  refine ⟨fun c1 => ?_, fun c1 => ?_⟩
  · conv => whnf
    refine am_hgn hb ?_
    conv => whnf
    refine b_X0_answer [] ?_
    conv => whnf
    rw [if_pos c1] at hK; exact hK
  · refine b_X0_answer [] ?_
    conv => whnf
    refine am_hgn hb ?_
    conv => whnf
    rw [if_neg c1] at hK; exact hK
def fJoinR (t k f a : Int32) : Int32 := fFirst (fFirst (fFirst (fUnk k (nI 5)) (fFirst (fBelow f (nI 0)) (fBelow a (nI 0)))) (fFirst (fAbove f (nI 9)) (fAbove a (nI 9)))) (fAbove (t + nI 1) (nI 8))
def fDropR (t br dy x v : Int32) : Int32 := if fFirst (fFirst (fNoTh t x) (fNoBlow v)) (fAbove (dy + nI 1) (nI 999)) = 0 then (if hasB br x = true then Int32.ofInt (-3) else fFirst (fFirst (fNoTh t x) (fNoBlow v)) (fAbove (dy + nI 1) (nI 999))) else fFirst (fFirst (fNoTh t x) (fNoBlow v)) (fAbove (dy + nI 1) (nI 999))
def fMendR (t br x : Int32) : Int32 := if fNoTh t x = 0 then (if hasB br x = true then fNoTh t x else Int32.ofInt (-3)) else fNoTh t x
def fChgR (t x y : Int32) : Int32 := if fFirst (fNoTh t x) (fNoTh t y) = 0 then (if x = y then Int32.ofInt (-1) else fFirst (fNoTh t x) (fNoTh t y)) else fFirst (fNoTh t x) (fNoTh t y)
theorem s_joinR {h : AH} {wa : Nat} {w : WS} {r : Nat → Nat} (hw : wAt h wa w r) {k f a : Int32} {K : Option Value → AH → Prop} (hK : K (some (.int (fJoinR (w.1 0) k f a))) h) : am_M i_X10_joinRefusal [.ref wa, .int k, .int f, .int a] h K := by
  refine e_X10_joinRefusal [] ?_
  conv => whnf
  refine s_unknown ?_
  refine b_X10_joinRefusal [] ?_
  conv => whnf
  refine s_below ?_
  refine b_X10_joinRefusal [] ?_
  conv => whnf
  refine s_below ?_
  refine b_X10_joinRefusal [] ?_
  conv => whnf
  refine s_first ?_
  refine b_X10_joinRefusal [] ?_
  conv => whnf
  refine s_first ?_
  refine b_X10_joinRefusal [] ?_
  conv => whnf
  refine s_above ?_
  refine b_X10_joinRefusal [] ?_
  conv => whnf
  refine s_above ?_
  refine b_X10_joinRefusal [] ?_
  conv => whnf
  refine s_first ?_
  refine b_X10_joinRefusal [] ?_
  conv => whnf
  refine s_first ?_
  refine b_X10_joinRefusal [] ?_
  conv => whnf
  refine am_hgn hw.1 ?_
  conv => whnf
  refine s_above ?_
  refine b_X10_joinRefusal [] ?_
  conv => whnf
  refine s_first ?_
  refine b_X10_joinRefusal [] ?_
  conv => whnf
  exact hK
theorem s_dropR {h : AH} {wa : Nat} {w : WS} {r : Nat → Nat} (hw : wAt h wa w r) {x v : Int32} {K : Option Value → AH → Prop} (hK : K (some (.int (fDropR (w.1 0) (w.1 1) (w.1 3) x v))) h) : am_M i_X10_dropRefusal [.ref wa, .int x, .int v] h K := by
  refine e_X10_dropRefusal [] ?_
  conv => whnf
  refine am_hgn hw.1 ?_
  conv => whnf
  refine s_noThing hw.1 ?_
  refine b_X10_dropRefusal [] ?_
  conv => whnf
  refine s_noBlow ?_
  refine b_X10_dropRefusal [] ?_
  conv => whnf
  refine s_first ?_
  refine b_X10_dropRefusal [] ?_
  conv => whnf
  refine am_hgn hw.1 ?_
  conv => whnf
  refine s_above ?_
  refine b_X10_dropRefusal [] ?_
  conv => whnf
  refine s_first ?_
  refine b_X10_dropRefusal [] ?_
  conv => whnf
  refine ⟨fun c29 => ?_, fun c29 => ?_⟩
  · conv => whnf
    refine am_hgn hw.1 ?_
    conv => whnf
    refine s_isBroken hw.1 ?_
    refine b_X10_dropRefusal [] ?_
    conv => whnf
    refine ⟨fun c37 => ?_, fun c37 => ?_⟩
    · refine b_X10_dropRefusal [] ?_
      conv => whnf
      rw [fDropR, if_pos c29, if_neg (by rw [bI_0.mp c37]; decide)] at hK; exact hK
    · conv => whnf
      refine b_X10_dropRefusal [] ?_
      conv => whnf
      rw [fDropR, if_pos c29, if_pos (bI_n0.mp c37)] at hK; exact hK
  · refine b_X10_dropRefusal [] ?_
    conv => whnf
    rw [fDropR, if_neg c29] at hK; exact hK
theorem s_mendR {h : AH} {wa : Nat} {w : WS} {r : Nat → Nat} (hw : wAt h wa w r) {x : Int32} {K : Option Value → AH → Prop} (hK : K (some (.int (fMendR (w.1 0) (w.1 1) x))) h) : am_M i_X10_mendRefusal [.ref wa, .int x] h K := by
  refine e_X10_mendRefusal [] ?_
  conv => whnf
  refine am_hgn hw.1 ?_
  conv => whnf
  refine s_noThing hw.1 ?_
  refine b_X10_mendRefusal [] ?_
  conv => whnf
  refine ⟨fun c7 => ?_, fun c7 => ?_⟩
  · conv => whnf
    refine am_hgn hw.1 ?_
    conv => whnf
    refine s_isBroken hw.1 ?_
    refine b_X10_mendRefusal [] ?_
    conv => whnf
    refine ⟨fun c15 => ?_, fun c15 => ?_⟩
    · conv => whnf
      refine b_X10_mendRefusal [] ?_
      conv => whnf
      rw [fMendR, if_pos c7, if_neg (by rw [bI_0.mp c15]; decide)] at hK; exact hK
    · refine b_X10_mendRefusal [] ?_
      conv => whnf
      rw [fMendR, if_pos c7, if_pos (bI_n0.mp c15)] at hK; exact hK
  · refine b_X10_mendRefusal [] ?_
    conv => whnf
    rw [fMendR, if_neg c7] at hK; exact hK
theorem s_chgR {h : AH} {wa : Nat} {w : WS} {r : Nat → Nat} (hw : wAt h wa w r) {x y : Int32} {K : Option Value → AH → Prop} (hK : K (some (.int (fChgR (w.1 0) x y))) h) : am_M i_X10_changeRefusal [.ref wa, .int x, .int y] h K := by
  refine e_X10_changeRefusal [] ?_
  conv => whnf
  refine am_hgn hw.1 ?_
  conv => whnf
  refine s_noThing hw.1 ?_
  refine b_X10_changeRefusal [] ?_
  conv => whnf
  refine am_hgn hw.1 ?_
  conv => whnf
  refine s_noThing hw.1 ?_
  refine b_X10_changeRefusal [] ?_
  conv => whnf
  refine s_first ?_
  refine b_X10_changeRefusal [] ?_
  conv => whnf
  refine ⟨fun c15 => ?_, fun c15 => ?_⟩
  · conv => whnf
    refine ⟨fun c20 => ?_, fun c20 => ?_⟩
    · conv => whnf
      refine b_X10_changeRefusal [] ?_
      conv => whnf
      rw [fChgR, if_pos c15, if_pos c20] at hK; exact hK
    · refine b_X10_changeRefusal [] ?_
      conv => whnf
      rw [fChgR, if_pos c15, if_neg c20] at hK; exact hK
  · refine b_X10_changeRefusal [] ?_
    conv => whnf
    rw [fChgR, if_neg c15] at hK; exact hK
def wI (w : WS) (i : Nat) (x : Int32) : WS := (va_up w.1 i x, w.2)
def wA (w : WS) (i : Nat) (f : Nat → Int32) : WS := (w.1, va_up w.2 i f)
def wEq (w v : WS) : Prop := (∀ i, i < 4 → w.1 i = v.1 i) ∧ ∀ i, i < 5 → ag8 (w.2 i) (v.2 i)
theorem s_mend {w : WS} {x : Int32} {K : Option Value → AH → Prop} (hK : K none (wC 0 (wI w 1 (butI (w.1 1) x)))) : am_M i_X10_mend [.ref 0, .int x] (wC 0 w) K := by
  refine e_X10_mend [] ?_
  conv => whnf
  exact hK
theorem s_turnCut {w : WS} {x : Int32} {K : Option Value → AH → Prop} (hK : K none (wC 0 (wI w 2 (w.1 2 ^^^ (nI 1 <<< (x &&& 31)))))) : am_M i_X10_turnCut [.ref 0, .int x] (wC 0 w) K := by
  refine e_X10_turnCut [] ?_
  conv => whnf
  exact hK
def wJoin (w : WS) (n : Nat) (k f a : Int32) : WS := (va_up w.1 0 (nI (n + 1)), fun i => match i with
  | 0 => upd (w.2 0) n k
  | 1 => upd (w.2 1) n f
  | 2 => upd (w.2 2) n a
  | 3 => upd (w.2 3) n (nI n)
  | 4 => upd (w.2 4) n (nI n)
  | i => w.2 i)
theorem s_join {w : WS} {n : Nat} {k f a : Int32} (hn : w.1 0 = nI n) (hn8 : n < 8) {K : Option Value → AH → Prop} (hK : K (some (.int (nI n))) (wC 0 (wJoin w n k f a))) : am_M i_X10_join [.ref 0, .int k, .int f, .int a] (wC 0 w) K := by
  have e : (nI n).toNatClampNeg = n := nI_clamp (by omega)
  refine e_X10_join [] ?_
  conv => whnf
  refine ⟨(by rw [hn]; exact (vI8 (Nat.le_refl 8) hn8)), ?_⟩
  conv => whnf
  rw [hn, e, nI_add]
  refine ⟨(vI8 (Nat.le_refl 8) hn8), ?_⟩
  conv => whnf
  rw [e]
  refine ⟨(vI8 (Nat.le_refl 8) hn8), ?_⟩
  conv => whnf
  rw [e]
  refine ⟨(vI8 (Nat.le_refl 8) hn8), ?_⟩
  conv => whnf
  rw [e]
  refine ⟨(vI8 (Nat.le_refl 8) hn8), ?_⟩
  conv => whnf
  exact hK
def wXch (w : WS) (i j : Nat) : WS := (w.1, fun q => match q with
  | 3 => upd (upd (w.2 3) i (w.2 3 j)) j (w.2 3 i)
  | 4 => upd (upd (w.2 4) (upd (upd (w.2 3) i (w.2 3 j)) j (w.2 3 i) i).toNatClampNeg (nI i)) (w.2 3 i).toNatClampNeg (nI j)
  | q => w.2 q)
theorem s_exchange {w : WS} {n i j : Nat} (hn8 : n ≤ 8) (hat : ∀ j, j < n → vp_in (w.2 3 j) 8) (hi : i < n) (hj : j < n) {K : Option Value → AH → Prop} (hK : K none (wC 0 (wXch w i j))) : am_M i_X10_exchange [.ref 0, .int (nI i), .int (nI j)] (wC 0 w) K := by
  have e : (nI i).toNatClampNeg = i := nI_clamp (by omega)
  have e2 : (nI j).toNatClampNeg = j := nI_clamp (by omega)
  have hx : vp_in (upd (upd (w.2 3) i (w.2 3 j)) j (w.2 3 i) i) 8 := by
    simp only [upd]
    split
    · exact hat i hi
    · rw [if_pos trivial]; exact hat j hj
  refine e_X10_exchange [] ?_
  conv => whnf
  refine ⟨(vI8 hn8 hi), ?_⟩
  conv => whnf
  rw [e]
  refine ⟨(vI8 hn8 hj), ?_⟩
  conv => whnf
  rw [e2]
  refine ⟨(vI8 hn8 hi), ?_⟩
  conv => whnf
  rw [e]
  refine ⟨(vI8 hn8 hj), ?_⟩
  conv => whnf
  rw [e2]
  refine ⟨(vI8 hn8 hi), ?_⟩
  conv => whnf
  rw [e]
  refine ⟨hx, ?_⟩
  conv => whnf
  refine ⟨(hat i hi), ?_⟩
  conv => whnf
  exact hK
theorem s_copy {w v : WS} {K : Option Value → AH → Prop} (hK : ∀ w2, wEq w2 v → K none (wC 0 w2 ++ wC 6 v)) : am_M i_X10_copy [.ref 0, .ref 6] (wC 0 w ++ wC 6 v) K := by
  refine e_X10_copy [] ?_
  conv => whnf
  refine ⟨⟨by decide, by decide, by decide, by decide, by decide⟩, ?_⟩
  conv => whnf
  refine ⟨⟨by decide, by decide, by decide, by decide, by decide⟩, ?_⟩
  conv => whnf
  refine ⟨⟨by decide, by decide, by decide, by decide, by decide⟩, ?_⟩
  conv => whnf
  refine ⟨⟨by decide, by decide, by decide, by decide, by decide⟩, ?_⟩
  conv => whnf
  refine ⟨⟨by decide, by decide, by decide, by decide, by decide⟩, ?_⟩
  conv => whnf
  refine hK (fun i => v.1 i, fun i => va_cpy (v.2 i) (w.2 i) (nI 0).toNatClampNeg (nI 0).toNatClampNeg (nI 8).toNatClampNeg) ⟨fun i _ => rfl, fun i _ j hj => ?_⟩
  show va_cpy (v.2 i) (w.2 i) (nI 0).toNatClampNeg (nI 0).toNatClampNeg (nI 8).toNatClampNeg j = v.2 i j
  rw [show (nI 0).toNatClampNeg = 0 by decide, show (nI 8).toNatClampNeg = 8 by decide]
  exact sb_cpy0 hj
end
section
/-! SPECS: orders laid, a drop, the row, the past -/
theorem am_inc_m1 (x : Int32) : am_inc x (-1) = x + Int32.ofInt (-1) := (am_inc_eq x (-1)).symm
theorem nI_m2 (n : Nat) (h : 2 ≤ n) : nI n - nI 2 = nI (n - 2) := by rw [pk_sub h]
def layF (i : Nat) (w : WS) : WS := (w.1, fun q => match q with
  | 3 => upd (w.2 3) i (nI i)
  | 4 => upd (w.2 4) i (nI i)
  | q => w.2 q)
theorem l_lay {n : Nat} {K : Option Value → AH → Prop} (hn8 : n ≤ 8) : ∀ (k i : Nat) (w : WS) , i + k = n → (w.1 0 = nI n ∧ K none (wC 0 (itr layF k i w))) → am_E i_X10_layInTurnUncut 7 [some (.ref 0), some (.int (nI i))] [] (wC 0 w) K := by
  intro k
  induction k with
  | zero =>
    intro i w  hi hK
    obtain rfl : i = n := by omega
    refine b_X10_layInTurnUncut [7] ?_
    conv => whnf
    refine ⟨fun c12 => ?_, fun c12 => absurd (by rw [hK.1]; exact nI_le (Nat.le_refl _) (by omega)) c12⟩
    refine b_X10_layInTurnUncut [7] ?_
    conv => whnf
    exact hK.2
  | succ k ih =>
    intro i w  hi hK
    have e : (nI i).toNatClampNeg = i := nI_clamp (by omega)
    refine b_X10_layInTurnUncut [7] ?_
    conv => whnf
    refine ⟨fun c12 => absurd c12 (by rw [hK.1]; exact nI_ge (by omega) (by omega)), fun c12 => ?_⟩
    conv => whnf
    refine ⟨(vI8 hn8 (by omega)), ?_⟩
    conv => whnf
    refine ⟨(vI8 hn8 (by omega)), ?_⟩
    conv => whnf
    rw [e]
    have h2 := ih (i + 1) (layF i w) (by omega) hK
    rw [← nI_add i 1] at h2
    exact h2
theorem s_lay {w : WS} {n : Nat} (hn : w.1 0 = nI n) (hn8 : n ≤ 8) {K : Option Value → AH → Prop} (hK : K none (wC 0 (itr layF n 0 (wI w 2 (nI 0))))) : am_M i_X10_layInTurnUncut [.ref 0] (wC 0 w) K := by
  refine e_X10_layInTurnUncut [7] ?_
  conv => whnf
  exact l_lay hn8 n 0 (wI w 2 (nI 0)) (by omega) ⟨hn, hK⟩
def lowF (at_ : Nat → Int32) : Nat → Nat
  | 0 => 0
  | k + 1 => if at_ k ≤ at_ (k + 1) then k + 1 else lowF at_ k
def highF (at_ : Nat → Int32) (lo : Nat) : Nat → Nat
  | 0 => lo
  | k + 1 => if at_ lo ≤ at_ (lo + (k + 1)) then lo + (k + 1) else highF at_ lo k
def revF : Nat → Nat → Nat → WS → WS
  | 0, _, _, w => w
  | f + 1, l, r, w => if l < r then revF f (l + 1) (r - 1) (wXch w l r) else w
def at8 (w : WS) (n : Nat) : Prop := ∀ j, j < n → vp_in (w.2 3 j) 8
theorem at8_xch {w : WS} {n i j : Nat} (h : at8 w n) (hi : i < n) (hj : j < n) : at8 (wXch w i j) n := by
  intro k hk
  show vp_in (upd (upd (w.2 3) i (w.2 3 j)) j (w.2 3 i) k) 8
  simp only [upd]
  split
  · exact h i hi
  · split
    · exact h j hj
    · exact h k hk
theorem l_low {w : WS} {n : Nat} {K : Option Value → AH → Prop} (hn8 : n ≤ 8) (hat : at8 w n) : ∀ (k : Nat), k < n → (∀ x1, x1 = nI (lowF (w.2 3) k) + Int32.ofInt (-1) → am_E i_X10_layNextOrder 34 [some (.ref 0), some (.int x1), none, none, none] [] (wC 0 w) K) → am_E i_X10_layNextOrder 7 [some (.ref 0), some (.int (nI k + Int32.ofInt (-1))), none, none, none] [] (wC 0 w) K := by
  intro k
  induction k with
  | zero =>
    intro hk hK
    refine b_X10_layNextOrder [7, 34] ?_
    conv => whnf
    refine ⟨fun c8 => ?_, fun c8 => absurd (by decide) c8⟩
    exact hK _ rfl
  | succ k ih =>
    intro hk hK
    have e : (nI k).toNatClampNeg = k := nI_clamp (by omega)
    have e2 : (nI (k + 1)).toNatClampNeg = k + 1 := nI_clamp (by omega)
    rw [nI_m1]
    refine b_X10_layNextOrder [7, 34] ?_
    conv => whnf
    refine ⟨fun c8 => absurd c8 (nI_pos (by omega)), fun c8 => ?_⟩
    conv => whnf
    refine ⟨(vI8 hn8 (by omega)), ?_⟩
    conv => whnf
    rw [e]
    refine ⟨(by rw [nI_add]; exact vI8 hn8 (by omega)), ?_⟩
    conv => whnf
    rw [nI_add, e2]
    refine ⟨fun c25 => ?_, fun c25 => ?_⟩
    · refine hK _ ?_
      rw [lowF, if_pos c25, nI_m1]
    · conv => whnf
      rw [lowF, if_neg c25] at hK
      have h2 := ih (by omega) hK
      rw [am_inc_m1]
      exact h2
theorem l_high {w : WS} {n lo : Nat} {K : Option Value → AH → Prop} (hn8 : n ≤ 8) (hat : at8 w n) (hlo : lo < n) : ∀ (k : Nat), lo + k < n → am_E i_X10_layNextOrder 73 [some (.ref 0), some (.int (nI lo)), some (.int (nI (highF (w.2 3) lo k))), none, none] [] (wC 0 w) K → am_E i_X10_layNextOrder 47 [some (.ref 0), some (.int (nI lo)), some (.int (nI (lo + k))), none, none] [] (wC 0 w) K := by
  have e : (nI lo).toNatClampNeg = lo := nI_clamp (by omega)
  intro k
  induction k with
  | zero =>
    intro hk hK
    refine b_X10_layNextOrder [47, 73] ?_
    conv => whnf
    refine ⟨fun c49 => ?_, fun c49 => absurd (nI_le (by omega) (by omega)) c49⟩
    exact hK
  | succ k ih =>
    intro hk hK
    have e2 : (nI (lo + (k + 1))).toNatClampNeg = lo + (k + 1) := nI_clamp (by omega)
    refine b_X10_layNextOrder [47, 73] ?_
    conv => whnf
    refine ⟨fun c49 => absurd c49 (nI_ge (by omega) (by omega)), fun c49 => ?_⟩
    conv => whnf
    refine ⟨(vI8 hn8 (by omega)), ?_⟩
    conv => whnf
    rw [e2]
    refine ⟨(vI8 hn8 hlo), ?_⟩
    conv => whnf
    rw [e]
    refine ⟨fun c64 => ?_, fun c64 => ?_⟩
    · rw [highF, if_pos c64] at hK
      exact hK
    · conv => whnf
      rw [highF, if_neg c64] at hK
      have h2 := ih (by omega) hK
      rw [show nI (lo + k) = nI (lo + (k + 1)) - nI 1 from (nI_m (lo + (k + 1)) (by omega)).symm] at h2
      exact h2
theorem l_rev {n : Nat} {K : Option Value → AH → Prop} (hn8 : n ≤ 8) : ∀ (f l r : Nat) (w : WS), at8 w n → l ≤ n → r < n → r ≤ l + f → K (some (.int (nI 1))) (wC 0 (revF f l r w)) → am_E i_X10_layNextOrder 91 [some (.ref 0), none, none, some (.int (nI l)), some (.int (nI r))] [] (wC 0 w) K := by
  intro f
  induction f with
  | zero =>
    intro l r w hat hl hr hf hK
    refine b_X10_layNextOrder [91] ?_
    conv => whnf
    refine ⟨fun c94 => ?_, fun c94 => absurd (nI_le (by omega) (by omega)) c94⟩
    refine b_X10_layNextOrder [91] ?_
    conv => whnf
    refine ⟨(by first | exact Or.inl nI_0 | exact Or.inr nI_one | assumption), ?_⟩
    exact hK
  | succ f ih =>
    intro l r w hat hl hr hf hK
    refine b_X10_layNextOrder [91] ?_
    conv => whnf
    refine ⟨fun c94 => ?_, fun c94 => ?_⟩
    · refine b_X10_layNextOrder [91] ?_
      conv => whnf
      refine ⟨(by first | exact Or.inl nI_0 | exact Or.inr nI_one | assumption), ?_⟩
      have hlr : ¬ l < r := fun z => absurd c94 (nI_ge z (by omega))
      rw [revF, if_neg hlr] at hK
      exact hK
    · conv => whnf
      have hlr : l < r := Nat.not_le.mp (fun z => c94 (nI_le z (by omega)))
      refine s_exchange hn8 hat (by omega) hr ?_
      refine b_X10_layNextOrder [91] ?_
      conv => whnf
      rw [revF, if_pos hlr] at hK
      have h2 := ih (l + 1) (r - 1) (wXch w l r) (at8_xch hat (by omega) hr) (by omega) (by omega) (by omega) hK
      rw [← nI_add l 1, ← nI_m r (by omega)] at h2
      exact h2
/-- the next order of a wire, if there is one -/
def nxO (w : WS) (n : Nat) : Option WS := match lowF (w.2 3) (n - 1) with
  | 0 => none
  | lo + 1 => some (revF n (lo + 1) (n - 1) (wXch w lo (highF (w.2 3) lo (n - 1 - lo))))
theorem lowF_le (a : Nat → Int32) : ∀ k, lowF a k ≤ k
  | 0 => Nat.le_refl _
  | k + 1 => by
    rw [lowF]
    split
    · exact Nat.le_refl _
    · exact Nat.le_succ_of_le (lowF_le a k)
theorem highF_le (a : Nat → Int32) (lo : Nat) : ∀ k, lo ≤ highF a lo k ∧ highF a lo k ≤ lo + k
  | 0 => ⟨Nat.le_refl _, Nat.le_refl _⟩
  | k + 1 => by
    rw [highF]
    split
    · exact ⟨Nat.le_add_right _ _, Nat.le_refl _⟩
    · have := highF_le a lo k; omega
theorem s_nextO {w : WS} {n : Nat} {K : Option Value → AH → Prop} (hn : w.1 0 = nI n) (hn8 : n ≤ 8) (hat : at8 w n) (hK0 : nxO w n = none → K (some (.int (nI 0))) (wC 0 w)) (hK1 : ∀ w2, nxO w n = some w2 → K (some (.int (nI 1))) (wC 0 w2)) : am_M i_X10_layNextOrder [.ref 0] (wC 0 w) K := by
  rcases Nat.lt_or_ge n 2 with h2 | h2
  · have hx : nxO w n = none := by
      have : n - 1 = 0 := by omega
      rw [nxO, this]
      rfl
    have hlt : w.1 0 - nI 2 < 0 := by
      rw [hn]
      have : ∀ n, n < 2 → nI n - nI 2 < 0 := by decide +kernel
      exact this n h2
    refine e_X10_layNextOrder [7] ?_
    conv => whnf
    refine b_X10_layNextOrder [7] ?_
    conv => whnf
    refine ⟨fun c8 => ?_, fun c8 => absurd hlt c8⟩
    refine b_X10_layNextOrder [7] ?_
    conv => whnf
    refine ⟨fun c35 => absurd hlt (Int32.not_lt.mpr c35), fun c35 => ?_⟩
    conv => whnf
    refine ⟨Or.inl nI_0, ?_⟩
    exact hK0 hx
  · have hl2 : w.1 0 - nI 2 = nI (n - 1) + Int32.ofInt (-1) := by
      rw [hn, nI_m2 n h2, show n - 1 = (n - 2) + 1 by omega, nI_m1]
    have hlow := lowF_le (w.2 3) (n - 1)
    refine e_X10_layNextOrder [7, 34] ?_
    conv => whnf
    rw [hl2]
    refine l_low hn8 hat (n - 1) (by omega) (fun x1 hx1 => ?_)
    rcases hlo : lowF (w.2 3) (n - 1) with _ | lo
    · rw [hlo] at hx1
      have hz : x1 < 0 := by rw [hx1]; decide
      refine b_X10_layNextOrder [34] ?_
      conv => whnf
      refine ⟨fun c35 => absurd c35 (Int32.not_le.mpr hz), fun c35 => ?_⟩
      conv => whnf
      refine ⟨(by first | exact Or.inl nI_0 | exact Or.inr nI_one | assumption), ?_⟩
      exact hK0 (by rw [nxO, hlo])
    · rw [hlo, nI_m1] at hx1
      subst hx1
      have hh := highF_le (w.2 3) lo (n - 1 - lo)
      have hk := hK1 _ (show nxO w n = some (revF n (lo + 1) (n - 1) (wXch w lo (highF (w.2 3) lo (n - 1 - lo)))) by rw [nxO, hlo])
      refine b_X10_layNextOrder [47] ?_
      conv => whnf
      refine ⟨fun c35 => ?_, fun c35 => absurd (nI_pos' (by omega)) c35⟩
      refine b_X10_layNextOrder [47] ?_
      conv => whnf
      have hm : w.1 0 - nI 1 = nI (lo + (n - 1 - lo)) := by rw [hn, nI_m n (by omega)]; congr 1; omega
      rw [hm]
      refine l_high hn8 hat (by omega) (n - 1 - lo) (by omega) ?_
      refine b_X10_layNextOrder [91] ?_
      conv => whnf
      refine s_exchange hn8 hat (by omega) (by omega) ?_
      refine b_X10_layNextOrder [91] ?_
      conv => whnf
      rw [nI_add, show (wXch w lo (highF (w.2 3) lo (n - 1 - lo))).1 0 - nI 1 = nI (n - 1) from by show w.1 0 - nI 1 = _; rw [hn, nI_m n (by omega)]]
      exact am_wk (by exact ⟨Or.inr rfl, Or.inl rfl, Or.inl rfl, Or.inr rfl, Or.inr rfl, trivial⟩) (l_rev hn8 n (lo + 1) (n - 1) _ (at8_xch hat (by omega) (by omega)) (by omega) (by omega) (by omega) hk)
end
section
theorem i_vc : Claimed_1_1 ∧ Claimed_1_2 := sorry
end
