section
-- ===== PART A: goes FIRST, ahead of the names: the tables' words, and 'selects' of the private methods out of them =====
/-- a private method of a class that the tables say can be made, by its rows of tables_1 -/
def lw_okq (q : MethodName × Nat) : Prop := (q.1.cls ≠ "java/lang/invoke/MethodHandle" ∧ q.1.cls ≠ "java/lang/invoke/VarHandle") ∧ Cond.instantiable q.1.cls q.2 ∈ tables_1 ∧ Cond.privateMethod q.1 ∈ tables_1 ∧ Cond.instanceMethod q.1 ∈ tables_1
theorem lw_p0 : lw_okq (⟨"GroupRegistration$Network", "stationOfPort", "(II)I"⟩, 4) := ⟨⟨by decide +kernel, by decide +kernel⟩, List.mem_of_getElem? (i := 17) (by decide +kernel), List.mem_of_getElem? (i := 133) (by decide +kernel), List.mem_of_getElem? (i := 134) (by decide +kernel)⟩
theorem lw_p1 : lw_okq (⟨"GroupRegistration$Network", "isConnected", "(I)Z"⟩, 4) := ⟨⟨by decide +kernel, by decide +kernel⟩, List.mem_of_getElem? (i := 17) (by decide +kernel), List.mem_of_getElem? (i := 137) (by decide +kernel), List.mem_of_getElem? (i := 138) (by decide +kernel)⟩
theorem lw_p2 : lw_okq (⟨"GroupRegistration$Network", "bridgesOnWay", "(II)I"⟩, 4) := ⟨⟨by decide +kernel, by decide +kernel⟩, List.mem_of_getElem? (i := 17) (by decide +kernel), List.mem_of_getElem? (i := 144) (by decide +kernel), List.mem_of_getElem? (i := 145) (by decide +kernel)⟩
theorem lw_p3 : lw_okq (⟨"GroupRegistration$Network", "neighboursOf", "(I)I"⟩, 4) := ⟨⟨by decide +kernel, by decide +kernel⟩, List.mem_of_getElem? (i := 17) (by decide +kernel), List.mem_of_getElem? (i := 151) (by decide +kernel), List.mem_of_getElem? (i := 152) (by decide +kernel)⟩
theorem lw_p4 : lw_okq (⟨"GroupRegistration$Network", "tie", "(II)V"⟩, 4) := ⟨⟨by decide +kernel, by decide +kernel⟩, List.mem_of_getElem? (i := 17) (by decide +kernel), List.mem_of_getElem? (i := 161) (by decide +kernel), List.mem_of_getElem? (i := 162) (by decide +kernel)⟩
theorem lw_p5 : lw_okq (⟨"GroupRegistration", "startPort", "(I)V"⟩, 11) := ⟨⟨by decide +kernel, by decide +kernel⟩, List.mem_of_getElem? (i := 9) (by decide +kernel), List.mem_of_getElem? (i := 165) (by decide +kernel), List.mem_of_getElem? (i := 166) (by decide +kernel)⟩
theorem lw_p6 : lw_okq (⟨"GroupRegistration$Network", "untie", "(II)V"⟩, 4) := ⟨⟨by decide +kernel, by decide +kernel⟩, List.mem_of_getElem? (i := 17) (by decide +kernel), List.mem_of_getElem? (i := 174) (by decide +kernel), List.mem_of_getElem? (i := 175) (by decide +kernel)⟩
theorem lw_p7 : lw_okq (⟨"GroupRegistration", "clearPort", "(I)V"⟩, 11) := ⟨⟨by decide +kernel, by decide +kernel⟩, List.mem_of_getElem? (i := 9) (by decide +kernel), List.mem_of_getElem? (i := 178) (by decide +kernel), List.mem_of_getElem? (i := 179) (by decide +kernel)⟩
theorem lw_p8 : lw_okq (⟨"GroupRegistration$Registrars", "change", "(III)V"⟩, 2) := ⟨⟨by decide +kernel, by decide +kernel⟩, List.mem_of_getElem? (i := 44) (by decide +kernel), List.mem_of_getElem? (i := 185) (by decide +kernel), List.mem_of_getElem? (i := 186) (by decide +kernel)⟩
theorem lw_p9 : lw_okq (⟨"GroupRegistration$Applicants", "change", "(III)V"⟩, 2) := ⟨⟨by decide +kernel, by decide +kernel⟩, List.mem_of_getElem? (i := 60) (by decide +kernel), List.mem_of_getElem? (i := 189) (by decide +kernel), List.mem_of_getElem? (i := 190) (by decide +kernel)⟩
theorem lw_p10 : lw_okq (⟨"GroupRegistration", "cellOfHost", "(II)I"⟩, 11) := ⟨⟨by decide +kernel, by decide +kernel⟩, List.mem_of_getElem? (i := 9) (by decide +kernel), List.mem_of_getElem? (i := 205) (by decide +kernel), List.mem_of_getElem? (i := 206) (by decide +kernel)⟩
theorem lw_p11 : lw_okq (⟨"GroupRegistration$Network", "stationOfHost", "(I)I"⟩, 4) := ⟨⟨by decide +kernel, by decide +kernel⟩, List.mem_of_getElem? (i := 17) (by decide +kernel), List.mem_of_getElem? (i := 209) (by decide +kernel), List.mem_of_getElem? (i := 210) (by decide +kernel)⟩
theorem lw_p12 : lw_okq (⟨"GroupRegistration$Applicants", "startDeclaring", "(I)Z"⟩, 2) := ⟨⟨by decide +kernel, by decide +kernel⟩, List.mem_of_getElem? (i := 60) (by decide +kernel), List.mem_of_getElem? (i := 216) (by decide +kernel), List.mem_of_getElem? (i := 217) (by decide +kernel)⟩
theorem lw_p13 : lw_okq (⟨"GroupRegistration$Applicants", "isDeclaring", "(I)Z"⟩, 2) := ⟨⟨by decide +kernel, by decide +kernel⟩, List.mem_of_getElem? (i := 60) (by decide +kernel), List.mem_of_getElem? (i := 220) (by decide +kernel), List.mem_of_getElem? (i := 221) (by decide +kernel)⟩
theorem lw_p14 : lw_okq (⟨"GroupRegistration$Applicants", "stopDeclaring", "(I)Z"⟩, 2) := ⟨⟨by decide +kernel, by decide +kernel⟩, List.mem_of_getElem? (i := 60) (by decide +kernel), List.mem_of_getElem? (i := 229) (by decide +kernel), List.mem_of_getElem? (i := 230) (by decide +kernel)⟩
theorem lw_p15 : lw_okq (⟨"GroupRegistration", "runTimers", "()V"⟩, 11) := ⟨⟨by decide +kernel, by decide +kernel⟩, List.mem_of_getElem? (i := 9) (by decide +kernel), List.mem_of_getElem? (i := 245) (by decide +kernel), List.mem_of_getElem? (i := 246) (by decide +kernel)⟩
def lw_privs_1 : List (MethodName × Nat) := [(⟨"GroupRegistration$Network", "stationOfPort", "(II)I"⟩, 4), (⟨"GroupRegistration$Network", "isConnected", "(I)Z"⟩, 4), (⟨"GroupRegistration$Network", "bridgesOnWay", "(II)I"⟩, 4), (⟨"GroupRegistration$Network", "neighboursOf", "(I)I"⟩, 4), (⟨"GroupRegistration$Network", "tie", "(II)V"⟩, 4), (⟨"GroupRegistration", "startPort", "(I)V"⟩, 11), (⟨"GroupRegistration$Network", "untie", "(II)V"⟩, 4), (⟨"GroupRegistration", "clearPort", "(I)V"⟩, 11), (⟨"GroupRegistration$Registrars", "change", "(III)V"⟩, 2), (⟨"GroupRegistration$Applicants", "change", "(III)V"⟩, 2), (⟨"GroupRegistration", "cellOfHost", "(II)I"⟩, 11), (⟨"GroupRegistration$Network", "stationOfHost", "(I)I"⟩, 4), (⟨"GroupRegistration$Applicants", "startDeclaring", "(I)Z"⟩, 2), (⟨"GroupRegistration$Applicants", "isDeclaring", "(I)Z"⟩, 2), (⟨"GroupRegistration$Applicants", "stopDeclaring", "(I)Z"⟩, 2), (⟨"GroupRegistration", "runTimers", "()V"⟩, 11)]
theorem lw_r1 : ∀ q ∈ lw_privs_1, lw_okq q := List.forall_mem_cons.mpr ⟨lw_p0, List.forall_mem_cons.mpr ⟨lw_p1, List.forall_mem_cons.mpr ⟨lw_p2, List.forall_mem_cons.mpr ⟨lw_p3, List.forall_mem_cons.mpr ⟨lw_p4, List.forall_mem_cons.mpr ⟨lw_p5, List.forall_mem_cons.mpr ⟨lw_p6, List.forall_mem_cons.mpr ⟨lw_p7, List.forall_mem_cons.mpr ⟨lw_p8, List.forall_mem_cons.mpr ⟨lw_p9, List.forall_mem_cons.mpr ⟨lw_p10, List.forall_mem_cons.mpr ⟨lw_p11, List.forall_mem_cons.mpr ⟨lw_p12, List.forall_mem_cons.mpr ⟨lw_p13, List.forall_mem_cons.mpr ⟨lw_p14, List.forall_mem_cons.mpr ⟨lw_p15, fun _ h => absurd h List.not_mem_nil⟩⟩⟩⟩⟩⟩⟩⟩⟩⟩⟩⟩⟩⟩⟩⟩
theorem lw_p16 : lw_okq (⟨"GroupRegistration", "countDownRegistrars", "(I)V"⟩, 11) := ⟨⟨by decide +kernel, by decide +kernel⟩, List.mem_of_getElem? (i := 9) (by decide +kernel), List.mem_of_getElem? (i := 249) (by decide +kernel), List.mem_of_getElem? (i := 250) (by decide +kernel)⟩
theorem lw_p17 : lw_okq (⟨"GroupRegistration$Registrars", "countDown", "(I)V"⟩, 2) := ⟨⟨by decide +kernel, by decide +kernel⟩, List.mem_of_getElem? (i := 44) (by decide +kernel), List.mem_of_getElem? (i := 253) (by decide +kernel), List.mem_of_getElem? (i := 254) (by decide +kernel)⟩
theorem lw_p18 : lw_okq (⟨"GroupRegistration", "countDownToLeaveAll", "(I)V"⟩, 11) := ⟨⟨by decide +kernel, by decide +kernel⟩, List.mem_of_getElem? (i := 9) (by decide +kernel), List.mem_of_getElem? (i := 257) (by decide +kernel), List.mem_of_getElem? (i := 258) (by decide +kernel)⟩
theorem lw_p19 : lw_okq (⟨"GroupRegistration", "propagate", "()V"⟩, 11) := ⟨⟨by decide +kernel, by decide +kernel⟩, List.mem_of_getElem? (i := 9) (by decide +kernel), List.mem_of_getElem? (i := 261) (by decide +kernel), List.mem_of_getElem? (i := 262) (by decide +kernel)⟩
theorem lw_p20 : lw_okq (⟨"GroupRegistration", "propagateTo", "(I)V"⟩, 11) := ⟨⟨by decide +kernel, by decide +kernel⟩, List.mem_of_getElem? (i := 9) (by decide +kernel), List.mem_of_getElem? (i := 265) (by decide +kernel), List.mem_of_getElem? (i := 266) (by decide +kernel)⟩
theorem lw_p21 : lw_okq (⟨"GroupRegistration", "isWanted", "(II)Z"⟩, 11) := ⟨⟨by decide +kernel, by decide +kernel⟩, List.mem_of_getElem? (i := 9) (by decide +kernel), List.mem_of_getElem? (i := 269) (by decide +kernel), List.mem_of_getElem? (i := 270) (by decide +kernel)⟩
theorem lw_p22 : lw_okq (⟨"GroupRegistration", "isRegisteredAt", "(II)Z"⟩, 11) := ⟨⟨by decide +kernel, by decide +kernel⟩, List.mem_of_getElem? (i := 9) (by decide +kernel), List.mem_of_getElem? (i := 274) (by decide +kernel), List.mem_of_getElem? (i := 275) (by decide +kernel)⟩
theorem lw_p23 : lw_okq (⟨"GroupRegistration", "sendAll", "()I"⟩, 11) := ⟨⟨by decide +kernel, by decide +kernel⟩, List.mem_of_getElem? (i := 9) (by decide +kernel), List.mem_of_getElem? (i := 278) (by decide +kernel), List.mem_of_getElem? (i := 279) (by decide +kernel)⟩
theorem lw_p24 : lw_okq (⟨"GroupRegistration$Outbox", "clear", "()V"⟩, 2) := ⟨⟨by decide +kernel, by decide +kernel⟩, List.mem_of_getElem? (i := 75) (by decide +kernel), List.mem_of_getElem? (i := 282) (by decide +kernel), List.mem_of_getElem? (i := 283) (by decide +kernel)⟩
theorem lw_p25 : lw_okq (⟨"GroupRegistration", "sendFrom", "(I)I"⟩, 11) := ⟨⟨by decide +kernel, by decide +kernel⟩, List.mem_of_getElem? (i := 9) (by decide +kernel), List.mem_of_getElem? (i := 287) (by decide +kernel), List.mem_of_getElem? (i := 288) (by decide +kernel)⟩
theorem lw_p26 : lw_okq (⟨"GroupRegistration", "obeyLeaveAll", "(I)V"⟩, 11) := ⟨⟨by decide +kernel, by decide +kernel⟩, List.mem_of_getElem? (i := 9) (by decide +kernel), List.mem_of_getElem? (i := 291) (by decide +kernel), List.mem_of_getElem? (i := 292) (by decide +kernel)⟩
theorem lw_p27 : lw_okq (⟨"GroupRegistration$Registrars", "startLeaving", "(II)V"⟩, 2) := ⟨⟨by decide +kernel, by decide +kernel⟩, List.mem_of_getElem? (i := 44) (by decide +kernel), List.mem_of_getElem? (i := 295) (by decide +kernel), List.mem_of_getElem? (i := 296) (by decide +kernel)⟩
theorem lw_p28 : lw_okq (⟨"GroupRegistration$Applicants", "declareAgain", "(I)V"⟩, 2) := ⟨⟨by decide +kernel, by decide +kernel⟩, List.mem_of_getElem? (i := 60) (by decide +kernel), List.mem_of_getElem? (i := 300) (by decide +kernel), List.mem_of_getElem? (i := 301) (by decide +kernel)⟩
theorem lw_p29 : lw_okq (⟨"GroupRegistration$Applicants", "nextMessage", "(I)I"⟩, 2) := ⟨⟨by decide +kernel, by decide +kernel⟩, List.mem_of_getElem? (i := 60) (by decide +kernel), List.mem_of_getElem? (i := 304) (by decide +kernel), List.mem_of_getElem? (i := 305) (by decide +kernel)⟩
theorem lw_p30 : lw_okq (⟨"GroupRegistration", "receiveAll", "()V"⟩, 11) := ⟨⟨by decide +kernel, by decide +kernel⟩, List.mem_of_getElem? (i := 9) (by decide +kernel), List.mem_of_getElem? (i := 308) (by decide +kernel), List.mem_of_getElem? (i := 309) (by decide +kernel)⟩
theorem lw_p31 : lw_okq (⟨"GroupRegistration", "receiveFrom", "(II)V"⟩, 11) := ⟨⟨by decide +kernel, by decide +kernel⟩, List.mem_of_getElem? (i := 9) (by decide +kernel), List.mem_of_getElem? (i := 313) (by decide +kernel), List.mem_of_getElem? (i := 314) (by decide +kernel)⟩
def lw_privs_2 : List (MethodName × Nat) := [(⟨"GroupRegistration", "countDownRegistrars", "(I)V"⟩, 11), (⟨"GroupRegistration$Registrars", "countDown", "(I)V"⟩, 2), (⟨"GroupRegistration", "countDownToLeaveAll", "(I)V"⟩, 11), (⟨"GroupRegistration", "propagate", "()V"⟩, 11), (⟨"GroupRegistration", "propagateTo", "(I)V"⟩, 11), (⟨"GroupRegistration", "isWanted", "(II)Z"⟩, 11), (⟨"GroupRegistration", "isRegisteredAt", "(II)Z"⟩, 11), (⟨"GroupRegistration", "sendAll", "()I"⟩, 11), (⟨"GroupRegistration$Outbox", "clear", "()V"⟩, 2), (⟨"GroupRegistration", "sendFrom", "(I)I"⟩, 11), (⟨"GroupRegistration", "obeyLeaveAll", "(I)V"⟩, 11), (⟨"GroupRegistration$Registrars", "startLeaving", "(II)V"⟩, 2), (⟨"GroupRegistration$Applicants", "declareAgain", "(I)V"⟩, 2), (⟨"GroupRegistration$Applicants", "nextMessage", "(I)I"⟩, 2), (⟨"GroupRegistration", "receiveAll", "()V"⟩, 11), (⟨"GroupRegistration", "receiveFrom", "(II)V"⟩, 11)]
theorem lw_r2 : ∀ q ∈ lw_privs_2, lw_okq q := List.forall_mem_cons.mpr ⟨lw_p16, List.forall_mem_cons.mpr ⟨lw_p17, List.forall_mem_cons.mpr ⟨lw_p18, List.forall_mem_cons.mpr ⟨lw_p19, List.forall_mem_cons.mpr ⟨lw_p20, List.forall_mem_cons.mpr ⟨lw_p21, List.forall_mem_cons.mpr ⟨lw_p22, List.forall_mem_cons.mpr ⟨lw_p23, List.forall_mem_cons.mpr ⟨lw_p24, List.forall_mem_cons.mpr ⟨lw_p25, List.forall_mem_cons.mpr ⟨lw_p26, List.forall_mem_cons.mpr ⟨lw_p27, List.forall_mem_cons.mpr ⟨lw_p28, List.forall_mem_cons.mpr ⟨lw_p29, List.forall_mem_cons.mpr ⟨lw_p30, List.forall_mem_cons.mpr ⟨lw_p31, fun _ h => absurd h List.not_mem_nil⟩⟩⟩⟩⟩⟩⟩⟩⟩⟩⟩⟩⟩⟩⟩⟩
theorem lw_p32 : lw_okq (⟨"GroupRegistration$Registrars", "hear", "(III)V"⟩, 2) := ⟨⟨by decide +kernel, by decide +kernel⟩, List.mem_of_getElem? (i := 44) (by decide +kernel), List.mem_of_getElem? (i := 317) (by decide +kernel), List.mem_of_getElem? (i := 318) (by decide +kernel)⟩
theorem lw_p33 : lw_okq (⟨"GroupRegistration", "cellOfPort", "(III)I"⟩, 11) := ⟨⟨by decide +kernel, by decide +kernel⟩, List.mem_of_getElem? (i := 9) (by decide +kernel), List.mem_of_getElem? (i := 330) (by decide +kernel), List.mem_of_getElem? (i := 331) (by decide +kernel)⟩
theorem lw_p34 : lw_okq (⟨"GroupRegistration", "hasToSend", "(I)Z"⟩, 11) := ⟨⟨by decide +kernel, by decide +kernel⟩, List.mem_of_getElem? (i := 9) (by decide +kernel), List.mem_of_getElem? (i := 354) (by decide +kernel), List.mem_of_getElem? (i := 355) (by decide +kernel)⟩
theorem lw_p35 : lw_okq (⟨"GroupRegistration", "isPortSettled", "(I)Z"⟩, 11) := ⟨⟨by decide +kernel, by decide +kernel⟩, List.mem_of_getElem? (i := 9) (by decide +kernel), List.mem_of_getElem? (i := 358) (by decide +kernel), List.mem_of_getElem? (i := 359) (by decide +kernel)⟩
theorem lw_p36 : lw_okq (⟨"GroupRegistration", "hostsReached", "(II)I"⟩, 11) := ⟨⟨by decide +kernel, by decide +kernel⟩, List.mem_of_getElem? (i := 9) (by decide +kernel), List.mem_of_getElem? (i := 366) (by decide +kernel), List.mem_of_getElem? (i := 367) (by decide +kernel)⟩
theorem lw_p37 : lw_okq (⟨"GroupRegistration", "nextArrivals", "(II)I"⟩, 11) := ⟨⟨by decide +kernel, by decide +kernel⟩, List.mem_of_getElem? (i := 9) (by decide +kernel), List.mem_of_getElem? (i := 370) (by decide +kernel), List.mem_of_getElem? (i := 371) (by decide +kernel)⟩
theorem lw_p38 : lw_okq (⟨"GroupRegistration", "bridgesBetweenHosts", "(II)I"⟩, 11) := ⟨⟨by decide +kernel, by decide +kernel⟩, List.mem_of_getElem? (i := 9) (by decide +kernel), List.mem_of_getElem? (i := 382) (by decide +kernel), List.mem_of_getElem? (i := 383) (by decide +kernel)⟩
theorem lw_p39 : lw_okq (⟨"GroupRegistrationModel", "isPort", "(II)Z"⟩, 23) := ⟨⟨by decide +kernel, by decide +kernel⟩, List.mem_of_getElem? (i := 395) (by decide +kernel), List.mem_of_getElem? (i := 479) (by decide +kernel), List.mem_of_getElem? (i := 480) (by decide +kernel)⟩
theorem lw_p40 : lw_okq (⟨"GroupRegistrationModel", "isConnected", "(I)Z"⟩, 23) := ⟨⟨by decide +kernel, by decide +kernel⟩, List.mem_of_getElem? (i := 395) (by decide +kernel), List.mem_of_getElem? (i := 486) (by decide +kernel), List.mem_of_getElem? (i := 487) (by decide +kernel)⟩
theorem lw_p41 : lw_okq (⟨"GroupRegistrationModel", "partOf", "(I)I"⟩, 23) := ⟨⟨by decide +kernel, by decide +kernel⟩, List.mem_of_getElem? (i := 395) (by decide +kernel), List.mem_of_getElem? (i := 490) (by decide +kernel), List.mem_of_getElem? (i := 491) (by decide +kernel)⟩
theorem lw_p42 : lw_okq (⟨"GroupRegistrationModel", "isLinked", "(I)Z"⟩, 23) := ⟨⟨by decide +kernel, by decide +kernel⟩, List.mem_of_getElem? (i := 395) (by decide +kernel), List.mem_of_getElem? (i := 494) (by decide +kernel), List.mem_of_getElem? (i := 495) (by decide +kernel)⟩
theorem lw_p43 : lw_okq (⟨"GroupRegistrationModel", "resets", "(II)V"⟩, 23) := ⟨⟨by decide +kernel, by decide +kernel⟩, List.mem_of_getElem? (i := 395) (by decide +kernel), List.mem_of_getElem? (i := 498) (by decide +kernel), List.mem_of_getElem? (i := 499) (by decide +kernel)⟩
theorem lw_p44 : lw_okq (⟨"GroupRegistrationModel", "refusedHost", "(II)I"⟩, 23) := ⟨⟨by decide +kernel, by decide +kernel⟩, List.mem_of_getElem? (i := 395) (by decide +kernel), List.mem_of_getElem? (i := 518) (by decide +kernel), List.mem_of_getElem? (i := 519) (by decide +kernel)⟩
theorem lw_p45 : lw_okq (⟨"GroupRegistrationModel", "isHost", "(I)Z"⟩, 23) := ⟨⟨by decide +kernel, by decide +kernel⟩, List.mem_of_getElem? (i := 395) (by decide +kernel), List.mem_of_getElem? (i := 522) (by decide +kernel), List.mem_of_getElem? (i := 523) (by decide +kernel)⟩
theorem lw_p46 : lw_okq (⟨"GroupRegistrationModel", "passes", "()I"⟩, 23) := ⟨⟨by decide +kernel, by decide +kernel⟩, List.mem_of_getElem? (i := 395) (by decide +kernel), List.mem_of_getElem? (i := 548) (by decide +kernel), List.mem_of_getElem? (i := 549) (by decide +kernel)⟩
theorem lw_p47 : lw_okq (⟨"GroupRegistrationModel", "ages", "(I)V"⟩, 23) := ⟨⟨by decide +kernel, by decide +kernel⟩, List.mem_of_getElem? (i := 395) (by decide +kernel), List.mem_of_getElem? (i := 552) (by decide +kernel), List.mem_of_getElem? (i := 553) (by decide +kernel)⟩
def lw_privs_3 : List (MethodName × Nat) := [(⟨"GroupRegistration$Registrars", "hear", "(III)V"⟩, 2), (⟨"GroupRegistration", "cellOfPort", "(III)I"⟩, 11), (⟨"GroupRegistration", "hasToSend", "(I)Z"⟩, 11), (⟨"GroupRegistration", "isPortSettled", "(I)Z"⟩, 11), (⟨"GroupRegistration", "hostsReached", "(II)I"⟩, 11), (⟨"GroupRegistration", "nextArrivals", "(II)I"⟩, 11), (⟨"GroupRegistration", "bridgesBetweenHosts", "(II)I"⟩, 11), (⟨"GroupRegistrationModel", "isPort", "(II)Z"⟩, 23), (⟨"GroupRegistrationModel", "isConnected", "(I)Z"⟩, 23), (⟨"GroupRegistrationModel", "partOf", "(I)I"⟩, 23), (⟨"GroupRegistrationModel", "isLinked", "(I)Z"⟩, 23), (⟨"GroupRegistrationModel", "resets", "(II)V"⟩, 23), (⟨"GroupRegistrationModel", "refusedHost", "(II)I"⟩, 23), (⟨"GroupRegistrationModel", "isHost", "(I)Z"⟩, 23), (⟨"GroupRegistrationModel", "passes", "()I"⟩, 23), (⟨"GroupRegistrationModel", "ages", "(I)V"⟩, 23)]
theorem lw_r3 : ∀ q ∈ lw_privs_3, lw_okq q := List.forall_mem_cons.mpr ⟨lw_p32, List.forall_mem_cons.mpr ⟨lw_p33, List.forall_mem_cons.mpr ⟨lw_p34, List.forall_mem_cons.mpr ⟨lw_p35, List.forall_mem_cons.mpr ⟨lw_p36, List.forall_mem_cons.mpr ⟨lw_p37, List.forall_mem_cons.mpr ⟨lw_p38, List.forall_mem_cons.mpr ⟨lw_p39, List.forall_mem_cons.mpr ⟨lw_p40, List.forall_mem_cons.mpr ⟨lw_p41, List.forall_mem_cons.mpr ⟨lw_p42, List.forall_mem_cons.mpr ⟨lw_p43, List.forall_mem_cons.mpr ⟨lw_p44, List.forall_mem_cons.mpr ⟨lw_p45, List.forall_mem_cons.mpr ⟨lw_p46, List.forall_mem_cons.mpr ⟨lw_p47, fun _ h => absurd h List.not_mem_nil⟩⟩⟩⟩⟩⟩⟩⟩⟩⟩⟩⟩⟩⟩⟩⟩
theorem lw_p48 : lw_okq (⟨"GroupRegistrationModel", "propagates", "(I)V"⟩, 23) := ⟨⟨by decide +kernel, by decide +kernel⟩, List.mem_of_getElem? (i := 395) (by decide +kernel), List.mem_of_getElem? (i := 556) (by decide +kernel), List.mem_of_getElem? (i := 557) (by decide +kernel)⟩
theorem lw_p49 : lw_okq (⟨"GroupRegistrationModel", "isWanted", "(II)Z"⟩, 23) := ⟨⟨by decide +kernel, by decide +kernel⟩, List.mem_of_getElem? (i := 395) (by decide +kernel), List.mem_of_getElem? (i := 560) (by decide +kernel), List.mem_of_getElem? (i := 561) (by decide +kernel)⟩
theorem lw_p50 : lw_okq (⟨"GroupRegistrationModel", "sendsOf", "(I)I"⟩, 23) := ⟨⟨by decide +kernel, by decide +kernel⟩, List.mem_of_getElem? (i := 395) (by decide +kernel), List.mem_of_getElem? (i := 564) (by decide +kernel), List.mem_of_getElem? (i := 565) (by decide +kernel)⟩
theorem lw_p51 : lw_okq (⟨"GroupRegistrationModel", "leavesAll", "(I)V"⟩, 23) := ⟨⟨by decide +kernel, by decide +kernel⟩, List.mem_of_getElem? (i := 395) (by decide +kernel), List.mem_of_getElem? (i := 568) (by decide +kernel), List.mem_of_getElem? (i := 569) (by decide +kernel)⟩
theorem lw_p52 : lw_okq (⟨"GroupRegistrationModel", "sendsOfHost", "(I)I"⟩, 23) := ⟨⟨by decide +kernel, by decide +kernel⟩, List.mem_of_getElem? (i := 395) (by decide +kernel), List.mem_of_getElem? (i := 572) (by decide +kernel), List.mem_of_getElem? (i := 573) (by decide +kernel)⟩
theorem lw_p53 : lw_okq (⟨"GroupRegistrationModel", "delivers", "(I)V"⟩, 23) := ⟨⟨by decide +kernel, by decide +kernel⟩, List.mem_of_getElem? (i := 395) (by decide +kernel), List.mem_of_getElem? (i := 576) (by decide +kernel), List.mem_of_getElem? (i := 577) (by decide +kernel)⟩
theorem lw_p54 : lw_okq (⟨"GroupRegistrationModel", "hostLeavesAll", "(I)V"⟩, 23) := ⟨⟨by decide +kernel, by decide +kernel⟩, List.mem_of_getElem? (i := 395) (by decide +kernel), List.mem_of_getElem? (i := 580) (by decide +kernel), List.mem_of_getElem? (i := 581) (by decide +kernel)⟩
theorem lw_p55 : lw_okq (⟨"GroupRegistrationModel", "gets", "(II)V"⟩, 23) := ⟨⟨by decide +kernel, by decide +kernel⟩, List.mem_of_getElem? (i := 395) (by decide +kernel), List.mem_of_getElem? (i := 584) (by decide +kernel), List.mem_of_getElem? (i := 585) (by decide +kernel)⟩
theorem lw_p56 : lw_okq (⟨"GroupRegistrationModel", "refusedPort", "(III)I"⟩, 23) := ⟨⟨by decide +kernel, by decide +kernel⟩, List.mem_of_getElem? (i := 395) (by decide +kernel), List.mem_of_getElem? (i := 596) (by decide +kernel), List.mem_of_getElem? (i := 597) (by decide +kernel)⟩
theorem lw_p57 : lw_okq (⟨"GroupRegistrationModel", "isPortSettled", "(I)Z"⟩, 23) := ⟨⟨by decide +kernel, by decide +kernel⟩, List.mem_of_getElem? (i := 395) (by decide +kernel), List.mem_of_getElem? (i := 620) (by decide +kernel), List.mem_of_getElem? (i := 621) (by decide +kernel)⟩
theorem lw_p58 : lw_okq (⟨"GroupRegistrationModel", "reached", "(II)I"⟩, 23) := ⟨⟨by decide +kernel, by decide +kernel⟩, List.mem_of_getElem? (i := 395) (by decide +kernel), List.mem_of_getElem? (i := 631) (by decide +kernel), List.mem_of_getElem? (i := 632) (by decide +kernel)⟩
def lw_privs_4 : List (MethodName × Nat) := [(⟨"GroupRegistrationModel", "propagates", "(I)V"⟩, 23), (⟨"GroupRegistrationModel", "isWanted", "(II)Z"⟩, 23), (⟨"GroupRegistrationModel", "sendsOf", "(I)I"⟩, 23), (⟨"GroupRegistrationModel", "leavesAll", "(I)V"⟩, 23), (⟨"GroupRegistrationModel", "sendsOfHost", "(I)I"⟩, 23), (⟨"GroupRegistrationModel", "delivers", "(I)V"⟩, 23), (⟨"GroupRegistrationModel", "hostLeavesAll", "(I)V"⟩, 23), (⟨"GroupRegistrationModel", "gets", "(II)V"⟩, 23), (⟨"GroupRegistrationModel", "refusedPort", "(III)I"⟩, 23), (⟨"GroupRegistrationModel", "isPortSettled", "(I)Z"⟩, 23), (⟨"GroupRegistrationModel", "reached", "(II)I"⟩, 23)]
theorem lw_r4 : ∀ q ∈ lw_privs_4, lw_okq q := List.forall_mem_cons.mpr ⟨lw_p48, List.forall_mem_cons.mpr ⟨lw_p49, List.forall_mem_cons.mpr ⟨lw_p50, List.forall_mem_cons.mpr ⟨lw_p51, List.forall_mem_cons.mpr ⟨lw_p52, List.forall_mem_cons.mpr ⟨lw_p53, List.forall_mem_cons.mpr ⟨lw_p54, List.forall_mem_cons.mpr ⟨lw_p55, List.forall_mem_cons.mpr ⟨lw_p56, List.forall_mem_cons.mpr ⟨lw_p57, List.forall_mem_cons.mpr ⟨lw_p58, fun _ h => absurd h List.not_mem_nil⟩⟩⟩⟩⟩⟩⟩⟩⟩⟩⟩
def lw_privs : List (MethodName × Nat) := lw_privs_1 ++ (lw_privs_2 ++ (lw_privs_3 ++ (lw_privs_4)))
def lw_tbl : List Cond := k2_sels lw_privs ++ tables_1
theorem lw_privs_ok : ∀ q ∈ lw_privs, lw_okq q := by
  show ∀ q ∈ lw_privs_1 ++ (lw_privs_2 ++ (lw_privs_3 ++ (lw_privs_4))), lw_okq q
  exact List.forall_mem_append.mpr ⟨lw_r1, List.forall_mem_append.mpr ⟨lw_r2, List.forall_mem_append.mpr ⟨lw_r3, lw_r4⟩⟩⟩
-- ===== end of PART A; then your names; then what follows =====
end
section
/-! ===== BEGIN words of one list among another's, by their places ===== -/
theorem goodIn_r {big : List Cond} (ws : List Cond) (ps : List Nat) (hp : ws = ps.filterMap (fun i => big[i]?)) (h : ws.all goodWord = true) : GoodIn big ws := by
  intro w hw
  have h1 := List.all_eq_true.mp h w hw
  rw [hp] at hw
  obtain ⟨i, -, hi⟩ := List.mem_filterMap.mp hw
  have hm : w ∈ big := by first | exact List.mem_of_getElem? hi | exact List.getElem?_mem hi
  exact ⟨hm, good_of_word h1⟩
theorem goodIn_app {big a b : List Cond} (ha : GoodIn big a) (hb : GoodIn big b) : GoodIn big (a ++ b) := fun w h => (List.mem_append.mp h).elim (ha w) (hb w)
theorem goodIn_ca {big a b : List Cond} {c : Cond} (ha : GoodIn big (c :: a)) (hb : GoodIn big b) : GoodIn big (c :: (a ++ b)) := fun w h => (List.mem_cons.mp h).elim (fun e => ha w (List.mem_cons.mpr (Or.inl e))) (fun h => (List.mem_append.mp h).elim (fun h => ha w (List.mem_cons.mpr (Or.inr h))) (hb w))
theorem goodIn_sub {big ws : List Cond} (hm : ∀ w ∈ ws, w ∈ big) (h : ws.all goodWord = true) : GoodIn big ws := fun w hw => ⟨hm w hw, good_of_word (List.all_eq_true.mp h w hw)⟩
/-! ===== END ===== -/

/-! ===== BEGIN printed: names, fields, word lists, decode rows ===== -/
def RX0 : String := "GroupRegistration$Applicants"
def TX0 : u_T := fun k => match k with
  | 0 => ("GroupRegistration$Applicants", "state", "[I", true)
  | _ => ("GroupRegistration$Applicants", "joinsToSend", "[I", true)
def tyX0 : Nat → FieldType := fun k => match k with
  | 0 => .array .int
  | _ => .array .int
abbrev wsX00 : List Cond := u_ws RX0 TX0 2
theorem nmX0 : ∀ a, a < 2 → ∀ b, b < 2 → a ≠ b → (TX0 a).2.1 ≠ (TX0 b).2.1 := by decide +kernel
theorem tyX0_ok : ∀ k, k < 2 → parseFieldDescriptor (TX0 k).2.2.1 = some (tyX0 k) := by decide +kernel
abbrev cX0_init : ByteArray := prog_2_method_1_code
def yX0_init : MethodName := ⟨RX0, "<init>", "()V"⟩
abbrev cX0_change : ByteArray := prog_2_method_2_code
def yX0_change : MethodName := ⟨RX0, "change", "(III)V"⟩
abbrev cX0_isDeclaring : ByteArray := prog_2_method_3_code
def yX0_isDeclaring : MethodName := ⟨RX0, "isDeclaring", "(I)Z"⟩
abbrev cX0_startDeclaring : ByteArray := prog_2_method_4_code
def yX0_startDeclaring : MethodName := ⟨RX0, "startDeclaring", "(I)Z"⟩
abbrev cX0_stopDeclaring : ByteArray := prog_2_method_5_code
def yX0_stopDeclaring : MethodName := ⟨RX0, "stopDeclaring", "(I)Z"⟩
abbrev cX0_declareAgain : ByteArray := prog_2_method_6_code
def yX0_declareAgain : MethodName := ⟨RX0, "declareAgain", "(I)V"⟩
abbrev cX0_nextMessage : ByteArray := prog_2_method_7_code
def yX0_nextMessage : MethodName := ⟨RX0, "nextMessage", "(I)I"⟩
def RX1 : String := "GroupRegistration$Network"
def TX1 : u_T := fun k => match k with
  | 0 => ("GroupRegistration$Network", "otherEnd", "[I", true)
  | 1 => ("GroupRegistration$Network", "bridgeCount", "I", false)
  | 2 => ("GroupRegistration$Network", "hostCount", "I", false)
  | _ => ("GroupRegistration$Network", "linkCount", "I", false)
def tyX1 : Nat → FieldType := fun k => match k with
  | 0 => .array .int
  | 1 => .int
  | 2 => .int
  | _ => .int
abbrev wsX10 : List Cond := u_ws RX1 TX1 4
theorem nmX1 : ∀ a, a < 4 → ∀ b, b < 4 → a ≠ b → (TX1 a).2.1 ≠ (TX1 b).2.1 := by decide +kernel
theorem tyX1_ok : ∀ k, k < 4 → parseFieldDescriptor (TX1 k).2.2.1 = some (tyX1 k) := by decide +kernel
abbrev cX1_init : ByteArray := prog_3_method_1_code
def yX1_init : MethodName := ⟨RX1, "<init>", "()V"⟩
abbrev cX1_stationOfPort : ByteArray := prog_3_method_2_code
def yX1_stationOfPort : MethodName := ⟨RX1, "stationOfPort", "(II)I"⟩
abbrev cX1_stationOfHost : ByteArray := prog_3_method_3_code
def yX1_stationOfHost : MethodName := ⟨RX1, "stationOfHost", "(I)I"⟩
abbrev cX1_isConnected : ByteArray := prog_3_method_4_code
def yX1_isConnected : MethodName := ⟨RX1, "isConnected", "(I)Z"⟩
abbrev cX1_tie : ByteArray := prog_3_method_5_code
def yX1_tie : MethodName := ⟨RX1, "tie", "(II)V"⟩
abbrev cX1_untie : ByteArray := prog_3_method_6_code
def yX1_untie : MethodName := ⟨RX1, "untie", "(II)V"⟩
abbrev cX1_bridgesOnWay : ByteArray := prog_3_method_7_code
def yX1_bridgesOnWay : MethodName := ⟨RX1, "bridgesOnWay", "(II)I"⟩
abbrev cX1_neighboursOf : ByteArray := prog_3_method_8_code
def yX1_neighboursOf : MethodName := ⟨RX1, "neighboursOf", "(I)I"⟩
def RX2 : String := "GroupRegistration$Outbox"
def TX2 : u_T := fun k => match k with
  | 0 => ("GroupRegistration$Outbox", "leaveAll", "[Z", true)
  | _ => ("GroupRegistration$Outbox", "message", "[I", true)
def tyX2 : Nat → FieldType := fun k => match k with
  | 0 => .array .boolean
  | _ => .array .int
abbrev wsX20 : List Cond := u_ws RX2 TX2 2
theorem nmX2 : ∀ a, a < 2 → ∀ b, b < 2 → a ≠ b → (TX2 a).2.1 ≠ (TX2 b).2.1 := by decide +kernel
theorem tyX2_ok : ∀ k, k < 2 → parseFieldDescriptor (TX2 k).2.2.1 = some (tyX2 k) := by decide +kernel
abbrev cX2_init : ByteArray := prog_4_method_1_code
def yX2_init : MethodName := ⟨RX2, "<init>", "()V"⟩
abbrev cX2_clear : ByteArray := prog_4_method_2_code
def yX2_clear : MethodName := ⟨RX2, "clear", "()V"⟩
def RX3 : String := "GroupRegistration$Registrars"
def TX3 : u_T := fun k => match k with
  | 0 => ("GroupRegistration$Registrars", "state", "[I", true)
  | _ => ("GroupRegistration$Registrars", "timer", "[I", true)
def tyX3 : Nat → FieldType := fun k => match k with
  | 0 => .array .int
  | _ => .array .int
abbrev wsX30 : List Cond := u_ws RX3 TX3 2
theorem nmX3 : ∀ a, a < 2 → ∀ b, b < 2 → a ≠ b → (TX3 a).2.1 ≠ (TX3 b).2.1 := by decide +kernel
theorem tyX3_ok : ∀ k, k < 2 → parseFieldDescriptor (TX3 k).2.2.1 = some (tyX3 k) := by decide +kernel
abbrev cX3_init : ByteArray := prog_5_method_1_code
def yX3_init : MethodName := ⟨RX3, "<init>", "()V"⟩
abbrev cX3_change : ByteArray := prog_5_method_2_code
def yX3_change : MethodName := ⟨RX3, "change", "(III)V"⟩
abbrev cX3_startLeaving : ByteArray := prog_5_method_3_code
def yX3_startLeaving : MethodName := ⟨RX3, "startLeaving", "(II)V"⟩
abbrev cX3_hear : ByteArray := prog_5_method_4_code
def yX3_hear : MethodName := ⟨RX3, "hear", "(III)V"⟩
abbrev cX3_countDown : ByteArray := prog_5_method_5_code
def yX3_countDown : MethodName := ⟨RX3, "countDown", "(I)V"⟩
def RX4 : String := "GroupRegistration"
def TX4 : u_T := fun k => match k with
  | 0 => ("GroupRegistration", "network", "LGroupRegistration$Network;", true)
  | 1 => ("GroupRegistration", "registrars", "LGroupRegistration$Registrars;", true)
  | 2 => ("GroupRegistration", "applicants", "LGroupRegistration$Applicants;", true)
  | 3 => ("GroupRegistration", "outbox", "LGroupRegistration$Outbox;", true)
  | 4 => ("GroupRegistration", "leaveAllCountdown", "[I", true)
  | 5 => ("GroupRegistration", "leaveAllDue", "[Z", true)
  | 6 => ("GroupRegistration", "markedForLoss", "[Z", true)
  | 7 => ("GroupRegistration", "silenced", "[Z", true)
  | 8 => ("GroupRegistration", "leaveTime", "I", false)
  | 9 => ("GroupRegistration", "leaveAllTime", "I", false)
  | _ => ("GroupRegistration", "now", "I", false)
def tyX4 : Nat → FieldType := fun k => match k with
  | 0 => .object "GroupRegistration$Network"
  | 1 => .object "GroupRegistration$Registrars"
  | 2 => .object "GroupRegistration$Applicants"
  | 3 => .object "GroupRegistration$Outbox"
  | 4 => .array .int
  | 5 => .array .boolean
  | 6 => .array .boolean
  | 7 => .array .boolean
  | 8 => .int
  | 9 => .int
  | _ => .int
abbrev wsX40 : List Cond := u_ws RX4 TX4 11
theorem nmX4 : ∀ a, a < 11 → ∀ b, b < 11 → a ≠ b → (TX4 a).2.1 ≠ (TX4 b).2.1 := by decide +kernel
theorem tyX4_ok : ∀ k, k < 11 → parseFieldDescriptor (TX4 k).2.2.1 = some (tyX4 k) := by decide +kernel
abbrev cX4_init : ByteArray := prog_1_method_1_code
def yX4_init : MethodName := ⟨RX4, "<init>", "()V"⟩
abbrev cX4_addBridge : ByteArray := prog_1_method_2_code
def yX4_addBridge : MethodName := ⟨RX4, "addBridge", "()I"⟩
abbrev cX4_connect : ByteArray := prog_1_method_3_code
def yX4_connect : MethodName := ⟨RX4, "connect", "(IIII)I"⟩
abbrev cX4_cut : ByteArray := prog_1_method_4_code
def yX4_cut : MethodName := ⟨RX4, "cut", "(II)I"⟩
abbrev cX4_addHost : ByteArray := prog_1_method_5_code
def yX4_addHost : MethodName := ⟨RX4, "addHost", "(II)I"⟩
abbrev cX4_setTimes : ByteArray := prog_1_method_6_code
def yX4_setTimes : MethodName := ⟨RX4, "setTimes", "(II)I"⟩
abbrev cX4_join : ByteArray := prog_1_method_7_code
def yX4_join : MethodName := ⟨RX4, "join", "(II)I"⟩
abbrev cX4_leave : ByteArray := prog_1_method_8_code
def yX4_leave : MethodName := ⟨RX4, "leave", "(II)I"⟩
abbrev cX4_setSilent : ByteArray := prog_1_method_9_code
def yX4_setSilent : MethodName := ⟨RX4, "setSilent", "(IZ)I"⟩
abbrev cX4_loseNext : ByteArray := prog_1_method_10_code
def yX4_loseNext : MethodName := ⟨RX4, "loseNext", "(II)I"⟩
abbrev cX4_tick : ByteArray := prog_1_method_11_code
def yX4_tick : MethodName := ⟨RX4, "tick", "(I)I"⟩
abbrev cX4_time : ByteArray := prog_1_method_12_code
def yX4_time : MethodName := ⟨RX4, "time", "()I"⟩
abbrev cX4_registrar : ByteArray := prog_1_method_13_code
def yX4_registrar : MethodName := ⟨RX4, "registrar", "(III)I"⟩
abbrev cX4_registrarTimer : ByteArray := prog_1_method_14_code
def yX4_registrarTimer : MethodName := ⟨RX4, "registrarTimer", "(III)I"⟩
abbrev cX4_applicant : ByteArray := prog_1_method_15_code
def yX4_applicant : MethodName := ⟨RX4, "applicant", "(III)I"⟩
abbrev cX4_hostApplicant : ByteArray := prog_1_method_16_code
def yX4_hostApplicant : MethodName := ⟨RX4, "hostApplicant", "(II)I"⟩
abbrev cX4_leaveAllTimer : ByteArray := prog_1_method_17_code
def yX4_leaveAllTimer : MethodName := ⟨RX4, "leaveAllTimer", "(II)I"⟩
abbrev cX4_isSettled : ByteArray := prog_1_method_18_code
def yX4_isSettled : MethodName := ⟨RX4, "isSettled", "()I"⟩
abbrev cX4_receivers : ByteArray := prog_1_method_19_code
def yX4_receivers : MethodName := ⟨RX4, "receivers", "(II)I"⟩
abbrev cX4_missedCount : ByteArray := prog_1_method_20_code
def yX4_missedCount : MethodName := ⟨RX4, "missedCount", "(II)I"⟩
abbrev cX4_needlessCount : ByteArray := prog_1_method_21_code
def yX4_needlessCount : MethodName := ⟨RX4, "needlessCount", "(II)I"⟩
abbrev cX4_distance : ByteArray := prog_1_method_22_code
def yX4_distance : MethodName := ⟨RX4, "distance", "(II)I"⟩
abbrev cX4_isStation : ByteArray := prog_1_method_23_code
def yX4_isStation : MethodName := ⟨RX4, "isStation", "(I)Z"⟩
abbrev cX4_isPort : ByteArray := prog_1_method_24_code
def yX4_isPort : MethodName := ⟨RX4, "isPort", "(I)Z"⟩
abbrev cX4_isGroup : ByteArray := prog_1_method_25_code
def yX4_isGroup : MethodName := ⟨RX4, "isGroup", "(I)Z"⟩
abbrev cX4_bridgeOf : ByteArray := prog_1_method_26_code
def yX4_bridgeOf : MethodName := ⟨RX4, "bridgeOf", "(I)I"⟩
abbrev cX4_cellOf : ByteArray := prog_1_method_27_code
def yX4_cellOf : MethodName := ⟨RX4, "cellOf", "(II)I"⟩
abbrev cX4_contains : ByteArray := prog_1_method_28_code
def yX4_contains : MethodName := ⟨RX4, "contains", "(II)Z"⟩
abbrev cX4_cellOfPort : ByteArray := prog_1_method_29_code
def yX4_cellOfPort : MethodName := ⟨RX4, "cellOfPort", "(III)I"⟩
abbrev cX4_cellOfHost : ByteArray := prog_1_method_30_code
def yX4_cellOfHost : MethodName := ⟨RX4, "cellOfHost", "(II)I"⟩
abbrev cX4_startPort : ByteArray := prog_1_method_31_code
def yX4_startPort : MethodName := ⟨RX4, "startPort", "(I)V"⟩
abbrev cX4_clearPort : ByteArray := prog_1_method_32_code
def yX4_clearPort : MethodName := ⟨RX4, "clearPort", "(I)V"⟩
abbrev cX4_isRegisteredAt : ByteArray := prog_1_method_33_code
def yX4_isRegisteredAt : MethodName := ⟨RX4, "isRegisteredAt", "(II)Z"⟩
abbrev cX4_isWanted : ByteArray := prog_1_method_34_code
def yX4_isWanted : MethodName := ⟨RX4, "isWanted", "(II)Z"⟩
abbrev cX4_hasToSend : ByteArray := prog_1_method_35_code
def yX4_hasToSend : MethodName := ⟨RX4, "hasToSend", "(I)Z"⟩
abbrev cX4_isPortSettled : ByteArray := prog_1_method_36_code
def yX4_isPortSettled : MethodName := ⟨RX4, "isPortSettled", "(I)Z"⟩
abbrev cX4_runTimers : ByteArray := prog_1_method_37_code
def yX4_runTimers : MethodName := ⟨RX4, "runTimers", "()V"⟩
abbrev cX4_countDownRegistrars : ByteArray := prog_1_method_38_code
def yX4_countDownRegistrars : MethodName := ⟨RX4, "countDownRegistrars", "(I)V"⟩
abbrev cX4_countDownToLeaveAll : ByteArray := prog_1_method_39_code
def yX4_countDownToLeaveAll : MethodName := ⟨RX4, "countDownToLeaveAll", "(I)V"⟩
abbrev cX4_propagate : ByteArray := prog_1_method_40_code
def yX4_propagate : MethodName := ⟨RX4, "propagate", "()V"⟩
abbrev cX4_propagateTo : ByteArray := prog_1_method_41_code
def yX4_propagateTo : MethodName := ⟨RX4, "propagateTo", "(I)V"⟩
abbrev cX4_sendAll : ByteArray := prog_1_method_42_code
def yX4_sendAll : MethodName := ⟨RX4, "sendAll", "()I"⟩
abbrev cX4_sendFrom : ByteArray := prog_1_method_43_code
def yX4_sendFrom : MethodName := ⟨RX4, "sendFrom", "(I)I"⟩
abbrev cX4_obeyLeaveAll : ByteArray := prog_1_method_44_code
def yX4_obeyLeaveAll : MethodName := ⟨RX4, "obeyLeaveAll", "(I)V"⟩
abbrev cX4_receiveAll : ByteArray := prog_1_method_45_code
def yX4_receiveAll : MethodName := ⟨RX4, "receiveAll", "()V"⟩
abbrev cX4_receiveFrom : ByteArray := prog_1_method_46_code
def yX4_receiveFrom : MethodName := ⟨RX4, "receiveFrom", "(II)V"⟩
abbrev cX4_bridgesBetweenHosts : ByteArray := prog_1_method_47_code
def yX4_bridgesBetweenHosts : MethodName := ⟨RX4, "bridgesBetweenHosts", "(II)I"⟩
abbrev cX4_hostsReached : ByteArray := prog_1_method_48_code
def yX4_hostsReached : MethodName := ⟨RX4, "hostsReached", "(II)I"⟩
abbrev cX4_nextArrivals : ByteArray := prog_1_method_49_code
def yX4_nextArrivals : MethodName := ⟨RX4, "nextArrivals", "(II)I"⟩
abbrev cX4_arrivesBeside : ByteArray := prog_1_method_50_code
def yX4_arrivesBeside : MethodName := ⟨RX4, "arrivesBeside", "(II)Z"⟩
def RX5 : String := "GroupRegistrationModel"
def TX5 : u_T := fun k => match k with
  | 0 => ("GroupRegistrationModel", "bridges", "I", false)
  | 1 => ("GroupRegistrationModel", "hosts", "I", false)
  | 2 => ("GroupRegistrationModel", "links", "I", false)
  | 3 => ("GroupRegistrationModel", "peer", "[I", true)
  | 4 => ("GroupRegistrationModel", "hostPort", "[I", true)
  | 5 => ("GroupRegistrationModel", "isSilent", "[Z", true)
  | 6 => ("GroupRegistrationModel", "leaveTime", "I", false)
  | 7 => ("GroupRegistrationModel", "leaveAllTime", "I", false)
  | 8 => ("GroupRegistrationModel", "now", "I", false)
  | 9 => ("GroupRegistrationModel", "state", "[I", true)
  | 10 => ("GroupRegistrationModel", "timer", "[I", true)
  | 11 => ("GroupRegistrationModel", "applies", "[I", true)
  | 12 => ("GroupRegistrationModel", "joins", "[I", true)
  | 13 => ("GroupRegistrationModel", "allTimer", "[I", true)
  | 14 => ("GroupRegistrationModel", "isMarked", "[Z", true)
  | 15 => ("GroupRegistrationModel", "hostApplies", "[I", true)
  | 16 => ("GroupRegistrationModel", "hostJoins", "[I", true)
  | 17 => ("GroupRegistrationModel", "isDue", "[Z", true)
  | 18 => ("GroupRegistrationModel", "sendsAll", "[Z", true)
  | 19 => ("GroupRegistrationModel", "sends", "[I", true)
  | 20 => ("GroupRegistrationModel", "hostSends", "[I", true)
  | 21 => ("GroupRegistrationModel", "arrives", "[I", true)
  | _ => ("GroupRegistrationModel", "far", "[I", true)
def tyX5 : Nat → FieldType := fun k => match k with
  | 0 => .int
  | 1 => .int
  | 2 => .int
  | 3 => .array .int
  | 4 => .array .int
  | 5 => .array .boolean
  | 6 => .int
  | 7 => .int
  | 8 => .int
  | 9 => .array .int
  | 10 => .array .int
  | 11 => .array .int
  | 12 => .array .int
  | 13 => .array .int
  | 14 => .array .boolean
  | 15 => .array .int
  | 16 => .array .int
  | 17 => .array .boolean
  | 18 => .array .boolean
  | 19 => .array .int
  | 20 => .array .int
  | 21 => .array .int
  | _ => .array .int
abbrev wsX50 : List Cond := u_ws RX5 TX5 23
theorem nmX5 : ∀ a, a < 23 → ∀ b, b < 23 → a ≠ b → (TX5 a).2.1 ≠ (TX5 b).2.1 := by decide +kernel
theorem tyX5_ok : ∀ k, k < 23 → parseFieldDescriptor (TX5 k).2.2.1 = some (tyX5 k) := by decide +kernel
abbrev cX5_init : ByteArray := prog_7_method_1_code
def yX5_init : MethodName := ⟨RX5, "<init>", "()V"⟩
abbrev cX5_within : ByteArray := prog_7_method_2_code
def yX5_within : MethodName := ⟨RX5, "within", "(III)Z"⟩
abbrev cX5_isPort : ByteArray := prog_7_method_3_code
def yX5_isPort : MethodName := ⟨RX5, "isPort", "(II)Z"⟩
abbrev cX5_isHost : ByteArray := prog_7_method_4_code
def yX5_isHost : MethodName := ⟨RX5, "isHost", "(I)Z"⟩
abbrev cX5_isGroup : ByteArray := prog_7_method_5_code
def yX5_isGroup : MethodName := ⟨RX5, "isGroup", "(I)Z"⟩
abbrev cX5_isConnected : ByteArray := prog_7_method_6_code
def yX5_isConnected : MethodName := ⟨RX5, "isConnected", "(I)Z"⟩
abbrev cX5_isLinked : ByteArray := prog_7_method_7_code
def yX5_isLinked : MethodName := ⟨RX5, "isLinked", "(I)Z"⟩
abbrev cX5_addBridge : ByteArray := prog_7_method_8_code
def yX5_addBridge : MethodName := ⟨RX5, "addBridge", "()I"⟩
abbrev cX5_partOf : ByteArray := prog_7_method_9_code
def yX5_partOf : MethodName := ⟨RX5, "partOf", "(I)I"⟩
abbrev cX5_resets : ByteArray := prog_7_method_10_code
def yX5_resets : MethodName := ⟨RX5, "resets", "(II)V"⟩
abbrev cX5_connect : ByteArray := prog_7_method_11_code
def yX5_connect : MethodName := ⟨RX5, "connect", "(IIII)I"⟩
abbrev cX5_cut : ByteArray := prog_7_method_12_code
def yX5_cut : MethodName := ⟨RX5, "cut", "(II)I"⟩
abbrev cX5_addHost : ByteArray := prog_7_method_13_code
def yX5_addHost : MethodName := ⟨RX5, "addHost", "(II)I"⟩
abbrev cX5_setTimes : ByteArray := prog_7_method_14_code
def yX5_setTimes : MethodName := ⟨RX5, "setTimes", "(II)I"⟩
abbrev cX5_declares : ByteArray := prog_7_method_15_code
def yX5_declares : MethodName := ⟨RX5, "declares", "(I)Z"⟩
abbrev cX5_refusedHost : ByteArray := prog_7_method_16_code
def yX5_refusedHost : MethodName := ⟨RX5, "refusedHost", "(II)I"⟩
abbrev cX5_join : ByteArray := prog_7_method_17_code
def yX5_join : MethodName := ⟨RX5, "join", "(II)I"⟩
abbrev cX5_leave : ByteArray := prog_7_method_18_code
def yX5_leave : MethodName := ⟨RX5, "leave", "(II)I"⟩
abbrev cX5_setSilent : ByteArray := prog_7_method_19_code
def yX5_setSilent : MethodName := ⟨RX5, "setSilent", "(IZ)I"⟩
abbrev cX5_loseNext : ByteArray := prog_7_method_20_code
def yX5_loseNext : MethodName := ⟨RX5, "loseNext", "(II)I"⟩
abbrev cX5_ages : ByteArray := prog_7_method_21_code
def yX5_ages : MethodName := ⟨RX5, "ages", "(I)V"⟩
abbrev cX5_isWanted : ByteArray := prog_7_method_22_code
def yX5_isWanted : MethodName := ⟨RX5, "isWanted", "(II)Z"⟩
abbrev cX5_propagates : ByteArray := prog_7_method_23_code
def yX5_propagates : MethodName := ⟨RX5, "propagates", "(I)V"⟩
abbrev cX5_leavesAll : ByteArray := prog_7_method_24_code
def yX5_leavesAll : MethodName := ⟨RX5, "leavesAll", "(I)V"⟩
abbrev cX5_sendsOf : ByteArray := prog_7_method_25_code
def yX5_sendsOf : MethodName := ⟨RX5, "sendsOf", "(I)I"⟩
abbrev cX5_sendsOfHost : ByteArray := prog_7_method_26_code
def yX5_sendsOfHost : MethodName := ⟨RX5, "sendsOfHost", "(I)I"⟩
abbrev cX5_gets : ByteArray := prog_7_method_27_code
def yX5_gets : MethodName := ⟨RX5, "gets", "(II)V"⟩
abbrev cX5_hostLeavesAll : ByteArray := prog_7_method_28_code
def yX5_hostLeavesAll : MethodName := ⟨RX5, "hostLeavesAll", "(I)V"⟩
abbrev cX5_delivers : ByteArray := prog_7_method_29_code
def yX5_delivers : MethodName := ⟨RX5, "delivers", "(I)V"⟩
abbrev cX5_passes : ByteArray := prog_7_method_30_code
def yX5_passes : MethodName := ⟨RX5, "passes", "()I"⟩
abbrev cX5_tick : ByteArray := prog_7_method_31_code
def yX5_tick : MethodName := ⟨RX5, "tick", "(I)I"⟩
abbrev cX5_time : ByteArray := prog_7_method_32_code
def yX5_time : MethodName := ⟨RX5, "time", "()I"⟩
abbrev cX5_refusedPort : ByteArray := prog_7_method_33_code
def yX5_refusedPort : MethodName := ⟨RX5, "refusedPort", "(III)I"⟩
abbrev cX5_registrar : ByteArray := prog_7_method_34_code
def yX5_registrar : MethodName := ⟨RX5, "registrar", "(III)I"⟩
abbrev cX5_registrarTimer : ByteArray := prog_7_method_35_code
def yX5_registrarTimer : MethodName := ⟨RX5, "registrarTimer", "(III)I"⟩
abbrev cX5_applicant : ByteArray := prog_7_method_36_code
def yX5_applicant : MethodName := ⟨RX5, "applicant", "(III)I"⟩
abbrev cX5_hostApplicant : ByteArray := prog_7_method_37_code
def yX5_hostApplicant : MethodName := ⟨RX5, "hostApplicant", "(II)I"⟩
abbrev cX5_leaveAllTimer : ByteArray := prog_7_method_38_code
def yX5_leaveAllTimer : MethodName := ⟨RX5, "leaveAllTimer", "(II)I"⟩
abbrev cX5_isBusy : ByteArray := prog_7_method_39_code
def yX5_isBusy : MethodName := ⟨RX5, "isBusy", "(I)Z"⟩
abbrev cX5_isPortSettled : ByteArray := prog_7_method_40_code
def yX5_isPortSettled : MethodName := ⟨RX5, "isPortSettled", "(I)Z"⟩
abbrev cX5_isSettled : ByteArray := prog_7_method_41_code
def yX5_isSettled : MethodName := ⟨RX5, "isSettled", "()I"⟩
abbrev cX5_reached : ByteArray := prog_7_method_42_code
def yX5_reached : MethodName := ⟨RX5, "reached", "(II)I"⟩
abbrev cX5_receivers : ByteArray := prog_7_method_43_code
def yX5_receivers : MethodName := ⟨RX5, "receivers", "(II)I"⟩
abbrev cX5_missedCount : ByteArray := prog_7_method_44_code
def yX5_missedCount : MethodName := ⟨RX5, "missedCount", "(II)I"⟩
abbrev cX5_needlessCount : ByteArray := prog_7_method_45_code
def yX5_needlessCount : MethodName := ⟨RX5, "needlessCount", "(II)I"⟩
abbrev cX5_distance : ByteArray := prog_7_method_46_code
def yX5_distance : MethodName := ⟨RX5, "distance", "(II)I"⟩
def RJ7 : String := "java/util/Arrays"
def TJ7 : u_T := fun k => match k with
  | _ => ("", "", "", false)
def tyJ7 : Nat → FieldType := fun k => match k with
  | _ => .int
abbrev wsJ70 : List Cond := u_ws RJ7 TJ7 0
theorem nmJ7 : ∀ a, a < 0 → ∀ b, b < 0 → a ≠ b → (TJ7 a).2.1 ≠ (TJ7 b).2.1 := by decide +kernel
theorem tyJ7_ok : ∀ k, k < 0 → parseFieldDescriptor (TJ7 k).2.2.1 = some (tyJ7 k) := by decide +kernel
abbrev cJ7_fill_53178 : ByteArray := prog_8_method_103_code
def yJ7_fill_53178 : MethodName := ⟨RJ7, "fill", "([II)V"⟩
def RL : String := "GroupRegistrationLaw"
abbrev cL_law : ByteArray := code
def yL_law : MethodName := ⟨RL, "law", "([I)Z"⟩
def wsJ7_fill_53178 : List Cond := .code yJ7_fill_53178 cJ7_fill_53178 4 none :: ([])
def wsX0_init : List Cond := .code yX0_init cX0_init 1 none :: ([.methodLink RX0 3 objectInit, .instanceMethod objectInit, .code objectInit ⟨#[0xb1]⟩ 1 none, .arrayClass .int, .fieldLink RX0 9 "GroupRegistration$Applicants" "state" "[I", .fieldLink RX0 15 "GroupRegistration$Applicants" "joinsToSend" "[I", .methodLink RX0 18 yJ7_fill_53178, .static yJ7_fill_53178, .initialized RJ7, .code yJ7_fill_53178 cJ7_fill_53178 4 none] ++ wsX00)
def wsX0_change : List Cond := .code yX0_change cX0_change 4 none :: ([.fieldLink RX0 9 "GroupRegistration$Applicants" "state" "[I", .fieldLink RX0 15 "GroupRegistration$Applicants" "joinsToSend" "[I"] ++ wsX00)
def wsX0_isDeclaring : List Cond := .code yX0_isDeclaring cX0_isDeclaring 2 (some .boolean) :: ([.fieldLink RX0 9 "GroupRegistration$Applicants" "state" "[I"] ++ wsX00)
def wsX0_startDeclaring : List Cond := .code yX0_startDeclaring cX0_startDeclaring 2 (some .boolean) :: ([.methodLink RX0 24 yX0_isDeclaring, .instanceMethod yX0_isDeclaring, .selects RX0 yX0_isDeclaring yX0_isDeclaring, .initialized RX0, .code yX0_isDeclaring cX0_isDeclaring 2 (some .boolean), .fieldLink RX0 9 "GroupRegistration$Applicants" "state" "[I", .methodLink RX0 28 yX0_change, .instanceMethod yX0_change, .selects RX0 yX0_change yX0_change, .code yX0_change cX0_change 4 none, .fieldLink RX0 15 "GroupRegistration$Applicants" "joinsToSend" "[I"] ++ wsX00)
def wsX0_stopDeclaring : List Cond := .code yX0_stopDeclaring cX0_stopDeclaring 2 (some .boolean) :: ([.methodLink RX0 24 yX0_isDeclaring, .instanceMethod yX0_isDeclaring, .selects RX0 yX0_isDeclaring yX0_isDeclaring, .initialized RX0, .code yX0_isDeclaring cX0_isDeclaring 2 (some .boolean), .fieldLink RX0 9 "GroupRegistration$Applicants" "state" "[I", .methodLink RX0 28 yX0_change, .instanceMethod yX0_change, .selects RX0 yX0_change yX0_change, .code yX0_change cX0_change 4 none, .fieldLink RX0 15 "GroupRegistration$Applicants" "joinsToSend" "[I"] ++ wsX00)
def wsX0_declareAgain : List Cond := .code yX0_declareAgain cX0_declareAgain 2 none :: ([.fieldLink RX0 9 "GroupRegistration$Applicants" "state" "[I", .methodLink RX0 28 yX0_change, .instanceMethod yX0_change, .selects RX0 yX0_change yX0_change, .initialized RX0, .code yX0_change cX0_change 4 none, .fieldLink RX0 15 "GroupRegistration$Applicants" "joinsToSend" "[I"] ++ wsX00)
def wsX0_nextMessage : List Cond := .code yX0_nextMessage cX0_nextMessage 2 (some .int) :: ([.fieldLink RX0 9 "GroupRegistration$Applicants" "state" "[I", .fieldLink RX0 15 "GroupRegistration$Applicants" "joinsToSend" "[I"] ++ wsX00)
def wsX1_init : List Cond := .code yX1_init cX1_init 1 none :: ([.methodLink RX1 3 objectInit, .instanceMethod objectInit, .code objectInit ⟨#[0xb1]⟩ 1 none, .arrayClass .int, .fieldLink RX1 9 "GroupRegistration$Network" "otherEnd" "[I", .fieldLink RX1 15 "GroupRegistration$Network" "bridgeCount" "I", .fieldLink RX1 19 "GroupRegistration$Network" "hostCount" "I", .fieldLink RX1 22 "GroupRegistration$Network" "linkCount" "I", .methodLink RX1 25 yJ7_fill_53178, .static yJ7_fill_53178, .initialized RJ7, .code yJ7_fill_53178 cJ7_fill_53178 4 none] ++ wsX10)
def wsX1_stationOfPort : List Cond := .code yX1_stationOfPort cX1_stationOfPort 3 (some .int) :: ([.fieldLink RX1 15 "GroupRegistration$Network" "bridgeCount" "I"] ++ wsX10)
def wsX1_stationOfHost : List Cond := .code yX1_stationOfHost cX1_stationOfHost 2 (some .int) :: ([.fieldLink RX1 19 "GroupRegistration$Network" "hostCount" "I"] ++ wsX10)
def wsX4_isStation : List Cond := .code yX4_isStation cX4_isStation 1 (some .boolean) :: ([])
def wsX1_isConnected : List Cond := .code yX1_isConnected cX1_isConnected 2 (some .boolean) :: ([.fieldLink RX1 9 "GroupRegistration$Network" "otherEnd" "[I", .static yX4_isStation, .initialized RX4, .code yX4_isStation cX4_isStation 1 (some .boolean)] ++ wsX10)
def wsX1_tie : List Cond := .code yX1_tie cX1_tie 3 none :: ([.fieldLink RX1 9 "GroupRegistration$Network" "otherEnd" "[I"] ++ wsX10)
def wsX1_untie : List Cond := .code yX1_untie cX1_untie 3 none :: ([.fieldLink RX1 9 "GroupRegistration$Network" "otherEnd" "[I"] ++ wsX10)
def wsX4_contains : List Cond := .code yX4_contains cX4_contains 2 (some .boolean) :: ([])
def wsX4_bridgeOf : List Cond := .code yX4_bridgeOf cX4_bridgeOf 1 (some .int) :: ([])
def wsX4_isPort : List Cond := .code yX4_isPort cX4_isPort 1 (some .boolean) :: ([])
def wsX1_neighboursOf : List Cond := .code yX1_neighboursOf cX1_neighboursOf 5 (some .int) :: ([.fieldLink RX1 9 "GroupRegistration$Network" "otherEnd" "[I", .static yX4_bridgeOf, .initialized RX4, .code yX4_bridgeOf cX4_bridgeOf 1 (some .int), .static yX4_contains, .code yX4_contains cX4_contains 2 (some .boolean), .static yX4_isPort, .code yX4_isPort cX4_isPort 1 (some .boolean)] ++ wsX10)
def wsX1_bridgesOnWay : List Cond := .code yX1_bridgesOnWay cX1_bridgesOnWay 5 (some .int) :: ([.static yX4_contains, .initialized RX4, .code yX4_contains cX4_contains 2 (some .boolean), .methodLink RX1 39 yX1_neighboursOf, .instanceMethod yX1_neighboursOf, .selects RX1 yX1_neighboursOf yX1_neighboursOf, .initialized RX1, .code yX1_neighboursOf cX1_neighboursOf 5 (some .int), .fieldLink RX1 9 "GroupRegistration$Network" "otherEnd" "[I", .static yX4_bridgeOf, .code yX4_bridgeOf cX4_bridgeOf 1 (some .int), .static yX4_isPort, .code yX4_isPort cX4_isPort 1 (some .boolean)] ++ wsX10)
def wsX2_init : List Cond := .code yX2_init cX2_init 1 none :: ([.methodLink RX2 3 objectInit, .instanceMethod objectInit, .code objectInit ⟨#[0xb1]⟩ 1 none, .arrayClass .boolean, .fieldLink RX2 9 "GroupRegistration$Outbox" "leaveAll" "[Z", .arrayClass .int, .fieldLink RX2 15 "GroupRegistration$Outbox" "message" "[I"] ++ wsX20)
def wsX2_clear : List Cond := .code yX2_clear cX2_clear 2 none :: ([.fieldLink RX2 9 "GroupRegistration$Outbox" "leaveAll" "[Z", .fieldLink RX2 15 "GroupRegistration$Outbox" "message" "[I", .methodLink RX2 19 yJ7_fill_53178, .static yJ7_fill_53178, .initialized RJ7, .code yJ7_fill_53178 cJ7_fill_53178 4 none] ++ wsX20)
def wsX3_init : List Cond := .code yX3_init cX3_init 1 none :: ([.methodLink RX3 3 objectInit, .instanceMethod objectInit, .code objectInit ⟨#[0xb1]⟩ 1 none, .arrayClass .int, .fieldLink RX3 9 "GroupRegistration$Registrars" "state" "[I", .fieldLink RX3 15 "GroupRegistration$Registrars" "timer" "[I", .methodLink RX3 18 yJ7_fill_53178, .static yJ7_fill_53178, .initialized RJ7, .code yJ7_fill_53178 cJ7_fill_53178 4 none] ++ wsX30)
def wsX3_change : List Cond := .code yX3_change cX3_change 4 none :: ([.fieldLink RX3 9 "GroupRegistration$Registrars" "state" "[I", .fieldLink RX3 15 "GroupRegistration$Registrars" "timer" "[I"] ++ wsX30)
def wsX3_startLeaving : List Cond := .code yX3_startLeaving cX3_startLeaving 3 none :: ([.fieldLink RX3 9 "GroupRegistration$Registrars" "state" "[I", .methodLink RX3 24 yX3_change, .instanceMethod yX3_change, .selects RX3 yX3_change yX3_change, .initialized RX3, .code yX3_change cX3_change 4 none, .fieldLink RX3 15 "GroupRegistration$Registrars" "timer" "[I"] ++ wsX30)
def wsX3_hear : List Cond := .code yX3_hear cX3_hear 4 none :: ([.methodLink RX3 24 yX3_change, .instanceMethod yX3_change, .selects RX3 yX3_change yX3_change, .initialized RX3, .code yX3_change cX3_change 4 none, .fieldLink RX3 9 "GroupRegistration$Registrars" "state" "[I", .fieldLink RX3 15 "GroupRegistration$Registrars" "timer" "[I", .methodLink RX3 28 yX3_startLeaving, .instanceMethod yX3_startLeaving, .selects RX3 yX3_startLeaving yX3_startLeaving, .code yX3_startLeaving cX3_startLeaving 3 none] ++ wsX30)
def wsX3_countDown : List Cond := .code yX3_countDown cX3_countDown 2 none :: ([.fieldLink RX3 9 "GroupRegistration$Registrars" "state" "[I", .fieldLink RX3 15 "GroupRegistration$Registrars" "timer" "[I"] ++ wsX30)
def wsX4_init_r1 : List Cond := [Cond.methodLink RX4 3 objectInit, Cond.instanceMethod objectInit, Cond.code objectInit ⟨#[0xb1]⟩ 1 none, Cond.classLink RX4 9 RX1, Cond.instantiable RX1 4, Cond.initialized RX1, Cond.fieldLink RX4 12 "GroupRegistration" "network" "LGroupRegistration$Network;", Cond.classLink RX4 16 RX3, Cond.instantiable RX3 2, Cond.initialized RX3, Cond.fieldLink RX4 19 "GroupRegistration" "registrars" "LGroupRegistration$Registrars;", Cond.classLink RX4 23 RX0, Cond.instantiable RX0 2, Cond.initialized RX0, Cond.fieldLink RX4 26 "GroupRegistration" "applicants" "LGroupRegistration$Applicants;", Cond.classLink RX4 30 RX2, Cond.instantiable RX2 2, Cond.initialized RX2, Cond.fieldLink RX4 33 "GroupRegistration" "outbox" "LGroupRegistration$Outbox;", Cond.arrayClass .int, Cond.fieldLink RX4 37 "GroupRegistration" "leaveAllCountdown" "[I", Cond.arrayClass .boolean, Cond.fieldLink RX4 41 "GroupRegistration" "leaveAllDue" "[Z", Cond.fieldLink RX4 45 "GroupRegistration" "markedForLoss" "[Z"]
def wsX4_init_r2 : List Cond := [Cond.fieldLink RX4 48 "GroupRegistration" "silenced" "[Z", Cond.fieldLink RX4 51 "GroupRegistration" "leaveTime" "I", Cond.fieldLink RX4 55 "GroupRegistration" "leaveAllTime" "I", Cond.fieldLink RX4 58 "GroupRegistration" "now" "I", Cond.instanceMethod yX1_init, Cond.code yX1_init cX1_init 1 none, Cond.methodLink RX1 3 objectInit, Cond.fieldLink RX1 9 "GroupRegistration$Network" "otherEnd" "[I", Cond.fieldLink RX1 15 "GroupRegistration$Network" "bridgeCount" "I", Cond.fieldLink RX1 19 "GroupRegistration$Network" "hostCount" "I", Cond.fieldLink RX1 22 "GroupRegistration$Network" "linkCount" "I", Cond.methodLink RX1 25 yJ7_fill_53178, Cond.static yJ7_fill_53178, Cond.initialized RJ7, Cond.code yJ7_fill_53178 cJ7_fill_53178 4 none, Cond.instanceMethod yX3_init, Cond.code yX3_init cX3_init 1 none, Cond.methodLink RX3 3 objectInit, Cond.fieldLink RX3 9 "GroupRegistration$Registrars" "state" "[I", Cond.fieldLink RX3 15 "GroupRegistration$Registrars" "timer" "[I", Cond.methodLink RX3 18 yJ7_fill_53178, Cond.instanceMethod yX0_init, Cond.code yX0_init cX0_init 1 none, Cond.methodLink RX0 3 objectInit]
def wsX4_init_r3 : List Cond := [Cond.fieldLink RX0 9 "GroupRegistration$Applicants" "state" "[I", Cond.fieldLink RX0 15 "GroupRegistration$Applicants" "joinsToSend" "[I", Cond.methodLink RX0 18 yJ7_fill_53178, Cond.instanceMethod yX2_init, Cond.code yX2_init cX2_init 1 none, Cond.methodLink RX2 3 objectInit, Cond.fieldLink RX2 9 "GroupRegistration$Outbox" "leaveAll" "[Z", Cond.fieldLink RX2 15 "GroupRegistration$Outbox" "message" "[I"]
def wsX4_init : List Cond := .code yX4_init cX4_init 1 none :: ((wsX4_init_r1 ++ (wsX4_init_r2 ++ wsX4_init_r3)) ++ wsX10 ++ wsX40 ++ wsX30 ++ wsX00 ++ wsX20)
def wsX4_addBridge : List Cond := .code yX4_addBridge cX4_addBridge 2 (some .int) :: ([.fieldLink RX4 12 "GroupRegistration" "network" "LGroupRegistration$Network;"] ++ wsX40 ++ wsX10)
def wsX4_startPort : List Cond := .code yX4_startPort cX4_startPort 2 none :: ([.fieldLink RX4 37 "GroupRegistration" "leaveAllCountdown" "[I", .fieldLink RX4 55 "GroupRegistration" "leaveAllTime" "I"] ++ wsX40)
def wsX4_connect_r1 : List Cond := [Cond.fieldLink RX4 12 "GroupRegistration" "network" "LGroupRegistration$Network;", Cond.instanceMethod yX1_stationOfPort, Cond.initialized RX1, Cond.selects RX1 yX1_stationOfPort yX1_stationOfPort, Cond.code yX1_stationOfPort cX1_stationOfPort 3 (some .int), Cond.fieldLink RX1 15 "GroupRegistration$Network" "bridgeCount" "I", Cond.instanceMethod yX1_isConnected, Cond.selects RX1 yX1_isConnected yX1_isConnected, Cond.code yX1_isConnected cX1_isConnected 2 (some .boolean), Cond.fieldLink RX1 9 "GroupRegistration$Network" "otherEnd" "[I", Cond.static yX4_isStation, Cond.initialized RX4, Cond.code yX4_isStation cX4_isStation 1 (some .boolean), Cond.instanceMethod yX1_bridgesOnWay, Cond.selects RX1 yX1_bridgesOnWay yX1_bridgesOnWay, Cond.code yX1_bridgesOnWay cX1_bridgesOnWay 5 (some .int), Cond.static yX4_contains, Cond.code yX4_contains cX4_contains 2 (some .boolean), Cond.methodLink RX1 39 yX1_neighboursOf, Cond.instanceMethod yX1_neighboursOf, Cond.selects RX1 yX1_neighboursOf yX1_neighboursOf, Cond.code yX1_neighboursOf cX1_neighboursOf 5 (some .int), Cond.static yX4_bridgeOf, Cond.code yX4_bridgeOf cX4_bridgeOf 1 (some .int)]
def wsX4_connect_r2 : List Cond := [Cond.static yX4_isPort, Cond.code yX4_isPort cX4_isPort 1 (some .boolean), Cond.instanceMethod yX1_tie, Cond.selects RX1 yX1_tie yX1_tie, Cond.code yX1_tie cX1_tie 3 none, Cond.methodLink RX4 82 yX4_startPort, Cond.instanceMethod yX4_startPort, Cond.selects RX4 yX4_startPort yX4_startPort, Cond.code yX4_startPort cX4_startPort 2 none, Cond.fieldLink RX4 37 "GroupRegistration" "leaveAllCountdown" "[I", Cond.fieldLink RX4 55 "GroupRegistration" "leaveAllTime" "I"]
def wsX4_connect : List Cond := .code yX4_connect cX4_connect 7 (some .int) :: ((wsX4_connect_r1 ++ wsX4_connect_r2) ++ wsX40 ++ wsX10)
def wsX4_cellOf : List Cond := .code yX4_cellOf cX4_cellOf 2 (some .int) :: ([])
def wsX4_clearPort : List Cond := .code yX4_clearPort cX4_clearPort 3 none :: ([.fieldLink RX4 19 "GroupRegistration" "registrars" "LGroupRegistration$Registrars;", .fieldLink RX4 26 "GroupRegistration" "applicants" "LGroupRegistration$Applicants;", .fieldLink RX4 37 "GroupRegistration" "leaveAllCountdown" "[I", .fieldLink RX4 45 "GroupRegistration" "markedForLoss" "[Z", .methodLink RX4 150 yX4_cellOf, .static yX4_cellOf, .initialized RX4, .code yX4_cellOf cX4_cellOf 2 (some .int), .instanceMethod yX3_change, .initialized RX3, .selects RX3 yX3_change yX3_change, .code yX3_change cX3_change 4 none, .fieldLink RX3 9 "GroupRegistration$Registrars" "state" "[I", .fieldLink RX3 15 "GroupRegistration$Registrars" "timer" "[I", .instanceMethod yX0_change, .initialized RX0, .selects RX0 yX0_change yX0_change, .code yX0_change cX0_change 4 none, .fieldLink RX0 9 "GroupRegistration$Applicants" "state" "[I", .fieldLink RX0 15 "GroupRegistration$Applicants" "joinsToSend" "[I"] ++ wsX40 ++ wsX30 ++ wsX00)
def wsX4_cut_r1 : List Cond := [Cond.fieldLink RX4 12 "GroupRegistration" "network" "LGroupRegistration$Network;", Cond.instanceMethod yX1_stationOfPort, Cond.initialized RX1, Cond.selects RX1 yX1_stationOfPort yX1_stationOfPort, Cond.code yX1_stationOfPort cX1_stationOfPort 3 (some .int), Cond.fieldLink RX1 15 "GroupRegistration$Network" "bridgeCount" "I", Cond.methodLink RX4 89 yX4_isPort, Cond.static yX4_isPort, Cond.initialized RX4, Cond.code yX4_isPort cX4_isPort 1 (some .boolean), Cond.instanceMethod yX1_untie, Cond.selects RX1 yX1_untie yX1_untie, Cond.code yX1_untie cX1_untie 3 none, Cond.fieldLink RX1 9 "GroupRegistration$Network" "otherEnd" "[I", Cond.methodLink RX4 95 yX4_clearPort, Cond.instanceMethod yX4_clearPort, Cond.selects RX4 yX4_clearPort yX4_clearPort, Cond.code yX4_clearPort cX4_clearPort 3 none, Cond.fieldLink RX4 19 "GroupRegistration" "registrars" "LGroupRegistration$Registrars;", Cond.fieldLink RX4 26 "GroupRegistration" "applicants" "LGroupRegistration$Applicants;", Cond.fieldLink RX4 37 "GroupRegistration" "leaveAllCountdown" "[I", Cond.fieldLink RX4 45 "GroupRegistration" "markedForLoss" "[Z", Cond.methodLink RX4 150 yX4_cellOf, Cond.static yX4_cellOf]
def wsX4_cut_r2 : List Cond := [Cond.code yX4_cellOf cX4_cellOf 2 (some .int), Cond.instanceMethod yX3_change, Cond.initialized RX3, Cond.selects RX3 yX3_change yX3_change, Cond.code yX3_change cX3_change 4 none, Cond.fieldLink RX3 9 "GroupRegistration$Registrars" "state" "[I", Cond.fieldLink RX3 15 "GroupRegistration$Registrars" "timer" "[I", Cond.instanceMethod yX0_change, Cond.initialized RX0, Cond.selects RX0 yX0_change yX0_change, Cond.code yX0_change cX0_change 4 none, Cond.fieldLink RX0 9 "GroupRegistration$Applicants" "state" "[I", Cond.fieldLink RX0 15 "GroupRegistration$Applicants" "joinsToSend" "[I"]
def wsX4_cut : List Cond := .code yX4_cut cX4_cut 5 (some .int) :: ((wsX4_cut_r1 ++ wsX4_cut_r2) ++ wsX40 ++ wsX10 ++ wsX30 ++ wsX00)
def wsX4_addHost : List Cond := .code yX4_addHost cX4_addHost 5 (some .int) :: ([.fieldLink RX4 12 "GroupRegistration" "network" "LGroupRegistration$Network;", .instanceMethod yX1_stationOfPort, .initialized RX1, .selects RX1 yX1_stationOfPort yX1_stationOfPort, .code yX1_stationOfPort cX1_stationOfPort 3 (some .int), .fieldLink RX1 15 "GroupRegistration$Network" "bridgeCount" "I", .instanceMethod yX1_isConnected, .selects RX1 yX1_isConnected yX1_isConnected, .code yX1_isConnected cX1_isConnected 2 (some .boolean), .fieldLink RX1 9 "GroupRegistration$Network" "otherEnd" "[I", .static yX4_isStation, .initialized RX4, .code yX4_isStation cX4_isStation 1 (some .boolean), .instanceMethod yX1_tie, .selects RX1 yX1_tie yX1_tie, .code yX1_tie cX1_tie 3 none, .methodLink RX4 82 yX4_startPort, .instanceMethod yX4_startPort, .selects RX4 yX4_startPort yX4_startPort, .code yX4_startPort cX4_startPort 2 none, .fieldLink RX4 37 "GroupRegistration" "leaveAllCountdown" "[I", .fieldLink RX4 55 "GroupRegistration" "leaveAllTime" "I"] ++ wsX40 ++ wsX10)
def wsX4_setTimes : List Cond := .code yX4_setTimes cX4_setTimes 5 (some .int) :: ([.fieldLink RX4 51 "GroupRegistration" "leaveTime" "I", .fieldLink RX4 55 "GroupRegistration" "leaveAllTime" "I", .fieldLink RX4 12 "GroupRegistration" "network" "LGroupRegistration$Network;", .instanceMethod yX1_isConnected, .initialized RX1, .selects RX1 yX1_isConnected yX1_isConnected, .code yX1_isConnected cX1_isConnected 2 (some .boolean), .fieldLink RX1 9 "GroupRegistration$Network" "otherEnd" "[I", .static yX4_isStation, .initialized RX4, .code yX4_isStation cX4_isStation 1 (some .boolean), .methodLink RX4 82 yX4_startPort, .instanceMethod yX4_startPort, .selects RX4 yX4_startPort yX4_startPort, .code yX4_startPort cX4_startPort 2 none, .fieldLink RX4 37 "GroupRegistration" "leaveAllCountdown" "[I"] ++ wsX40 ++ wsX10)
def wsX4_isGroup : List Cond := .code yX4_isGroup cX4_isGroup 1 (some .boolean) :: ([])
def wsX4_cellOfHost : List Cond := .code yX4_cellOfHost cX4_cellOfHost 4 (some .int) :: ([.fieldLink RX4 12 "GroupRegistration" "network" "LGroupRegistration$Network;", .instanceMethod yX1_stationOfHost, .initialized RX1, .selects RX1 yX1_stationOfHost yX1_stationOfHost, .code yX1_stationOfHost cX1_stationOfHost 2 (some .int), .fieldLink RX1 19 "GroupRegistration$Network" "hostCount" "I", .methodLink RX4 160 yX4_isGroup, .static yX4_isGroup, .initialized RX4, .code yX4_isGroup cX4_isGroup 1 (some .boolean), .methodLink RX4 150 yX4_cellOf, .static yX4_cellOf, .code yX4_cellOf cX4_cellOf 2 (some .int)] ++ wsX40 ++ wsX10)
def wsX4_join_r1 : List Cond := [Cond.fieldLink RX4 26 "GroupRegistration" "applicants" "LGroupRegistration$Applicants;", Cond.methodLink RX4 101 yX4_cellOfHost, Cond.instanceMethod yX4_cellOfHost, Cond.selects RX4 yX4_cellOfHost yX4_cellOfHost, Cond.initialized RX4, Cond.code yX4_cellOfHost cX4_cellOfHost 4 (some .int), Cond.fieldLink RX4 12 "GroupRegistration" "network" "LGroupRegistration$Network;", Cond.instanceMethod yX1_stationOfHost, Cond.initialized RX1, Cond.selects RX1 yX1_stationOfHost yX1_stationOfHost, Cond.code yX1_stationOfHost cX1_stationOfHost 2 (some .int), Cond.fieldLink RX1 19 "GroupRegistration$Network" "hostCount" "I", Cond.methodLink RX4 160 yX4_isGroup, Cond.static yX4_isGroup, Cond.code yX4_isGroup cX4_isGroup 1 (some .boolean), Cond.methodLink RX4 150 yX4_cellOf, Cond.static yX4_cellOf, Cond.code yX4_cellOf cX4_cellOf 2 (some .int), Cond.instanceMethod yX0_startDeclaring, Cond.initialized RX0, Cond.selects RX0 yX0_startDeclaring yX0_startDeclaring, Cond.code yX0_startDeclaring cX0_startDeclaring 2 (some .boolean), Cond.methodLink RX0 24 yX0_isDeclaring, Cond.instanceMethod yX0_isDeclaring]
def wsX4_join_r2 : List Cond := [Cond.selects RX0 yX0_isDeclaring yX0_isDeclaring, Cond.code yX0_isDeclaring cX0_isDeclaring 2 (some .boolean), Cond.fieldLink RX0 9 "GroupRegistration$Applicants" "state" "[I", Cond.methodLink RX0 28 yX0_change, Cond.instanceMethod yX0_change, Cond.selects RX0 yX0_change yX0_change, Cond.code yX0_change cX0_change 4 none, Cond.fieldLink RX0 15 "GroupRegistration$Applicants" "joinsToSend" "[I"]
def wsX4_join : List Cond := .code yX4_join cX4_join 4 (some .int) :: ((wsX4_join_r1 ++ wsX4_join_r2) ++ wsX40 ++ wsX10 ++ wsX00)
def wsX4_leave_r1 : List Cond := [Cond.fieldLink RX4 26 "GroupRegistration" "applicants" "LGroupRegistration$Applicants;", Cond.methodLink RX4 101 yX4_cellOfHost, Cond.instanceMethod yX4_cellOfHost, Cond.selects RX4 yX4_cellOfHost yX4_cellOfHost, Cond.initialized RX4, Cond.code yX4_cellOfHost cX4_cellOfHost 4 (some .int), Cond.fieldLink RX4 12 "GroupRegistration" "network" "LGroupRegistration$Network;", Cond.instanceMethod yX1_stationOfHost, Cond.initialized RX1, Cond.selects RX1 yX1_stationOfHost yX1_stationOfHost, Cond.code yX1_stationOfHost cX1_stationOfHost 2 (some .int), Cond.fieldLink RX1 19 "GroupRegistration$Network" "hostCount" "I", Cond.methodLink RX4 160 yX4_isGroup, Cond.static yX4_isGroup, Cond.code yX4_isGroup cX4_isGroup 1 (some .boolean), Cond.methodLink RX4 150 yX4_cellOf, Cond.static yX4_cellOf, Cond.code yX4_cellOf cX4_cellOf 2 (some .int), Cond.instanceMethod yX0_stopDeclaring, Cond.initialized RX0, Cond.selects RX0 yX0_stopDeclaring yX0_stopDeclaring, Cond.code yX0_stopDeclaring cX0_stopDeclaring 2 (some .boolean), Cond.methodLink RX0 24 yX0_isDeclaring, Cond.instanceMethod yX0_isDeclaring]
def wsX4_leave_r2 : List Cond := [Cond.selects RX0 yX0_isDeclaring yX0_isDeclaring, Cond.code yX0_isDeclaring cX0_isDeclaring 2 (some .boolean), Cond.fieldLink RX0 9 "GroupRegistration$Applicants" "state" "[I", Cond.methodLink RX0 28 yX0_change, Cond.instanceMethod yX0_change, Cond.selects RX0 yX0_change yX0_change, Cond.code yX0_change cX0_change 4 none, Cond.fieldLink RX0 15 "GroupRegistration$Applicants" "joinsToSend" "[I"]
def wsX4_leave : List Cond := .code yX4_leave cX4_leave 4 (some .int) :: ((wsX4_leave_r1 ++ wsX4_leave_r2) ++ wsX40 ++ wsX10 ++ wsX00)
def wsX4_setSilent : List Cond := .code yX4_setSilent cX4_setSilent 5 (some .int) :: ([.fieldLink RX4 12 "GroupRegistration" "network" "LGroupRegistration$Network;", .fieldLink RX4 48 "GroupRegistration" "silenced" "[Z", .instanceMethod yX1_stationOfHost, .initialized RX1, .selects RX1 yX1_stationOfHost yX1_stationOfHost, .code yX1_stationOfHost cX1_stationOfHost 2 (some .int), .fieldLink RX1 19 "GroupRegistration$Network" "hostCount" "I"] ++ wsX40 ++ wsX10)
def wsX4_loseNext : List Cond := .code yX4_loseNext cX4_loseNext 5 (some .int) :: ([.fieldLink RX4 12 "GroupRegistration" "network" "LGroupRegistration$Network;", .fieldLink RX4 45 "GroupRegistration" "markedForLoss" "[Z", .instanceMethod yX1_stationOfPort, .initialized RX1, .selects RX1 yX1_stationOfPort yX1_stationOfPort, .code yX1_stationOfPort cX1_stationOfPort 3 (some .int), .fieldLink RX1 15 "GroupRegistration$Network" "bridgeCount" "I", .methodLink RX4 89 yX4_isPort, .static yX4_isPort, .initialized RX4, .code yX4_isPort cX4_isPort 1 (some .boolean)] ++ wsX40 ++ wsX10)
def wsX4_countDownRegistrars : List Cond := .code yX4_countDownRegistrars cX4_countDownRegistrars 3 none :: ([.fieldLink RX4 19 "GroupRegistration" "registrars" "LGroupRegistration$Registrars;", .methodLink RX4 150 yX4_cellOf, .static yX4_cellOf, .initialized RX4, .code yX4_cellOf cX4_cellOf 2 (some .int), .instanceMethod yX3_countDown, .initialized RX3, .selects RX3 yX3_countDown yX3_countDown, .code yX3_countDown cX3_countDown 2 none, .fieldLink RX3 9 "GroupRegistration$Registrars" "state" "[I", .fieldLink RX3 15 "GroupRegistration$Registrars" "timer" "[I"] ++ wsX40 ++ wsX30)
def wsX4_countDownToLeaveAll : List Cond := .code yX4_countDownToLeaveAll cX4_countDownToLeaveAll 2 none :: ([.fieldLink RX4 37 "GroupRegistration" "leaveAllCountdown" "[I", .fieldLink RX4 41 "GroupRegistration" "leaveAllDue" "[Z", .fieldLink RX4 55 "GroupRegistration" "leaveAllTime" "I"] ++ wsX40)
def wsX4_runTimers_r1 : List Cond := [Cond.fieldLink RX4 41 "GroupRegistration" "leaveAllDue" "[Z", Cond.fieldLink RX4 12 "GroupRegistration" "network" "LGroupRegistration$Network;", Cond.instanceMethod yX1_isConnected, Cond.initialized RX1, Cond.selects RX1 yX1_isConnected yX1_isConnected, Cond.code yX1_isConnected cX1_isConnected 2 (some .boolean), Cond.fieldLink RX1 9 "GroupRegistration$Network" "otherEnd" "[I", Cond.static yX4_isStation, Cond.initialized RX4, Cond.code yX4_isStation cX4_isStation 1 (some .boolean), Cond.methodLink RX4 177 yX4_countDownRegistrars, Cond.instanceMethod yX4_countDownRegistrars, Cond.selects RX4 yX4_countDownRegistrars yX4_countDownRegistrars, Cond.code yX4_countDownRegistrars cX4_countDownRegistrars 3 none, Cond.fieldLink RX4 19 "GroupRegistration" "registrars" "LGroupRegistration$Registrars;", Cond.methodLink RX4 150 yX4_cellOf, Cond.static yX4_cellOf, Cond.code yX4_cellOf cX4_cellOf 2 (some .int), Cond.instanceMethod yX3_countDown, Cond.initialized RX3, Cond.selects RX3 yX3_countDown yX3_countDown, Cond.code yX3_countDown cX3_countDown 2 none, Cond.fieldLink RX3 9 "GroupRegistration$Registrars" "state" "[I", Cond.fieldLink RX3 15 "GroupRegistration$Registrars" "timer" "[I"]
def wsX4_runTimers_r2 : List Cond := [Cond.methodLink RX4 180 yX4_countDownToLeaveAll, Cond.instanceMethod yX4_countDownToLeaveAll, Cond.selects RX4 yX4_countDownToLeaveAll yX4_countDownToLeaveAll, Cond.code yX4_countDownToLeaveAll cX4_countDownToLeaveAll 2 none, Cond.fieldLink RX4 37 "GroupRegistration" "leaveAllCountdown" "[I", Cond.fieldLink RX4 55 "GroupRegistration" "leaveAllTime" "I"]
def wsX4_runTimers : List Cond := .code yX4_runTimers cX4_runTimers 2 none :: ((wsX4_runTimers_r1 ++ wsX4_runTimers_r2) ++ wsX40 ++ wsX10 ++ wsX30)
def wsX4_isRegisteredAt : List Cond := .code yX4_isRegisteredAt cX4_isRegisteredAt 3 (some .boolean) :: ([.fieldLink RX4 12 "GroupRegistration" "network" "LGroupRegistration$Network;", .fieldLink RX4 19 "GroupRegistration" "registrars" "LGroupRegistration$Registrars;", .instanceMethod yX1_isConnected, .initialized RX1, .selects RX1 yX1_isConnected yX1_isConnected, .code yX1_isConnected cX1_isConnected 2 (some .boolean), .fieldLink RX1 9 "GroupRegistration$Network" "otherEnd" "[I", .static yX4_isStation, .initialized RX4, .code yX4_isStation cX4_isStation 1 (some .boolean), .methodLink RX4 150 yX4_cellOf, .static yX4_cellOf, .code yX4_cellOf cX4_cellOf 2 (some .int)] ++ wsX40 ++ wsX30 ++ wsX10)
def wsX4_isWanted : List Cond := .code yX4_isWanted cX4_isWanted 5 (some .boolean) :: ([.methodLink RX4 168 yX4_bridgeOf, .static yX4_bridgeOf, .initialized RX4, .code yX4_bridgeOf cX4_bridgeOf 1 (some .int), .methodLink RX4 171 yX4_isRegisteredAt, .instanceMethod yX4_isRegisteredAt, .selects RX4 yX4_isRegisteredAt yX4_isRegisteredAt, .code yX4_isRegisteredAt cX4_isRegisteredAt 3 (some .boolean), .fieldLink RX4 12 "GroupRegistration" "network" "LGroupRegistration$Network;", .fieldLink RX4 19 "GroupRegistration" "registrars" "LGroupRegistration$Registrars;", .instanceMethod yX1_isConnected, .initialized RX1, .selects RX1 yX1_isConnected yX1_isConnected, .code yX1_isConnected cX1_isConnected 2 (some .boolean), .fieldLink RX1 9 "GroupRegistration$Network" "otherEnd" "[I", .static yX4_isStation, .code yX4_isStation cX4_isStation 1 (some .boolean), .methodLink RX4 150 yX4_cellOf, .static yX4_cellOf, .code yX4_cellOf cX4_cellOf 2 (some .int)] ++ wsX40 ++ wsX30 ++ wsX10)
def wsX4_propagateTo_r1 : List Cond := [Cond.fieldLink RX4 26 "GroupRegistration" "applicants" "LGroupRegistration$Applicants;", Cond.methodLink RX4 174 yX4_isWanted, Cond.instanceMethod yX4_isWanted, Cond.selects RX4 yX4_isWanted yX4_isWanted, Cond.initialized RX4, Cond.code yX4_isWanted cX4_isWanted 5 (some .boolean), Cond.methodLink RX4 168 yX4_bridgeOf, Cond.static yX4_bridgeOf, Cond.code yX4_bridgeOf cX4_bridgeOf 1 (some .int), Cond.methodLink RX4 171 yX4_isRegisteredAt, Cond.instanceMethod yX4_isRegisteredAt, Cond.selects RX4 yX4_isRegisteredAt yX4_isRegisteredAt, Cond.code yX4_isRegisteredAt cX4_isRegisteredAt 3 (some .boolean), Cond.fieldLink RX4 12 "GroupRegistration" "network" "LGroupRegistration$Network;", Cond.fieldLink RX4 19 "GroupRegistration" "registrars" "LGroupRegistration$Registrars;", Cond.instanceMethod yX1_isConnected, Cond.initialized RX1, Cond.selects RX1 yX1_isConnected yX1_isConnected, Cond.code yX1_isConnected cX1_isConnected 2 (some .boolean), Cond.fieldLink RX1 9 "GroupRegistration$Network" "otherEnd" "[I", Cond.static yX4_isStation, Cond.code yX4_isStation cX4_isStation 1 (some .boolean), Cond.methodLink RX4 150 yX4_cellOf, Cond.static yX4_cellOf]
def wsX4_propagateTo_r2 : List Cond := [Cond.code yX4_cellOf cX4_cellOf 2 (some .int), Cond.instanceMethod yX0_startDeclaring, Cond.initialized RX0, Cond.selects RX0 yX0_startDeclaring yX0_startDeclaring, Cond.code yX0_startDeclaring cX0_startDeclaring 2 (some .boolean), Cond.methodLink RX0 24 yX0_isDeclaring, Cond.instanceMethod yX0_isDeclaring, Cond.selects RX0 yX0_isDeclaring yX0_isDeclaring, Cond.code yX0_isDeclaring cX0_isDeclaring 2 (some .boolean), Cond.fieldLink RX0 9 "GroupRegistration$Applicants" "state" "[I", Cond.methodLink RX0 28 yX0_change, Cond.instanceMethod yX0_change, Cond.selects RX0 yX0_change yX0_change, Cond.code yX0_change cX0_change 4 none, Cond.fieldLink RX0 15 "GroupRegistration$Applicants" "joinsToSend" "[I", Cond.instanceMethod yX0_stopDeclaring, Cond.selects RX0 yX0_stopDeclaring yX0_stopDeclaring, Cond.code yX0_stopDeclaring cX0_stopDeclaring 2 (some .boolean)]
def wsX4_propagateTo : List Cond := .code yX4_propagateTo cX4_propagateTo 3 none :: ((wsX4_propagateTo_r1 ++ wsX4_propagateTo_r2) ++ wsX40 ++ wsX30 ++ wsX10 ++ wsX00)
def wsX4_propagate_r1 : List Cond := [Cond.fieldLink RX4 12 "GroupRegistration" "network" "LGroupRegistration$Network;", Cond.instanceMethod yX1_isConnected, Cond.initialized RX1, Cond.selects RX1 yX1_isConnected yX1_isConnected, Cond.code yX1_isConnected cX1_isConnected 2 (some .boolean), Cond.fieldLink RX1 9 "GroupRegistration$Network" "otherEnd" "[I", Cond.static yX4_isStation, Cond.initialized RX4, Cond.code yX4_isStation cX4_isStation 1 (some .boolean), Cond.methodLink RX4 186 yX4_propagateTo, Cond.instanceMethod yX4_propagateTo, Cond.selects RX4 yX4_propagateTo yX4_propagateTo, Cond.code yX4_propagateTo cX4_propagateTo 3 none, Cond.fieldLink RX4 26 "GroupRegistration" "applicants" "LGroupRegistration$Applicants;", Cond.methodLink RX4 174 yX4_isWanted, Cond.instanceMethod yX4_isWanted, Cond.selects RX4 yX4_isWanted yX4_isWanted, Cond.code yX4_isWanted cX4_isWanted 5 (some .boolean), Cond.methodLink RX4 168 yX4_bridgeOf, Cond.static yX4_bridgeOf, Cond.code yX4_bridgeOf cX4_bridgeOf 1 (some .int), Cond.methodLink RX4 171 yX4_isRegisteredAt, Cond.instanceMethod yX4_isRegisteredAt, Cond.selects RX4 yX4_isRegisteredAt yX4_isRegisteredAt]
def wsX4_propagate_r2 : List Cond := [Cond.code yX4_isRegisteredAt cX4_isRegisteredAt 3 (some .boolean), Cond.fieldLink RX4 19 "GroupRegistration" "registrars" "LGroupRegistration$Registrars;", Cond.methodLink RX4 150 yX4_cellOf, Cond.static yX4_cellOf, Cond.code yX4_cellOf cX4_cellOf 2 (some .int), Cond.instanceMethod yX0_startDeclaring, Cond.initialized RX0, Cond.selects RX0 yX0_startDeclaring yX0_startDeclaring, Cond.code yX0_startDeclaring cX0_startDeclaring 2 (some .boolean), Cond.methodLink RX0 24 yX0_isDeclaring, Cond.instanceMethod yX0_isDeclaring, Cond.selects RX0 yX0_isDeclaring yX0_isDeclaring, Cond.code yX0_isDeclaring cX0_isDeclaring 2 (some .boolean), Cond.fieldLink RX0 9 "GroupRegistration$Applicants" "state" "[I", Cond.methodLink RX0 28 yX0_change, Cond.instanceMethod yX0_change, Cond.selects RX0 yX0_change yX0_change, Cond.code yX0_change cX0_change 4 none, Cond.fieldLink RX0 15 "GroupRegistration$Applicants" "joinsToSend" "[I", Cond.instanceMethod yX0_stopDeclaring, Cond.selects RX0 yX0_stopDeclaring yX0_stopDeclaring, Cond.code yX0_stopDeclaring cX0_stopDeclaring 2 (some .boolean)]
def wsX4_propagate : List Cond := .code yX4_propagate cX4_propagate 2 none :: ((wsX4_propagate_r1 ++ wsX4_propagate_r2) ++ wsX40 ++ wsX10 ++ wsX30 ++ wsX00)
def wsX4_obeyLeaveAll_r1 : List Cond := [Cond.fieldLink RX4 19 "GroupRegistration" "registrars" "LGroupRegistration$Registrars;", Cond.fieldLink RX4 51 "GroupRegistration" "leaveTime" "I", Cond.fieldLink RX4 26 "GroupRegistration" "applicants" "LGroupRegistration$Applicants;", Cond.methodLink RX4 150 yX4_cellOf, Cond.static yX4_cellOf, Cond.initialized RX4, Cond.code yX4_cellOf cX4_cellOf 2 (some .int), Cond.methodLink RX4 89 yX4_isPort, Cond.static yX4_isPort, Cond.code yX4_isPort cX4_isPort 1 (some .boolean), Cond.instanceMethod yX3_startLeaving, Cond.initialized RX3, Cond.selects RX3 yX3_startLeaving yX3_startLeaving, Cond.code yX3_startLeaving cX3_startLeaving 3 none, Cond.fieldLink RX3 9 "GroupRegistration$Registrars" "state" "[I", Cond.methodLink RX3 24 yX3_change, Cond.instanceMethod yX3_change, Cond.selects RX3 yX3_change yX3_change, Cond.code yX3_change cX3_change 4 none, Cond.fieldLink RX3 15 "GroupRegistration$Registrars" "timer" "[I", Cond.instanceMethod yX0_declareAgain, Cond.initialized RX0, Cond.selects RX0 yX0_declareAgain yX0_declareAgain, Cond.code yX0_declareAgain cX0_declareAgain 2 none]
def wsX4_obeyLeaveAll_r2 : List Cond := [Cond.fieldLink RX0 9 "GroupRegistration$Applicants" "state" "[I", Cond.methodLink RX0 28 yX0_change, Cond.instanceMethod yX0_change, Cond.selects RX0 yX0_change yX0_change, Cond.code yX0_change cX0_change 4 none, Cond.fieldLink RX0 15 "GroupRegistration$Applicants" "joinsToSend" "[I"]
def wsX4_obeyLeaveAll : List Cond := .code yX4_obeyLeaveAll cX4_obeyLeaveAll 4 none :: ((wsX4_obeyLeaveAll_r1 ++ wsX4_obeyLeaveAll_r2) ++ wsX40 ++ wsX30 ++ wsX00)
def wsX4_sendFrom_r1 : List Cond := [Cond.fieldLink RX4 41 "GroupRegistration" "leaveAllDue" "[Z", Cond.fieldLink RX4 33 "GroupRegistration" "outbox" "LGroupRegistration$Outbox;", Cond.fieldLink RX4 26 "GroupRegistration" "applicants" "LGroupRegistration$Applicants;", Cond.methodLink RX4 89 yX4_isPort, Cond.static yX4_isPort, Cond.initialized RX4, Cond.code yX4_isPort cX4_isPort 1 (some .boolean), Cond.methodLink RX4 198 yX4_obeyLeaveAll, Cond.instanceMethod yX4_obeyLeaveAll, Cond.selects RX4 yX4_obeyLeaveAll yX4_obeyLeaveAll, Cond.code yX4_obeyLeaveAll cX4_obeyLeaveAll 4 none, Cond.fieldLink RX4 19 "GroupRegistration" "registrars" "LGroupRegistration$Registrars;", Cond.fieldLink RX4 51 "GroupRegistration" "leaveTime" "I", Cond.methodLink RX4 150 yX4_cellOf, Cond.static yX4_cellOf, Cond.code yX4_cellOf cX4_cellOf 2 (some .int), Cond.instanceMethod yX3_startLeaving, Cond.initialized RX3, Cond.selects RX3 yX3_startLeaving yX3_startLeaving, Cond.code yX3_startLeaving cX3_startLeaving 3 none, Cond.fieldLink RX3 9 "GroupRegistration$Registrars" "state" "[I", Cond.methodLink RX3 24 yX3_change, Cond.instanceMethod yX3_change, Cond.selects RX3 yX3_change yX3_change]
def wsX4_sendFrom_r2 : List Cond := [Cond.code yX3_change cX3_change 4 none, Cond.fieldLink RX3 15 "GroupRegistration$Registrars" "timer" "[I", Cond.instanceMethod yX0_declareAgain, Cond.initialized RX0, Cond.selects RX0 yX0_declareAgain yX0_declareAgain, Cond.code yX0_declareAgain cX0_declareAgain 2 none, Cond.fieldLink RX0 9 "GroupRegistration$Applicants" "state" "[I", Cond.methodLink RX0 28 yX0_change, Cond.instanceMethod yX0_change, Cond.selects RX0 yX0_change yX0_change, Cond.code yX0_change cX0_change 4 none, Cond.fieldLink RX0 15 "GroupRegistration$Applicants" "joinsToSend" "[I", Cond.instanceMethod yX0_nextMessage, Cond.selects RX0 yX0_nextMessage yX0_nextMessage, Cond.code yX0_nextMessage cX0_nextMessage 2 (some .int)]
def wsX4_sendFrom : List Cond := .code yX4_sendFrom cX4_sendFrom 5 (some .int) :: ((wsX4_sendFrom_r1 ++ wsX4_sendFrom_r2) ++ wsX40 ++ wsX20 ++ wsX30 ++ wsX00)
def wsX4_sendAll_r1 : List Cond := [Cond.fieldLink RX4 33 "GroupRegistration" "outbox" "LGroupRegistration$Outbox;", Cond.fieldLink RX4 12 "GroupRegistration" "network" "LGroupRegistration$Network;", Cond.fieldLink RX4 48 "GroupRegistration" "silenced" "[Z", Cond.instanceMethod yX2_clear, Cond.initialized RX2, Cond.selects RX2 yX2_clear yX2_clear, Cond.code yX2_clear cX2_clear 2 none, Cond.fieldLink RX2 9 "GroupRegistration$Outbox" "leaveAll" "[Z", Cond.fieldLink RX2 15 "GroupRegistration$Outbox" "message" "[I", Cond.methodLink RX2 19 yJ7_fill_53178, Cond.static yJ7_fill_53178, Cond.initialized RJ7, Cond.code yJ7_fill_53178 cJ7_fill_53178 4 none, Cond.instanceMethod yX1_isConnected, Cond.initialized RX1, Cond.selects RX1 yX1_isConnected yX1_isConnected, Cond.code yX1_isConnected cX1_isConnected 2 (some .boolean), Cond.fieldLink RX1 9 "GroupRegistration$Network" "otherEnd" "[I", Cond.static yX4_isStation, Cond.initialized RX4, Cond.code yX4_isStation cX4_isStation 1 (some .boolean), Cond.methodLink RX4 192 yX4_sendFrom, Cond.instanceMethod yX4_sendFrom, Cond.selects RX4 yX4_sendFrom yX4_sendFrom]
def wsX4_sendAll_r2 : List Cond := [Cond.code yX4_sendFrom cX4_sendFrom 5 (some .int), Cond.fieldLink RX4 41 "GroupRegistration" "leaveAllDue" "[Z", Cond.fieldLink RX4 26 "GroupRegistration" "applicants" "LGroupRegistration$Applicants;", Cond.methodLink RX4 89 yX4_isPort, Cond.static yX4_isPort, Cond.code yX4_isPort cX4_isPort 1 (some .boolean), Cond.methodLink RX4 198 yX4_obeyLeaveAll, Cond.instanceMethod yX4_obeyLeaveAll, Cond.selects RX4 yX4_obeyLeaveAll yX4_obeyLeaveAll, Cond.code yX4_obeyLeaveAll cX4_obeyLeaveAll 4 none, Cond.fieldLink RX4 19 "GroupRegistration" "registrars" "LGroupRegistration$Registrars;", Cond.fieldLink RX4 51 "GroupRegistration" "leaveTime" "I", Cond.methodLink RX4 150 yX4_cellOf, Cond.static yX4_cellOf, Cond.code yX4_cellOf cX4_cellOf 2 (some .int), Cond.instanceMethod yX3_startLeaving, Cond.initialized RX3, Cond.selects RX3 yX3_startLeaving yX3_startLeaving, Cond.code yX3_startLeaving cX3_startLeaving 3 none, Cond.fieldLink RX3 9 "GroupRegistration$Registrars" "state" "[I", Cond.methodLink RX3 24 yX3_change, Cond.instanceMethod yX3_change, Cond.selects RX3 yX3_change yX3_change, Cond.code yX3_change cX3_change 4 none]
def wsX4_sendAll_r3 : List Cond := [Cond.fieldLink RX3 15 "GroupRegistration$Registrars" "timer" "[I", Cond.instanceMethod yX0_declareAgain, Cond.initialized RX0, Cond.selects RX0 yX0_declareAgain yX0_declareAgain, Cond.code yX0_declareAgain cX0_declareAgain 2 none, Cond.fieldLink RX0 9 "GroupRegistration$Applicants" "state" "[I", Cond.methodLink RX0 28 yX0_change, Cond.instanceMethod yX0_change, Cond.selects RX0 yX0_change yX0_change, Cond.code yX0_change cX0_change 4 none, Cond.fieldLink RX0 15 "GroupRegistration$Applicants" "joinsToSend" "[I", Cond.instanceMethod yX0_nextMessage, Cond.selects RX0 yX0_nextMessage yX0_nextMessage, Cond.code yX0_nextMessage cX0_nextMessage 2 (some .int)]
def wsX4_sendAll : List Cond := .code yX4_sendAll cX4_sendAll 3 (some .int) :: ((wsX4_sendAll_r1 ++ (wsX4_sendAll_r2 ++ wsX4_sendAll_r3)) ++ wsX40 ++ wsX20 ++ wsX10 ++ wsX30 ++ wsX00)
def wsX4_receiveFrom_r1 : List Cond := [Cond.fieldLink RX4 33 "GroupRegistration" "outbox" "LGroupRegistration$Outbox;", Cond.fieldLink RX4 19 "GroupRegistration" "registrars" "LGroupRegistration$Registrars;", Cond.fieldLink RX4 51 "GroupRegistration" "leaveTime" "I", Cond.methodLink RX4 198 yX4_obeyLeaveAll, Cond.instanceMethod yX4_obeyLeaveAll, Cond.selects RX4 yX4_obeyLeaveAll yX4_obeyLeaveAll, Cond.initialized RX4, Cond.code yX4_obeyLeaveAll cX4_obeyLeaveAll 4 none, Cond.fieldLink RX4 26 "GroupRegistration" "applicants" "LGroupRegistration$Applicants;", Cond.methodLink RX4 150 yX4_cellOf, Cond.static yX4_cellOf, Cond.code yX4_cellOf cX4_cellOf 2 (some .int), Cond.methodLink RX4 89 yX4_isPort, Cond.static yX4_isPort, Cond.code yX4_isPort cX4_isPort 1 (some .boolean), Cond.instanceMethod yX3_startLeaving, Cond.initialized RX3, Cond.selects RX3 yX3_startLeaving yX3_startLeaving, Cond.code yX3_startLeaving cX3_startLeaving 3 none, Cond.fieldLink RX3 9 "GroupRegistration$Registrars" "state" "[I", Cond.methodLink RX3 24 yX3_change, Cond.instanceMethod yX3_change, Cond.selects RX3 yX3_change yX3_change, Cond.code yX3_change cX3_change 4 none]
def wsX4_receiveFrom_r2 : List Cond := [Cond.fieldLink RX3 15 "GroupRegistration$Registrars" "timer" "[I", Cond.instanceMethod yX0_declareAgain, Cond.initialized RX0, Cond.selects RX0 yX0_declareAgain yX0_declareAgain, Cond.code yX0_declareAgain cX0_declareAgain 2 none, Cond.fieldLink RX0 9 "GroupRegistration$Applicants" "state" "[I", Cond.methodLink RX0 28 yX0_change, Cond.instanceMethod yX0_change, Cond.selects RX0 yX0_change yX0_change, Cond.code yX0_change cX0_change 4 none, Cond.fieldLink RX0 15 "GroupRegistration$Applicants" "joinsToSend" "[I", Cond.instanceMethod yX3_hear, Cond.selects RX3 yX3_hear yX3_hear, Cond.code yX3_hear cX3_hear 4 none, Cond.methodLink RX3 28 yX3_startLeaving]
def wsX4_receiveFrom : List Cond := .code yX4_receiveFrom cX4_receiveFrom 5 none :: ((wsX4_receiveFrom_r1 ++ wsX4_receiveFrom_r2) ++ wsX40 ++ wsX20 ++ wsX30 ++ wsX00)
def wsX4_receiveAll_r1 : List Cond := [Cond.fieldLink RX4 12 "GroupRegistration" "network" "LGroupRegistration$Network;", Cond.fieldLink RX4 45 "GroupRegistration" "markedForLoss" "[Z", Cond.methodLink RX4 213 yX4_isStation, Cond.static yX4_isStation, Cond.initialized RX4, Cond.code yX4_isStation cX4_isStation 1 (some .boolean), Cond.methodLink RX4 216 yX4_receiveFrom, Cond.instanceMethod yX4_receiveFrom, Cond.selects RX4 yX4_receiveFrom yX4_receiveFrom, Cond.code yX4_receiveFrom cX4_receiveFrom 5 none, Cond.fieldLink RX4 33 "GroupRegistration" "outbox" "LGroupRegistration$Outbox;", Cond.fieldLink RX4 19 "GroupRegistration" "registrars" "LGroupRegistration$Registrars;", Cond.fieldLink RX4 51 "GroupRegistration" "leaveTime" "I", Cond.methodLink RX4 198 yX4_obeyLeaveAll, Cond.instanceMethod yX4_obeyLeaveAll, Cond.selects RX4 yX4_obeyLeaveAll yX4_obeyLeaveAll, Cond.code yX4_obeyLeaveAll cX4_obeyLeaveAll 4 none, Cond.fieldLink RX4 26 "GroupRegistration" "applicants" "LGroupRegistration$Applicants;", Cond.methodLink RX4 150 yX4_cellOf, Cond.static yX4_cellOf, Cond.code yX4_cellOf cX4_cellOf 2 (some .int), Cond.methodLink RX4 89 yX4_isPort, Cond.static yX4_isPort, Cond.code yX4_isPort cX4_isPort 1 (some .boolean)]
def wsX4_receiveAll_r2 : List Cond := [Cond.instanceMethod yX3_startLeaving, Cond.initialized RX3, Cond.selects RX3 yX3_startLeaving yX3_startLeaving, Cond.code yX3_startLeaving cX3_startLeaving 3 none, Cond.fieldLink RX3 9 "GroupRegistration$Registrars" "state" "[I", Cond.methodLink RX3 24 yX3_change, Cond.instanceMethod yX3_change, Cond.selects RX3 yX3_change yX3_change, Cond.code yX3_change cX3_change 4 none, Cond.fieldLink RX3 15 "GroupRegistration$Registrars" "timer" "[I", Cond.instanceMethod yX0_declareAgain, Cond.initialized RX0, Cond.selects RX0 yX0_declareAgain yX0_declareAgain, Cond.code yX0_declareAgain cX0_declareAgain 2 none, Cond.fieldLink RX0 9 "GroupRegistration$Applicants" "state" "[I", Cond.methodLink RX0 28 yX0_change, Cond.instanceMethod yX0_change, Cond.selects RX0 yX0_change yX0_change, Cond.code yX0_change cX0_change 4 none, Cond.fieldLink RX0 15 "GroupRegistration$Applicants" "joinsToSend" "[I", Cond.instanceMethod yX3_hear, Cond.selects RX3 yX3_hear yX3_hear, Cond.code yX3_hear cX3_hear 4 none, Cond.methodLink RX3 28 yX3_startLeaving]
def wsX4_receiveAll : List Cond := .code yX4_receiveAll cX4_receiveAll 3 none :: ((wsX4_receiveAll_r1 ++ wsX4_receiveAll_r2) ++ wsX40 ++ wsX10 ++ wsX20 ++ wsX30 ++ wsX00)
def wsX4_tick_r1 : List Cond := [Cond.fieldLink RX4 58 "GroupRegistration" "now" "I", Cond.methodLink RX4 114 yX4_runTimers, Cond.instanceMethod yX4_runTimers, Cond.selects RX4 yX4_runTimers yX4_runTimers, Cond.initialized RX4, Cond.code yX4_runTimers cX4_runTimers 2 none, Cond.fieldLink RX4 41 "GroupRegistration" "leaveAllDue" "[Z", Cond.fieldLink RX4 12 "GroupRegistration" "network" "LGroupRegistration$Network;", Cond.instanceMethod yX1_isConnected, Cond.initialized RX1, Cond.selects RX1 yX1_isConnected yX1_isConnected, Cond.code yX1_isConnected cX1_isConnected 2 (some .boolean), Cond.fieldLink RX1 9 "GroupRegistration$Network" "otherEnd" "[I", Cond.static yX4_isStation, Cond.code yX4_isStation cX4_isStation 1 (some .boolean), Cond.methodLink RX4 177 yX4_countDownRegistrars, Cond.instanceMethod yX4_countDownRegistrars, Cond.selects RX4 yX4_countDownRegistrars yX4_countDownRegistrars, Cond.code yX4_countDownRegistrars cX4_countDownRegistrars 3 none, Cond.fieldLink RX4 19 "GroupRegistration" "registrars" "LGroupRegistration$Registrars;", Cond.methodLink RX4 150 yX4_cellOf, Cond.static yX4_cellOf, Cond.code yX4_cellOf cX4_cellOf 2 (some .int), Cond.instanceMethod yX3_countDown]
def wsX4_tick_r2 : List Cond := [Cond.initialized RX3, Cond.selects RX3 yX3_countDown yX3_countDown, Cond.code yX3_countDown cX3_countDown 2 none, Cond.fieldLink RX3 9 "GroupRegistration$Registrars" "state" "[I", Cond.fieldLink RX3 15 "GroupRegistration$Registrars" "timer" "[I", Cond.methodLink RX4 180 yX4_countDownToLeaveAll, Cond.instanceMethod yX4_countDownToLeaveAll, Cond.selects RX4 yX4_countDownToLeaveAll yX4_countDownToLeaveAll, Cond.code yX4_countDownToLeaveAll cX4_countDownToLeaveAll 2 none, Cond.fieldLink RX4 37 "GroupRegistration" "leaveAllCountdown" "[I", Cond.fieldLink RX4 55 "GroupRegistration" "leaveAllTime" "I", Cond.methodLink RX4 117 yX4_propagate, Cond.instanceMethod yX4_propagate, Cond.selects RX4 yX4_propagate yX4_propagate, Cond.code yX4_propagate cX4_propagate 2 none, Cond.methodLink RX4 186 yX4_propagateTo, Cond.instanceMethod yX4_propagateTo, Cond.selects RX4 yX4_propagateTo yX4_propagateTo, Cond.code yX4_propagateTo cX4_propagateTo 3 none, Cond.fieldLink RX4 26 "GroupRegistration" "applicants" "LGroupRegistration$Applicants;", Cond.methodLink RX4 174 yX4_isWanted, Cond.instanceMethod yX4_isWanted, Cond.selects RX4 yX4_isWanted yX4_isWanted, Cond.code yX4_isWanted cX4_isWanted 5 (some .boolean)]
def wsX4_tick_r3 : List Cond := [Cond.methodLink RX4 168 yX4_bridgeOf, Cond.static yX4_bridgeOf, Cond.code yX4_bridgeOf cX4_bridgeOf 1 (some .int), Cond.methodLink RX4 171 yX4_isRegisteredAt, Cond.instanceMethod yX4_isRegisteredAt, Cond.selects RX4 yX4_isRegisteredAt yX4_isRegisteredAt, Cond.code yX4_isRegisteredAt cX4_isRegisteredAt 3 (some .boolean), Cond.instanceMethod yX0_startDeclaring, Cond.initialized RX0, Cond.selects RX0 yX0_startDeclaring yX0_startDeclaring, Cond.code yX0_startDeclaring cX0_startDeclaring 2 (some .boolean), Cond.methodLink RX0 24 yX0_isDeclaring, Cond.instanceMethod yX0_isDeclaring, Cond.selects RX0 yX0_isDeclaring yX0_isDeclaring, Cond.code yX0_isDeclaring cX0_isDeclaring 2 (some .boolean), Cond.fieldLink RX0 9 "GroupRegistration$Applicants" "state" "[I", Cond.methodLink RX0 28 yX0_change, Cond.instanceMethod yX0_change, Cond.selects RX0 yX0_change yX0_change, Cond.code yX0_change cX0_change 4 none, Cond.fieldLink RX0 15 "GroupRegistration$Applicants" "joinsToSend" "[I", Cond.instanceMethod yX0_stopDeclaring, Cond.selects RX0 yX0_stopDeclaring yX0_stopDeclaring, Cond.code yX0_stopDeclaring cX0_stopDeclaring 2 (some .boolean)]
def wsX4_tick_r4 : List Cond := [Cond.methodLink RX4 120 yX4_sendAll, Cond.instanceMethod yX4_sendAll, Cond.selects RX4 yX4_sendAll yX4_sendAll, Cond.code yX4_sendAll cX4_sendAll 3 (some .int), Cond.fieldLink RX4 33 "GroupRegistration" "outbox" "LGroupRegistration$Outbox;", Cond.fieldLink RX4 48 "GroupRegistration" "silenced" "[Z", Cond.instanceMethod yX2_clear, Cond.initialized RX2, Cond.selects RX2 yX2_clear yX2_clear, Cond.code yX2_clear cX2_clear 2 none, Cond.fieldLink RX2 9 "GroupRegistration$Outbox" "leaveAll" "[Z", Cond.fieldLink RX2 15 "GroupRegistration$Outbox" "message" "[I", Cond.methodLink RX2 19 yJ7_fill_53178, Cond.static yJ7_fill_53178, Cond.initialized RJ7, Cond.code yJ7_fill_53178 cJ7_fill_53178 4 none, Cond.methodLink RX4 192 yX4_sendFrom, Cond.instanceMethod yX4_sendFrom, Cond.selects RX4 yX4_sendFrom yX4_sendFrom, Cond.code yX4_sendFrom cX4_sendFrom 5 (some .int), Cond.methodLink RX4 89 yX4_isPort, Cond.static yX4_isPort, Cond.code yX4_isPort cX4_isPort 1 (some .boolean), Cond.methodLink RX4 198 yX4_obeyLeaveAll]
def wsX4_tick_r5 : List Cond := [Cond.instanceMethod yX4_obeyLeaveAll, Cond.selects RX4 yX4_obeyLeaveAll yX4_obeyLeaveAll, Cond.code yX4_obeyLeaveAll cX4_obeyLeaveAll 4 none, Cond.fieldLink RX4 51 "GroupRegistration" "leaveTime" "I", Cond.instanceMethod yX3_startLeaving, Cond.selects RX3 yX3_startLeaving yX3_startLeaving, Cond.code yX3_startLeaving cX3_startLeaving 3 none, Cond.methodLink RX3 24 yX3_change, Cond.instanceMethod yX3_change, Cond.selects RX3 yX3_change yX3_change, Cond.code yX3_change cX3_change 4 none, Cond.instanceMethod yX0_declareAgain, Cond.selects RX0 yX0_declareAgain yX0_declareAgain, Cond.code yX0_declareAgain cX0_declareAgain 2 none, Cond.instanceMethod yX0_nextMessage, Cond.selects RX0 yX0_nextMessage yX0_nextMessage, Cond.code yX0_nextMessage cX0_nextMessage 2 (some .int), Cond.methodLink RX4 124 yX4_receiveAll, Cond.instanceMethod yX4_receiveAll, Cond.selects RX4 yX4_receiveAll yX4_receiveAll, Cond.code yX4_receiveAll cX4_receiveAll 3 none, Cond.fieldLink RX4 45 "GroupRegistration" "markedForLoss" "[Z", Cond.methodLink RX4 213 yX4_isStation, Cond.methodLink RX4 216 yX4_receiveFrom]
def wsX4_tick_r6 : List Cond := [Cond.instanceMethod yX4_receiveFrom, Cond.selects RX4 yX4_receiveFrom yX4_receiveFrom, Cond.code yX4_receiveFrom cX4_receiveFrom 5 none, Cond.instanceMethod yX3_hear, Cond.selects RX3 yX3_hear yX3_hear, Cond.code yX3_hear cX3_hear 4 none, Cond.methodLink RX3 28 yX3_startLeaving]
def wsX4_tick : List Cond := .code yX4_tick cX4_tick 4 (some .int) :: ((wsX4_tick_r1 ++ (wsX4_tick_r2 ++ (wsX4_tick_r3 ++ (wsX4_tick_r4 ++ (wsX4_tick_r5 ++ wsX4_tick_r6))))) ++ wsX40 ++ wsX10 ++ wsX30 ++ wsX00 ++ wsX20)
def wsX4_time : List Cond := .code yX4_time cX4_time 1 (some .int) :: ([.fieldLink RX4 58 "GroupRegistration" "now" "I"] ++ wsX40)
def wsX4_cellOfPort : List Cond := .code yX4_cellOfPort cX4_cellOfPort 5 (some .int) :: ([.fieldLink RX4 12 "GroupRegistration" "network" "LGroupRegistration$Network;", .instanceMethod yX1_stationOfPort, .initialized RX1, .selects RX1 yX1_stationOfPort yX1_stationOfPort, .code yX1_stationOfPort cX1_stationOfPort 3 (some .int), .fieldLink RX1 15 "GroupRegistration$Network" "bridgeCount" "I", .methodLink RX4 160 yX4_isGroup, .static yX4_isGroup, .initialized RX4, .code yX4_isGroup cX4_isGroup 1 (some .boolean), .methodLink RX4 150 yX4_cellOf, .static yX4_cellOf, .code yX4_cellOf cX4_cellOf 2 (some .int)] ++ wsX40 ++ wsX10)
def wsX4_registrar : List Cond := .code yX4_registrar cX4_registrar 5 (some .int) :: ([.fieldLink RX4 19 "GroupRegistration" "registrars" "LGroupRegistration$Registrars;", .methodLink RX4 127 yX4_cellOfPort, .instanceMethod yX4_cellOfPort, .selects RX4 yX4_cellOfPort yX4_cellOfPort, .initialized RX4, .code yX4_cellOfPort cX4_cellOfPort 5 (some .int), .fieldLink RX4 12 "GroupRegistration" "network" "LGroupRegistration$Network;", .instanceMethod yX1_stationOfPort, .initialized RX1, .selects RX1 yX1_stationOfPort yX1_stationOfPort, .code yX1_stationOfPort cX1_stationOfPort 3 (some .int), .fieldLink RX1 15 "GroupRegistration$Network" "bridgeCount" "I", .methodLink RX4 160 yX4_isGroup, .static yX4_isGroup, .code yX4_isGroup cX4_isGroup 1 (some .boolean), .methodLink RX4 150 yX4_cellOf, .static yX4_cellOf, .code yX4_cellOf cX4_cellOf 2 (some .int)] ++ wsX40 ++ wsX30 ++ wsX10)
def wsX4_registrarTimer : List Cond := .code yX4_registrarTimer cX4_registrarTimer 5 (some .int) :: ([.fieldLink RX4 19 "GroupRegistration" "registrars" "LGroupRegistration$Registrars;", .methodLink RX4 127 yX4_cellOfPort, .instanceMethod yX4_cellOfPort, .selects RX4 yX4_cellOfPort yX4_cellOfPort, .initialized RX4, .code yX4_cellOfPort cX4_cellOfPort 5 (some .int), .fieldLink RX4 12 "GroupRegistration" "network" "LGroupRegistration$Network;", .instanceMethod yX1_stationOfPort, .initialized RX1, .selects RX1 yX1_stationOfPort yX1_stationOfPort, .code yX1_stationOfPort cX1_stationOfPort 3 (some .int), .fieldLink RX1 15 "GroupRegistration$Network" "bridgeCount" "I", .methodLink RX4 160 yX4_isGroup, .static yX4_isGroup, .code yX4_isGroup cX4_isGroup 1 (some .boolean), .methodLink RX4 150 yX4_cellOf, .static yX4_cellOf, .code yX4_cellOf cX4_cellOf 2 (some .int)] ++ wsX40 ++ wsX30 ++ wsX10)
def wsX4_applicant : List Cond := .code yX4_applicant cX4_applicant 5 (some .int) :: ([.fieldLink RX4 26 "GroupRegistration" "applicants" "LGroupRegistration$Applicants;", .methodLink RX4 127 yX4_cellOfPort, .instanceMethod yX4_cellOfPort, .selects RX4 yX4_cellOfPort yX4_cellOfPort, .initialized RX4, .code yX4_cellOfPort cX4_cellOfPort 5 (some .int), .fieldLink RX4 12 "GroupRegistration" "network" "LGroupRegistration$Network;", .instanceMethod yX1_stationOfPort, .initialized RX1, .selects RX1 yX1_stationOfPort yX1_stationOfPort, .code yX1_stationOfPort cX1_stationOfPort 3 (some .int), .fieldLink RX1 15 "GroupRegistration$Network" "bridgeCount" "I", .methodLink RX4 160 yX4_isGroup, .static yX4_isGroup, .code yX4_isGroup cX4_isGroup 1 (some .boolean), .methodLink RX4 150 yX4_cellOf, .static yX4_cellOf, .code yX4_cellOf cX4_cellOf 2 (some .int)] ++ wsX40 ++ wsX00 ++ wsX10)
def wsX4_hostApplicant : List Cond := .code yX4_hostApplicant cX4_hostApplicant 4 (some .int) :: ([.fieldLink RX4 26 "GroupRegistration" "applicants" "LGroupRegistration$Applicants;", .methodLink RX4 101 yX4_cellOfHost, .instanceMethod yX4_cellOfHost, .selects RX4 yX4_cellOfHost yX4_cellOfHost, .initialized RX4, .code yX4_cellOfHost cX4_cellOfHost 4 (some .int), .fieldLink RX4 12 "GroupRegistration" "network" "LGroupRegistration$Network;", .instanceMethod yX1_stationOfHost, .initialized RX1, .selects RX1 yX1_stationOfHost yX1_stationOfHost, .code yX1_stationOfHost cX1_stationOfHost 2 (some .int), .fieldLink RX1 19 "GroupRegistration$Network" "hostCount" "I", .methodLink RX4 160 yX4_isGroup, .static yX4_isGroup, .code yX4_isGroup cX4_isGroup 1 (some .boolean), .methodLink RX4 150 yX4_cellOf, .static yX4_cellOf, .code yX4_cellOf cX4_cellOf 2 (some .int)] ++ wsX40 ++ wsX00 ++ wsX10)
def wsX4_leaveAllTimer : List Cond := .code yX4_leaveAllTimer cX4_leaveAllTimer 4 (some .int) :: ([.fieldLink RX4 12 "GroupRegistration" "network" "LGroupRegistration$Network;", .fieldLink RX4 37 "GroupRegistration" "leaveAllCountdown" "[I", .instanceMethod yX1_stationOfPort, .initialized RX1, .selects RX1 yX1_stationOfPort yX1_stationOfPort, .code yX1_stationOfPort cX1_stationOfPort 3 (some .int), .fieldLink RX1 15 "GroupRegistration$Network" "bridgeCount" "I"] ++ wsX40 ++ wsX10)
def wsX4_hasToSend : List Cond := .code yX4_hasToSend cX4_hasToSend 4 (some .boolean) :: ([.fieldLink RX4 26 "GroupRegistration" "applicants" "LGroupRegistration$Applicants;", .methodLink RX4 150 yX4_cellOf, .static yX4_cellOf, .initialized RX4, .code yX4_cellOf cX4_cellOf 2 (some .int)] ++ wsX40 ++ wsX00)
def wsX4_isPortSettled_r1 : List Cond := [Cond.fieldLink RX4 26 "GroupRegistration" "applicants" "LGroupRegistration$Applicants;", Cond.fieldLink RX4 19 "GroupRegistration" "registrars" "LGroupRegistration$Registrars;", Cond.methodLink RX4 150 yX4_cellOf, Cond.static yX4_cellOf, Cond.initialized RX4, Cond.code yX4_cellOf cX4_cellOf 2 (some .int), Cond.methodLink RX4 174 yX4_isWanted, Cond.instanceMethod yX4_isWanted, Cond.selects RX4 yX4_isWanted yX4_isWanted, Cond.code yX4_isWanted cX4_isWanted 5 (some .boolean), Cond.methodLink RX4 168 yX4_bridgeOf, Cond.static yX4_bridgeOf, Cond.code yX4_bridgeOf cX4_bridgeOf 1 (some .int), Cond.methodLink RX4 171 yX4_isRegisteredAt, Cond.instanceMethod yX4_isRegisteredAt, Cond.selects RX4 yX4_isRegisteredAt yX4_isRegisteredAt, Cond.code yX4_isRegisteredAt cX4_isRegisteredAt 3 (some .boolean), Cond.fieldLink RX4 12 "GroupRegistration" "network" "LGroupRegistration$Network;", Cond.instanceMethod yX1_isConnected, Cond.initialized RX1, Cond.selects RX1 yX1_isConnected yX1_isConnected, Cond.code yX1_isConnected cX1_isConnected 2 (some .boolean), Cond.fieldLink RX1 9 "GroupRegistration$Network" "otherEnd" "[I", Cond.static yX4_isStation]
def wsX4_isPortSettled_r2 : List Cond := [Cond.code yX4_isStation cX4_isStation 1 (some .boolean)]
def wsX4_isPortSettled : List Cond := .code yX4_isPortSettled cX4_isPortSettled 5 (some .boolean) :: ((wsX4_isPortSettled_r1 ++ wsX4_isPortSettled_r2) ++ wsX40 ++ wsX00 ++ wsX30 ++ wsX10)
def wsX4_isSettled_r1 : List Cond := [Cond.fieldLink RX4 48 "GroupRegistration" "silenced" "[Z", Cond.fieldLink RX4 12 "GroupRegistration" "network" "LGroupRegistration$Network;", Cond.methodLink RX4 138 yX4_hasToSend, Cond.instanceMethod yX4_hasToSend, Cond.selects RX4 yX4_hasToSend yX4_hasToSend, Cond.initialized RX4, Cond.code yX4_hasToSend cX4_hasToSend 4 (some .boolean), Cond.fieldLink RX4 26 "GroupRegistration" "applicants" "LGroupRegistration$Applicants;", Cond.methodLink RX4 150 yX4_cellOf, Cond.static yX4_cellOf, Cond.code yX4_cellOf cX4_cellOf 2 (some .int), Cond.instanceMethod yX1_isConnected, Cond.initialized RX1, Cond.selects RX1 yX1_isConnected yX1_isConnected, Cond.code yX1_isConnected cX1_isConnected 2 (some .boolean), Cond.fieldLink RX1 9 "GroupRegistration$Network" "otherEnd" "[I", Cond.static yX4_isStation, Cond.code yX4_isStation cX4_isStation 1 (some .boolean), Cond.methodLink RX4 141 yX4_isPortSettled, Cond.instanceMethod yX4_isPortSettled, Cond.selects RX4 yX4_isPortSettled yX4_isPortSettled, Cond.code yX4_isPortSettled cX4_isPortSettled 5 (some .boolean), Cond.fieldLink RX4 19 "GroupRegistration" "registrars" "LGroupRegistration$Registrars;", Cond.methodLink RX4 174 yX4_isWanted]
def wsX4_isSettled_r2 : List Cond := [Cond.instanceMethod yX4_isWanted, Cond.selects RX4 yX4_isWanted yX4_isWanted, Cond.code yX4_isWanted cX4_isWanted 5 (some .boolean), Cond.methodLink RX4 168 yX4_bridgeOf, Cond.static yX4_bridgeOf, Cond.code yX4_bridgeOf cX4_bridgeOf 1 (some .int), Cond.methodLink RX4 171 yX4_isRegisteredAt, Cond.instanceMethod yX4_isRegisteredAt, Cond.selects RX4 yX4_isRegisteredAt yX4_isRegisteredAt, Cond.code yX4_isRegisteredAt cX4_isRegisteredAt 3 (some .boolean)]
def wsX4_isSettled : List Cond := .code yX4_isSettled cX4_isSettled 2 (some .int) :: ((wsX4_isSettled_r1 ++ wsX4_isSettled_r2) ++ wsX40 ++ wsX00 ++ wsX10 ++ wsX30)
def wsX4_arrivesBeside : List Cond := .code yX4_arrivesBeside cX4_arrivesBeside 4 (some .boolean) :: ([.methodLink RX4 168 yX4_bridgeOf, .static yX4_bridgeOf, .initialized RX4, .code yX4_bridgeOf cX4_bridgeOf 1 (some .int), .methodLink RX4 156 yX4_contains, .static yX4_contains, .code yX4_contains cX4_contains 2 (some .boolean)])
def wsX4_nextArrivals_r1 : List Cond := [Cond.fieldLink RX4 12 "GroupRegistration" "network" "LGroupRegistration$Network;", Cond.methodLink RX4 171 yX4_isRegisteredAt, Cond.instanceMethod yX4_isRegisteredAt, Cond.selects RX4 yX4_isRegisteredAt yX4_isRegisteredAt, Cond.initialized RX4, Cond.code yX4_isRegisteredAt cX4_isRegisteredAt 3 (some .boolean), Cond.fieldLink RX4 19 "GroupRegistration" "registrars" "LGroupRegistration$Registrars;", Cond.instanceMethod yX1_isConnected, Cond.initialized RX1, Cond.selects RX1 yX1_isConnected yX1_isConnected, Cond.code yX1_isConnected cX1_isConnected 2 (some .boolean), Cond.fieldLink RX1 9 "GroupRegistration$Network" "otherEnd" "[I", Cond.static yX4_isStation, Cond.code yX4_isStation cX4_isStation 1 (some .boolean), Cond.methodLink RX4 150 yX4_cellOf, Cond.static yX4_cellOf, Cond.code yX4_cellOf cX4_cellOf 2 (some .int), Cond.methodLink RX4 225 yX4_arrivesBeside, Cond.static yX4_arrivesBeside, Cond.code yX4_arrivesBeside cX4_arrivesBeside 4 (some .boolean), Cond.methodLink RX4 168 yX4_bridgeOf, Cond.static yX4_bridgeOf, Cond.code yX4_bridgeOf cX4_bridgeOf 1 (some .int), Cond.methodLink RX4 156 yX4_contains]
def wsX4_nextArrivals_r2 : List Cond := [Cond.static yX4_contains, Cond.code yX4_contains cX4_contains 2 (some .boolean)]
def wsX4_nextArrivals : List Cond := .code yX4_nextArrivals cX4_nextArrivals 5 (some .int) :: ((wsX4_nextArrivals_r1 ++ wsX4_nextArrivals_r2) ++ wsX40 ++ wsX10 ++ wsX30)
def wsX4_hostsReached_r1 : List Cond := [Cond.fieldLink RX4 12 "GroupRegistration" "network" "LGroupRegistration$Network;", Cond.methodLink RX4 89 yX4_isPort, Cond.static yX4_isPort, Cond.initialized RX4, Cond.code yX4_isPort cX4_isPort 1 (some .boolean), Cond.methodLink RX4 222 yX4_nextArrivals, Cond.instanceMethod yX4_nextArrivals, Cond.selects RX4 yX4_nextArrivals yX4_nextArrivals, Cond.code yX4_nextArrivals cX4_nextArrivals 5 (some .int), Cond.methodLink RX4 171 yX4_isRegisteredAt, Cond.instanceMethod yX4_isRegisteredAt, Cond.selects RX4 yX4_isRegisteredAt yX4_isRegisteredAt, Cond.code yX4_isRegisteredAt cX4_isRegisteredAt 3 (some .boolean), Cond.fieldLink RX4 19 "GroupRegistration" "registrars" "LGroupRegistration$Registrars;", Cond.instanceMethod yX1_isConnected, Cond.initialized RX1, Cond.selects RX1 yX1_isConnected yX1_isConnected, Cond.code yX1_isConnected cX1_isConnected 2 (some .boolean), Cond.fieldLink RX1 9 "GroupRegistration$Network" "otherEnd" "[I", Cond.static yX4_isStation, Cond.code yX4_isStation cX4_isStation 1 (some .boolean), Cond.methodLink RX4 150 yX4_cellOf, Cond.static yX4_cellOf, Cond.code yX4_cellOf cX4_cellOf 2 (some .int)]
def wsX4_hostsReached_r2 : List Cond := [Cond.methodLink RX4 225 yX4_arrivesBeside, Cond.static yX4_arrivesBeside, Cond.code yX4_arrivesBeside cX4_arrivesBeside 4 (some .boolean), Cond.methodLink RX4 168 yX4_bridgeOf, Cond.static yX4_bridgeOf, Cond.code yX4_bridgeOf cX4_bridgeOf 1 (some .int), Cond.methodLink RX4 156 yX4_contains, Cond.static yX4_contains, Cond.code yX4_contains cX4_contains 2 (some .boolean)]
def wsX4_hostsReached : List Cond := .code yX4_hostsReached cX4_hostsReached 7 (some .int) :: ((wsX4_hostsReached_r1 ++ wsX4_hostsReached_r2) ++ wsX40 ++ wsX10 ++ wsX30)
def wsX4_receivers_r1 : List Cond := [Cond.methodLink RX4 101 yX4_cellOfHost, Cond.instanceMethod yX4_cellOfHost, Cond.selects RX4 yX4_cellOfHost yX4_cellOfHost, Cond.initialized RX4, Cond.code yX4_cellOfHost cX4_cellOfHost 4 (some .int), Cond.fieldLink RX4 12 "GroupRegistration" "network" "LGroupRegistration$Network;", Cond.instanceMethod yX1_stationOfHost, Cond.initialized RX1, Cond.selects RX1 yX1_stationOfHost yX1_stationOfHost, Cond.code yX1_stationOfHost cX1_stationOfHost 2 (some .int), Cond.fieldLink RX1 19 "GroupRegistration$Network" "hostCount" "I", Cond.methodLink RX4 160 yX4_isGroup, Cond.static yX4_isGroup, Cond.code yX4_isGroup cX4_isGroup 1 (some .boolean), Cond.methodLink RX4 150 yX4_cellOf, Cond.static yX4_cellOf, Cond.code yX4_cellOf cX4_cellOf 2 (some .int), Cond.methodLink RX4 144 yX4_hostsReached, Cond.instanceMethod yX4_hostsReached, Cond.selects RX4 yX4_hostsReached yX4_hostsReached, Cond.code yX4_hostsReached cX4_hostsReached 7 (some .int), Cond.methodLink RX4 89 yX4_isPort, Cond.static yX4_isPort, Cond.code yX4_isPort cX4_isPort 1 (some .boolean)]
def wsX4_receivers_r2 : List Cond := [Cond.methodLink RX4 222 yX4_nextArrivals, Cond.instanceMethod yX4_nextArrivals, Cond.selects RX4 yX4_nextArrivals yX4_nextArrivals, Cond.code yX4_nextArrivals cX4_nextArrivals 5 (some .int), Cond.methodLink RX4 171 yX4_isRegisteredAt, Cond.instanceMethod yX4_isRegisteredAt, Cond.selects RX4 yX4_isRegisteredAt yX4_isRegisteredAt, Cond.code yX4_isRegisteredAt cX4_isRegisteredAt 3 (some .boolean), Cond.fieldLink RX4 19 "GroupRegistration" "registrars" "LGroupRegistration$Registrars;", Cond.instanceMethod yX1_isConnected, Cond.selects RX1 yX1_isConnected yX1_isConnected, Cond.code yX1_isConnected cX1_isConnected 2 (some .boolean), Cond.fieldLink RX1 9 "GroupRegistration$Network" "otherEnd" "[I", Cond.static yX4_isStation, Cond.code yX4_isStation cX4_isStation 1 (some .boolean), Cond.methodLink RX4 225 yX4_arrivesBeside, Cond.static yX4_arrivesBeside, Cond.code yX4_arrivesBeside cX4_arrivesBeside 4 (some .boolean), Cond.methodLink RX4 168 yX4_bridgeOf, Cond.static yX4_bridgeOf, Cond.code yX4_bridgeOf cX4_bridgeOf 1 (some .int), Cond.methodLink RX4 156 yX4_contains, Cond.static yX4_contains, Cond.code yX4_contains cX4_contains 2 (some .boolean)]
def wsX4_receivers : List Cond := .code yX4_receivers cX4_receivers 4 (some .int) :: ((wsX4_receivers_r1 ++ wsX4_receivers_r2) ++ wsX40 ++ wsX10 ++ wsX30)
def wsX4_bridgesBetweenHosts : List Cond := .code yX4_bridgesBetweenHosts cX4_bridgesBetweenHosts 5 (some .int) :: ([.fieldLink RX4 12 "GroupRegistration" "network" "LGroupRegistration$Network;", .methodLink RX4 89 yX4_isPort, .static yX4_isPort, .initialized RX4, .code yX4_isPort cX4_isPort 1 (some .boolean), .methodLink RX4 168 yX4_bridgeOf, .static yX4_bridgeOf, .code yX4_bridgeOf cX4_bridgeOf 1 (some .int), .instanceMethod yX1_bridgesOnWay, .initialized RX1, .selects RX1 yX1_bridgesOnWay yX1_bridgesOnWay, .code yX1_bridgesOnWay cX1_bridgesOnWay 5 (some .int), .static yX4_contains, .code yX4_contains cX4_contains 2 (some .boolean), .methodLink RX1 39 yX1_neighboursOf, .instanceMethod yX1_neighboursOf, .selects RX1 yX1_neighboursOf yX1_neighboursOf, .code yX1_neighboursOf cX1_neighboursOf 5 (some .int), .fieldLink RX1 9 "GroupRegistration$Network" "otherEnd" "[I"] ++ wsX40 ++ wsX10)
def wsX4_missedCount_r1 : List Cond := [Cond.fieldLink RX4 12 "GroupRegistration" "network" "LGroupRegistration$Network;", Cond.fieldLink RX4 26 "GroupRegistration" "applicants" "LGroupRegistration$Applicants;", Cond.methodLink RX4 101 yX4_cellOfHost, Cond.instanceMethod yX4_cellOfHost, Cond.selects RX4 yX4_cellOfHost yX4_cellOfHost, Cond.initialized RX4, Cond.code yX4_cellOfHost cX4_cellOfHost 4 (some .int), Cond.instanceMethod yX1_stationOfHost, Cond.initialized RX1, Cond.selects RX1 yX1_stationOfHost yX1_stationOfHost, Cond.code yX1_stationOfHost cX1_stationOfHost 2 (some .int), Cond.fieldLink RX1 19 "GroupRegistration$Network" "hostCount" "I", Cond.methodLink RX4 160 yX4_isGroup, Cond.static yX4_isGroup, Cond.code yX4_isGroup cX4_isGroup 1 (some .boolean), Cond.methodLink RX4 150 yX4_cellOf, Cond.static yX4_cellOf, Cond.code yX4_cellOf cX4_cellOf 2 (some .int), Cond.methodLink RX4 144 yX4_hostsReached, Cond.instanceMethod yX4_hostsReached, Cond.selects RX4 yX4_hostsReached yX4_hostsReached, Cond.code yX4_hostsReached cX4_hostsReached 7 (some .int), Cond.methodLink RX4 89 yX4_isPort, Cond.static yX4_isPort]
def wsX4_missedCount_r2 : List Cond := [Cond.code yX4_isPort cX4_isPort 1 (some .boolean), Cond.methodLink RX4 222 yX4_nextArrivals, Cond.instanceMethod yX4_nextArrivals, Cond.selects RX4 yX4_nextArrivals yX4_nextArrivals, Cond.code yX4_nextArrivals cX4_nextArrivals 5 (some .int), Cond.methodLink RX4 171 yX4_isRegisteredAt, Cond.instanceMethod yX4_isRegisteredAt, Cond.selects RX4 yX4_isRegisteredAt yX4_isRegisteredAt, Cond.code yX4_isRegisteredAt cX4_isRegisteredAt 3 (some .boolean), Cond.fieldLink RX4 19 "GroupRegistration" "registrars" "LGroupRegistration$Registrars;", Cond.instanceMethod yX1_isConnected, Cond.selects RX1 yX1_isConnected yX1_isConnected, Cond.code yX1_isConnected cX1_isConnected 2 (some .boolean), Cond.fieldLink RX1 9 "GroupRegistration$Network" "otherEnd" "[I", Cond.static yX4_isStation, Cond.code yX4_isStation cX4_isStation 1 (some .boolean), Cond.methodLink RX4 225 yX4_arrivesBeside, Cond.static yX4_arrivesBeside, Cond.code yX4_arrivesBeside cX4_arrivesBeside 4 (some .boolean), Cond.methodLink RX4 168 yX4_bridgeOf, Cond.static yX4_bridgeOf, Cond.code yX4_bridgeOf cX4_bridgeOf 1 (some .int), Cond.methodLink RX4 156 yX4_contains, Cond.static yX4_contains]
def wsX4_missedCount_r3 : List Cond := [Cond.code yX4_contains cX4_contains 2 (some .boolean), Cond.methodLink RX4 147 yX4_bridgesBetweenHosts, Cond.instanceMethod yX4_bridgesBetweenHosts, Cond.selects RX4 yX4_bridgesBetweenHosts yX4_bridgesBetweenHosts, Cond.code yX4_bridgesBetweenHosts cX4_bridgesBetweenHosts 5 (some .int), Cond.instanceMethod yX1_bridgesOnWay, Cond.selects RX1 yX1_bridgesOnWay yX1_bridgesOnWay, Cond.code yX1_bridgesOnWay cX1_bridgesOnWay 5 (some .int), Cond.methodLink RX1 39 yX1_neighboursOf, Cond.instanceMethod yX1_neighboursOf, Cond.selects RX1 yX1_neighboursOf yX1_neighboursOf, Cond.code yX1_neighboursOf cX1_neighboursOf 5 (some .int), Cond.instanceMethod yX0_isDeclaring, Cond.initialized RX0, Cond.selects RX0 yX0_isDeclaring yX0_isDeclaring, Cond.code yX0_isDeclaring cX0_isDeclaring 2 (some .boolean), Cond.fieldLink RX0 9 "GroupRegistration$Applicants" "state" "[I"]
def wsX4_missedCount : List Cond := .code yX4_missedCount cX4_missedCount 8 (some .int) :: ((wsX4_missedCount_r1 ++ (wsX4_missedCount_r2 ++ wsX4_missedCount_r3)) ++ wsX40 ++ wsX10 ++ wsX30 ++ wsX00)
def wsX4_needlessCount_r1 : List Cond := [Cond.fieldLink RX4 12 "GroupRegistration" "network" "LGroupRegistration$Network;", Cond.fieldLink RX4 26 "GroupRegistration" "applicants" "LGroupRegistration$Applicants;", Cond.methodLink RX4 101 yX4_cellOfHost, Cond.instanceMethod yX4_cellOfHost, Cond.selects RX4 yX4_cellOfHost yX4_cellOfHost, Cond.initialized RX4, Cond.code yX4_cellOfHost cX4_cellOfHost 4 (some .int), Cond.instanceMethod yX1_stationOfHost, Cond.initialized RX1, Cond.selects RX1 yX1_stationOfHost yX1_stationOfHost, Cond.code yX1_stationOfHost cX1_stationOfHost 2 (some .int), Cond.fieldLink RX1 19 "GroupRegistration$Network" "hostCount" "I", Cond.methodLink RX4 160 yX4_isGroup, Cond.static yX4_isGroup, Cond.code yX4_isGroup cX4_isGroup 1 (some .boolean), Cond.methodLink RX4 150 yX4_cellOf, Cond.static yX4_cellOf, Cond.code yX4_cellOf cX4_cellOf 2 (some .int), Cond.methodLink RX4 144 yX4_hostsReached, Cond.instanceMethod yX4_hostsReached, Cond.selects RX4 yX4_hostsReached yX4_hostsReached, Cond.code yX4_hostsReached cX4_hostsReached 7 (some .int), Cond.methodLink RX4 89 yX4_isPort, Cond.static yX4_isPort]
def wsX4_needlessCount_r2 : List Cond := [Cond.code yX4_isPort cX4_isPort 1 (some .boolean), Cond.methodLink RX4 222 yX4_nextArrivals, Cond.instanceMethod yX4_nextArrivals, Cond.selects RX4 yX4_nextArrivals yX4_nextArrivals, Cond.code yX4_nextArrivals cX4_nextArrivals 5 (some .int), Cond.methodLink RX4 171 yX4_isRegisteredAt, Cond.instanceMethod yX4_isRegisteredAt, Cond.selects RX4 yX4_isRegisteredAt yX4_isRegisteredAt, Cond.code yX4_isRegisteredAt cX4_isRegisteredAt 3 (some .boolean), Cond.fieldLink RX4 19 "GroupRegistration" "registrars" "LGroupRegistration$Registrars;", Cond.instanceMethod yX1_isConnected, Cond.selects RX1 yX1_isConnected yX1_isConnected, Cond.code yX1_isConnected cX1_isConnected 2 (some .boolean), Cond.fieldLink RX1 9 "GroupRegistration$Network" "otherEnd" "[I", Cond.static yX4_isStation, Cond.code yX4_isStation cX4_isStation 1 (some .boolean), Cond.methodLink RX4 225 yX4_arrivesBeside, Cond.static yX4_arrivesBeside, Cond.code yX4_arrivesBeside cX4_arrivesBeside 4 (some .boolean), Cond.methodLink RX4 168 yX4_bridgeOf, Cond.static yX4_bridgeOf, Cond.code yX4_bridgeOf cX4_bridgeOf 1 (some .int), Cond.methodLink RX4 156 yX4_contains, Cond.static yX4_contains]
def wsX4_needlessCount_r3 : List Cond := [Cond.code yX4_contains cX4_contains 2 (some .boolean), Cond.instanceMethod yX0_isDeclaring, Cond.initialized RX0, Cond.selects RX0 yX0_isDeclaring yX0_isDeclaring, Cond.code yX0_isDeclaring cX0_isDeclaring 2 (some .boolean), Cond.fieldLink RX0 9 "GroupRegistration$Applicants" "state" "[I"]
def wsX4_needlessCount : List Cond := .code yX4_needlessCount cX4_needlessCount 8 (some .int) :: ((wsX4_needlessCount_r1 ++ (wsX4_needlessCount_r2 ++ wsX4_needlessCount_r3)) ++ wsX40 ++ wsX10 ++ wsX30 ++ wsX00)
def wsX4_distance_r1 : List Cond := [Cond.fieldLink RX4 12 "GroupRegistration" "network" "LGroupRegistration$Network;", Cond.instanceMethod yX1_stationOfHost, Cond.initialized RX1, Cond.selects RX1 yX1_stationOfHost yX1_stationOfHost, Cond.code yX1_stationOfHost cX1_stationOfHost 2 (some .int), Cond.fieldLink RX1 19 "GroupRegistration$Network" "hostCount" "I", Cond.methodLink RX4 147 yX4_bridgesBetweenHosts, Cond.instanceMethod yX4_bridgesBetweenHosts, Cond.selects RX4 yX4_bridgesBetweenHosts yX4_bridgesBetweenHosts, Cond.initialized RX4, Cond.code yX4_bridgesBetweenHosts cX4_bridgesBetweenHosts 5 (some .int), Cond.methodLink RX4 89 yX4_isPort, Cond.static yX4_isPort, Cond.code yX4_isPort cX4_isPort 1 (some .boolean), Cond.methodLink RX4 168 yX4_bridgeOf, Cond.static yX4_bridgeOf, Cond.code yX4_bridgeOf cX4_bridgeOf 1 (some .int), Cond.instanceMethod yX1_bridgesOnWay, Cond.selects RX1 yX1_bridgesOnWay yX1_bridgesOnWay, Cond.code yX1_bridgesOnWay cX1_bridgesOnWay 5 (some .int), Cond.static yX4_contains, Cond.code yX4_contains cX4_contains 2 (some .boolean), Cond.methodLink RX1 39 yX1_neighboursOf, Cond.instanceMethod yX1_neighboursOf]
def wsX4_distance_r2 : List Cond := [Cond.selects RX1 yX1_neighboursOf yX1_neighboursOf, Cond.code yX1_neighboursOf cX1_neighboursOf 5 (some .int), Cond.fieldLink RX1 9 "GroupRegistration$Network" "otherEnd" "[I"]
def wsX4_distance : List Cond := .code yX4_distance cX4_distance 3 (some .int) :: ((wsX4_distance_r1 ++ wsX4_distance_r2) ++ wsX40 ++ wsX10)
def wsX5_init : List Cond := .code yX5_init cX5_init 2 none :: ([.methodLink RX5 1 objectInit, .instanceMethod objectInit, .code objectInit ⟨#[0xb1]⟩ 1 none, .arrayClass .int, .fieldLink RX5 7 "GroupRegistrationModel" "peer" "[I", .fieldLink RX5 13 "GroupRegistrationModel" "hostPort" "[I", .arrayClass .boolean, .fieldLink RX5 16 "GroupRegistrationModel" "isSilent" "[Z", .fieldLink RX5 20 "GroupRegistrationModel" "leaveTime" "I", .fieldLink RX5 24 "GroupRegistrationModel" "state" "[I", .fieldLink RX5 27 "GroupRegistrationModel" "timer" "[I", .fieldLink RX5 30 "GroupRegistrationModel" "applies" "[I", .fieldLink RX5 33 "GroupRegistrationModel" "joins" "[I", .fieldLink RX5 36 "GroupRegistrationModel" "allTimer" "[I", .fieldLink RX5 39 "GroupRegistrationModel" "isMarked" "[Z", .fieldLink RX5 42 "GroupRegistrationModel" "hostApplies" "[I", .fieldLink RX5 45 "GroupRegistrationModel" "hostJoins" "[I", .fieldLink RX5 48 "GroupRegistrationModel" "isDue" "[Z", .fieldLink RX5 51 "GroupRegistrationModel" "sendsAll" "[Z", .fieldLink RX5 54 "GroupRegistrationModel" "sends" "[I", .fieldLink RX5 57 "GroupRegistrationModel" "hostSends" "[I", .fieldLink RX5 60 "GroupRegistrationModel" "arrives" "[I", .fieldLink RX5 63 "GroupRegistrationModel" "far" "[I"] ++ wsX50)
def wsX5_within : List Cond := .code yX5_within cX5_within 3 (some .boolean) :: ([])
def wsX5_isPort : List Cond := .code yX5_isPort cX5_isPort 3 (some .boolean) :: ([.fieldLink RX5 66 "GroupRegistrationModel" "bridges" "I", .methodLink RX5 69 yX5_within, .static yX5_within, .initialized RX5, .code yX5_within cX5_within 3 (some .boolean)] ++ wsX50)
def wsX5_isHost : List Cond := .code yX5_isHost cX5_isHost 2 (some .boolean) :: ([.fieldLink RX5 73 "GroupRegistrationModel" "hosts" "I", .methodLink RX5 69 yX5_within, .static yX5_within, .initialized RX5, .code yX5_within cX5_within 3 (some .boolean)] ++ wsX50)
def wsX5_isGroup : List Cond := .code yX5_isGroup cX5_isGroup 1 (some .boolean) :: ([.methodLink RX5 69 yX5_within, .static yX5_within, .initialized RX5, .code yX5_within cX5_within 3 (some .boolean)])
def wsX5_isConnected : List Cond := .code yX5_isConnected cX5_isConnected 2 (some .boolean) :: ([.fieldLink RX5 7 "GroupRegistrationModel" "peer" "[I"] ++ wsX50)
def wsX5_isLinked : List Cond := .code yX5_isLinked cX5_isLinked 2 (some .boolean) :: ([.fieldLink RX5 7 "GroupRegistrationModel" "peer" "[I", .methodLink RX5 69 yX5_within, .static yX5_within, .initialized RX5, .code yX5_within cX5_within 3 (some .boolean)] ++ wsX50)
def wsX5_addBridge : List Cond := .code yX5_addBridge cX5_addBridge 1 (some .int) :: ([.fieldLink RX5 66 "GroupRegistrationModel" "bridges" "I"] ++ wsX50)
def wsX5_partOf : List Cond := .code yX5_partOf cX5_partOf 5 (some .int) :: ([.fieldLink RX5 7 "GroupRegistrationModel" "peer" "[I", .methodLink RX5 76 yX5_isLinked, .instanceMethod yX5_isLinked, .selects RX5 yX5_isLinked yX5_isLinked, .initialized RX5, .code yX5_isLinked cX5_isLinked 2 (some .boolean), .methodLink RX5 69 yX5_within, .static yX5_within, .code yX5_within cX5_within 3 (some .boolean)] ++ wsX50)
def wsX5_resets : List Cond := .code yX5_resets cX5_resets 4 none :: ([.fieldLink RX5 7 "GroupRegistrationModel" "peer" "[I", .fieldLink RX5 39 "GroupRegistrationModel" "isMarked" "[Z", .fieldLink RX5 36 "GroupRegistrationModel" "allTimer" "[I", .fieldLink RX5 80 "GroupRegistrationModel" "leaveAllTime" "I", .fieldLink RX5 24 "GroupRegistrationModel" "state" "[I", .fieldLink RX5 27 "GroupRegistrationModel" "timer" "[I", .fieldLink RX5 30 "GroupRegistrationModel" "applies" "[I", .fieldLink RX5 33 "GroupRegistrationModel" "joins" "[I"] ++ wsX50)
def wsX5_connect_r1 : List Cond := [Cond.fieldLink RX5 98 "GroupRegistrationModel" "links" "I", Cond.methodLink RX5 83 yX5_isPort, Cond.instanceMethod yX5_isPort, Cond.selects RX5 yX5_isPort yX5_isPort, Cond.initialized RX5, Cond.code yX5_isPort cX5_isPort 3 (some .boolean), Cond.fieldLink RX5 66 "GroupRegistrationModel" "bridges" "I", Cond.methodLink RX5 69 yX5_within, Cond.static yX5_within, Cond.code yX5_within cX5_within 3 (some .boolean), Cond.methodLink RX5 87 yX5_isConnected, Cond.instanceMethod yX5_isConnected, Cond.selects RX5 yX5_isConnected yX5_isConnected, Cond.code yX5_isConnected cX5_isConnected 2 (some .boolean), Cond.fieldLink RX5 7 "GroupRegistrationModel" "peer" "[I", Cond.methodLink RX5 90 yX5_partOf, Cond.instanceMethod yX5_partOf, Cond.selects RX5 yX5_partOf yX5_partOf, Cond.code yX5_partOf cX5_partOf 5 (some .int), Cond.methodLink RX5 76 yX5_isLinked, Cond.instanceMethod yX5_isLinked, Cond.selects RX5 yX5_isLinked yX5_isLinked, Cond.code yX5_isLinked cX5_isLinked 2 (some .boolean), Cond.methodLink RX5 94 yX5_resets]
def wsX5_connect_r2 : List Cond := [Cond.instanceMethod yX5_resets, Cond.selects RX5 yX5_resets yX5_resets, Cond.code yX5_resets cX5_resets 4 none, Cond.fieldLink RX5 39 "GroupRegistrationModel" "isMarked" "[Z", Cond.fieldLink RX5 36 "GroupRegistrationModel" "allTimer" "[I", Cond.fieldLink RX5 80 "GroupRegistrationModel" "leaveAllTime" "I", Cond.fieldLink RX5 24 "GroupRegistrationModel" "state" "[I", Cond.fieldLink RX5 27 "GroupRegistrationModel" "timer" "[I", Cond.fieldLink RX5 30 "GroupRegistrationModel" "applies" "[I", Cond.fieldLink RX5 33 "GroupRegistrationModel" "joins" "[I"]
def wsX5_connect : List Cond := .code yX5_connect cX5_connect 7 (some .int) :: ((wsX5_connect_r1 ++ wsX5_connect_r2) ++ wsX50)
def wsX5_cut_r1 : List Cond := [Cond.fieldLink RX5 7 "GroupRegistrationModel" "peer" "[I", Cond.fieldLink RX5 98 "GroupRegistrationModel" "links" "I", Cond.methodLink RX5 83 yX5_isPort, Cond.instanceMethod yX5_isPort, Cond.selects RX5 yX5_isPort yX5_isPort, Cond.initialized RX5, Cond.code yX5_isPort cX5_isPort 3 (some .boolean), Cond.fieldLink RX5 66 "GroupRegistrationModel" "bridges" "I", Cond.methodLink RX5 69 yX5_within, Cond.static yX5_within, Cond.code yX5_within cX5_within 3 (some .boolean), Cond.methodLink RX5 76 yX5_isLinked, Cond.instanceMethod yX5_isLinked, Cond.selects RX5 yX5_isLinked yX5_isLinked, Cond.code yX5_isLinked cX5_isLinked 2 (some .boolean), Cond.methodLink RX5 94 yX5_resets, Cond.instanceMethod yX5_resets, Cond.selects RX5 yX5_resets yX5_resets, Cond.code yX5_resets cX5_resets 4 none, Cond.fieldLink RX5 39 "GroupRegistrationModel" "isMarked" "[Z", Cond.fieldLink RX5 36 "GroupRegistrationModel" "allTimer" "[I", Cond.fieldLink RX5 80 "GroupRegistrationModel" "leaveAllTime" "I", Cond.fieldLink RX5 24 "GroupRegistrationModel" "state" "[I", Cond.fieldLink RX5 27 "GroupRegistrationModel" "timer" "[I"]
def wsX5_cut_r2 : List Cond := [Cond.fieldLink RX5 30 "GroupRegistrationModel" "applies" "[I", Cond.fieldLink RX5 33 "GroupRegistrationModel" "joins" "[I"]
def wsX5_cut : List Cond := .code yX5_cut cX5_cut 4 (some .int) :: ((wsX5_cut_r1 ++ wsX5_cut_r2) ++ wsX50)
def wsX5_addHost_r1 : List Cond := [Cond.fieldLink RX5 73 "GroupRegistrationModel" "hosts" "I", Cond.fieldLink RX5 13 "GroupRegistrationModel" "hostPort" "[I", Cond.methodLink RX5 83 yX5_isPort, Cond.instanceMethod yX5_isPort, Cond.selects RX5 yX5_isPort yX5_isPort, Cond.initialized RX5, Cond.code yX5_isPort cX5_isPort 3 (some .boolean), Cond.fieldLink RX5 66 "GroupRegistrationModel" "bridges" "I", Cond.methodLink RX5 69 yX5_within, Cond.static yX5_within, Cond.code yX5_within cX5_within 3 (some .boolean), Cond.methodLink RX5 87 yX5_isConnected, Cond.instanceMethod yX5_isConnected, Cond.selects RX5 yX5_isConnected yX5_isConnected, Cond.code yX5_isConnected cX5_isConnected 2 (some .boolean), Cond.fieldLink RX5 7 "GroupRegistrationModel" "peer" "[I", Cond.methodLink RX5 94 yX5_resets, Cond.instanceMethod yX5_resets, Cond.selects RX5 yX5_resets yX5_resets, Cond.code yX5_resets cX5_resets 4 none, Cond.fieldLink RX5 39 "GroupRegistrationModel" "isMarked" "[Z", Cond.fieldLink RX5 36 "GroupRegistrationModel" "allTimer" "[I", Cond.fieldLink RX5 80 "GroupRegistrationModel" "leaveAllTime" "I", Cond.fieldLink RX5 24 "GroupRegistrationModel" "state" "[I"]
def wsX5_addHost_r2 : List Cond := [Cond.fieldLink RX5 27 "GroupRegistrationModel" "timer" "[I", Cond.fieldLink RX5 30 "GroupRegistrationModel" "applies" "[I", Cond.fieldLink RX5 33 "GroupRegistrationModel" "joins" "[I"]
def wsX5_addHost : List Cond := .code yX5_addHost cX5_addHost 4 (some .int) :: ((wsX5_addHost_r1 ++ wsX5_addHost_r2) ++ wsX50)
def wsX5_setTimes : List Cond := .code yX5_setTimes cX5_setTimes 5 (some .int) :: ([.fieldLink RX5 20 "GroupRegistrationModel" "leaveTime" "I", .fieldLink RX5 80 "GroupRegistrationModel" "leaveAllTime" "I", .fieldLink RX5 36 "GroupRegistrationModel" "allTimer" "[I", .methodLink RX5 69 yX5_within, .static yX5_within, .initialized RX5, .code yX5_within cX5_within 3 (some .boolean), .methodLink RX5 87 yX5_isConnected, .instanceMethod yX5_isConnected, .selects RX5 yX5_isConnected yX5_isConnected, .code yX5_isConnected cX5_isConnected 2 (some .boolean), .fieldLink RX5 7 "GroupRegistrationModel" "peer" "[I"] ++ wsX50)
def wsX5_declares : List Cond := .code yX5_declares cX5_declares 1 (some .boolean) :: ([])
def wsX5_refusedHost : List Cond := .code yX5_refusedHost cX5_refusedHost 3 (some .int) :: ([.methodLink RX5 101 yX5_isHost, .instanceMethod yX5_isHost, .selects RX5 yX5_isHost yX5_isHost, .initialized RX5, .code yX5_isHost cX5_isHost 2 (some .boolean), .fieldLink RX5 73 "GroupRegistrationModel" "hosts" "I", .methodLink RX5 69 yX5_within, .static yX5_within, .code yX5_within cX5_within 3 (some .boolean), .methodLink RX5 104 yX5_isGroup, .static yX5_isGroup, .code yX5_isGroup cX5_isGroup 1 (some .boolean)] ++ wsX50)
def wsX5_join : List Cond := .code yX5_join cX5_join 5 (some .int) :: ([.fieldLink RX5 42 "GroupRegistrationModel" "hostApplies" "[I", .fieldLink RX5 45 "GroupRegistrationModel" "hostJoins" "[I", .methodLink RX5 107 yX5_refusedHost, .instanceMethod yX5_refusedHost, .selects RX5 yX5_refusedHost yX5_refusedHost, .initialized RX5, .code yX5_refusedHost cX5_refusedHost 3 (some .int), .methodLink RX5 101 yX5_isHost, .instanceMethod yX5_isHost, .selects RX5 yX5_isHost yX5_isHost, .code yX5_isHost cX5_isHost 2 (some .boolean), .fieldLink RX5 73 "GroupRegistrationModel" "hosts" "I", .methodLink RX5 69 yX5_within, .static yX5_within, .code yX5_within cX5_within 3 (some .boolean), .methodLink RX5 104 yX5_isGroup, .static yX5_isGroup, .code yX5_isGroup cX5_isGroup 1 (some .boolean), .methodLink RX5 111 yX5_declares, .static yX5_declares, .code yX5_declares cX5_declares 1 (some .boolean)] ++ wsX50)
def wsX5_leave : List Cond := .code yX5_leave cX5_leave 5 (some .int) :: ([.fieldLink RX5 42 "GroupRegistrationModel" "hostApplies" "[I", .methodLink RX5 107 yX5_refusedHost, .instanceMethod yX5_refusedHost, .selects RX5 yX5_refusedHost yX5_refusedHost, .initialized RX5, .code yX5_refusedHost cX5_refusedHost 3 (some .int), .methodLink RX5 101 yX5_isHost, .instanceMethod yX5_isHost, .selects RX5 yX5_isHost yX5_isHost, .code yX5_isHost cX5_isHost 2 (some .boolean), .fieldLink RX5 73 "GroupRegistrationModel" "hosts" "I", .methodLink RX5 69 yX5_within, .static yX5_within, .code yX5_within cX5_within 3 (some .boolean), .methodLink RX5 104 yX5_isGroup, .static yX5_isGroup, .code yX5_isGroup cX5_isGroup 1 (some .boolean), .methodLink RX5 111 yX5_declares, .static yX5_declares, .code yX5_declares cX5_declares 1 (some .boolean)] ++ wsX50)
def wsX5_setSilent : List Cond := .code yX5_setSilent cX5_setSilent 4 (some .int) :: ([.fieldLink RX5 16 "GroupRegistrationModel" "isSilent" "[Z", .methodLink RX5 101 yX5_isHost, .instanceMethod yX5_isHost, .selects RX5 yX5_isHost yX5_isHost, .initialized RX5, .code yX5_isHost cX5_isHost 2 (some .boolean), .fieldLink RX5 73 "GroupRegistrationModel" "hosts" "I", .methodLink RX5 69 yX5_within, .static yX5_within, .code yX5_within cX5_within 3 (some .boolean)] ++ wsX50)
def wsX5_loseNext : List Cond := .code yX5_loseNext cX5_loseNext 5 (some .int) :: ([.fieldLink RX5 39 "GroupRegistrationModel" "isMarked" "[Z", .methodLink RX5 83 yX5_isPort, .instanceMethod yX5_isPort, .selects RX5 yX5_isPort yX5_isPort, .initialized RX5, .code yX5_isPort cX5_isPort 3 (some .boolean), .fieldLink RX5 66 "GroupRegistrationModel" "bridges" "I", .methodLink RX5 69 yX5_within, .static yX5_within, .code yX5_within cX5_within 3 (some .boolean), .methodLink RX5 76 yX5_isLinked, .instanceMethod yX5_isLinked, .selects RX5 yX5_isLinked yX5_isLinked, .code yX5_isLinked cX5_isLinked 2 (some .boolean), .fieldLink RX5 7 "GroupRegistrationModel" "peer" "[I"] ++ wsX50)
def wsX5_ages : List Cond := .code yX5_ages cX5_ages 3 none :: ([.fieldLink RX5 48 "GroupRegistrationModel" "isDue" "[Z", .fieldLink RX5 24 "GroupRegistrationModel" "state" "[I", .fieldLink RX5 27 "GroupRegistrationModel" "timer" "[I", .fieldLink RX5 36 "GroupRegistrationModel" "allTimer" "[I", .fieldLink RX5 80 "GroupRegistrationModel" "leaveAllTime" "I"] ++ wsX50)
def wsX5_isWanted : List Cond := .code yX5_isWanted cX5_isWanted 4 (some .boolean) :: ([.fieldLink RX5 24 "GroupRegistrationModel" "state" "[I", .methodLink RX5 87 yX5_isConnected, .instanceMethod yX5_isConnected, .selects RX5 yX5_isConnected yX5_isConnected, .initialized RX5, .code yX5_isConnected cX5_isConnected 2 (some .boolean), .fieldLink RX5 7 "GroupRegistrationModel" "peer" "[I"] ++ wsX50)
def wsX5_propagates : List Cond := .code yX5_propagates cX5_propagates 5 none :: ([.fieldLink RX5 30 "GroupRegistrationModel" "applies" "[I", .fieldLink RX5 33 "GroupRegistrationModel" "joins" "[I", .methodLink RX5 114 yX5_isWanted, .instanceMethod yX5_isWanted, .selects RX5 yX5_isWanted yX5_isWanted, .initialized RX5, .code yX5_isWanted cX5_isWanted 4 (some .boolean), .fieldLink RX5 24 "GroupRegistrationModel" "state" "[I", .methodLink RX5 87 yX5_isConnected, .instanceMethod yX5_isConnected, .selects RX5 yX5_isConnected yX5_isConnected, .code yX5_isConnected cX5_isConnected 2 (some .boolean), .fieldLink RX5 7 "GroupRegistrationModel" "peer" "[I", .methodLink RX5 111 yX5_declares, .static yX5_declares, .code yX5_declares cX5_declares 1 (some .boolean)] ++ wsX50)
def wsX5_leavesAll : List Cond := .code yX5_leavesAll cX5_leavesAll 3 none :: ([.fieldLink RX5 24 "GroupRegistrationModel" "state" "[I", .fieldLink RX5 27 "GroupRegistrationModel" "timer" "[I", .fieldLink RX5 20 "GroupRegistrationModel" "leaveTime" "I", .fieldLink RX5 30 "GroupRegistrationModel" "applies" "[I", .fieldLink RX5 33 "GroupRegistrationModel" "joins" "[I"] ++ wsX50)
def wsX5_sendsOf : List Cond := .code yX5_sendsOf cX5_sendsOf 4 (some .int) :: ([.fieldLink RX5 51 "GroupRegistrationModel" "sendsAll" "[Z", .fieldLink RX5 48 "GroupRegistrationModel" "isDue" "[Z", .fieldLink RX5 54 "GroupRegistrationModel" "sends" "[I", .fieldLink RX5 30 "GroupRegistrationModel" "applies" "[I", .fieldLink RX5 33 "GroupRegistrationModel" "joins" "[I", .methodLink RX5 117 yX5_leavesAll, .instanceMethod yX5_leavesAll, .selects RX5 yX5_leavesAll yX5_leavesAll, .initialized RX5, .code yX5_leavesAll cX5_leavesAll 3 none, .fieldLink RX5 24 "GroupRegistrationModel" "state" "[I", .fieldLink RX5 27 "GroupRegistrationModel" "timer" "[I", .fieldLink RX5 20 "GroupRegistrationModel" "leaveTime" "I"] ++ wsX50)
def wsX5_sendsOfHost : List Cond := .code yX5_sendsOfHost cX5_sendsOfHost 4 (some .int) :: ([.fieldLink RX5 57 "GroupRegistrationModel" "hostSends" "[I", .fieldLink RX5 16 "GroupRegistrationModel" "isSilent" "[Z", .fieldLink RX5 42 "GroupRegistrationModel" "hostApplies" "[I", .fieldLink RX5 45 "GroupRegistrationModel" "hostJoins" "[I"] ++ wsX50)
def wsX5_gets : List Cond := .code yX5_gets cX5_gets 3 none :: ([.fieldLink RX5 24 "GroupRegistrationModel" "state" "[I", .fieldLink RX5 27 "GroupRegistrationModel" "timer" "[I", .fieldLink RX5 20 "GroupRegistrationModel" "leaveTime" "I"] ++ wsX50)
def wsX5_hostLeavesAll : List Cond := .code yX5_hostLeavesAll cX5_hostLeavesAll 3 none :: ([.fieldLink RX5 42 "GroupRegistrationModel" "hostApplies" "[I", .fieldLink RX5 45 "GroupRegistrationModel" "hostJoins" "[I"] ++ wsX50)
def wsX5_delivers_r1 : List Cond := [Cond.fieldLink RX5 51 "GroupRegistrationModel" "sendsAll" "[Z", Cond.fieldLink RX5 7 "GroupRegistrationModel" "peer" "[I", Cond.fieldLink RX5 39 "GroupRegistrationModel" "isMarked" "[Z", Cond.fieldLink RX5 54 "GroupRegistrationModel" "sends" "[I", Cond.methodLink RX5 76 yX5_isLinked, Cond.instanceMethod yX5_isLinked, Cond.selects RX5 yX5_isLinked yX5_isLinked, Cond.initialized RX5, Cond.code yX5_isLinked cX5_isLinked 2 (some .boolean), Cond.methodLink RX5 69 yX5_within, Cond.static yX5_within, Cond.code yX5_within cX5_within 3 (some .boolean), Cond.methodLink RX5 121 yX5_hostLeavesAll, Cond.instanceMethod yX5_hostLeavesAll, Cond.selects RX5 yX5_hostLeavesAll yX5_hostLeavesAll, Cond.code yX5_hostLeavesAll cX5_hostLeavesAll 3 none, Cond.fieldLink RX5 42 "GroupRegistrationModel" "hostApplies" "[I", Cond.fieldLink RX5 45 "GroupRegistrationModel" "hostJoins" "[I", Cond.methodLink RX5 117 yX5_leavesAll, Cond.instanceMethod yX5_leavesAll, Cond.selects RX5 yX5_leavesAll yX5_leavesAll, Cond.code yX5_leavesAll cX5_leavesAll 3 none, Cond.fieldLink RX5 24 "GroupRegistrationModel" "state" "[I", Cond.fieldLink RX5 27 "GroupRegistrationModel" "timer" "[I"]
def wsX5_delivers_r2 : List Cond := [Cond.fieldLink RX5 20 "GroupRegistrationModel" "leaveTime" "I", Cond.fieldLink RX5 30 "GroupRegistrationModel" "applies" "[I", Cond.fieldLink RX5 33 "GroupRegistrationModel" "joins" "[I", Cond.methodLink RX5 124 yX5_gets, Cond.instanceMethod yX5_gets, Cond.selects RX5 yX5_gets yX5_gets, Cond.code yX5_gets cX5_gets 3 none]
def wsX5_delivers : List Cond := .code yX5_delivers cX5_delivers 4 none :: ((wsX5_delivers_r1 ++ wsX5_delivers_r2) ++ wsX50)
def wsX5_passes_r1 : List Cond := [Cond.fieldLink RX5 73 "GroupRegistrationModel" "hosts" "I", Cond.fieldLink RX5 13 "GroupRegistrationModel" "hostPort" "[I", Cond.fieldLink RX5 57 "GroupRegistrationModel" "hostSends" "[I", Cond.fieldLink RX5 142 "GroupRegistrationModel" "now" "I", Cond.methodLink RX5 87 yX5_isConnected, Cond.instanceMethod yX5_isConnected, Cond.selects RX5 yX5_isConnected yX5_isConnected, Cond.initialized RX5, Cond.code yX5_isConnected cX5_isConnected 2 (some .boolean), Cond.fieldLink RX5 7 "GroupRegistrationModel" "peer" "[I", Cond.methodLink RX5 127 yX5_ages, Cond.instanceMethod yX5_ages, Cond.selects RX5 yX5_ages yX5_ages, Cond.code yX5_ages cX5_ages 3 none, Cond.fieldLink RX5 48 "GroupRegistrationModel" "isDue" "[Z", Cond.fieldLink RX5 24 "GroupRegistrationModel" "state" "[I", Cond.fieldLink RX5 27 "GroupRegistrationModel" "timer" "[I", Cond.fieldLink RX5 36 "GroupRegistrationModel" "allTimer" "[I", Cond.fieldLink RX5 80 "GroupRegistrationModel" "leaveAllTime" "I", Cond.methodLink RX5 130 yX5_propagates, Cond.instanceMethod yX5_propagates, Cond.selects RX5 yX5_propagates yX5_propagates, Cond.code yX5_propagates cX5_propagates 5 none, Cond.fieldLink RX5 30 "GroupRegistrationModel" "applies" "[I"]
def wsX5_passes_r2 : List Cond := [Cond.fieldLink RX5 33 "GroupRegistrationModel" "joins" "[I", Cond.methodLink RX5 114 yX5_isWanted, Cond.instanceMethod yX5_isWanted, Cond.selects RX5 yX5_isWanted yX5_isWanted, Cond.code yX5_isWanted cX5_isWanted 4 (some .boolean), Cond.methodLink RX5 111 yX5_declares, Cond.static yX5_declares, Cond.code yX5_declares cX5_declares 1 (some .boolean), Cond.methodLink RX5 133 yX5_sendsOf, Cond.instanceMethod yX5_sendsOf, Cond.selects RX5 yX5_sendsOf yX5_sendsOf, Cond.code yX5_sendsOf cX5_sendsOf 4 (some .int), Cond.fieldLink RX5 51 "GroupRegistrationModel" "sendsAll" "[Z", Cond.fieldLink RX5 54 "GroupRegistrationModel" "sends" "[I", Cond.methodLink RX5 117 yX5_leavesAll, Cond.instanceMethod yX5_leavesAll, Cond.selects RX5 yX5_leavesAll yX5_leavesAll, Cond.code yX5_leavesAll cX5_leavesAll 3 none, Cond.fieldLink RX5 20 "GroupRegistrationModel" "leaveTime" "I", Cond.methodLink RX5 136 yX5_sendsOfHost, Cond.instanceMethod yX5_sendsOfHost, Cond.selects RX5 yX5_sendsOfHost yX5_sendsOfHost, Cond.code yX5_sendsOfHost cX5_sendsOfHost 4 (some .int), Cond.fieldLink RX5 16 "GroupRegistrationModel" "isSilent" "[Z"]
def wsX5_passes_r3 : List Cond := [Cond.fieldLink RX5 42 "GroupRegistrationModel" "hostApplies" "[I", Cond.fieldLink RX5 45 "GroupRegistrationModel" "hostJoins" "[I", Cond.methodLink RX5 139 yX5_delivers, Cond.instanceMethod yX5_delivers, Cond.selects RX5 yX5_delivers yX5_delivers, Cond.code yX5_delivers cX5_delivers 4 none, Cond.fieldLink RX5 39 "GroupRegistrationModel" "isMarked" "[Z", Cond.methodLink RX5 76 yX5_isLinked, Cond.instanceMethod yX5_isLinked, Cond.selects RX5 yX5_isLinked yX5_isLinked, Cond.code yX5_isLinked cX5_isLinked 2 (some .boolean), Cond.methodLink RX5 69 yX5_within, Cond.static yX5_within, Cond.code yX5_within cX5_within 3 (some .boolean), Cond.methodLink RX5 121 yX5_hostLeavesAll, Cond.instanceMethod yX5_hostLeavesAll, Cond.selects RX5 yX5_hostLeavesAll yX5_hostLeavesAll, Cond.code yX5_hostLeavesAll cX5_hostLeavesAll 3 none, Cond.methodLink RX5 124 yX5_gets, Cond.instanceMethod yX5_gets, Cond.selects RX5 yX5_gets yX5_gets, Cond.code yX5_gets cX5_gets 3 none]
def wsX5_passes : List Cond := .code yX5_passes cX5_passes 3 (some .int) :: ((wsX5_passes_r1 ++ (wsX5_passes_r2 ++ wsX5_passes_r3)) ++ wsX50)
def wsX5_tick_r1 : List Cond := [Cond.methodLink RX5 69 yX5_within, Cond.static yX5_within, Cond.initialized RX5, Cond.code yX5_within cX5_within 3 (some .boolean), Cond.methodLink RX5 145 yX5_passes, Cond.instanceMethod yX5_passes, Cond.selects RX5 yX5_passes yX5_passes, Cond.code yX5_passes cX5_passes 3 (some .int), Cond.fieldLink RX5 73 "GroupRegistrationModel" "hosts" "I", Cond.fieldLink RX5 13 "GroupRegistrationModel" "hostPort" "[I", Cond.fieldLink RX5 57 "GroupRegistrationModel" "hostSends" "[I", Cond.fieldLink RX5 142 "GroupRegistrationModel" "now" "I", Cond.methodLink RX5 87 yX5_isConnected, Cond.instanceMethod yX5_isConnected, Cond.selects RX5 yX5_isConnected yX5_isConnected, Cond.code yX5_isConnected cX5_isConnected 2 (some .boolean), Cond.fieldLink RX5 7 "GroupRegistrationModel" "peer" "[I", Cond.methodLink RX5 127 yX5_ages, Cond.instanceMethod yX5_ages, Cond.selects RX5 yX5_ages yX5_ages, Cond.code yX5_ages cX5_ages 3 none, Cond.fieldLink RX5 48 "GroupRegistrationModel" "isDue" "[Z", Cond.fieldLink RX5 24 "GroupRegistrationModel" "state" "[I", Cond.fieldLink RX5 27 "GroupRegistrationModel" "timer" "[I"]
def wsX5_tick_r2 : List Cond := [Cond.fieldLink RX5 36 "GroupRegistrationModel" "allTimer" "[I", Cond.fieldLink RX5 80 "GroupRegistrationModel" "leaveAllTime" "I", Cond.methodLink RX5 130 yX5_propagates, Cond.instanceMethod yX5_propagates, Cond.selects RX5 yX5_propagates yX5_propagates, Cond.code yX5_propagates cX5_propagates 5 none, Cond.fieldLink RX5 30 "GroupRegistrationModel" "applies" "[I", Cond.fieldLink RX5 33 "GroupRegistrationModel" "joins" "[I", Cond.methodLink RX5 114 yX5_isWanted, Cond.instanceMethod yX5_isWanted, Cond.selects RX5 yX5_isWanted yX5_isWanted, Cond.code yX5_isWanted cX5_isWanted 4 (some .boolean), Cond.methodLink RX5 111 yX5_declares, Cond.static yX5_declares, Cond.code yX5_declares cX5_declares 1 (some .boolean), Cond.methodLink RX5 133 yX5_sendsOf, Cond.instanceMethod yX5_sendsOf, Cond.selects RX5 yX5_sendsOf yX5_sendsOf, Cond.code yX5_sendsOf cX5_sendsOf 4 (some .int), Cond.fieldLink RX5 51 "GroupRegistrationModel" "sendsAll" "[Z", Cond.fieldLink RX5 54 "GroupRegistrationModel" "sends" "[I", Cond.methodLink RX5 117 yX5_leavesAll, Cond.instanceMethod yX5_leavesAll, Cond.selects RX5 yX5_leavesAll yX5_leavesAll]
def wsX5_tick_r3 : List Cond := [Cond.code yX5_leavesAll cX5_leavesAll 3 none, Cond.fieldLink RX5 20 "GroupRegistrationModel" "leaveTime" "I", Cond.methodLink RX5 136 yX5_sendsOfHost, Cond.instanceMethod yX5_sendsOfHost, Cond.selects RX5 yX5_sendsOfHost yX5_sendsOfHost, Cond.code yX5_sendsOfHost cX5_sendsOfHost 4 (some .int), Cond.fieldLink RX5 16 "GroupRegistrationModel" "isSilent" "[Z", Cond.fieldLink RX5 42 "GroupRegistrationModel" "hostApplies" "[I", Cond.fieldLink RX5 45 "GroupRegistrationModel" "hostJoins" "[I", Cond.methodLink RX5 139 yX5_delivers, Cond.instanceMethod yX5_delivers, Cond.selects RX5 yX5_delivers yX5_delivers, Cond.code yX5_delivers cX5_delivers 4 none, Cond.fieldLink RX5 39 "GroupRegistrationModel" "isMarked" "[Z", Cond.methodLink RX5 76 yX5_isLinked, Cond.instanceMethod yX5_isLinked, Cond.selects RX5 yX5_isLinked yX5_isLinked, Cond.code yX5_isLinked cX5_isLinked 2 (some .boolean), Cond.methodLink RX5 121 yX5_hostLeavesAll, Cond.instanceMethod yX5_hostLeavesAll, Cond.selects RX5 yX5_hostLeavesAll yX5_hostLeavesAll, Cond.code yX5_hostLeavesAll cX5_hostLeavesAll 3 none, Cond.methodLink RX5 124 yX5_gets, Cond.instanceMethod yX5_gets]
def wsX5_tick_r4 : List Cond := [Cond.selects RX5 yX5_gets yX5_gets, Cond.code yX5_gets cX5_gets 3 none]
def wsX5_tick : List Cond := .code yX5_tick cX5_tick 4 (some .int) :: ((wsX5_tick_r1 ++ (wsX5_tick_r2 ++ (wsX5_tick_r3 ++ wsX5_tick_r4))) ++ wsX50)
def wsX5_time : List Cond := .code yX5_time cX5_time 1 (some .int) :: ([.fieldLink RX5 142 "GroupRegistrationModel" "now" "I"] ++ wsX50)
def wsX5_refusedPort : List Cond := .code yX5_refusedPort cX5_refusedPort 4 (some .int) :: ([.methodLink RX5 83 yX5_isPort, .instanceMethod yX5_isPort, .selects RX5 yX5_isPort yX5_isPort, .initialized RX5, .code yX5_isPort cX5_isPort 3 (some .boolean), .fieldLink RX5 66 "GroupRegistrationModel" "bridges" "I", .methodLink RX5 69 yX5_within, .static yX5_within, .code yX5_within cX5_within 3 (some .boolean), .methodLink RX5 104 yX5_isGroup, .static yX5_isGroup, .code yX5_isGroup cX5_isGroup 1 (some .boolean)] ++ wsX50)
def wsX5_registrar : List Cond := .code yX5_registrar cX5_registrar 5 (some .int) :: ([.fieldLink RX5 24 "GroupRegistrationModel" "state" "[I", .methodLink RX5 149 yX5_refusedPort, .instanceMethod yX5_refusedPort, .selects RX5 yX5_refusedPort yX5_refusedPort, .initialized RX5, .code yX5_refusedPort cX5_refusedPort 4 (some .int), .methodLink RX5 83 yX5_isPort, .instanceMethod yX5_isPort, .selects RX5 yX5_isPort yX5_isPort, .code yX5_isPort cX5_isPort 3 (some .boolean), .fieldLink RX5 66 "GroupRegistrationModel" "bridges" "I", .methodLink RX5 69 yX5_within, .static yX5_within, .code yX5_within cX5_within 3 (some .boolean), .methodLink RX5 104 yX5_isGroup, .static yX5_isGroup, .code yX5_isGroup cX5_isGroup 1 (some .boolean)] ++ wsX50)
def wsX5_registrarTimer : List Cond := .code yX5_registrarTimer cX5_registrarTimer 5 (some .int) :: ([.fieldLink RX5 27 "GroupRegistrationModel" "timer" "[I", .methodLink RX5 149 yX5_refusedPort, .instanceMethod yX5_refusedPort, .selects RX5 yX5_refusedPort yX5_refusedPort, .initialized RX5, .code yX5_refusedPort cX5_refusedPort 4 (some .int), .methodLink RX5 83 yX5_isPort, .instanceMethod yX5_isPort, .selects RX5 yX5_isPort yX5_isPort, .code yX5_isPort cX5_isPort 3 (some .boolean), .fieldLink RX5 66 "GroupRegistrationModel" "bridges" "I", .methodLink RX5 69 yX5_within, .static yX5_within, .code yX5_within cX5_within 3 (some .boolean), .methodLink RX5 104 yX5_isGroup, .static yX5_isGroup, .code yX5_isGroup cX5_isGroup 1 (some .boolean)] ++ wsX50)
def wsX5_applicant : List Cond := .code yX5_applicant cX5_applicant 5 (some .int) :: ([.fieldLink RX5 30 "GroupRegistrationModel" "applies" "[I", .methodLink RX5 149 yX5_refusedPort, .instanceMethod yX5_refusedPort, .selects RX5 yX5_refusedPort yX5_refusedPort, .initialized RX5, .code yX5_refusedPort cX5_refusedPort 4 (some .int), .methodLink RX5 83 yX5_isPort, .instanceMethod yX5_isPort, .selects RX5 yX5_isPort yX5_isPort, .code yX5_isPort cX5_isPort 3 (some .boolean), .fieldLink RX5 66 "GroupRegistrationModel" "bridges" "I", .methodLink RX5 69 yX5_within, .static yX5_within, .code yX5_within cX5_within 3 (some .boolean), .methodLink RX5 104 yX5_isGroup, .static yX5_isGroup, .code yX5_isGroup cX5_isGroup 1 (some .boolean)] ++ wsX50)
def wsX5_hostApplicant : List Cond := .code yX5_hostApplicant cX5_hostApplicant 4 (some .int) :: ([.fieldLink RX5 42 "GroupRegistrationModel" "hostApplies" "[I", .methodLink RX5 107 yX5_refusedHost, .instanceMethod yX5_refusedHost, .selects RX5 yX5_refusedHost yX5_refusedHost, .initialized RX5, .code yX5_refusedHost cX5_refusedHost 3 (some .int), .methodLink RX5 101 yX5_isHost, .instanceMethod yX5_isHost, .selects RX5 yX5_isHost yX5_isHost, .code yX5_isHost cX5_isHost 2 (some .boolean), .fieldLink RX5 73 "GroupRegistrationModel" "hosts" "I", .methodLink RX5 69 yX5_within, .static yX5_within, .code yX5_within cX5_within 3 (some .boolean), .methodLink RX5 104 yX5_isGroup, .static yX5_isGroup, .code yX5_isGroup cX5_isGroup 1 (some .boolean)] ++ wsX50)
def wsX5_leaveAllTimer : List Cond := .code yX5_leaveAllTimer cX5_leaveAllTimer 3 (some .int) :: ([.fieldLink RX5 36 "GroupRegistrationModel" "allTimer" "[I", .methodLink RX5 83 yX5_isPort, .instanceMethod yX5_isPort, .selects RX5 yX5_isPort yX5_isPort, .initialized RX5, .code yX5_isPort cX5_isPort 3 (some .boolean), .fieldLink RX5 66 "GroupRegistrationModel" "bridges" "I", .methodLink RX5 69 yX5_within, .static yX5_within, .code yX5_within cX5_within 3 (some .boolean)] ++ wsX50)
def wsX5_isBusy : List Cond := .code yX5_isBusy cX5_isBusy 1 (some .boolean) :: ([])
def wsX5_isPortSettled : List Cond := .code yX5_isPortSettled cX5_isPortSettled 4 (some .boolean) :: ([.fieldLink RX5 30 "GroupRegistrationModel" "applies" "[I", .fieldLink RX5 24 "GroupRegistrationModel" "state" "[I", .methodLink RX5 153 yX5_isBusy, .static yX5_isBusy, .initialized RX5, .code yX5_isBusy cX5_isBusy 1 (some .boolean), .methodLink RX5 114 yX5_isWanted, .instanceMethod yX5_isWanted, .selects RX5 yX5_isWanted yX5_isWanted, .code yX5_isWanted cX5_isWanted 4 (some .boolean), .methodLink RX5 87 yX5_isConnected, .instanceMethod yX5_isConnected, .selects RX5 yX5_isConnected yX5_isConnected, .code yX5_isConnected cX5_isConnected 2 (some .boolean), .fieldLink RX5 7 "GroupRegistrationModel" "peer" "[I"] ++ wsX50)
def wsX5_isSettled : List Cond := .code yX5_isSettled cX5_isSettled 2 (some .int) :: ([.fieldLink RX5 73 "GroupRegistrationModel" "hosts" "I", .fieldLink RX5 16 "GroupRegistrationModel" "isSilent" "[Z", .fieldLink RX5 42 "GroupRegistrationModel" "hostApplies" "[I", .methodLink RX5 87 yX5_isConnected, .instanceMethod yX5_isConnected, .selects RX5 yX5_isConnected yX5_isConnected, .initialized RX5, .code yX5_isConnected cX5_isConnected 2 (some .boolean), .fieldLink RX5 7 "GroupRegistrationModel" "peer" "[I", .methodLink RX5 156 yX5_isPortSettled, .instanceMethod yX5_isPortSettled, .selects RX5 yX5_isPortSettled yX5_isPortSettled, .code yX5_isPortSettled cX5_isPortSettled 4 (some .boolean), .fieldLink RX5 30 "GroupRegistrationModel" "applies" "[I", .fieldLink RX5 24 "GroupRegistrationModel" "state" "[I", .methodLink RX5 153 yX5_isBusy, .static yX5_isBusy, .code yX5_isBusy cX5_isBusy 1 (some .boolean), .methodLink RX5 114 yX5_isWanted, .instanceMethod yX5_isWanted, .selects RX5 yX5_isWanted yX5_isWanted, .code yX5_isWanted cX5_isWanted 4 (some .boolean)] ++ wsX50)
def wsX5_reached : List Cond := .code yX5_reached cX5_reached 8 (some .int) :: ([.fieldLink RX5 60 "GroupRegistrationModel" "arrives" "[I", .fieldLink RX5 13 "GroupRegistrationModel" "hostPort" "[I", .fieldLink RX5 24 "GroupRegistrationModel" "state" "[I", .fieldLink RX5 7 "GroupRegistrationModel" "peer" "[I", .methodLink RX5 87 yX5_isConnected, .instanceMethod yX5_isConnected, .selects RX5 yX5_isConnected yX5_isConnected, .initialized RX5, .code yX5_isConnected cX5_isConnected 2 (some .boolean), .methodLink RX5 76 yX5_isLinked, .instanceMethod yX5_isLinked, .selects RX5 yX5_isLinked yX5_isLinked, .code yX5_isLinked cX5_isLinked 2 (some .boolean), .methodLink RX5 69 yX5_within, .static yX5_within, .code yX5_within cX5_within 3 (some .boolean)] ++ wsX50)
def wsX5_receivers_r1 : List Cond := [Cond.methodLink RX5 107 yX5_refusedHost, Cond.instanceMethod yX5_refusedHost, Cond.selects RX5 yX5_refusedHost yX5_refusedHost, Cond.initialized RX5, Cond.code yX5_refusedHost cX5_refusedHost 3 (some .int), Cond.methodLink RX5 101 yX5_isHost, Cond.instanceMethod yX5_isHost, Cond.selects RX5 yX5_isHost yX5_isHost, Cond.code yX5_isHost cX5_isHost 2 (some .boolean), Cond.fieldLink RX5 73 "GroupRegistrationModel" "hosts" "I", Cond.methodLink RX5 69 yX5_within, Cond.static yX5_within, Cond.code yX5_within cX5_within 3 (some .boolean), Cond.methodLink RX5 104 yX5_isGroup, Cond.static yX5_isGroup, Cond.code yX5_isGroup cX5_isGroup 1 (some .boolean), Cond.methodLink RX5 159 yX5_reached, Cond.instanceMethod yX5_reached, Cond.selects RX5 yX5_reached yX5_reached, Cond.code yX5_reached cX5_reached 8 (some .int), Cond.fieldLink RX5 60 "GroupRegistrationModel" "arrives" "[I", Cond.fieldLink RX5 13 "GroupRegistrationModel" "hostPort" "[I", Cond.fieldLink RX5 24 "GroupRegistrationModel" "state" "[I", Cond.fieldLink RX5 7 "GroupRegistrationModel" "peer" "[I"]
def wsX5_receivers_r2 : List Cond := [Cond.methodLink RX5 87 yX5_isConnected, Cond.instanceMethod yX5_isConnected, Cond.selects RX5 yX5_isConnected yX5_isConnected, Cond.code yX5_isConnected cX5_isConnected 2 (some .boolean), Cond.methodLink RX5 76 yX5_isLinked, Cond.instanceMethod yX5_isLinked, Cond.selects RX5 yX5_isLinked yX5_isLinked, Cond.code yX5_isLinked cX5_isLinked 2 (some .boolean)]
def wsX5_receivers : List Cond := .code yX5_receivers cX5_receivers 4 (some .int) :: ((wsX5_receivers_r1 ++ wsX5_receivers_r2) ++ wsX50)
def wsX5_missedCount_r1 : List Cond := [Cond.fieldLink RX5 13 "GroupRegistrationModel" "hostPort" "[I", Cond.fieldLink RX5 73 "GroupRegistrationModel" "hosts" "I", Cond.fieldLink RX5 42 "GroupRegistrationModel" "hostApplies" "[I", Cond.methodLink RX5 107 yX5_refusedHost, Cond.instanceMethod yX5_refusedHost, Cond.selects RX5 yX5_refusedHost yX5_refusedHost, Cond.initialized RX5, Cond.code yX5_refusedHost cX5_refusedHost 3 (some .int), Cond.methodLink RX5 101 yX5_isHost, Cond.instanceMethod yX5_isHost, Cond.selects RX5 yX5_isHost yX5_isHost, Cond.code yX5_isHost cX5_isHost 2 (some .boolean), Cond.methodLink RX5 69 yX5_within, Cond.static yX5_within, Cond.code yX5_within cX5_within 3 (some .boolean), Cond.methodLink RX5 104 yX5_isGroup, Cond.static yX5_isGroup, Cond.code yX5_isGroup cX5_isGroup 1 (some .boolean), Cond.methodLink RX5 159 yX5_reached, Cond.instanceMethod yX5_reached, Cond.selects RX5 yX5_reached yX5_reached, Cond.code yX5_reached cX5_reached 8 (some .int), Cond.fieldLink RX5 60 "GroupRegistrationModel" "arrives" "[I", Cond.fieldLink RX5 24 "GroupRegistrationModel" "state" "[I"]
def wsX5_missedCount_r2 : List Cond := [Cond.fieldLink RX5 7 "GroupRegistrationModel" "peer" "[I", Cond.methodLink RX5 87 yX5_isConnected, Cond.instanceMethod yX5_isConnected, Cond.selects RX5 yX5_isConnected yX5_isConnected, Cond.code yX5_isConnected cX5_isConnected 2 (some .boolean), Cond.methodLink RX5 76 yX5_isLinked, Cond.instanceMethod yX5_isLinked, Cond.selects RX5 yX5_isLinked yX5_isLinked, Cond.code yX5_isLinked cX5_isLinked 2 (some .boolean), Cond.methodLink RX5 90 yX5_partOf, Cond.instanceMethod yX5_partOf, Cond.selects RX5 yX5_partOf yX5_partOf, Cond.code yX5_partOf cX5_partOf 5 (some .int), Cond.methodLink RX5 111 yX5_declares, Cond.static yX5_declares, Cond.code yX5_declares cX5_declares 1 (some .boolean)]
def wsX5_missedCount : List Cond := .code yX5_missedCount cX5_missedCount 9 (some .int) :: ((wsX5_missedCount_r1 ++ wsX5_missedCount_r2) ++ wsX50)
def wsX5_needlessCount_r1 : List Cond := [Cond.fieldLink RX5 73 "GroupRegistrationModel" "hosts" "I", Cond.fieldLink RX5 42 "GroupRegistrationModel" "hostApplies" "[I", Cond.methodLink RX5 107 yX5_refusedHost, Cond.instanceMethod yX5_refusedHost, Cond.selects RX5 yX5_refusedHost yX5_refusedHost, Cond.initialized RX5, Cond.code yX5_refusedHost cX5_refusedHost 3 (some .int), Cond.methodLink RX5 101 yX5_isHost, Cond.instanceMethod yX5_isHost, Cond.selects RX5 yX5_isHost yX5_isHost, Cond.code yX5_isHost cX5_isHost 2 (some .boolean), Cond.methodLink RX5 69 yX5_within, Cond.static yX5_within, Cond.code yX5_within cX5_within 3 (some .boolean), Cond.methodLink RX5 104 yX5_isGroup, Cond.static yX5_isGroup, Cond.code yX5_isGroup cX5_isGroup 1 (some .boolean), Cond.methodLink RX5 159 yX5_reached, Cond.instanceMethod yX5_reached, Cond.selects RX5 yX5_reached yX5_reached, Cond.code yX5_reached cX5_reached 8 (some .int), Cond.fieldLink RX5 60 "GroupRegistrationModel" "arrives" "[I", Cond.fieldLink RX5 13 "GroupRegistrationModel" "hostPort" "[I", Cond.fieldLink RX5 24 "GroupRegistrationModel" "state" "[I"]
def wsX5_needlessCount_r2 : List Cond := [Cond.fieldLink RX5 7 "GroupRegistrationModel" "peer" "[I", Cond.methodLink RX5 87 yX5_isConnected, Cond.instanceMethod yX5_isConnected, Cond.selects RX5 yX5_isConnected yX5_isConnected, Cond.code yX5_isConnected cX5_isConnected 2 (some .boolean), Cond.methodLink RX5 76 yX5_isLinked, Cond.instanceMethod yX5_isLinked, Cond.selects RX5 yX5_isLinked yX5_isLinked, Cond.code yX5_isLinked cX5_isLinked 2 (some .boolean), Cond.methodLink RX5 111 yX5_declares, Cond.static yX5_declares, Cond.code yX5_declares cX5_declares 1 (some .boolean)]
def wsX5_needlessCount : List Cond := .code yX5_needlessCount cX5_needlessCount 7 (some .int) :: ((wsX5_needlessCount_r1 ++ wsX5_needlessCount_r2) ++ wsX50)
def wsX5_distance : List Cond := .code yX5_distance cX5_distance 5 (some .int) :: ([.fieldLink RX5 63 "GroupRegistrationModel" "far" "[I", .fieldLink RX5 13 "GroupRegistrationModel" "hostPort" "[I", .fieldLink RX5 7 "GroupRegistrationModel" "peer" "[I", .methodLink RX5 101 yX5_isHost, .instanceMethod yX5_isHost, .selects RX5 yX5_isHost yX5_isHost, .initialized RX5, .code yX5_isHost cX5_isHost 2 (some .boolean), .fieldLink RX5 73 "GroupRegistrationModel" "hosts" "I", .methodLink RX5 69 yX5_within, .static yX5_within, .code yX5_within cX5_within 3 (some .boolean), .methodLink RX5 76 yX5_isLinked, .instanceMethod yX5_isLinked, .selects RX5 yX5_isLinked yX5_isLinked, .code yX5_isLinked cX5_isLinked 2 (some .boolean)] ++ wsX50)
def wsL_law_r1 : List Cond := [Cond.classLink RL 7 RX4, Cond.instantiable RX4 11, Cond.initialized RX4, Cond.classLink RL 10 RX5, Cond.instantiable RX5 23, Cond.initialized RX5, Cond.methodLink RL 9 yX4_init, Cond.instanceMethod yX4_init, Cond.code yX4_init cX4_init 1 none, Cond.methodLink RX4 3 objectInit, Cond.instanceMethod objectInit, Cond.code objectInit ⟨#[0xb1]⟩ 1 none, Cond.classLink RX4 9 RX1, Cond.instantiable RX1 4, Cond.initialized RX1, Cond.fieldLink RX4 12 "GroupRegistration" "network" "LGroupRegistration$Network;", Cond.classLink RX4 16 RX3, Cond.instantiable RX3 2, Cond.initialized RX3, Cond.fieldLink RX4 19 "GroupRegistration" "registrars" "LGroupRegistration$Registrars;", Cond.classLink RX4 23 RX0, Cond.instantiable RX0 2, Cond.initialized RX0, Cond.fieldLink RX4 26 "GroupRegistration" "applicants" "LGroupRegistration$Applicants;"]
def wsL_law_r2 : List Cond := [Cond.classLink RX4 30 RX2, Cond.instantiable RX2 2, Cond.initialized RX2, Cond.fieldLink RX4 33 "GroupRegistration" "outbox" "LGroupRegistration$Outbox;", Cond.arrayClass .int, Cond.fieldLink RX4 37 "GroupRegistration" "leaveAllCountdown" "[I", Cond.arrayClass .boolean, Cond.fieldLink RX4 41 "GroupRegistration" "leaveAllDue" "[Z", Cond.fieldLink RX4 45 "GroupRegistration" "markedForLoss" "[Z", Cond.fieldLink RX4 48 "GroupRegistration" "silenced" "[Z", Cond.fieldLink RX4 51 "GroupRegistration" "leaveTime" "I", Cond.fieldLink RX4 55 "GroupRegistration" "leaveAllTime" "I", Cond.fieldLink RX4 58 "GroupRegistration" "now" "I", Cond.instanceMethod yX1_init, Cond.code yX1_init cX1_init 1 none, Cond.methodLink RX1 3 objectInit, Cond.fieldLink RX1 9 "GroupRegistration$Network" "otherEnd" "[I", Cond.fieldLink RX1 15 "GroupRegistration$Network" "bridgeCount" "I", Cond.fieldLink RX1 19 "GroupRegistration$Network" "hostCount" "I", Cond.fieldLink RX1 22 "GroupRegistration$Network" "linkCount" "I", Cond.methodLink RX1 25 yJ7_fill_53178, Cond.static yJ7_fill_53178, Cond.initialized RJ7, Cond.code yJ7_fill_53178 cJ7_fill_53178 4 none]
def wsL_law_r3 : List Cond := [Cond.instanceMethod yX3_init, Cond.code yX3_init cX3_init 1 none, Cond.methodLink RX3 3 objectInit, Cond.fieldLink RX3 9 "GroupRegistration$Registrars" "state" "[I", Cond.fieldLink RX3 15 "GroupRegistration$Registrars" "timer" "[I", Cond.methodLink RX3 18 yJ7_fill_53178, Cond.instanceMethod yX0_init, Cond.code yX0_init cX0_init 1 none, Cond.methodLink RX0 3 objectInit, Cond.fieldLink RX0 9 "GroupRegistration$Applicants" "state" "[I", Cond.fieldLink RX0 15 "GroupRegistration$Applicants" "joinsToSend" "[I", Cond.methodLink RX0 18 yJ7_fill_53178, Cond.instanceMethod yX2_init, Cond.code yX2_init cX2_init 1 none, Cond.methodLink RX2 3 objectInit, Cond.fieldLink RX2 9 "GroupRegistration$Outbox" "leaveAll" "[Z", Cond.fieldLink RX2 15 "GroupRegistration$Outbox" "message" "[I", Cond.methodLink RL 12 yX5_init, Cond.instanceMethod yX5_init, Cond.code yX5_init cX5_init 2 none, Cond.methodLink RX5 1 objectInit, Cond.fieldLink RX5 7 "GroupRegistrationModel" "peer" "[I", Cond.fieldLink RX5 13 "GroupRegistrationModel" "hostPort" "[I", Cond.fieldLink RX5 16 "GroupRegistrationModel" "isSilent" "[Z"]
def wsL_law_r4 : List Cond := [Cond.fieldLink RX5 20 "GroupRegistrationModel" "leaveTime" "I", Cond.fieldLink RX5 24 "GroupRegistrationModel" "state" "[I", Cond.fieldLink RX5 27 "GroupRegistrationModel" "timer" "[I", Cond.fieldLink RX5 30 "GroupRegistrationModel" "applies" "[I", Cond.fieldLink RX5 33 "GroupRegistrationModel" "joins" "[I", Cond.fieldLink RX5 36 "GroupRegistrationModel" "allTimer" "[I", Cond.fieldLink RX5 39 "GroupRegistrationModel" "isMarked" "[Z", Cond.fieldLink RX5 42 "GroupRegistrationModel" "hostApplies" "[I", Cond.fieldLink RX5 45 "GroupRegistrationModel" "hostJoins" "[I", Cond.fieldLink RX5 48 "GroupRegistrationModel" "isDue" "[Z", Cond.fieldLink RX5 51 "GroupRegistrationModel" "sendsAll" "[Z", Cond.fieldLink RX5 54 "GroupRegistrationModel" "sends" "[I", Cond.fieldLink RX5 57 "GroupRegistrationModel" "hostSends" "[I", Cond.fieldLink RX5 60 "GroupRegistrationModel" "arrives" "[I", Cond.fieldLink RX5 63 "GroupRegistrationModel" "far" "[I", Cond.methodLink RL 13 yX4_addBridge, Cond.instanceMethod yX4_addBridge, Cond.selects RX4 yX4_addBridge yX4_addBridge, Cond.code yX4_addBridge cX4_addBridge 2 (some .int), Cond.methodLink RL 17 yX5_addBridge, Cond.instanceMethod yX5_addBridge, Cond.selects RX5 yX5_addBridge yX5_addBridge, Cond.code yX5_addBridge cX5_addBridge 1 (some .int), Cond.fieldLink RX5 66 "GroupRegistrationModel" "bridges" "I"]
def wsL_law_r5 : List Cond := [Cond.methodLink RL 18 yX4_connect, Cond.instanceMethod yX4_connect, Cond.selects RX4 yX4_connect yX4_connect, Cond.code yX4_connect cX4_connect 7 (some .int), Cond.instanceMethod yX1_stationOfPort, Cond.selects RX1 yX1_stationOfPort yX1_stationOfPort, Cond.code yX1_stationOfPort cX1_stationOfPort 3 (some .int), Cond.instanceMethod yX1_isConnected, Cond.selects RX1 yX1_isConnected yX1_isConnected, Cond.code yX1_isConnected cX1_isConnected 2 (some .boolean), Cond.static yX4_isStation, Cond.code yX4_isStation cX4_isStation 1 (some .boolean), Cond.instanceMethod yX1_bridgesOnWay, Cond.selects RX1 yX1_bridgesOnWay yX1_bridgesOnWay, Cond.code yX1_bridgesOnWay cX1_bridgesOnWay 5 (some .int), Cond.static yX4_contains, Cond.code yX4_contains cX4_contains 2 (some .boolean), Cond.methodLink RX1 39 yX1_neighboursOf, Cond.instanceMethod yX1_neighboursOf, Cond.selects RX1 yX1_neighboursOf yX1_neighboursOf, Cond.code yX1_neighboursOf cX1_neighboursOf 5 (some .int), Cond.static yX4_bridgeOf, Cond.code yX4_bridgeOf cX4_bridgeOf 1 (some .int), Cond.static yX4_isPort]
def wsL_law_r6 : List Cond := [Cond.code yX4_isPort cX4_isPort 1 (some .boolean), Cond.instanceMethod yX1_tie, Cond.selects RX1 yX1_tie yX1_tie, Cond.code yX1_tie cX1_tie 3 none, Cond.methodLink RX4 82 yX4_startPort, Cond.instanceMethod yX4_startPort, Cond.selects RX4 yX4_startPort yX4_startPort, Cond.code yX4_startPort cX4_startPort 2 none, Cond.methodLink RL 22 yX5_connect, Cond.instanceMethod yX5_connect, Cond.selects RX5 yX5_connect yX5_connect, Cond.code yX5_connect cX5_connect 7 (some .int), Cond.fieldLink RX5 98 "GroupRegistrationModel" "links" "I", Cond.methodLink RX5 83 yX5_isPort, Cond.instanceMethod yX5_isPort, Cond.selects RX5 yX5_isPort yX5_isPort, Cond.code yX5_isPort cX5_isPort 3 (some .boolean), Cond.methodLink RX5 69 yX5_within, Cond.static yX5_within, Cond.code yX5_within cX5_within 3 (some .boolean), Cond.methodLink RX5 87 yX5_isConnected, Cond.instanceMethod yX5_isConnected, Cond.selects RX5 yX5_isConnected yX5_isConnected, Cond.code yX5_isConnected cX5_isConnected 2 (some .boolean)]
def wsL_law_r7 : List Cond := [Cond.methodLink RX5 90 yX5_partOf, Cond.instanceMethod yX5_partOf, Cond.selects RX5 yX5_partOf yX5_partOf, Cond.code yX5_partOf cX5_partOf 5 (some .int), Cond.methodLink RX5 76 yX5_isLinked, Cond.instanceMethod yX5_isLinked, Cond.selects RX5 yX5_isLinked yX5_isLinked, Cond.code yX5_isLinked cX5_isLinked 2 (some .boolean), Cond.methodLink RX5 94 yX5_resets, Cond.instanceMethod yX5_resets, Cond.selects RX5 yX5_resets yX5_resets, Cond.code yX5_resets cX5_resets 4 none, Cond.fieldLink RX5 80 "GroupRegistrationModel" "leaveAllTime" "I", Cond.methodLink RL 23 yX4_cut, Cond.instanceMethod yX4_cut, Cond.selects RX4 yX4_cut yX4_cut, Cond.code yX4_cut cX4_cut 5 (some .int), Cond.methodLink RX4 89 yX4_isPort, Cond.instanceMethod yX1_untie, Cond.selects RX1 yX1_untie yX1_untie, Cond.code yX1_untie cX1_untie 3 none, Cond.methodLink RX4 95 yX4_clearPort, Cond.instanceMethod yX4_clearPort, Cond.selects RX4 yX4_clearPort yX4_clearPort]
def wsL_law_r8 : List Cond := [Cond.code yX4_clearPort cX4_clearPort 3 none, Cond.methodLink RX4 150 yX4_cellOf, Cond.static yX4_cellOf, Cond.code yX4_cellOf cX4_cellOf 2 (some .int), Cond.instanceMethod yX3_change, Cond.selects RX3 yX3_change yX3_change, Cond.code yX3_change cX3_change 4 none, Cond.instanceMethod yX0_change, Cond.selects RX0 yX0_change yX0_change, Cond.code yX0_change cX0_change 4 none, Cond.methodLink RL 27 yX5_cut, Cond.instanceMethod yX5_cut, Cond.selects RX5 yX5_cut yX5_cut, Cond.code yX5_cut cX5_cut 4 (some .int), Cond.methodLink RL 28 yX4_addHost, Cond.instanceMethod yX4_addHost, Cond.selects RX4 yX4_addHost yX4_addHost, Cond.code yX4_addHost cX4_addHost 5 (some .int), Cond.methodLink RL 31 yX5_addHost, Cond.instanceMethod yX5_addHost, Cond.selects RX5 yX5_addHost yX5_addHost, Cond.code yX5_addHost cX5_addHost 4 (some .int), Cond.fieldLink RX5 73 "GroupRegistrationModel" "hosts" "I", Cond.methodLink RL 32 yX4_setTimes]
def wsL_law_r9 : List Cond := [Cond.instanceMethod yX4_setTimes, Cond.selects RX4 yX4_setTimes yX4_setTimes, Cond.code yX4_setTimes cX4_setTimes 5 (some .int), Cond.methodLink RL 35 yX5_setTimes, Cond.instanceMethod yX5_setTimes, Cond.selects RX5 yX5_setTimes yX5_setTimes, Cond.code yX5_setTimes cX5_setTimes 5 (some .int), Cond.methodLink RL 36 yX4_join, Cond.instanceMethod yX4_join, Cond.selects RX4 yX4_join yX4_join, Cond.code yX4_join cX4_join 4 (some .int), Cond.methodLink RX4 101 yX4_cellOfHost, Cond.instanceMethod yX4_cellOfHost, Cond.selects RX4 yX4_cellOfHost yX4_cellOfHost, Cond.code yX4_cellOfHost cX4_cellOfHost 4 (some .int), Cond.instanceMethod yX1_stationOfHost, Cond.selects RX1 yX1_stationOfHost yX1_stationOfHost, Cond.code yX1_stationOfHost cX1_stationOfHost 2 (some .int), Cond.methodLink RX4 160 yX4_isGroup, Cond.static yX4_isGroup, Cond.code yX4_isGroup cX4_isGroup 1 (some .boolean), Cond.instanceMethod yX0_startDeclaring, Cond.selects RX0 yX0_startDeclaring yX0_startDeclaring, Cond.code yX0_startDeclaring cX0_startDeclaring 2 (some .boolean)]
def wsL_law_r10 : List Cond := [Cond.methodLink RX0 24 yX0_isDeclaring, Cond.instanceMethod yX0_isDeclaring, Cond.selects RX0 yX0_isDeclaring yX0_isDeclaring, Cond.code yX0_isDeclaring cX0_isDeclaring 2 (some .boolean), Cond.methodLink RX0 28 yX0_change, Cond.methodLink RL 39 yX5_join, Cond.instanceMethod yX5_join, Cond.selects RX5 yX5_join yX5_join, Cond.code yX5_join cX5_join 5 (some .int), Cond.methodLink RX5 107 yX5_refusedHost, Cond.instanceMethod yX5_refusedHost, Cond.selects RX5 yX5_refusedHost yX5_refusedHost, Cond.code yX5_refusedHost cX5_refusedHost 3 (some .int), Cond.methodLink RX5 101 yX5_isHost, Cond.instanceMethod yX5_isHost, Cond.selects RX5 yX5_isHost yX5_isHost, Cond.code yX5_isHost cX5_isHost 2 (some .boolean), Cond.methodLink RX5 104 yX5_isGroup, Cond.static yX5_isGroup, Cond.code yX5_isGroup cX5_isGroup 1 (some .boolean), Cond.methodLink RX5 111 yX5_declares, Cond.static yX5_declares, Cond.code yX5_declares cX5_declares 1 (some .boolean), Cond.methodLink RL 40 yX4_leave]
def wsL_law_r11 : List Cond := [Cond.instanceMethod yX4_leave, Cond.selects RX4 yX4_leave yX4_leave, Cond.code yX4_leave cX4_leave 4 (some .int), Cond.instanceMethod yX0_stopDeclaring, Cond.selects RX0 yX0_stopDeclaring yX0_stopDeclaring, Cond.code yX0_stopDeclaring cX0_stopDeclaring 2 (some .boolean), Cond.methodLink RL 43 yX5_leave, Cond.instanceMethod yX5_leave, Cond.selects RX5 yX5_leave yX5_leave, Cond.code yX5_leave cX5_leave 5 (some .int), Cond.methodLink RL 44 yX4_setSilent, Cond.instanceMethod yX4_setSilent, Cond.selects RX4 yX4_setSilent yX4_setSilent, Cond.code yX4_setSilent cX4_setSilent 5 (some .int), Cond.methodLink RL 48 yX5_setSilent, Cond.instanceMethod yX5_setSilent, Cond.selects RX5 yX5_setSilent yX5_setSilent, Cond.code yX5_setSilent cX5_setSilent 4 (some .int), Cond.methodLink RL 49 yX4_loseNext, Cond.instanceMethod yX4_loseNext, Cond.selects RX4 yX4_loseNext yX4_loseNext, Cond.code yX4_loseNext cX4_loseNext 5 (some .int), Cond.methodLink RL 52 yX5_loseNext, Cond.instanceMethod yX5_loseNext]
def wsL_law_r12 : List Cond := [Cond.selects RX5 yX5_loseNext yX5_loseNext, Cond.code yX5_loseNext cX5_loseNext 5 (some .int), Cond.methodLink RL 53 yX4_tick, Cond.instanceMethod yX4_tick, Cond.selects RX4 yX4_tick yX4_tick, Cond.code yX4_tick cX4_tick 4 (some .int), Cond.methodLink RX4 114 yX4_runTimers, Cond.instanceMethod yX4_runTimers, Cond.selects RX4 yX4_runTimers yX4_runTimers, Cond.code yX4_runTimers cX4_runTimers 2 none, Cond.methodLink RX4 177 yX4_countDownRegistrars, Cond.instanceMethod yX4_countDownRegistrars, Cond.selects RX4 yX4_countDownRegistrars yX4_countDownRegistrars, Cond.code yX4_countDownRegistrars cX4_countDownRegistrars 3 none, Cond.instanceMethod yX3_countDown, Cond.selects RX3 yX3_countDown yX3_countDown, Cond.code yX3_countDown cX3_countDown 2 none, Cond.methodLink RX4 180 yX4_countDownToLeaveAll, Cond.instanceMethod yX4_countDownToLeaveAll, Cond.selects RX4 yX4_countDownToLeaveAll yX4_countDownToLeaveAll, Cond.code yX4_countDownToLeaveAll cX4_countDownToLeaveAll 2 none, Cond.methodLink RX4 117 yX4_propagate, Cond.instanceMethod yX4_propagate, Cond.selects RX4 yX4_propagate yX4_propagate]
def wsL_law_r13 : List Cond := [Cond.code yX4_propagate cX4_propagate 2 none, Cond.methodLink RX4 186 yX4_propagateTo, Cond.instanceMethod yX4_propagateTo, Cond.selects RX4 yX4_propagateTo yX4_propagateTo, Cond.code yX4_propagateTo cX4_propagateTo 3 none, Cond.methodLink RX4 174 yX4_isWanted, Cond.instanceMethod yX4_isWanted, Cond.selects RX4 yX4_isWanted yX4_isWanted, Cond.code yX4_isWanted cX4_isWanted 5 (some .boolean), Cond.methodLink RX4 168 yX4_bridgeOf, Cond.methodLink RX4 171 yX4_isRegisteredAt, Cond.instanceMethod yX4_isRegisteredAt, Cond.selects RX4 yX4_isRegisteredAt yX4_isRegisteredAt, Cond.code yX4_isRegisteredAt cX4_isRegisteredAt 3 (some .boolean), Cond.methodLink RX4 120 yX4_sendAll, Cond.instanceMethod yX4_sendAll, Cond.selects RX4 yX4_sendAll yX4_sendAll, Cond.code yX4_sendAll cX4_sendAll 3 (some .int), Cond.instanceMethod yX2_clear, Cond.selects RX2 yX2_clear yX2_clear, Cond.code yX2_clear cX2_clear 2 none, Cond.methodLink RX2 19 yJ7_fill_53178, Cond.methodLink RX4 192 yX4_sendFrom, Cond.instanceMethod yX4_sendFrom]
def wsL_law_r14 : List Cond := [Cond.selects RX4 yX4_sendFrom yX4_sendFrom, Cond.code yX4_sendFrom cX4_sendFrom 5 (some .int), Cond.methodLink RX4 198 yX4_obeyLeaveAll, Cond.instanceMethod yX4_obeyLeaveAll, Cond.selects RX4 yX4_obeyLeaveAll yX4_obeyLeaveAll, Cond.code yX4_obeyLeaveAll cX4_obeyLeaveAll 4 none, Cond.instanceMethod yX3_startLeaving, Cond.selects RX3 yX3_startLeaving yX3_startLeaving, Cond.code yX3_startLeaving cX3_startLeaving 3 none, Cond.methodLink RX3 24 yX3_change, Cond.instanceMethod yX0_declareAgain, Cond.selects RX0 yX0_declareAgain yX0_declareAgain, Cond.code yX0_declareAgain cX0_declareAgain 2 none, Cond.instanceMethod yX0_nextMessage, Cond.selects RX0 yX0_nextMessage yX0_nextMessage, Cond.code yX0_nextMessage cX0_nextMessage 2 (some .int), Cond.methodLink RX4 124 yX4_receiveAll, Cond.instanceMethod yX4_receiveAll, Cond.selects RX4 yX4_receiveAll yX4_receiveAll, Cond.code yX4_receiveAll cX4_receiveAll 3 none, Cond.methodLink RX4 213 yX4_isStation, Cond.methodLink RX4 216 yX4_receiveFrom, Cond.instanceMethod yX4_receiveFrom, Cond.selects RX4 yX4_receiveFrom yX4_receiveFrom]
def wsL_law_r15 : List Cond := [Cond.code yX4_receiveFrom cX4_receiveFrom 5 none, Cond.instanceMethod yX3_hear, Cond.selects RX3 yX3_hear yX3_hear, Cond.code yX3_hear cX3_hear 4 none, Cond.methodLink RX3 28 yX3_startLeaving, Cond.methodLink RL 57 yX5_tick, Cond.instanceMethod yX5_tick, Cond.selects RX5 yX5_tick yX5_tick, Cond.code yX5_tick cX5_tick 4 (some .int), Cond.methodLink RX5 145 yX5_passes, Cond.instanceMethod yX5_passes, Cond.selects RX5 yX5_passes yX5_passes, Cond.code yX5_passes cX5_passes 3 (some .int), Cond.fieldLink RX5 142 "GroupRegistrationModel" "now" "I", Cond.methodLink RX5 127 yX5_ages, Cond.instanceMethod yX5_ages, Cond.selects RX5 yX5_ages yX5_ages, Cond.code yX5_ages cX5_ages 3 none, Cond.methodLink RX5 130 yX5_propagates, Cond.instanceMethod yX5_propagates, Cond.selects RX5 yX5_propagates yX5_propagates, Cond.code yX5_propagates cX5_propagates 5 none, Cond.methodLink RX5 114 yX5_isWanted, Cond.instanceMethod yX5_isWanted]
def wsL_law_r16 : List Cond := [Cond.selects RX5 yX5_isWanted yX5_isWanted, Cond.code yX5_isWanted cX5_isWanted 4 (some .boolean), Cond.methodLink RX5 133 yX5_sendsOf, Cond.instanceMethod yX5_sendsOf, Cond.selects RX5 yX5_sendsOf yX5_sendsOf, Cond.code yX5_sendsOf cX5_sendsOf 4 (some .int), Cond.methodLink RX5 117 yX5_leavesAll, Cond.instanceMethod yX5_leavesAll, Cond.selects RX5 yX5_leavesAll yX5_leavesAll, Cond.code yX5_leavesAll cX5_leavesAll 3 none, Cond.methodLink RX5 136 yX5_sendsOfHost, Cond.instanceMethod yX5_sendsOfHost, Cond.selects RX5 yX5_sendsOfHost yX5_sendsOfHost, Cond.code yX5_sendsOfHost cX5_sendsOfHost 4 (some .int), Cond.methodLink RX5 139 yX5_delivers, Cond.instanceMethod yX5_delivers, Cond.selects RX5 yX5_delivers yX5_delivers, Cond.code yX5_delivers cX5_delivers 4 none, Cond.methodLink RX5 121 yX5_hostLeavesAll, Cond.instanceMethod yX5_hostLeavesAll, Cond.selects RX5 yX5_hostLeavesAll yX5_hostLeavesAll, Cond.code yX5_hostLeavesAll cX5_hostLeavesAll 3 none, Cond.methodLink RX5 124 yX5_gets, Cond.instanceMethod yX5_gets]
def wsL_law_r17 : List Cond := [Cond.selects RX5 yX5_gets yX5_gets, Cond.code yX5_gets cX5_gets 3 none, Cond.methodLink RL 58 yX4_time, Cond.instanceMethod yX4_time, Cond.selects RX4 yX4_time yX4_time, Cond.code yX4_time cX4_time 1 (some .int), Cond.methodLink RL 61 yX5_time, Cond.instanceMethod yX5_time, Cond.selects RX5 yX5_time yX5_time, Cond.code yX5_time cX5_time 1 (some .int), Cond.methodLink RL 62 yX4_registrar, Cond.instanceMethod yX4_registrar, Cond.selects RX4 yX4_registrar yX4_registrar, Cond.code yX4_registrar cX4_registrar 5 (some .int), Cond.methodLink RX4 127 yX4_cellOfPort, Cond.instanceMethod yX4_cellOfPort, Cond.selects RX4 yX4_cellOfPort yX4_cellOfPort, Cond.code yX4_cellOfPort cX4_cellOfPort 5 (some .int), Cond.methodLink RL 66 yX5_registrar, Cond.instanceMethod yX5_registrar, Cond.selects RX5 yX5_registrar yX5_registrar, Cond.code yX5_registrar cX5_registrar 5 (some .int), Cond.methodLink RX5 149 yX5_refusedPort, Cond.instanceMethod yX5_refusedPort]
def wsL_law_r18 : List Cond := [Cond.selects RX5 yX5_refusedPort yX5_refusedPort, Cond.code yX5_refusedPort cX5_refusedPort 4 (some .int), Cond.methodLink RL 67 yX4_registrarTimer, Cond.instanceMethod yX4_registrarTimer, Cond.selects RX4 yX4_registrarTimer yX4_registrarTimer, Cond.code yX4_registrarTimer cX4_registrarTimer 5 (some .int), Cond.methodLink RL 70 yX5_registrarTimer, Cond.instanceMethod yX5_registrarTimer, Cond.selects RX5 yX5_registrarTimer yX5_registrarTimer, Cond.code yX5_registrarTimer cX5_registrarTimer 5 (some .int), Cond.methodLink RL 71 yX4_applicant, Cond.instanceMethod yX4_applicant, Cond.selects RX4 yX4_applicant yX4_applicant, Cond.code yX4_applicant cX4_applicant 5 (some .int), Cond.methodLink RL 74 yX5_applicant, Cond.instanceMethod yX5_applicant, Cond.selects RX5 yX5_applicant yX5_applicant, Cond.code yX5_applicant cX5_applicant 5 (some .int), Cond.methodLink RL 75 yX4_hostApplicant, Cond.instanceMethod yX4_hostApplicant, Cond.selects RX4 yX4_hostApplicant yX4_hostApplicant, Cond.code yX4_hostApplicant cX4_hostApplicant 4 (some .int), Cond.methodLink RL 78 yX5_hostApplicant, Cond.instanceMethod yX5_hostApplicant]
def wsL_law_r19 : List Cond := [Cond.selects RX5 yX5_hostApplicant yX5_hostApplicant, Cond.code yX5_hostApplicant cX5_hostApplicant 4 (some .int), Cond.methodLink RL 79 yX4_leaveAllTimer, Cond.instanceMethod yX4_leaveAllTimer, Cond.selects RX4 yX4_leaveAllTimer yX4_leaveAllTimer, Cond.code yX4_leaveAllTimer cX4_leaveAllTimer 4 (some .int), Cond.methodLink RL 82 yX5_leaveAllTimer, Cond.instanceMethod yX5_leaveAllTimer, Cond.selects RX5 yX5_leaveAllTimer yX5_leaveAllTimer, Cond.code yX5_leaveAllTimer cX5_leaveAllTimer 3 (some .int), Cond.methodLink RL 83 yX4_isSettled, Cond.instanceMethod yX4_isSettled, Cond.selects RX4 yX4_isSettled yX4_isSettled, Cond.code yX4_isSettled cX4_isSettled 2 (some .int), Cond.methodLink RX4 138 yX4_hasToSend, Cond.instanceMethod yX4_hasToSend, Cond.selects RX4 yX4_hasToSend yX4_hasToSend, Cond.code yX4_hasToSend cX4_hasToSend 4 (some .boolean), Cond.methodLink RX4 141 yX4_isPortSettled, Cond.instanceMethod yX4_isPortSettled, Cond.selects RX4 yX4_isPortSettled yX4_isPortSettled, Cond.code yX4_isPortSettled cX4_isPortSettled 5 (some .boolean), Cond.methodLink RL 86 yX5_isSettled, Cond.instanceMethod yX5_isSettled]
def wsL_law_r20 : List Cond := [Cond.selects RX5 yX5_isSettled yX5_isSettled, Cond.code yX5_isSettled cX5_isSettled 2 (some .int), Cond.methodLink RX5 156 yX5_isPortSettled, Cond.instanceMethod yX5_isPortSettled, Cond.selects RX5 yX5_isPortSettled yX5_isPortSettled, Cond.code yX5_isPortSettled cX5_isPortSettled 4 (some .boolean), Cond.methodLink RX5 153 yX5_isBusy, Cond.static yX5_isBusy, Cond.code yX5_isBusy cX5_isBusy 1 (some .boolean), Cond.methodLink RL 87 yX4_receivers, Cond.instanceMethod yX4_receivers, Cond.selects RX4 yX4_receivers yX4_receivers, Cond.code yX4_receivers cX4_receivers 4 (some .int), Cond.methodLink RX4 144 yX4_hostsReached, Cond.instanceMethod yX4_hostsReached, Cond.selects RX4 yX4_hostsReached yX4_hostsReached, Cond.code yX4_hostsReached cX4_hostsReached 7 (some .int), Cond.methodLink RX4 222 yX4_nextArrivals, Cond.instanceMethod yX4_nextArrivals, Cond.selects RX4 yX4_nextArrivals yX4_nextArrivals, Cond.code yX4_nextArrivals cX4_nextArrivals 5 (some .int), Cond.methodLink RX4 225 yX4_arrivesBeside, Cond.static yX4_arrivesBeside, Cond.code yX4_arrivesBeside cX4_arrivesBeside 4 (some .boolean)]
def wsL_law_r21 : List Cond := [Cond.methodLink RX4 156 yX4_contains, Cond.methodLink RL 90 yX5_receivers, Cond.instanceMethod yX5_receivers, Cond.selects RX5 yX5_receivers yX5_receivers, Cond.code yX5_receivers cX5_receivers 4 (some .int), Cond.methodLink RX5 159 yX5_reached, Cond.instanceMethod yX5_reached, Cond.selects RX5 yX5_reached yX5_reached, Cond.code yX5_reached cX5_reached 8 (some .int), Cond.methodLink RL 91 yX4_missedCount, Cond.instanceMethod yX4_missedCount, Cond.selects RX4 yX4_missedCount yX4_missedCount, Cond.code yX4_missedCount cX4_missedCount 8 (some .int), Cond.methodLink RX4 147 yX4_bridgesBetweenHosts, Cond.instanceMethod yX4_bridgesBetweenHosts, Cond.selects RX4 yX4_bridgesBetweenHosts yX4_bridgesBetweenHosts, Cond.code yX4_bridgesBetweenHosts cX4_bridgesBetweenHosts 5 (some .int), Cond.methodLink RL 94 yX5_missedCount, Cond.instanceMethod yX5_missedCount, Cond.selects RX5 yX5_missedCount yX5_missedCount, Cond.code yX5_missedCount cX5_missedCount 9 (some .int), Cond.methodLink RL 95 yX4_needlessCount, Cond.instanceMethod yX4_needlessCount, Cond.selects RX4 yX4_needlessCount yX4_needlessCount]
def wsL_law_r22 : List Cond := [Cond.code yX4_needlessCount cX4_needlessCount 8 (some .int), Cond.methodLink RL 98 yX5_needlessCount, Cond.instanceMethod yX5_needlessCount, Cond.selects RX5 yX5_needlessCount yX5_needlessCount, Cond.code yX5_needlessCount cX5_needlessCount 7 (some .int), Cond.methodLink RL 99 yX4_distance, Cond.instanceMethod yX4_distance, Cond.selects RX4 yX4_distance yX4_distance, Cond.code yX4_distance cX4_distance 3 (some .int), Cond.methodLink RL 102 yX5_distance, Cond.instanceMethod yX5_distance, Cond.selects RX5 yX5_distance yX5_distance, Cond.code yX5_distance cX5_distance 5 (some .int)]
def wsL_law : List Cond := (wsL_law_r1 ++ (wsL_law_r2 ++ (wsL_law_r3 ++ (wsL_law_r4 ++ (wsL_law_r5 ++ (wsL_law_r6 ++ (wsL_law_r7 ++ (wsL_law_r8 ++ (wsL_law_r9 ++ (wsL_law_r10 ++ (wsL_law_r11 ++ (wsL_law_r12 ++ (wsL_law_r13 ++ (wsL_law_r14 ++ (wsL_law_r15 ++ (wsL_law_r16 ++ (wsL_law_r17 ++ (wsL_law_r18 ++ (wsL_law_r19 ++ (wsL_law_r20 ++ (wsL_law_r21 ++ wsL_law_r22))))))))))))))))))))) ++ wsX40 ++ wsX50 ++ wsX10 ++ wsX30 ++ wsX00 ++ wsX20 ++ ([] : List Cond)
theorem lw_mem {w : Cond} (i : Nat) (h : lw_tbl[i]? = some w) : w ∈ lw_tbl := List.mem_of_getElem? h
set_option maxRecDepth 20000 in
theorem wsL_law_r1_in : ∀ w ∈ wsL_law_r1, w ∈ lw_tbl := by
  unfold wsL_law_r1
  exact List.forall_mem_cons.mpr ⟨lw_mem 67 rfl, List.forall_mem_cons.mpr ⟨lw_mem 68 rfl, List.forall_mem_cons.mpr ⟨lw_mem 60 rfl, List.forall_mem_cons.mpr ⟨lw_mem 453 rfl, List.forall_mem_cons.mpr ⟨lw_mem 454 rfl, List.forall_mem_cons.mpr ⟨lw_mem 66 rfl, List.forall_mem_cons.mpr ⟨lw_mem 69 rfl, List.forall_mem_cons.mpr ⟨lw_mem 70 rfl, List.forall_mem_cons.mpr ⟨lw_mem 71 rfl, List.forall_mem_cons.mpr ⟨lw_mem 72 rfl, List.forall_mem_cons.mpr ⟨lw_mem 73 rfl, List.forall_mem_cons.mpr ⟨lw_mem 74 rfl, List.forall_mem_cons.mpr ⟨lw_mem 75 rfl, List.forall_mem_cons.mpr ⟨lw_mem 76 rfl, List.forall_mem_cons.mpr ⟨lw_mem 61 rfl, List.forall_mem_cons.mpr ⟨lw_mem 149 rfl, List.forall_mem_cons.mpr ⟨lw_mem 102 rfl, List.forall_mem_cons.mpr ⟨lw_mem 103 rfl, List.forall_mem_cons.mpr ⟨lw_mem 63 rfl, List.forall_mem_cons.mpr ⟨lw_mem 150 rfl, List.forall_mem_cons.mpr ⟨lw_mem 118 rfl, List.forall_mem_cons.mpr ⟨lw_mem 119 rfl, List.forall_mem_cons.mpr ⟨lw_mem 64 rfl, List.forall_mem_cons.mpr ⟨lw_mem 151 rfl, fun _ h => absurd h List.not_mem_nil⟩⟩⟩⟩⟩⟩⟩⟩⟩⟩⟩⟩⟩⟩⟩⟩⟩⟩⟩⟩⟩⟩⟩⟩
set_option maxRecDepth 20000 in
theorem wsL_law_r2_in : ∀ w ∈ wsL_law_r2, w ∈ lw_tbl := by
  unfold wsL_law_r2
  exact List.forall_mem_cons.mpr ⟨lw_mem 133 rfl, List.forall_mem_cons.mpr ⟨lw_mem 134 rfl, List.forall_mem_cons.mpr ⟨lw_mem 65 rfl, List.forall_mem_cons.mpr ⟨lw_mem 152 rfl, List.forall_mem_cons.mpr ⟨lw_mem 101 rfl, List.forall_mem_cons.mpr ⟨lw_mem 153 rfl, List.forall_mem_cons.mpr ⟨lw_mem 148 rfl, List.forall_mem_cons.mpr ⟨lw_mem 154 rfl, List.forall_mem_cons.mpr ⟨lw_mem 155 rfl, List.forall_mem_cons.mpr ⟨lw_mem 156 rfl, List.forall_mem_cons.mpr ⟨lw_mem 157 rfl, List.forall_mem_cons.mpr ⟨lw_mem 158 rfl, List.forall_mem_cons.mpr ⟨lw_mem 159 rfl, List.forall_mem_cons.mpr ⟨lw_mem 78 rfl, List.forall_mem_cons.mpr ⟨lw_mem 79 rfl, List.forall_mem_cons.mpr ⟨lw_mem 80 rfl, List.forall_mem_cons.mpr ⟨lw_mem 84 rfl, List.forall_mem_cons.mpr ⟨lw_mem 86 rfl, List.forall_mem_cons.mpr ⟨lw_mem 88 rfl, List.forall_mem_cons.mpr ⟨lw_mem 90 rfl, List.forall_mem_cons.mpr ⟨lw_mem 81 rfl, List.forall_mem_cons.mpr ⟨lw_mem 82 rfl, List.forall_mem_cons.mpr ⟨lw_mem 62 rfl, List.forall_mem_cons.mpr ⟨lw_mem 83 rfl, fun _ h => absurd h List.not_mem_nil⟩⟩⟩⟩⟩⟩⟩⟩⟩⟩⟩⟩⟩⟩⟩⟩⟩⟩⟩⟩⟩⟩⟩⟩
set_option maxRecDepth 20000 in
theorem wsL_law_r3_in : ∀ w ∈ wsL_law_r3, w ∈ lw_tbl := by
  unfold wsL_law_r3
  exact List.forall_mem_cons.mpr ⟨lw_mem 105 rfl, List.forall_mem_cons.mpr ⟨lw_mem 106 rfl, List.forall_mem_cons.mpr ⟨lw_mem 107 rfl, List.forall_mem_cons.mpr ⟨lw_mem 109 rfl, List.forall_mem_cons.mpr ⟨lw_mem 111 rfl, List.forall_mem_cons.mpr ⟨lw_mem 108 rfl, List.forall_mem_cons.mpr ⟨lw_mem 121 rfl, List.forall_mem_cons.mpr ⟨lw_mem 122 rfl, List.forall_mem_cons.mpr ⟨lw_mem 123 rfl, List.forall_mem_cons.mpr ⟨lw_mem 125 rfl, List.forall_mem_cons.mpr ⟨lw_mem 127 rfl, List.forall_mem_cons.mpr ⟨lw_mem 124 rfl, List.forall_mem_cons.mpr ⟨lw_mem 136 rfl, List.forall_mem_cons.mpr ⟨lw_mem 137 rfl, List.forall_mem_cons.mpr ⟨lw_mem 138 rfl, List.forall_mem_cons.mpr ⟨lw_mem 139 rfl, List.forall_mem_cons.mpr ⟨lw_mem 141 rfl, List.forall_mem_cons.mpr ⟨lw_mem 455 rfl, List.forall_mem_cons.mpr ⟨lw_mem 456 rfl, List.forall_mem_cons.mpr ⟨lw_mem 457 rfl, List.forall_mem_cons.mpr ⟨lw_mem 458 rfl, List.forall_mem_cons.mpr ⟨lw_mem 462 rfl, List.forall_mem_cons.mpr ⟨lw_mem 463 rfl, List.forall_mem_cons.mpr ⟨lw_mem 464 rfl, fun _ h => absurd h List.not_mem_nil⟩⟩⟩⟩⟩⟩⟩⟩⟩⟩⟩⟩⟩⟩⟩⟩⟩⟩⟩⟩⟩⟩⟩⟩
set_option maxRecDepth 20000 in
theorem wsL_law_r4_in : ∀ w ∈ wsL_law_r4, w ∈ lw_tbl := by
  unfold wsL_law_r4
  exact List.forall_mem_cons.mpr ⟨lw_mem 465 rfl, List.forall_mem_cons.mpr ⟨lw_mem 468 rfl, List.forall_mem_cons.mpr ⟨lw_mem 469 rfl, List.forall_mem_cons.mpr ⟨lw_mem 470 rfl, List.forall_mem_cons.mpr ⟨lw_mem 471 rfl, List.forall_mem_cons.mpr ⟨lw_mem 472 rfl, List.forall_mem_cons.mpr ⟨lw_mem 473 rfl, List.forall_mem_cons.mpr ⟨lw_mem 474 rfl, List.forall_mem_cons.mpr ⟨lw_mem 475 rfl, List.forall_mem_cons.mpr ⟨lw_mem 476 rfl, List.forall_mem_cons.mpr ⟨lw_mem 477 rfl, List.forall_mem_cons.mpr ⟨lw_mem 478 rfl, List.forall_mem_cons.mpr ⟨lw_mem 479 rfl, List.forall_mem_cons.mpr ⟨lw_mem 480 rfl, List.forall_mem_cons.mpr ⟨lw_mem 481 rfl, List.forall_mem_cons.mpr ⟨lw_mem 183 rfl, List.forall_mem_cons.mpr ⟨lw_mem 184 rfl, List.forall_mem_cons.mpr ⟨lw_mem 185 rfl, List.forall_mem_cons.mpr ⟨lw_mem 186 rfl, List.forall_mem_cons.mpr ⟨lw_mem 529 rfl, List.forall_mem_cons.mpr ⟨lw_mem 530 rfl, List.forall_mem_cons.mpr ⟨lw_mem 531 rfl, List.forall_mem_cons.mpr ⟨lw_mem 532 rfl, List.forall_mem_cons.mpr ⟨lw_mem 459 rfl, fun _ h => absurd h List.not_mem_nil⟩⟩⟩⟩⟩⟩⟩⟩⟩⟩⟩⟩⟩⟩⟩⟩⟩⟩⟩⟩⟩⟩⟩⟩
set_option maxRecDepth 20000 in
theorem wsL_law_r5_in : ∀ w ∈ wsL_law_r5, w ∈ lw_tbl := by
  unfold wsL_law_r5
  exact List.forall_mem_cons.mpr ⟨lw_mem 187 rfl, List.forall_mem_cons.mpr ⟨lw_mem 188 rfl, List.forall_mem_cons.mpr ⟨lw_mem 189 rfl, List.forall_mem_cons.mpr ⟨lw_mem 190 rfl, List.forall_mem_cons.mpr ⟨lw_mem 193 rfl, List.forall_mem_cons.mpr ⟨lw_mem 0 rfl, List.forall_mem_cons.mpr ⟨lw_mem 194 rfl, List.forall_mem_cons.mpr ⟨lw_mem 197 rfl, List.forall_mem_cons.mpr ⟨lw_mem 1 rfl, List.forall_mem_cons.mpr ⟨lw_mem 198 rfl, List.forall_mem_cons.mpr ⟨lw_mem 200 rfl, List.forall_mem_cons.mpr ⟨lw_mem 201 rfl, List.forall_mem_cons.mpr ⟨lw_mem 204 rfl, List.forall_mem_cons.mpr ⟨lw_mem 2 rfl, List.forall_mem_cons.mpr ⟨lw_mem 205 rfl, List.forall_mem_cons.mpr ⟨lw_mem 207 rfl, List.forall_mem_cons.mpr ⟨lw_mem 208 rfl, List.forall_mem_cons.mpr ⟨lw_mem 209 rfl, List.forall_mem_cons.mpr ⟨lw_mem 211 rfl, List.forall_mem_cons.mpr ⟨lw_mem 3 rfl, List.forall_mem_cons.mpr ⟨lw_mem 212 rfl, List.forall_mem_cons.mpr ⟨lw_mem 214 rfl, List.forall_mem_cons.mpr ⟨lw_mem 215 rfl, List.forall_mem_cons.mpr ⟨lw_mem 217 rfl, fun _ h => absurd h List.not_mem_nil⟩⟩⟩⟩⟩⟩⟩⟩⟩⟩⟩⟩⟩⟩⟩⟩⟩⟩⟩⟩⟩⟩⟩⟩
set_option maxRecDepth 20000 in
theorem wsL_law_r6_in : ∀ w ∈ wsL_law_r6, w ∈ lw_tbl := by
  unfold wsL_law_r6
  exact List.forall_mem_cons.mpr ⟨lw_mem 218 rfl, List.forall_mem_cons.mpr ⟨lw_mem 221 rfl, List.forall_mem_cons.mpr ⟨lw_mem 4 rfl, List.forall_mem_cons.mpr ⟨lw_mem 222 rfl, List.forall_mem_cons.mpr ⟨lw_mem 223 rfl, List.forall_mem_cons.mpr ⟨lw_mem 225 rfl, List.forall_mem_cons.mpr ⟨lw_mem 5 rfl, List.forall_mem_cons.mpr ⟨lw_mem 226 rfl, List.forall_mem_cons.mpr ⟨lw_mem 533 rfl, List.forall_mem_cons.mpr ⟨lw_mem 534 rfl, List.forall_mem_cons.mpr ⟨lw_mem 535 rfl, List.forall_mem_cons.mpr ⟨lw_mem 536 rfl, List.forall_mem_cons.mpr ⟨lw_mem 461 rfl, List.forall_mem_cons.mpr ⟨lw_mem 537 rfl, List.forall_mem_cons.mpr ⟨lw_mem 539 rfl, List.forall_mem_cons.mpr ⟨lw_mem 39 rfl, List.forall_mem_cons.mpr ⟨lw_mem 540 rfl, List.forall_mem_cons.mpr ⟨lw_mem 541 rfl, List.forall_mem_cons.mpr ⟨lw_mem 542 rfl, List.forall_mem_cons.mpr ⟨lw_mem 543 rfl, List.forall_mem_cons.mpr ⟨lw_mem 544 rfl, List.forall_mem_cons.mpr ⟨lw_mem 546 rfl, List.forall_mem_cons.mpr ⟨lw_mem 40 rfl, List.forall_mem_cons.mpr ⟨lw_mem 547 rfl, fun _ h => absurd h List.not_mem_nil⟩⟩⟩⟩⟩⟩⟩⟩⟩⟩⟩⟩⟩⟩⟩⟩⟩⟩⟩⟩⟩⟩⟩⟩
set_option maxRecDepth 20000 in
theorem wsL_law_r7_in : ∀ w ∈ wsL_law_r7, w ∈ lw_tbl := by
  unfold wsL_law_r7
  exact List.forall_mem_cons.mpr ⟨lw_mem 548 rfl, List.forall_mem_cons.mpr ⟨lw_mem 550 rfl, List.forall_mem_cons.mpr ⟨lw_mem 41 rfl, List.forall_mem_cons.mpr ⟨lw_mem 551 rfl, List.forall_mem_cons.mpr ⟨lw_mem 552 rfl, List.forall_mem_cons.mpr ⟨lw_mem 554 rfl, List.forall_mem_cons.mpr ⟨lw_mem 42 rfl, List.forall_mem_cons.mpr ⟨lw_mem 555 rfl, List.forall_mem_cons.mpr ⟨lw_mem 556 rfl, List.forall_mem_cons.mpr ⟨lw_mem 558 rfl, List.forall_mem_cons.mpr ⟨lw_mem 43 rfl, List.forall_mem_cons.mpr ⟨lw_mem 559 rfl, List.forall_mem_cons.mpr ⟨lw_mem 466 rfl, List.forall_mem_cons.mpr ⟨lw_mem 227 rfl, List.forall_mem_cons.mpr ⟨lw_mem 228 rfl, List.forall_mem_cons.mpr ⟨lw_mem 229 rfl, List.forall_mem_cons.mpr ⟨lw_mem 230 rfl, List.forall_mem_cons.mpr ⟨lw_mem 231 rfl, List.forall_mem_cons.mpr ⟨lw_mem 234 rfl, List.forall_mem_cons.mpr ⟨lw_mem 6 rfl, List.forall_mem_cons.mpr ⟨lw_mem 235 rfl, List.forall_mem_cons.mpr ⟨lw_mem 236 rfl, List.forall_mem_cons.mpr ⟨lw_mem 238 rfl, List.forall_mem_cons.mpr ⟨lw_mem 7 rfl, fun _ h => absurd h List.not_mem_nil⟩⟩⟩⟩⟩⟩⟩⟩⟩⟩⟩⟩⟩⟩⟩⟩⟩⟩⟩⟩⟩⟩⟩⟩
set_option maxRecDepth 20000 in
theorem wsL_law_r8_in : ∀ w ∈ wsL_law_r8, w ∈ lw_tbl := by
  unfold wsL_law_r8
  exact List.forall_mem_cons.mpr ⟨lw_mem 239 rfl, List.forall_mem_cons.mpr ⟨lw_mem 240 rfl, List.forall_mem_cons.mpr ⟨lw_mem 241 rfl, List.forall_mem_cons.mpr ⟨lw_mem 242 rfl, List.forall_mem_cons.mpr ⟨lw_mem 245 rfl, List.forall_mem_cons.mpr ⟨lw_mem 8 rfl, List.forall_mem_cons.mpr ⟨lw_mem 246 rfl, List.forall_mem_cons.mpr ⟨lw_mem 249 rfl, List.forall_mem_cons.mpr ⟨lw_mem 9 rfl, List.forall_mem_cons.mpr ⟨lw_mem 250 rfl, List.forall_mem_cons.mpr ⟨lw_mem 560 rfl, List.forall_mem_cons.mpr ⟨lw_mem 561 rfl, List.forall_mem_cons.mpr ⟨lw_mem 562 rfl, List.forall_mem_cons.mpr ⟨lw_mem 563 rfl, List.forall_mem_cons.mpr ⟨lw_mem 251 rfl, List.forall_mem_cons.mpr ⟨lw_mem 252 rfl, List.forall_mem_cons.mpr ⟨lw_mem 253 rfl, List.forall_mem_cons.mpr ⟨lw_mem 254 rfl, List.forall_mem_cons.mpr ⟨lw_mem 564 rfl, List.forall_mem_cons.mpr ⟨lw_mem 565 rfl, List.forall_mem_cons.mpr ⟨lw_mem 566 rfl, List.forall_mem_cons.mpr ⟨lw_mem 567 rfl, List.forall_mem_cons.mpr ⟨lw_mem 460 rfl, List.forall_mem_cons.mpr ⟨lw_mem 255 rfl, fun _ h => absurd h List.not_mem_nil⟩⟩⟩⟩⟩⟩⟩⟩⟩⟩⟩⟩⟩⟩⟩⟩⟩⟩⟩⟩⟩⟩⟩⟩
set_option maxRecDepth 20000 in
theorem wsL_law_r9_in : ∀ w ∈ wsL_law_r9, w ∈ lw_tbl := by
  unfold wsL_law_r9
  exact List.forall_mem_cons.mpr ⟨lw_mem 256 rfl, List.forall_mem_cons.mpr ⟨lw_mem 257 rfl, List.forall_mem_cons.mpr ⟨lw_mem 258 rfl, List.forall_mem_cons.mpr ⟨lw_mem 568 rfl, List.forall_mem_cons.mpr ⟨lw_mem 569 rfl, List.forall_mem_cons.mpr ⟨lw_mem 570 rfl, List.forall_mem_cons.mpr ⟨lw_mem 571 rfl, List.forall_mem_cons.mpr ⟨lw_mem 259 rfl, List.forall_mem_cons.mpr ⟨lw_mem 260 rfl, List.forall_mem_cons.mpr ⟨lw_mem 261 rfl, List.forall_mem_cons.mpr ⟨lw_mem 262 rfl, List.forall_mem_cons.mpr ⟨lw_mem 263 rfl, List.forall_mem_cons.mpr ⟨lw_mem 265 rfl, List.forall_mem_cons.mpr ⟨lw_mem 10 rfl, List.forall_mem_cons.mpr ⟨lw_mem 266 rfl, List.forall_mem_cons.mpr ⟨lw_mem 269 rfl, List.forall_mem_cons.mpr ⟨lw_mem 11 rfl, List.forall_mem_cons.mpr ⟨lw_mem 270 rfl, List.forall_mem_cons.mpr ⟨lw_mem 271 rfl, List.forall_mem_cons.mpr ⟨lw_mem 272 rfl, List.forall_mem_cons.mpr ⟨lw_mem 273 rfl, List.forall_mem_cons.mpr ⟨lw_mem 276 rfl, List.forall_mem_cons.mpr ⟨lw_mem 12 rfl, List.forall_mem_cons.mpr ⟨lw_mem 277 rfl, fun _ h => absurd h List.not_mem_nil⟩⟩⟩⟩⟩⟩⟩⟩⟩⟩⟩⟩⟩⟩⟩⟩⟩⟩⟩⟩⟩⟩⟩⟩
set_option maxRecDepth 20000 in
theorem wsL_law_r10_in : ∀ w ∈ wsL_law_r10, w ∈ lw_tbl := by
  unfold wsL_law_r10
  exact List.forall_mem_cons.mpr ⟨lw_mem 278 rfl, List.forall_mem_cons.mpr ⟨lw_mem 280 rfl, List.forall_mem_cons.mpr ⟨lw_mem 13 rfl, List.forall_mem_cons.mpr ⟨lw_mem 281 rfl, List.forall_mem_cons.mpr ⟨lw_mem 282 rfl, List.forall_mem_cons.mpr ⟨lw_mem 572 rfl, List.forall_mem_cons.mpr ⟨lw_mem 573 rfl, List.forall_mem_cons.mpr ⟨lw_mem 574 rfl, List.forall_mem_cons.mpr ⟨lw_mem 575 rfl, List.forall_mem_cons.mpr ⟨lw_mem 576 rfl, List.forall_mem_cons.mpr ⟨lw_mem 578 rfl, List.forall_mem_cons.mpr ⟨lw_mem 44 rfl, List.forall_mem_cons.mpr ⟨lw_mem 579 rfl, List.forall_mem_cons.mpr ⟨lw_mem 580 rfl, List.forall_mem_cons.mpr ⟨lw_mem 582 rfl, List.forall_mem_cons.mpr ⟨lw_mem 45 rfl, List.forall_mem_cons.mpr ⟨lw_mem 583 rfl, List.forall_mem_cons.mpr ⟨lw_mem 584 rfl, List.forall_mem_cons.mpr ⟨lw_mem 585 rfl, List.forall_mem_cons.mpr ⟨lw_mem 586 rfl, List.forall_mem_cons.mpr ⟨lw_mem 587 rfl, List.forall_mem_cons.mpr ⟨lw_mem 588 rfl, List.forall_mem_cons.mpr ⟨lw_mem 589 rfl, List.forall_mem_cons.mpr ⟨lw_mem 283 rfl, fun _ h => absurd h List.not_mem_nil⟩⟩⟩⟩⟩⟩⟩⟩⟩⟩⟩⟩⟩⟩⟩⟩⟩⟩⟩⟩⟩⟩⟩⟩
set_option maxRecDepth 20000 in
theorem wsL_law_r11_in : ∀ w ∈ wsL_law_r11, w ∈ lw_tbl := by
  unfold wsL_law_r11
  exact List.forall_mem_cons.mpr ⟨lw_mem 284 rfl, List.forall_mem_cons.mpr ⟨lw_mem 285 rfl, List.forall_mem_cons.mpr ⟨lw_mem 286 rfl, List.forall_mem_cons.mpr ⟨lw_mem 289 rfl, List.forall_mem_cons.mpr ⟨lw_mem 14 rfl, List.forall_mem_cons.mpr ⟨lw_mem 290 rfl, List.forall_mem_cons.mpr ⟨lw_mem 590 rfl, List.forall_mem_cons.mpr ⟨lw_mem 591 rfl, List.forall_mem_cons.mpr ⟨lw_mem 592 rfl, List.forall_mem_cons.mpr ⟨lw_mem 593 rfl, List.forall_mem_cons.mpr ⟨lw_mem 291 rfl, List.forall_mem_cons.mpr ⟨lw_mem 292 rfl, List.forall_mem_cons.mpr ⟨lw_mem 293 rfl, List.forall_mem_cons.mpr ⟨lw_mem 294 rfl, List.forall_mem_cons.mpr ⟨lw_mem 594 rfl, List.forall_mem_cons.mpr ⟨lw_mem 595 rfl, List.forall_mem_cons.mpr ⟨lw_mem 596 rfl, List.forall_mem_cons.mpr ⟨lw_mem 597 rfl, List.forall_mem_cons.mpr ⟨lw_mem 295 rfl, List.forall_mem_cons.mpr ⟨lw_mem 296 rfl, List.forall_mem_cons.mpr ⟨lw_mem 297 rfl, List.forall_mem_cons.mpr ⟨lw_mem 298 rfl, List.forall_mem_cons.mpr ⟨lw_mem 598 rfl, List.forall_mem_cons.mpr ⟨lw_mem 599 rfl, fun _ h => absurd h List.not_mem_nil⟩⟩⟩⟩⟩⟩⟩⟩⟩⟩⟩⟩⟩⟩⟩⟩⟩⟩⟩⟩⟩⟩⟩⟩
set_option maxRecDepth 20000 in
theorem wsL_law_r12_in : ∀ w ∈ wsL_law_r12, w ∈ lw_tbl := by
  unfold wsL_law_r12
  exact List.forall_mem_cons.mpr ⟨lw_mem 600 rfl, List.forall_mem_cons.mpr ⟨lw_mem 601 rfl, List.forall_mem_cons.mpr ⟨lw_mem 299 rfl, List.forall_mem_cons.mpr ⟨lw_mem 300 rfl, List.forall_mem_cons.mpr ⟨lw_mem 301 rfl, List.forall_mem_cons.mpr ⟨lw_mem 302 rfl, List.forall_mem_cons.mpr ⟨lw_mem 303 rfl, List.forall_mem_cons.mpr ⟨lw_mem 305 rfl, List.forall_mem_cons.mpr ⟨lw_mem 15 rfl, List.forall_mem_cons.mpr ⟨lw_mem 306 rfl, List.forall_mem_cons.mpr ⟨lw_mem 307 rfl, List.forall_mem_cons.mpr ⟨lw_mem 309 rfl, List.forall_mem_cons.mpr ⟨lw_mem 16 rfl, List.forall_mem_cons.mpr ⟨lw_mem 310 rfl, List.forall_mem_cons.mpr ⟨lw_mem 313 rfl, List.forall_mem_cons.mpr ⟨lw_mem 17 rfl, List.forall_mem_cons.mpr ⟨lw_mem 314 rfl, List.forall_mem_cons.mpr ⟨lw_mem 315 rfl, List.forall_mem_cons.mpr ⟨lw_mem 317 rfl, List.forall_mem_cons.mpr ⟨lw_mem 18 rfl, List.forall_mem_cons.mpr ⟨lw_mem 318 rfl, List.forall_mem_cons.mpr ⟨lw_mem 319 rfl, List.forall_mem_cons.mpr ⟨lw_mem 321 rfl, List.forall_mem_cons.mpr ⟨lw_mem 19 rfl, fun _ h => absurd h List.not_mem_nil⟩⟩⟩⟩⟩⟩⟩⟩⟩⟩⟩⟩⟩⟩⟩⟩⟩⟩⟩⟩⟩⟩⟩⟩
set_option maxRecDepth 20000 in
theorem wsL_law_r13_in : ∀ w ∈ wsL_law_r13, w ∈ lw_tbl := by
  unfold wsL_law_r13
  exact List.forall_mem_cons.mpr ⟨lw_mem 322 rfl, List.forall_mem_cons.mpr ⟨lw_mem 323 rfl, List.forall_mem_cons.mpr ⟨lw_mem 325 rfl, List.forall_mem_cons.mpr ⟨lw_mem 20 rfl, List.forall_mem_cons.mpr ⟨lw_mem 326 rfl, List.forall_mem_cons.mpr ⟨lw_mem 327 rfl, List.forall_mem_cons.mpr ⟨lw_mem 329 rfl, List.forall_mem_cons.mpr ⟨lw_mem 21 rfl, List.forall_mem_cons.mpr ⟨lw_mem 330 rfl, List.forall_mem_cons.mpr ⟨lw_mem 331 rfl, List.forall_mem_cons.mpr ⟨lw_mem 332 rfl, List.forall_mem_cons.mpr ⟨lw_mem 334 rfl, List.forall_mem_cons.mpr ⟨lw_mem 22 rfl, List.forall_mem_cons.mpr ⟨lw_mem 335 rfl, List.forall_mem_cons.mpr ⟨lw_mem 336 rfl, List.forall_mem_cons.mpr ⟨lw_mem 338 rfl, List.forall_mem_cons.mpr ⟨lw_mem 23 rfl, List.forall_mem_cons.mpr ⟨lw_mem 339 rfl, List.forall_mem_cons.mpr ⟨lw_mem 342 rfl, List.forall_mem_cons.mpr ⟨lw_mem 24 rfl, List.forall_mem_cons.mpr ⟨lw_mem 343 rfl, List.forall_mem_cons.mpr ⟨lw_mem 344 rfl, List.forall_mem_cons.mpr ⟨lw_mem 345 rfl, List.forall_mem_cons.mpr ⟨lw_mem 347 rfl, fun _ h => absurd h List.not_mem_nil⟩⟩⟩⟩⟩⟩⟩⟩⟩⟩⟩⟩⟩⟩⟩⟩⟩⟩⟩⟩⟩⟩⟩⟩
set_option maxRecDepth 20000 in
theorem wsL_law_r14_in : ∀ w ∈ wsL_law_r14, w ∈ lw_tbl := by
  unfold wsL_law_r14
  exact List.forall_mem_cons.mpr ⟨lw_mem 25 rfl, List.forall_mem_cons.mpr ⟨lw_mem 348 rfl, List.forall_mem_cons.mpr ⟨lw_mem 349 rfl, List.forall_mem_cons.mpr ⟨lw_mem 351 rfl, List.forall_mem_cons.mpr ⟨lw_mem 26 rfl, List.forall_mem_cons.mpr ⟨lw_mem 352 rfl, List.forall_mem_cons.mpr ⟨lw_mem 355 rfl, List.forall_mem_cons.mpr ⟨lw_mem 27 rfl, List.forall_mem_cons.mpr ⟨lw_mem 356 rfl, List.forall_mem_cons.mpr ⟨lw_mem 357 rfl, List.forall_mem_cons.mpr ⟨lw_mem 360 rfl, List.forall_mem_cons.mpr ⟨lw_mem 28 rfl, List.forall_mem_cons.mpr ⟨lw_mem 361 rfl, List.forall_mem_cons.mpr ⟨lw_mem 364 rfl, List.forall_mem_cons.mpr ⟨lw_mem 29 rfl, List.forall_mem_cons.mpr ⟨lw_mem 365 rfl, List.forall_mem_cons.mpr ⟨lw_mem 366 rfl, List.forall_mem_cons.mpr ⟨lw_mem 368 rfl, List.forall_mem_cons.mpr ⟨lw_mem 30 rfl, List.forall_mem_cons.mpr ⟨lw_mem 369 rfl, List.forall_mem_cons.mpr ⟨lw_mem 370 rfl, List.forall_mem_cons.mpr ⟨lw_mem 371 rfl, List.forall_mem_cons.mpr ⟨lw_mem 373 rfl, List.forall_mem_cons.mpr ⟨lw_mem 31 rfl, fun _ h => absurd h List.not_mem_nil⟩⟩⟩⟩⟩⟩⟩⟩⟩⟩⟩⟩⟩⟩⟩⟩⟩⟩⟩⟩⟩⟩⟩⟩
set_option maxRecDepth 20000 in
theorem wsL_law_r15_in : ∀ w ∈ wsL_law_r15, w ∈ lw_tbl := by
  unfold wsL_law_r15
  exact List.forall_mem_cons.mpr ⟨lw_mem 374 rfl, List.forall_mem_cons.mpr ⟨lw_mem 377 rfl, List.forall_mem_cons.mpr ⟨lw_mem 32 rfl, List.forall_mem_cons.mpr ⟨lw_mem 378 rfl, List.forall_mem_cons.mpr ⟨lw_mem 379 rfl, List.forall_mem_cons.mpr ⟨lw_mem 602 rfl, List.forall_mem_cons.mpr ⟨lw_mem 603 rfl, List.forall_mem_cons.mpr ⟨lw_mem 604 rfl, List.forall_mem_cons.mpr ⟨lw_mem 605 rfl, List.forall_mem_cons.mpr ⟨lw_mem 606 rfl, List.forall_mem_cons.mpr ⟨lw_mem 608 rfl, List.forall_mem_cons.mpr ⟨lw_mem 46 rfl, List.forall_mem_cons.mpr ⟨lw_mem 609 rfl, List.forall_mem_cons.mpr ⟨lw_mem 467 rfl, List.forall_mem_cons.mpr ⟨lw_mem 610 rfl, List.forall_mem_cons.mpr ⟨lw_mem 612 rfl, List.forall_mem_cons.mpr ⟨lw_mem 47 rfl, List.forall_mem_cons.mpr ⟨lw_mem 613 rfl, List.forall_mem_cons.mpr ⟨lw_mem 614 rfl, List.forall_mem_cons.mpr ⟨lw_mem 616 rfl, List.forall_mem_cons.mpr ⟨lw_mem 48 rfl, List.forall_mem_cons.mpr ⟨lw_mem 617 rfl, List.forall_mem_cons.mpr ⟨lw_mem 618 rfl, List.forall_mem_cons.mpr ⟨lw_mem 620 rfl, fun _ h => absurd h List.not_mem_nil⟩⟩⟩⟩⟩⟩⟩⟩⟩⟩⟩⟩⟩⟩⟩⟩⟩⟩⟩⟩⟩⟩⟩⟩
set_option maxRecDepth 20000 in
theorem wsL_law_r16_in : ∀ w ∈ wsL_law_r16, w ∈ lw_tbl := by
  unfold wsL_law_r16
  exact List.forall_mem_cons.mpr ⟨lw_mem 49 rfl, List.forall_mem_cons.mpr ⟨lw_mem 621 rfl, List.forall_mem_cons.mpr ⟨lw_mem 622 rfl, List.forall_mem_cons.mpr ⟨lw_mem 624 rfl, List.forall_mem_cons.mpr ⟨lw_mem 50 rfl, List.forall_mem_cons.mpr ⟨lw_mem 625 rfl, List.forall_mem_cons.mpr ⟨lw_mem 626 rfl, List.forall_mem_cons.mpr ⟨lw_mem 628 rfl, List.forall_mem_cons.mpr ⟨lw_mem 51 rfl, List.forall_mem_cons.mpr ⟨lw_mem 629 rfl, List.forall_mem_cons.mpr ⟨lw_mem 630 rfl, List.forall_mem_cons.mpr ⟨lw_mem 632 rfl, List.forall_mem_cons.mpr ⟨lw_mem 52 rfl, List.forall_mem_cons.mpr ⟨lw_mem 633 rfl, List.forall_mem_cons.mpr ⟨lw_mem 634 rfl, List.forall_mem_cons.mpr ⟨lw_mem 636 rfl, List.forall_mem_cons.mpr ⟨lw_mem 53 rfl, List.forall_mem_cons.mpr ⟨lw_mem 637 rfl, List.forall_mem_cons.mpr ⟨lw_mem 638 rfl, List.forall_mem_cons.mpr ⟨lw_mem 640 rfl, List.forall_mem_cons.mpr ⟨lw_mem 54 rfl, List.forall_mem_cons.mpr ⟨lw_mem 641 rfl, List.forall_mem_cons.mpr ⟨lw_mem 642 rfl, List.forall_mem_cons.mpr ⟨lw_mem 644 rfl, fun _ h => absurd h List.not_mem_nil⟩⟩⟩⟩⟩⟩⟩⟩⟩⟩⟩⟩⟩⟩⟩⟩⟩⟩⟩⟩⟩⟩⟩⟩
set_option maxRecDepth 20000 in
theorem wsL_law_r17_in : ∀ w ∈ wsL_law_r17, w ∈ lw_tbl := by
  unfold wsL_law_r17
  exact List.forall_mem_cons.mpr ⟨lw_mem 55 rfl, List.forall_mem_cons.mpr ⟨lw_mem 645 rfl, List.forall_mem_cons.mpr ⟨lw_mem 380 rfl, List.forall_mem_cons.mpr ⟨lw_mem 381 rfl, List.forall_mem_cons.mpr ⟨lw_mem 382 rfl, List.forall_mem_cons.mpr ⟨lw_mem 383 rfl, List.forall_mem_cons.mpr ⟨lw_mem 646 rfl, List.forall_mem_cons.mpr ⟨lw_mem 647 rfl, List.forall_mem_cons.mpr ⟨lw_mem 648 rfl, List.forall_mem_cons.mpr ⟨lw_mem 649 rfl, List.forall_mem_cons.mpr ⟨lw_mem 384 rfl, List.forall_mem_cons.mpr ⟨lw_mem 385 rfl, List.forall_mem_cons.mpr ⟨lw_mem 386 rfl, List.forall_mem_cons.mpr ⟨lw_mem 387 rfl, List.forall_mem_cons.mpr ⟨lw_mem 388 rfl, List.forall_mem_cons.mpr ⟨lw_mem 390 rfl, List.forall_mem_cons.mpr ⟨lw_mem 33 rfl, List.forall_mem_cons.mpr ⟨lw_mem 391 rfl, List.forall_mem_cons.mpr ⟨lw_mem 650 rfl, List.forall_mem_cons.mpr ⟨lw_mem 651 rfl, List.forall_mem_cons.mpr ⟨lw_mem 652 rfl, List.forall_mem_cons.mpr ⟨lw_mem 653 rfl, List.forall_mem_cons.mpr ⟨lw_mem 654 rfl, List.forall_mem_cons.mpr ⟨lw_mem 656 rfl, fun _ h => absurd h List.not_mem_nil⟩⟩⟩⟩⟩⟩⟩⟩⟩⟩⟩⟩⟩⟩⟩⟩⟩⟩⟩⟩⟩⟩⟩⟩
set_option maxRecDepth 20000 in
theorem wsL_law_r18_in : ∀ w ∈ wsL_law_r18, w ∈ lw_tbl := by
  unfold wsL_law_r18
  exact List.forall_mem_cons.mpr ⟨lw_mem 56 rfl, List.forall_mem_cons.mpr ⟨lw_mem 657 rfl, List.forall_mem_cons.mpr ⟨lw_mem 392 rfl, List.forall_mem_cons.mpr ⟨lw_mem 393 rfl, List.forall_mem_cons.mpr ⟨lw_mem 394 rfl, List.forall_mem_cons.mpr ⟨lw_mem 395 rfl, List.forall_mem_cons.mpr ⟨lw_mem 658 rfl, List.forall_mem_cons.mpr ⟨lw_mem 659 rfl, List.forall_mem_cons.mpr ⟨lw_mem 660 rfl, List.forall_mem_cons.mpr ⟨lw_mem 661 rfl, List.forall_mem_cons.mpr ⟨lw_mem 396 rfl, List.forall_mem_cons.mpr ⟨lw_mem 397 rfl, List.forall_mem_cons.mpr ⟨lw_mem 398 rfl, List.forall_mem_cons.mpr ⟨lw_mem 399 rfl, List.forall_mem_cons.mpr ⟨lw_mem 662 rfl, List.forall_mem_cons.mpr ⟨lw_mem 663 rfl, List.forall_mem_cons.mpr ⟨lw_mem 664 rfl, List.forall_mem_cons.mpr ⟨lw_mem 665 rfl, List.forall_mem_cons.mpr ⟨lw_mem 400 rfl, List.forall_mem_cons.mpr ⟨lw_mem 401 rfl, List.forall_mem_cons.mpr ⟨lw_mem 402 rfl, List.forall_mem_cons.mpr ⟨lw_mem 403 rfl, List.forall_mem_cons.mpr ⟨lw_mem 666 rfl, List.forall_mem_cons.mpr ⟨lw_mem 667 rfl, fun _ h => absurd h List.not_mem_nil⟩⟩⟩⟩⟩⟩⟩⟩⟩⟩⟩⟩⟩⟩⟩⟩⟩⟩⟩⟩⟩⟩⟩⟩
set_option maxRecDepth 20000 in
theorem wsL_law_r19_in : ∀ w ∈ wsL_law_r19, w ∈ lw_tbl := by
  unfold wsL_law_r19
  exact List.forall_mem_cons.mpr ⟨lw_mem 668 rfl, List.forall_mem_cons.mpr ⟨lw_mem 669 rfl, List.forall_mem_cons.mpr ⟨lw_mem 404 rfl, List.forall_mem_cons.mpr ⟨lw_mem 405 rfl, List.forall_mem_cons.mpr ⟨lw_mem 406 rfl, List.forall_mem_cons.mpr ⟨lw_mem 407 rfl, List.forall_mem_cons.mpr ⟨lw_mem 670 rfl, List.forall_mem_cons.mpr ⟨lw_mem 671 rfl, List.forall_mem_cons.mpr ⟨lw_mem 672 rfl, List.forall_mem_cons.mpr ⟨lw_mem 673 rfl, List.forall_mem_cons.mpr ⟨lw_mem 408 rfl, List.forall_mem_cons.mpr ⟨lw_mem 409 rfl, List.forall_mem_cons.mpr ⟨lw_mem 410 rfl, List.forall_mem_cons.mpr ⟨lw_mem 411 rfl, List.forall_mem_cons.mpr ⟨lw_mem 412 rfl, List.forall_mem_cons.mpr ⟨lw_mem 414 rfl, List.forall_mem_cons.mpr ⟨lw_mem 34 rfl, List.forall_mem_cons.mpr ⟨lw_mem 415 rfl, List.forall_mem_cons.mpr ⟨lw_mem 416 rfl, List.forall_mem_cons.mpr ⟨lw_mem 418 rfl, List.forall_mem_cons.mpr ⟨lw_mem 35 rfl, List.forall_mem_cons.mpr ⟨lw_mem 419 rfl, List.forall_mem_cons.mpr ⟨lw_mem 674 rfl, List.forall_mem_cons.mpr ⟨lw_mem 675 rfl, fun _ h => absurd h List.not_mem_nil⟩⟩⟩⟩⟩⟩⟩⟩⟩⟩⟩⟩⟩⟩⟩⟩⟩⟩⟩⟩⟩⟩⟩⟩
set_option maxRecDepth 20000 in
theorem wsL_law_r20_in : ∀ w ∈ wsL_law_r20, w ∈ lw_tbl := by
  unfold wsL_law_r20
  exact List.forall_mem_cons.mpr ⟨lw_mem 676 rfl, List.forall_mem_cons.mpr ⟨lw_mem 677 rfl, List.forall_mem_cons.mpr ⟨lw_mem 678 rfl, List.forall_mem_cons.mpr ⟨lw_mem 680 rfl, List.forall_mem_cons.mpr ⟨lw_mem 57 rfl, List.forall_mem_cons.mpr ⟨lw_mem 681 rfl, List.forall_mem_cons.mpr ⟨lw_mem 682 rfl, List.forall_mem_cons.mpr ⟨lw_mem 683 rfl, List.forall_mem_cons.mpr ⟨lw_mem 684 rfl, List.forall_mem_cons.mpr ⟨lw_mem 420 rfl, List.forall_mem_cons.mpr ⟨lw_mem 421 rfl, List.forall_mem_cons.mpr ⟨lw_mem 422 rfl, List.forall_mem_cons.mpr ⟨lw_mem 423 rfl, List.forall_mem_cons.mpr ⟨lw_mem 424 rfl, List.forall_mem_cons.mpr ⟨lw_mem 426 rfl, List.forall_mem_cons.mpr ⟨lw_mem 36 rfl, List.forall_mem_cons.mpr ⟨lw_mem 427 rfl, List.forall_mem_cons.mpr ⟨lw_mem 428 rfl, List.forall_mem_cons.mpr ⟨lw_mem 430 rfl, List.forall_mem_cons.mpr ⟨lw_mem 37 rfl, List.forall_mem_cons.mpr ⟨lw_mem 431 rfl, List.forall_mem_cons.mpr ⟨lw_mem 432 rfl, List.forall_mem_cons.mpr ⟨lw_mem 433 rfl, List.forall_mem_cons.mpr ⟨lw_mem 434 rfl, fun _ h => absurd h List.not_mem_nil⟩⟩⟩⟩⟩⟩⟩⟩⟩⟩⟩⟩⟩⟩⟩⟩⟩⟩⟩⟩⟩⟩⟩⟩
set_option maxRecDepth 20000 in
theorem wsL_law_r21_in : ∀ w ∈ wsL_law_r21, w ∈ lw_tbl := by
  unfold wsL_law_r21
  exact List.forall_mem_cons.mpr ⟨lw_mem 435 rfl, List.forall_mem_cons.mpr ⟨lw_mem 685 rfl, List.forall_mem_cons.mpr ⟨lw_mem 686 rfl, List.forall_mem_cons.mpr ⟨lw_mem 687 rfl, List.forall_mem_cons.mpr ⟨lw_mem 688 rfl, List.forall_mem_cons.mpr ⟨lw_mem 689 rfl, List.forall_mem_cons.mpr ⟨lw_mem 691 rfl, List.forall_mem_cons.mpr ⟨lw_mem 58 rfl, List.forall_mem_cons.mpr ⟨lw_mem 692 rfl, List.forall_mem_cons.mpr ⟨lw_mem 436 rfl, List.forall_mem_cons.mpr ⟨lw_mem 437 rfl, List.forall_mem_cons.mpr ⟨lw_mem 438 rfl, List.forall_mem_cons.mpr ⟨lw_mem 439 rfl, List.forall_mem_cons.mpr ⟨lw_mem 440 rfl, List.forall_mem_cons.mpr ⟨lw_mem 442 rfl, List.forall_mem_cons.mpr ⟨lw_mem 38 rfl, List.forall_mem_cons.mpr ⟨lw_mem 443 rfl, List.forall_mem_cons.mpr ⟨lw_mem 693 rfl, List.forall_mem_cons.mpr ⟨lw_mem 694 rfl, List.forall_mem_cons.mpr ⟨lw_mem 695 rfl, List.forall_mem_cons.mpr ⟨lw_mem 696 rfl, List.forall_mem_cons.mpr ⟨lw_mem 445 rfl, List.forall_mem_cons.mpr ⟨lw_mem 446 rfl, List.forall_mem_cons.mpr ⟨lw_mem 447 rfl, fun _ h => absurd h List.not_mem_nil⟩⟩⟩⟩⟩⟩⟩⟩⟩⟩⟩⟩⟩⟩⟩⟩⟩⟩⟩⟩⟩⟩⟩⟩
set_option maxRecDepth 20000 in
theorem wsL_law_r22_in : ∀ w ∈ wsL_law_r22, w ∈ lw_tbl := by
  unfold wsL_law_r22
  exact List.forall_mem_cons.mpr ⟨lw_mem 448 rfl, List.forall_mem_cons.mpr ⟨lw_mem 697 rfl, List.forall_mem_cons.mpr ⟨lw_mem 698 rfl, List.forall_mem_cons.mpr ⟨lw_mem 699 rfl, List.forall_mem_cons.mpr ⟨lw_mem 700 rfl, List.forall_mem_cons.mpr ⟨lw_mem 449 rfl, List.forall_mem_cons.mpr ⟨lw_mem 450 rfl, List.forall_mem_cons.mpr ⟨lw_mem 451 rfl, List.forall_mem_cons.mpr ⟨lw_mem 452 rfl, List.forall_mem_cons.mpr ⟨lw_mem 701 rfl, List.forall_mem_cons.mpr ⟨lw_mem 702 rfl, List.forall_mem_cons.mpr ⟨lw_mem 703 rfl, List.forall_mem_cons.mpr ⟨lw_mem 704 rfl, fun _ h => absurd h List.not_mem_nil⟩⟩⟩⟩⟩⟩⟩⟩⟩⟩⟩⟩⟩
set_option maxRecDepth 20000 in
theorem wsX00_in : ∀ w ∈ wsX00, w ∈ lw_tbl := by
  show ∀ w ∈ [u_lay RX0 TX0 0, u_lay RX0 TX0 1], w ∈ lw_tbl
  exact List.forall_mem_cons.mpr ⟨lw_mem 128 rfl, List.forall_mem_cons.mpr ⟨lw_mem 130 rfl, fun _ h => absurd h List.not_mem_nil⟩⟩
set_option maxRecDepth 20000 in
theorem wsX10_in : ∀ w ∈ wsX10, w ∈ lw_tbl := by
  show ∀ w ∈ [u_lay RX1 TX1 0, u_lay RX1 TX1 1, u_lay RX1 TX1 2, u_lay RX1 TX1 3], w ∈ lw_tbl
  exact List.forall_mem_cons.mpr ⟨lw_mem 92 rfl, List.forall_mem_cons.mpr ⟨lw_mem 94 rfl, List.forall_mem_cons.mpr ⟨lw_mem 96 rfl, List.forall_mem_cons.mpr ⟨lw_mem 98 rfl, fun _ h => absurd h List.not_mem_nil⟩⟩⟩⟩
set_option maxRecDepth 20000 in
theorem wsX20_in : ∀ w ∈ wsX20, w ∈ lw_tbl := by
  show ∀ w ∈ [u_lay RX2 TX2 0, u_lay RX2 TX2 1], w ∈ lw_tbl
  exact List.forall_mem_cons.mpr ⟨lw_mem 143 rfl, List.forall_mem_cons.mpr ⟨lw_mem 145 rfl, fun _ h => absurd h List.not_mem_nil⟩⟩
set_option maxRecDepth 20000 in
theorem wsX30_in : ∀ w ∈ wsX30, w ∈ lw_tbl := by
  show ∀ w ∈ [u_lay RX3 TX3 0, u_lay RX3 TX3 1], w ∈ lw_tbl
  exact List.forall_mem_cons.mpr ⟨lw_mem 113 rfl, List.forall_mem_cons.mpr ⟨lw_mem 115 rfl, fun _ h => absurd h List.not_mem_nil⟩⟩
set_option maxRecDepth 20000 in
theorem wsX40_in : ∀ w ∈ wsX40, w ∈ lw_tbl := by
  show ∀ w ∈ [u_lay RX4 TX4 0, u_lay RX4 TX4 1, u_lay RX4 TX4 2, u_lay RX4 TX4 3, u_lay RX4 TX4 4, u_lay RX4 TX4 5, u_lay RX4 TX4 6, u_lay RX4 TX4 7, u_lay RX4 TX4 8, u_lay RX4 TX4 9, u_lay RX4 TX4 10], w ∈ lw_tbl
  exact List.forall_mem_cons.mpr ⟨lw_mem 160 rfl, List.forall_mem_cons.mpr ⟨lw_mem 162 rfl, List.forall_mem_cons.mpr ⟨lw_mem 164 rfl, List.forall_mem_cons.mpr ⟨lw_mem 166 rfl, List.forall_mem_cons.mpr ⟨lw_mem 168 rfl, List.forall_mem_cons.mpr ⟨lw_mem 170 rfl, List.forall_mem_cons.mpr ⟨lw_mem 172 rfl, List.forall_mem_cons.mpr ⟨lw_mem 174 rfl, List.forall_mem_cons.mpr ⟨lw_mem 176 rfl, List.forall_mem_cons.mpr ⟨lw_mem 178 rfl, List.forall_mem_cons.mpr ⟨lw_mem 180 rfl, fun _ h => absurd h List.not_mem_nil⟩⟩⟩⟩⟩⟩⟩⟩⟩⟩⟩
set_option maxRecDepth 20000 in
theorem wsX50_in : ∀ w ∈ wsX50, w ∈ lw_tbl := by
  show ∀ w ∈ [u_lay RX5 TX5 0, u_lay RX5 TX5 1, u_lay RX5 TX5 2, u_lay RX5 TX5 3, u_lay RX5 TX5 4, u_lay RX5 TX5 5, u_lay RX5 TX5 6, u_lay RX5 TX5 7, u_lay RX5 TX5 8, u_lay RX5 TX5 9, u_lay RX5 TX5 10, u_lay RX5 TX5 11, u_lay RX5 TX5 12, u_lay RX5 TX5 13, u_lay RX5 TX5 14, u_lay RX5 TX5 15, u_lay RX5 TX5 16, u_lay RX5 TX5 17, u_lay RX5 TX5 18, u_lay RX5 TX5 19, u_lay RX5 TX5 20, u_lay RX5 TX5 21, u_lay RX5 TX5 22], w ∈ lw_tbl
  exact List.forall_mem_cons.mpr ⟨lw_mem 482 rfl, List.forall_mem_cons.mpr ⟨lw_mem 484 rfl, List.forall_mem_cons.mpr ⟨lw_mem 486 rfl, List.forall_mem_cons.mpr ⟨lw_mem 488 rfl, List.forall_mem_cons.mpr ⟨lw_mem 490 rfl, List.forall_mem_cons.mpr ⟨lw_mem 492 rfl, List.forall_mem_cons.mpr ⟨lw_mem 494 rfl, List.forall_mem_cons.mpr ⟨lw_mem 496 rfl, List.forall_mem_cons.mpr ⟨lw_mem 498 rfl, List.forall_mem_cons.mpr ⟨lw_mem 500 rfl, List.forall_mem_cons.mpr ⟨lw_mem 502 rfl, List.forall_mem_cons.mpr ⟨lw_mem 504 rfl, List.forall_mem_cons.mpr ⟨lw_mem 506 rfl, List.forall_mem_cons.mpr ⟨lw_mem 508 rfl, List.forall_mem_cons.mpr ⟨lw_mem 510 rfl, List.forall_mem_cons.mpr ⟨lw_mem 512 rfl, List.forall_mem_cons.mpr ⟨lw_mem 514 rfl, List.forall_mem_cons.mpr ⟨lw_mem 516 rfl, List.forall_mem_cons.mpr ⟨lw_mem 518 rfl, List.forall_mem_cons.mpr ⟨lw_mem 520 rfl, List.forall_mem_cons.mpr ⟨lw_mem 522 rfl, List.forall_mem_cons.mpr ⟨lw_mem 524 rfl, List.forall_mem_cons.mpr ⟨lw_mem 526 rfl, fun _ h => absurd h List.not_mem_nil⟩⟩⟩⟩⟩⟩⟩⟩⟩⟩⟩⟩⟩⟩⟩⟩⟩⟩⟩⟩⟩⟩⟩
set_option maxRecDepth 20000 in
theorem wsL_law_in : ∀ w ∈ wsL_law, w ∈ lw_tbl := by
  unfold wsL_law
  exact List.forall_mem_append.mpr ⟨List.forall_mem_append.mpr ⟨List.forall_mem_append.mpr ⟨List.forall_mem_append.mpr ⟨List.forall_mem_append.mpr ⟨List.forall_mem_append.mpr ⟨List.forall_mem_append.mpr ⟨List.forall_mem_append.mpr ⟨wsL_law_r1_in, List.forall_mem_append.mpr ⟨wsL_law_r2_in, List.forall_mem_append.mpr ⟨wsL_law_r3_in, List.forall_mem_append.mpr ⟨wsL_law_r4_in, List.forall_mem_append.mpr ⟨wsL_law_r5_in, List.forall_mem_append.mpr ⟨wsL_law_r6_in, List.forall_mem_append.mpr ⟨wsL_law_r7_in, List.forall_mem_append.mpr ⟨wsL_law_r8_in, List.forall_mem_append.mpr ⟨wsL_law_r9_in, List.forall_mem_append.mpr ⟨wsL_law_r10_in, List.forall_mem_append.mpr ⟨wsL_law_r11_in, List.forall_mem_append.mpr ⟨wsL_law_r12_in, List.forall_mem_append.mpr ⟨wsL_law_r13_in, List.forall_mem_append.mpr ⟨wsL_law_r14_in, List.forall_mem_append.mpr ⟨wsL_law_r15_in, List.forall_mem_append.mpr ⟨wsL_law_r16_in, List.forall_mem_append.mpr ⟨wsL_law_r17_in, List.forall_mem_append.mpr ⟨wsL_law_r18_in, List.forall_mem_append.mpr ⟨wsL_law_r19_in, List.forall_mem_append.mpr ⟨wsL_law_r20_in, List.forall_mem_append.mpr ⟨wsL_law_r21_in, wsL_law_r22_in⟩⟩⟩⟩⟩⟩⟩⟩⟩⟩⟩⟩⟩⟩⟩⟩⟩⟩⟩⟩⟩, wsX40_in⟩, wsX50_in⟩, wsX10_in⟩, wsX30_in⟩, wsX00_in⟩, wsX20_in⟩, fun _ h => absurd h List.not_mem_nil⟩
theorem inlX0 : ∀ w ∈ wsX00, w ∈ wsL_law := fun _ h => List.mem_append_left _ (List.mem_append_left _ (List.mem_append_right _ h))
theorem inX0 : ∀ w ∈ wsX00, w ∈ lw_tbl := fun w h => wsL_law_in w (inlX0 w h)
theorem inlX1 : ∀ w ∈ wsX10, w ∈ wsL_law := fun _ h => List.mem_append_left _ (List.mem_append_left _ (List.mem_append_left _ (List.mem_append_left _ (List.mem_append_right _ h))))
theorem inX1 : ∀ w ∈ wsX10, w ∈ lw_tbl := fun w h => wsL_law_in w (inlX1 w h)
theorem inlX2 : ∀ w ∈ wsX20, w ∈ wsL_law := fun _ h => List.mem_append_left _ (List.mem_append_right _ h)
theorem inX2 : ∀ w ∈ wsX20, w ∈ lw_tbl := fun w h => wsL_law_in w (inlX2 w h)
theorem inlX3 : ∀ w ∈ wsX30, w ∈ wsL_law := fun _ h => List.mem_append_left _ (List.mem_append_left _ (List.mem_append_left _ (List.mem_append_right _ h)))
theorem inX3 : ∀ w ∈ wsX30, w ∈ lw_tbl := fun w h => wsL_law_in w (inlX3 w h)
theorem inlX4 : ∀ w ∈ wsX40, w ∈ wsL_law := fun _ h => List.mem_append_left _ (List.mem_append_left _ (List.mem_append_left _ (List.mem_append_left _ (List.mem_append_left _ (List.mem_append_left _ (List.mem_append_right _ h))))))
theorem inX4 : ∀ w ∈ wsX40, w ∈ lw_tbl := fun w h => wsL_law_in w (inlX4 w h)
theorem inlX5 : ∀ w ∈ wsX50, w ∈ wsL_law := fun _ h => List.mem_append_left _ (List.mem_append_left _ (List.mem_append_left _ (List.mem_append_left _ (List.mem_append_left _ (List.mem_append_right _ h)))))
theorem inX5 : ∀ w ∈ wsX50, w ∈ lw_tbl := fun w h => wsL_law_in w (inlX5 w h)
theorem inJ7 : ∀ w ∈ wsJ70, w ∈ lw_tbl := by decide +kernel
abbrev vwCl : List vw_C := [(RX0, TX0, 2), (RX1, TX1, 4), (RX2, TX2, 2), (RX3, TX3, 2), (RX4, TX4, 11), (RX5, TX5, 23)]
end
section
set_option maxRecDepth 20000 in
theorem ggX0_init_J7_fill_53178 : GoodIn wsX0_init wsJ7_fill_53178 := goodIn_r _ [10] (by decide +kernel) (by decide +kernel)
set_option maxRecDepth 20000 in
theorem gX0_init_J7_fill_53178 : GoodIn wsX0_init (va_wsS RX0 18 yJ7_fill_53178 wsJ7_fill_53178) := goodIn_app (goodIn_of _ (by decide +kernel)) ggX0_init_J7_fill_53178
theorem dX0_init_0 : decode cX0_init 0 = .ok (.aload_n 0, 1) := by decide +kernel
theorem dX0_init_1 : decode cX0_init 1 = .ok (.invokespecial 3, 3) := by decide +kernel
theorem dX0_init_4 : decode cX0_init 4 = .ok (.aload_n 0, 1) := by decide +kernel
theorem dX0_init_5 : decode cX0_init 5 = .ok (.bipush 112, 2) := by decide +kernel
theorem dX0_init_7 : decode cX0_init 7 = .ok (.newarray .int, 2) := by decide +kernel
theorem dX0_init_9 : decode cX0_init 9 = .ok (.putfield 9, 3) := by decide +kernel
theorem dX0_init_12 : decode cX0_init 12 = .ok (.aload_n 0, 1) := by decide +kernel
theorem dX0_init_13 : decode cX0_init 13 = .ok (.bipush 112, 2) := by decide +kernel
theorem dX0_init_15 : decode cX0_init 15 = .ok (.newarray .int, 2) := by decide +kernel
theorem dX0_init_17 : decode cX0_init 17 = .ok (.putfield 15, 3) := by decide +kernel
theorem dX0_init_20 : decode cX0_init 20 = .ok (.aload_n 0, 1) := by decide +kernel
theorem dX0_init_21 : decode cX0_init 21 = .ok (.getfield 9, 3) := by decide +kernel
theorem dX0_init_24 : decode cX0_init 24 = .ok (.iconst 0, 1) := by decide +kernel
theorem dX0_init_25 : decode cX0_init 25 = .ok (.invokestatic 18, 3) := by decide +kernel
theorem dX0_init_28 : decode cX0_init 28 = .ok (.return_, 1) := by decide +kernel
theorem dX0_change_0 : decode cX0_change 0 = .ok (.aload_n 0, 1) := by decide +kernel
theorem dX0_change_1 : decode cX0_change 1 = .ok (.getfield 9, 3) := by decide +kernel
theorem dX0_change_4 : decode cX0_change 4 = .ok (.iload_n 1, 1) := by decide +kernel
theorem dX0_change_5 : decode cX0_change 5 = .ok (.iload_n 2, 1) := by decide +kernel
theorem dX0_change_6 : decode cX0_change 6 = .ok (.iastore, 1) := by decide +kernel
theorem dX0_change_7 : decode cX0_change 7 = .ok (.aload_n 0, 1) := by decide +kernel
theorem dX0_change_8 : decode cX0_change 8 = .ok (.getfield 15, 3) := by decide +kernel
theorem dX0_change_11 : decode cX0_change 11 = .ok (.iload_n 1, 1) := by decide +kernel
theorem dX0_change_12 : decode cX0_change 12 = .ok (.iload_n 3, 1) := by decide +kernel
theorem dX0_change_13 : decode cX0_change 13 = .ok (.iastore, 1) := by decide +kernel
theorem dX0_change_14 : decode cX0_change 14 = .ok (.return_, 1) := by decide +kernel
theorem dX0_isDeclaring_0 : decode cX0_isDeclaring 0 = .ok (.aload_n 0, 1) := by decide +kernel
theorem dX0_isDeclaring_1 : decode cX0_isDeclaring 1 = .ok (.getfield 9, 3) := by decide +kernel
theorem dX0_isDeclaring_4 : decode cX0_isDeclaring 4 = .ok (.iload_n 1, 1) := by decide +kernel
theorem dX0_isDeclaring_5 : decode cX0_isDeclaring 5 = .ok (.iaload, 1) := by decide +kernel
theorem dX0_isDeclaring_6 : decode cX0_isDeclaring 6 = .ok (.iconst 1, 1) := by decide +kernel
theorem dX0_isDeclaring_7 : decode cX0_isDeclaring 7 = .ok (.if_icmp .eq 13, 3) := by decide +kernel
theorem dX0_isDeclaring_10 : decode cX0_isDeclaring 10 = .ok (.aload_n 0, 1) := by decide +kernel
theorem dX0_isDeclaring_11 : decode cX0_isDeclaring 11 = .ok (.getfield 9, 3) := by decide +kernel
theorem dX0_isDeclaring_14 : decode cX0_isDeclaring 14 = .ok (.iload_n 1, 1) := by decide +kernel
theorem dX0_isDeclaring_15 : decode cX0_isDeclaring 15 = .ok (.iaload, 1) := by decide +kernel
theorem dX0_isDeclaring_16 : decode cX0_isDeclaring 16 = .ok (.iconst 2, 1) := by decide +kernel
theorem dX0_isDeclaring_17 : decode cX0_isDeclaring 17 = .ok (.if_icmp .ne 7, 3) := by decide +kernel
theorem dX0_isDeclaring_20 : decode cX0_isDeclaring 20 = .ok (.iconst 1, 1) := by decide +kernel
theorem dX0_isDeclaring_21 : decode cX0_isDeclaring 21 = .ok (.goto 4, 3) := by decide +kernel
theorem dX0_isDeclaring_24 : decode cX0_isDeclaring 24 = .ok (.iconst 0, 1) := by decide +kernel
theorem dX0_isDeclaring_25 : decode cX0_isDeclaring 25 = .ok (.ireturn, 1) := by decide +kernel
set_option maxRecDepth 20000 in
theorem ggX0_startDeclaring_X0_isDeclaring : GoodIn wsX0_startDeclaring wsX0_isDeclaring := goodIn_r _ [5, 6, 12, 13] (by decide +kernel) (by decide +kernel)
set_option maxRecDepth 20000 in
theorem gX0_startDeclaring_X0_isDeclaring : GoodIn wsX0_startDeclaring (wsV RX0 24 RX0 yX0_isDeclaring wsX0_isDeclaring) := goodIn_app (goodIn_of _ (by decide +kernel)) ggX0_startDeclaring_X0_isDeclaring
set_option maxRecDepth 20000 in
theorem ggX0_startDeclaring_X0_change : GoodIn wsX0_startDeclaring wsX0_change := goodIn_r _ [10, 6, 11, 12, 13] (by decide +kernel) (by decide +kernel)
set_option maxRecDepth 20000 in
theorem gX0_startDeclaring_X0_change : GoodIn wsX0_startDeclaring (wsV RX0 28 RX0 yX0_change wsX0_change) := goodIn_app (goodIn_of _ (by decide +kernel)) ggX0_startDeclaring_X0_change
theorem dX0_startDeclaring_0 : decode cX0_startDeclaring 0 = .ok (.aload_n 0, 1) := by decide +kernel
theorem dX0_startDeclaring_1 : decode cX0_startDeclaring 1 = .ok (.iload_n 1, 1) := by decide +kernel
theorem dX0_startDeclaring_2 : decode cX0_startDeclaring 2 = .ok (.invokevirtual 24, 3) := by decide +kernel
theorem dX0_startDeclaring_5 : decode cX0_startDeclaring 5 = .ok (.ifCond .eq 5, 3) := by decide +kernel
theorem dX0_startDeclaring_8 : decode cX0_startDeclaring 8 = .ok (.iconst 0, 1) := by decide +kernel
theorem dX0_startDeclaring_9 : decode cX0_startDeclaring 9 = .ok (.ireturn, 1) := by decide +kernel
theorem dX0_startDeclaring_10 : decode cX0_startDeclaring 10 = .ok (.aload_n 0, 1) := by decide +kernel
theorem dX0_startDeclaring_11 : decode cX0_startDeclaring 11 = .ok (.iload_n 1, 1) := by decide +kernel
theorem dX0_startDeclaring_12 : decode cX0_startDeclaring 12 = .ok (.iconst 1, 1) := by decide +kernel
theorem dX0_startDeclaring_13 : decode cX0_startDeclaring 13 = .ok (.iconst 2, 1) := by decide +kernel
theorem dX0_startDeclaring_14 : decode cX0_startDeclaring 14 = .ok (.invokevirtual 28, 3) := by decide +kernel
theorem dX0_startDeclaring_17 : decode cX0_startDeclaring 17 = .ok (.iconst 1, 1) := by decide +kernel
theorem dX0_startDeclaring_18 : decode cX0_startDeclaring 18 = .ok (.ireturn, 1) := by decide +kernel
set_option maxRecDepth 20000 in
theorem ggX0_stopDeclaring_X0_isDeclaring : GoodIn wsX0_stopDeclaring wsX0_isDeclaring := goodIn_r _ [5, 6, 12, 13] (by decide +kernel) (by decide +kernel)
set_option maxRecDepth 20000 in
theorem gX0_stopDeclaring_X0_isDeclaring : GoodIn wsX0_stopDeclaring (wsV RX0 24 RX0 yX0_isDeclaring wsX0_isDeclaring) := goodIn_app (goodIn_of _ (by decide +kernel)) ggX0_stopDeclaring_X0_isDeclaring
set_option maxRecDepth 20000 in
theorem ggX0_stopDeclaring_X0_change : GoodIn wsX0_stopDeclaring wsX0_change := goodIn_r _ [10, 6, 11, 12, 13] (by decide +kernel) (by decide +kernel)
set_option maxRecDepth 20000 in
theorem gX0_stopDeclaring_X0_change : GoodIn wsX0_stopDeclaring (wsV RX0 28 RX0 yX0_change wsX0_change) := goodIn_app (goodIn_of _ (by decide +kernel)) ggX0_stopDeclaring_X0_change
theorem dX0_stopDeclaring_0 : decode cX0_stopDeclaring 0 = .ok (.aload_n 0, 1) := by decide +kernel
theorem dX0_stopDeclaring_1 : decode cX0_stopDeclaring 1 = .ok (.iload_n 1, 1) := by decide +kernel
theorem dX0_stopDeclaring_2 : decode cX0_stopDeclaring 2 = .ok (.invokevirtual 24, 3) := by decide +kernel
theorem dX0_stopDeclaring_5 : decode cX0_stopDeclaring 5 = .ok (.ifCond .ne 5, 3) := by decide +kernel
theorem dX0_stopDeclaring_8 : decode cX0_stopDeclaring 8 = .ok (.iconst 0, 1) := by decide +kernel
theorem dX0_stopDeclaring_9 : decode cX0_stopDeclaring 9 = .ok (.ireturn, 1) := by decide +kernel
theorem dX0_stopDeclaring_10 : decode cX0_stopDeclaring 10 = .ok (.aload_n 0, 1) := by decide +kernel
theorem dX0_stopDeclaring_11 : decode cX0_stopDeclaring 11 = .ok (.iload_n 1, 1) := by decide +kernel
theorem dX0_stopDeclaring_12 : decode cX0_stopDeclaring 12 = .ok (.iconst 3, 1) := by decide +kernel
theorem dX0_stopDeclaring_13 : decode cX0_stopDeclaring 13 = .ok (.iconst 0, 1) := by decide +kernel
theorem dX0_stopDeclaring_14 : decode cX0_stopDeclaring 14 = .ok (.invokevirtual 28, 3) := by decide +kernel
theorem dX0_stopDeclaring_17 : decode cX0_stopDeclaring 17 = .ok (.iconst 1, 1) := by decide +kernel
theorem dX0_stopDeclaring_18 : decode cX0_stopDeclaring 18 = .ok (.ireturn, 1) := by decide +kernel
set_option maxRecDepth 20000 in
theorem ggX0_declareAgain_X0_change : GoodIn wsX0_declareAgain wsX0_change := goodIn_r _ [6, 1, 7, 8, 9] (by decide +kernel) (by decide +kernel)
set_option maxRecDepth 20000 in
theorem gX0_declareAgain_X0_change : GoodIn wsX0_declareAgain (wsV RX0 28 RX0 yX0_change wsX0_change) := goodIn_app (goodIn_of _ (by decide +kernel)) ggX0_declareAgain_X0_change
theorem dX0_declareAgain_0 : decode cX0_declareAgain 0 = .ok (.aload_n 0, 1) := by decide +kernel
theorem dX0_declareAgain_1 : decode cX0_declareAgain 1 = .ok (.getfield 9, 3) := by decide +kernel
theorem dX0_declareAgain_4 : decode cX0_declareAgain 4 = .ok (.iload_n 1, 1) := by decide +kernel
theorem dX0_declareAgain_5 : decode cX0_declareAgain 5 = .ok (.iaload, 1) := by decide +kernel
theorem dX0_declareAgain_6 : decode cX0_declareAgain 6 = .ok (.iconst 2, 1) := by decide +kernel
theorem dX0_declareAgain_7 : decode cX0_declareAgain 7 = .ok (.if_icmp .ne 10, 3) := by decide +kernel
theorem dX0_declareAgain_10 : decode cX0_declareAgain 10 = .ok (.aload_n 0, 1) := by decide +kernel
theorem dX0_declareAgain_11 : decode cX0_declareAgain 11 = .ok (.iload_n 1, 1) := by decide +kernel
theorem dX0_declareAgain_12 : decode cX0_declareAgain 12 = .ok (.iconst 1, 1) := by decide +kernel
theorem dX0_declareAgain_13 : decode cX0_declareAgain 13 = .ok (.iconst 1, 1) := by decide +kernel
theorem dX0_declareAgain_14 : decode cX0_declareAgain 14 = .ok (.invokevirtual 28, 3) := by decide +kernel
theorem dX0_declareAgain_17 : decode cX0_declareAgain 17 = .ok (.return_, 1) := by decide +kernel
theorem dX0_nextMessage_0 : decode cX0_nextMessage 0 = .ok (.aload_n 0, 1) := by decide +kernel
theorem dX0_nextMessage_1 : decode cX0_nextMessage 1 = .ok (.getfield 9, 3) := by decide +kernel
theorem dX0_nextMessage_4 : decode cX0_nextMessage 4 = .ok (.iload_n 1, 1) := by decide +kernel
theorem dX0_nextMessage_5 : decode cX0_nextMessage 5 = .ok (.iaload, 1) := by decide +kernel
theorem dX0_nextMessage_6 : decode cX0_nextMessage 6 = .ok (.iconst 1, 1) := by decide +kernel
theorem dX0_nextMessage_7 : decode cX0_nextMessage 7 = .ok (.if_icmp .ne 31, 3) := by decide +kernel
theorem dX0_nextMessage_10 : decode cX0_nextMessage 10 = .ok (.aload_n 0, 1) := by decide +kernel
theorem dX0_nextMessage_11 : decode cX0_nextMessage 11 = .ok (.getfield 15, 3) := by decide +kernel
theorem dX0_nextMessage_14 : decode cX0_nextMessage 14 = .ok (.iload_n 1, 1) := by decide +kernel
theorem dX0_nextMessage_15 : decode cX0_nextMessage 15 = .ok (.dup2, 1) := by decide +kernel
theorem dX0_nextMessage_16 : decode cX0_nextMessage 16 = .ok (.iaload, 1) := by decide +kernel
theorem dX0_nextMessage_17 : decode cX0_nextMessage 17 = .ok (.iconst 1, 1) := by decide +kernel
theorem dX0_nextMessage_18 : decode cX0_nextMessage 18 = .ok (.isub, 1) := by decide +kernel
theorem dX0_nextMessage_19 : decode cX0_nextMessage 19 = .ok (.iastore, 1) := by decide +kernel
theorem dX0_nextMessage_20 : decode cX0_nextMessage 20 = .ok (.aload_n 0, 1) := by decide +kernel
theorem dX0_nextMessage_21 : decode cX0_nextMessage 21 = .ok (.getfield 15, 3) := by decide +kernel
theorem dX0_nextMessage_24 : decode cX0_nextMessage 24 = .ok (.iload_n 1, 1) := by decide +kernel
theorem dX0_nextMessage_25 : decode cX0_nextMessage 25 = .ok (.iaload, 1) := by decide +kernel
theorem dX0_nextMessage_26 : decode cX0_nextMessage 26 = .ok (.ifCond .ne 10, 3) := by decide +kernel
theorem dX0_nextMessage_29 : decode cX0_nextMessage 29 = .ok (.aload_n 0, 1) := by decide +kernel
theorem dX0_nextMessage_30 : decode cX0_nextMessage 30 = .ok (.getfield 9, 3) := by decide +kernel
theorem dX0_nextMessage_33 : decode cX0_nextMessage 33 = .ok (.iload_n 1, 1) := by decide +kernel
theorem dX0_nextMessage_34 : decode cX0_nextMessage 34 = .ok (.iconst 2, 1) := by decide +kernel
theorem dX0_nextMessage_35 : decode cX0_nextMessage 35 = .ok (.iastore, 1) := by decide +kernel
theorem dX0_nextMessage_36 : decode cX0_nextMessage 36 = .ok (.iconst 1, 1) := by decide +kernel
theorem dX0_nextMessage_37 : decode cX0_nextMessage 37 = .ok (.ireturn, 1) := by decide +kernel
theorem dX0_nextMessage_38 : decode cX0_nextMessage 38 = .ok (.aload_n 0, 1) := by decide +kernel
theorem dX0_nextMessage_39 : decode cX0_nextMessage 39 = .ok (.getfield 9, 3) := by decide +kernel
theorem dX0_nextMessage_42 : decode cX0_nextMessage 42 = .ok (.iload_n 1, 1) := by decide +kernel
theorem dX0_nextMessage_43 : decode cX0_nextMessage 43 = .ok (.iaload, 1) := by decide +kernel
theorem dX0_nextMessage_44 : decode cX0_nextMessage 44 = .ok (.iconst 3, 1) := by decide +kernel
theorem dX0_nextMessage_45 : decode cX0_nextMessage 45 = .ok (.if_icmp .ne 12, 3) := by decide +kernel
theorem dX0_nextMessage_48 : decode cX0_nextMessage 48 = .ok (.aload_n 0, 1) := by decide +kernel
theorem dX0_nextMessage_49 : decode cX0_nextMessage 49 = .ok (.getfield 9, 3) := by decide +kernel
theorem dX0_nextMessage_52 : decode cX0_nextMessage 52 = .ok (.iload_n 1, 1) := by decide +kernel
theorem dX0_nextMessage_53 : decode cX0_nextMessage 53 = .ok (.iconst 0, 1) := by decide +kernel
theorem dX0_nextMessage_54 : decode cX0_nextMessage 54 = .ok (.iastore, 1) := by decide +kernel
theorem dX0_nextMessage_55 : decode cX0_nextMessage 55 = .ok (.iconst 2, 1) := by decide +kernel
theorem dX0_nextMessage_56 : decode cX0_nextMessage 56 = .ok (.ireturn, 1) := by decide +kernel
theorem dX0_nextMessage_57 : decode cX0_nextMessage 57 = .ok (.iconst 0, 1) := by decide +kernel
theorem dX0_nextMessage_58 : decode cX0_nextMessage 58 = .ok (.ireturn, 1) := by decide +kernel
set_option maxRecDepth 20000 in
theorem ggX1_init_J7_fill_53178 : GoodIn wsX1_init wsJ7_fill_53178 := goodIn_r _ [12] (by decide +kernel) (by decide +kernel)
set_option maxRecDepth 20000 in
theorem gX1_init_J7_fill_53178 : GoodIn wsX1_init (va_wsS RX1 25 yJ7_fill_53178 wsJ7_fill_53178) := goodIn_app (goodIn_of _ (by decide +kernel)) ggX1_init_J7_fill_53178
theorem dX1_init_0 : decode cX1_init 0 = .ok (.aload_n 0, 1) := by decide +kernel
theorem dX1_init_1 : decode cX1_init 1 = .ok (.invokespecial 3, 3) := by decide +kernel
theorem dX1_init_4 : decode cX1_init 4 = .ok (.aload_n 0, 1) := by decide +kernel
theorem dX1_init_5 : decode cX1_init 5 = .ok (.bipush 28, 2) := by decide +kernel
theorem dX1_init_7 : decode cX1_init 7 = .ok (.newarray .int, 2) := by decide +kernel
theorem dX1_init_9 : decode cX1_init 9 = .ok (.putfield 9, 3) := by decide +kernel
theorem dX1_init_12 : decode cX1_init 12 = .ok (.aload_n 0, 1) := by decide +kernel
theorem dX1_init_13 : decode cX1_init 13 = .ok (.iconst 0, 1) := by decide +kernel
theorem dX1_init_14 : decode cX1_init 14 = .ok (.putfield 15, 3) := by decide +kernel
theorem dX1_init_17 : decode cX1_init 17 = .ok (.aload_n 0, 1) := by decide +kernel
theorem dX1_init_18 : decode cX1_init 18 = .ok (.iconst 0, 1) := by decide +kernel
theorem dX1_init_19 : decode cX1_init 19 = .ok (.putfield 19, 3) := by decide +kernel
theorem dX1_init_22 : decode cX1_init 22 = .ok (.aload_n 0, 1) := by decide +kernel
theorem dX1_init_23 : decode cX1_init 23 = .ok (.iconst 0, 1) := by decide +kernel
theorem dX1_init_24 : decode cX1_init 24 = .ok (.putfield 22, 3) := by decide +kernel
theorem dX1_init_27 : decode cX1_init 27 = .ok (.aload_n 0, 1) := by decide +kernel
theorem dX1_init_28 : decode cX1_init 28 = .ok (.getfield 9, 3) := by decide +kernel
theorem dX1_init_31 : decode cX1_init 31 = .ok (.iconst (-1), 1) := by decide +kernel
theorem dX1_init_32 : decode cX1_init 32 = .ok (.invokestatic 25, 3) := by decide +kernel
theorem dX1_init_35 : decode cX1_init 35 = .ok (.return_, 1) := by decide +kernel
theorem dX1_stationOfPort_0 : decode cX1_stationOfPort 0 = .ok (.iload_n 1, 1) := by decide +kernel
theorem dX1_stationOfPort_1 : decode cX1_stationOfPort 1 = .ok (.ifCond .lt 20, 3) := by decide +kernel
theorem dX1_stationOfPort_4 : decode cX1_stationOfPort 4 = .ok (.iload_n 1, 1) := by decide +kernel
theorem dX1_stationOfPort_5 : decode cX1_stationOfPort 5 = .ok (.aload_n 0, 1) := by decide +kernel
theorem dX1_stationOfPort_6 : decode cX1_stationOfPort 6 = .ok (.getfield 15, 3) := by decide +kernel
theorem dX1_stationOfPort_9 : decode cX1_stationOfPort 9 = .ok (.if_icmp .ge 12, 3) := by decide +kernel
theorem dX1_stationOfPort_12 : decode cX1_stationOfPort 12 = .ok (.iload_n 2, 1) := by decide +kernel
theorem dX1_stationOfPort_13 : decode cX1_stationOfPort 13 = .ok (.ifCond .lt 8, 3) := by decide +kernel
theorem dX1_stationOfPort_16 : decode cX1_stationOfPort 16 = .ok (.iload_n 2, 1) := by decide +kernel
theorem dX1_stationOfPort_17 : decode cX1_stationOfPort 17 = .ok (.iconst 4, 1) := by decide +kernel
theorem dX1_stationOfPort_18 : decode cX1_stationOfPort 18 = .ok (.if_icmp .lt 5, 3) := by decide +kernel
theorem dX1_stationOfPort_21 : decode cX1_stationOfPort 21 = .ok (.iconst (-1), 1) := by decide +kernel
theorem dX1_stationOfPort_22 : decode cX1_stationOfPort 22 = .ok (.ireturn, 1) := by decide +kernel
theorem dX1_stationOfPort_23 : decode cX1_stationOfPort 23 = .ok (.iload_n 1, 1) := by decide +kernel
theorem dX1_stationOfPort_24 : decode cX1_stationOfPort 24 = .ok (.iconst 4, 1) := by decide +kernel
theorem dX1_stationOfPort_25 : decode cX1_stationOfPort 25 = .ok (.imul, 1) := by decide +kernel
theorem dX1_stationOfPort_26 : decode cX1_stationOfPort 26 = .ok (.iload_n 2, 1) := by decide +kernel
theorem dX1_stationOfPort_27 : decode cX1_stationOfPort 27 = .ok (.iadd, 1) := by decide +kernel
theorem dX1_stationOfPort_28 : decode cX1_stationOfPort 28 = .ok (.ireturn, 1) := by decide +kernel
theorem dX1_stationOfHost_0 : decode cX1_stationOfHost 0 = .ok (.iload_n 1, 1) := by decide +kernel
theorem dX1_stationOfHost_1 : decode cX1_stationOfHost 1 = .ok (.ifCond .lt 11, 3) := by decide +kernel
theorem dX1_stationOfHost_4 : decode cX1_stationOfHost 4 = .ok (.iload_n 1, 1) := by decide +kernel
theorem dX1_stationOfHost_5 : decode cX1_stationOfHost 5 = .ok (.aload_n 0, 1) := by decide +kernel
theorem dX1_stationOfHost_6 : decode cX1_stationOfHost 6 = .ok (.getfield 19, 3) := by decide +kernel
theorem dX1_stationOfHost_9 : decode cX1_stationOfHost 9 = .ok (.if_icmp .lt 6, 3) := by decide +kernel
theorem dX1_stationOfHost_12 : decode cX1_stationOfHost 12 = .ok (.bipush (-2), 2) := by decide +kernel
theorem dX1_stationOfHost_14 : decode cX1_stationOfHost 14 = .ok (.ireturn, 1) := by decide +kernel
theorem dX1_stationOfHost_15 : decode cX1_stationOfHost 15 = .ok (.bipush 20, 2) := by decide +kernel
theorem dX1_stationOfHost_17 : decode cX1_stationOfHost 17 = .ok (.iload_n 1, 1) := by decide +kernel
theorem dX1_stationOfHost_18 : decode cX1_stationOfHost 18 = .ok (.iadd, 1) := by decide +kernel
theorem dX1_stationOfHost_19 : decode cX1_stationOfHost 19 = .ok (.ireturn, 1) := by decide +kernel
set_option maxRecDepth 20000 in
theorem ggX1_isConnected_X4_isStation : GoodIn wsX1_isConnected wsX4_isStation := goodIn_r _ [4] (by decide +kernel) (by decide +kernel)
set_option maxRecDepth 20000 in
theorem gX1_isConnected_X4_isStation_n31 : GoodIn wsX1_isConnected (wsX4_isStation) := ggX1_isConnected_X4_isStation
theorem dX1_isConnected_0 : decode cX1_isConnected 0 = .ok (.aload_n 0, 1) := by decide +kernel
theorem dX1_isConnected_1 : decode cX1_isConnected 1 = .ok (.getfield 9, 3) := by decide +kernel
theorem dX1_isConnected_4 : decode cX1_isConnected 4 = .ok (.iload_n 1, 1) := by decide +kernel
theorem dX1_isConnected_5 : decode cX1_isConnected 5 = .ok (.iaload, 1) := by decide +kernel
theorem dX1_isConnected_6 : decode cX1_isConnected 6 = .ok (.invokestatic 31, 3) := by decide +kernel
theorem dX1_isConnected_9 : decode cX1_isConnected 9 = .ok (.ireturn, 1) := by decide +kernel
theorem dX1_tie_0 : decode cX1_tie 0 = .ok (.aload_n 0, 1) := by decide +kernel
theorem dX1_tie_1 : decode cX1_tie 1 = .ok (.getfield 9, 3) := by decide +kernel
theorem dX1_tie_4 : decode cX1_tie 4 = .ok (.iload_n 1, 1) := by decide +kernel
theorem dX1_tie_5 : decode cX1_tie 5 = .ok (.iload_n 2, 1) := by decide +kernel
theorem dX1_tie_6 : decode cX1_tie 6 = .ok (.iastore, 1) := by decide +kernel
theorem dX1_tie_7 : decode cX1_tie 7 = .ok (.aload_n 0, 1) := by decide +kernel
theorem dX1_tie_8 : decode cX1_tie 8 = .ok (.getfield 9, 3) := by decide +kernel
theorem dX1_tie_11 : decode cX1_tie 11 = .ok (.iload_n 2, 1) := by decide +kernel
theorem dX1_tie_12 : decode cX1_tie 12 = .ok (.iload_n 1, 1) := by decide +kernel
theorem dX1_tie_13 : decode cX1_tie 13 = .ok (.iastore, 1) := by decide +kernel
theorem dX1_tie_14 : decode cX1_tie 14 = .ok (.return_, 1) := by decide +kernel
theorem dX1_untie_0 : decode cX1_untie 0 = .ok (.aload_n 0, 1) := by decide +kernel
theorem dX1_untie_1 : decode cX1_untie 1 = .ok (.getfield 9, 3) := by decide +kernel
theorem dX1_untie_4 : decode cX1_untie 4 = .ok (.iload_n 1, 1) := by decide +kernel
theorem dX1_untie_5 : decode cX1_untie 5 = .ok (.iconst (-1), 1) := by decide +kernel
theorem dX1_untie_6 : decode cX1_untie 6 = .ok (.iastore, 1) := by decide +kernel
theorem dX1_untie_7 : decode cX1_untie 7 = .ok (.aload_n 0, 1) := by decide +kernel
theorem dX1_untie_8 : decode cX1_untie 8 = .ok (.getfield 9, 3) := by decide +kernel
theorem dX1_untie_11 : decode cX1_untie 11 = .ok (.iload_n 2, 1) := by decide +kernel
theorem dX1_untie_12 : decode cX1_untie 12 = .ok (.iconst (-1), 1) := by decide +kernel
theorem dX1_untie_13 : decode cX1_untie 13 = .ok (.iastore, 1) := by decide +kernel
theorem dX1_untie_14 : decode cX1_untie 14 = .ok (.return_, 1) := by decide +kernel
set_option maxRecDepth 20000 in
theorem ggX1_bridgesOnWay_X4_contains : GoodIn wsX1_bridgesOnWay wsX4_contains := goodIn_r _ [3] (by decide +kernel) (by decide +kernel)
set_option maxRecDepth 20000 in
theorem gX1_bridgesOnWay_X4_contains_n35 : GoodIn wsX1_bridgesOnWay (wsX4_contains) := ggX1_bridgesOnWay_X4_contains
set_option maxRecDepth 20000 in
theorem ggX1_bridgesOnWay_X1_neighboursOf : GoodIn wsX1_bridgesOnWay wsX1_neighboursOf := goodIn_r _ [8, 9, 10, 2, 11, 1, 3, 12, 13, 14, 15, 16, 17] (by decide +kernel) (by decide +kernel)
set_option maxRecDepth 20000 in
theorem gX1_bridgesOnWay_X1_neighboursOf : GoodIn wsX1_bridgesOnWay (wsV RX1 39 RX1 yX1_neighboursOf wsX1_neighboursOf) := goodIn_app (goodIn_of _ (by decide +kernel)) ggX1_bridgesOnWay_X1_neighboursOf
theorem dX1_bridgesOnWay_0 : decode cX1_bridgesOnWay 0 = .ok (.iconst 1, 1) := by decide +kernel
theorem dX1_bridgesOnWay_1 : decode cX1_bridgesOnWay 1 = .ok (.iload_n 1, 1) := by decide +kernel
theorem dX1_bridgesOnWay_2 : decode cX1_bridgesOnWay 2 = .ok (.ishl, 1) := by decide +kernel
theorem dX1_bridgesOnWay_3 : decode cX1_bridgesOnWay 3 = .ok (.istore_n 3, 1) := by decide +kernel
theorem dX1_bridgesOnWay_4 : decode cX1_bridgesOnWay 4 = .ok (.iconst 1, 1) := by decide +kernel
theorem dX1_bridgesOnWay_5 : decode cX1_bridgesOnWay 5 = .ok (.istore 4, 2) := by decide +kernel
theorem dX1_bridgesOnWay_7 : decode cX1_bridgesOnWay 7 = .ok (.iload 4, 2) := by decide +kernel
theorem dX1_bridgesOnWay_9 : decode cX1_bridgesOnWay 9 = .ok (.iconst 5, 1) := by decide +kernel
theorem dX1_bridgesOnWay_10 : decode cX1_bridgesOnWay 10 = .ok (.if_icmp .gt 28, 3) := by decide +kernel
theorem dX1_bridgesOnWay_13 : decode cX1_bridgesOnWay 13 = .ok (.iload_n 3, 1) := by decide +kernel
theorem dX1_bridgesOnWay_14 : decode cX1_bridgesOnWay 14 = .ok (.iload_n 2, 1) := by decide +kernel
theorem dX1_bridgesOnWay_15 : decode cX1_bridgesOnWay 15 = .ok (.invokestatic 35, 3) := by decide +kernel
theorem dX1_bridgesOnWay_18 : decode cX1_bridgesOnWay 18 = .ok (.ifCond .eq 6, 3) := by decide +kernel
theorem dX1_bridgesOnWay_21 : decode cX1_bridgesOnWay 21 = .ok (.iload 4, 2) := by decide +kernel
theorem dX1_bridgesOnWay_23 : decode cX1_bridgesOnWay 23 = .ok (.ireturn, 1) := by decide +kernel
theorem dX1_bridgesOnWay_24 : decode cX1_bridgesOnWay 24 = .ok (.iload_n 3, 1) := by decide +kernel
theorem dX1_bridgesOnWay_25 : decode cX1_bridgesOnWay 25 = .ok (.aload_n 0, 1) := by decide +kernel
theorem dX1_bridgesOnWay_26 : decode cX1_bridgesOnWay 26 = .ok (.iload_n 3, 1) := by decide +kernel
theorem dX1_bridgesOnWay_27 : decode cX1_bridgesOnWay 27 = .ok (.invokevirtual 39, 3) := by decide +kernel
theorem dX1_bridgesOnWay_30 : decode cX1_bridgesOnWay 30 = .ok (.ior, 1) := by decide +kernel
theorem dX1_bridgesOnWay_31 : decode cX1_bridgesOnWay 31 = .ok (.istore_n 3, 1) := by decide +kernel
theorem dX1_bridgesOnWay_32 : decode cX1_bridgesOnWay 32 = .ok (.iinc 4 1, 3) := by decide +kernel
theorem dX1_bridgesOnWay_35 : decode cX1_bridgesOnWay 35 = .ok (.goto (-28), 3) := by decide +kernel
theorem dX1_bridgesOnWay_38 : decode cX1_bridgesOnWay 38 = .ok (.iconst 0, 1) := by decide +kernel
theorem dX1_bridgesOnWay_39 : decode cX1_bridgesOnWay 39 = .ok (.ireturn, 1) := by decide +kernel
set_option maxRecDepth 20000 in
theorem ggX1_neighboursOf_X4_bridgeOf : GoodIn wsX1_neighboursOf wsX4_bridgeOf := goodIn_r _ [4] (by decide +kernel) (by decide +kernel)
set_option maxRecDepth 20000 in
theorem gX1_neighboursOf_X4_bridgeOf_n43 : GoodIn wsX1_neighboursOf (wsX4_bridgeOf) := ggX1_neighboursOf_X4_bridgeOf
set_option maxRecDepth 20000 in
theorem ggX1_neighboursOf_X4_contains : GoodIn wsX1_neighboursOf wsX4_contains := goodIn_r _ [6] (by decide +kernel) (by decide +kernel)
set_option maxRecDepth 20000 in
theorem gX1_neighboursOf_X4_contains_n35 : GoodIn wsX1_neighboursOf (wsX4_contains) := ggX1_neighboursOf_X4_contains
set_option maxRecDepth 20000 in
theorem ggX1_neighboursOf_X4_isPort : GoodIn wsX1_neighboursOf wsX4_isPort := goodIn_r _ [8] (by decide +kernel) (by decide +kernel)
set_option maxRecDepth 20000 in
theorem gX1_neighboursOf_X4_isPort_n46 : GoodIn wsX1_neighboursOf (wsX4_isPort) := ggX1_neighboursOf_X4_isPort
theorem dX1_neighboursOf_0 : decode cX1_neighboursOf 0 = .ok (.iconst 0, 1) := by decide +kernel
theorem dX1_neighboursOf_1 : decode cX1_neighboursOf 1 = .ok (.istore_n 2, 1) := by decide +kernel
theorem dX1_neighboursOf_2 : decode cX1_neighboursOf 2 = .ok (.iconst 0, 1) := by decide +kernel
theorem dX1_neighboursOf_3 : decode cX1_neighboursOf 3 = .ok (.istore_n 3, 1) := by decide +kernel
theorem dX1_neighboursOf_4 : decode cX1_neighboursOf 4 = .ok (.iload_n 3, 1) := by decide +kernel
theorem dX1_neighboursOf_5 : decode cX1_neighboursOf 5 = .ok (.bipush 20, 2) := by decide +kernel
theorem dX1_neighboursOf_7 : decode cX1_neighboursOf 7 = .ok (.if_icmp .ge 46, 3) := by decide +kernel
theorem dX1_neighboursOf_10 : decode cX1_neighboursOf 10 = .ok (.aload_n 0, 1) := by decide +kernel
theorem dX1_neighboursOf_11 : decode cX1_neighboursOf 11 = .ok (.getfield 9, 3) := by decide +kernel
theorem dX1_neighboursOf_14 : decode cX1_neighboursOf 14 = .ok (.iload_n 3, 1) := by decide +kernel
theorem dX1_neighboursOf_15 : decode cX1_neighboursOf 15 = .ok (.iaload, 1) := by decide +kernel
theorem dX1_neighboursOf_16 : decode cX1_neighboursOf 16 = .ok (.istore 4, 2) := by decide +kernel
theorem dX1_neighboursOf_18 : decode cX1_neighboursOf 18 = .ok (.iload_n 1, 1) := by decide +kernel
theorem dX1_neighboursOf_19 : decode cX1_neighboursOf 19 = .ok (.iload_n 3, 1) := by decide +kernel
theorem dX1_neighboursOf_20 : decode cX1_neighboursOf 20 = .ok (.invokestatic 43, 3) := by decide +kernel
theorem dX1_neighboursOf_23 : decode cX1_neighboursOf 23 = .ok (.invokestatic 35, 3) := by decide +kernel
theorem dX1_neighboursOf_26 : decode cX1_neighboursOf 26 = .ok (.ifCond .eq 21, 3) := by decide +kernel
theorem dX1_neighboursOf_29 : decode cX1_neighboursOf 29 = .ok (.iload 4, 2) := by decide +kernel
theorem dX1_neighboursOf_31 : decode cX1_neighboursOf 31 = .ok (.invokestatic 46, 3) := by decide +kernel
theorem dX1_neighboursOf_34 : decode cX1_neighboursOf 34 = .ok (.ifCond .eq 13, 3) := by decide +kernel
theorem dX1_neighboursOf_37 : decode cX1_neighboursOf 37 = .ok (.iload_n 2, 1) := by decide +kernel
theorem dX1_neighboursOf_38 : decode cX1_neighboursOf 38 = .ok (.iconst 1, 1) := by decide +kernel
theorem dX1_neighboursOf_39 : decode cX1_neighboursOf 39 = .ok (.iload 4, 2) := by decide +kernel
theorem dX1_neighboursOf_41 : decode cX1_neighboursOf 41 = .ok (.invokestatic 43, 3) := by decide +kernel
theorem dX1_neighboursOf_44 : decode cX1_neighboursOf 44 = .ok (.ishl, 1) := by decide +kernel
theorem dX1_neighboursOf_45 : decode cX1_neighboursOf 45 = .ok (.ior, 1) := by decide +kernel
theorem dX1_neighboursOf_46 : decode cX1_neighboursOf 46 = .ok (.istore_n 2, 1) := by decide +kernel
theorem dX1_neighboursOf_47 : decode cX1_neighboursOf 47 = .ok (.iinc 3 1, 3) := by decide +kernel
theorem dX1_neighboursOf_50 : decode cX1_neighboursOf 50 = .ok (.goto (-46), 3) := by decide +kernel
theorem dX1_neighboursOf_53 : decode cX1_neighboursOf 53 = .ok (.iload_n 2, 1) := by decide +kernel
theorem dX1_neighboursOf_54 : decode cX1_neighboursOf 54 = .ok (.ireturn, 1) := by decide +kernel
theorem dX2_init_0 : decode cX2_init 0 = .ok (.aload_n 0, 1) := by decide +kernel
theorem dX2_init_1 : decode cX2_init 1 = .ok (.invokespecial 3, 3) := by decide +kernel
theorem dX2_init_4 : decode cX2_init 4 = .ok (.aload_n 0, 1) := by decide +kernel
theorem dX2_init_5 : decode cX2_init 5 = .ok (.bipush 28, 2) := by decide +kernel
theorem dX2_init_7 : decode cX2_init 7 = .ok (.newarray .boolean, 2) := by decide +kernel
theorem dX2_init_9 : decode cX2_init 9 = .ok (.putfield 9, 3) := by decide +kernel
theorem dX2_init_12 : decode cX2_init 12 = .ok (.aload_n 0, 1) := by decide +kernel
theorem dX2_init_13 : decode cX2_init 13 = .ok (.bipush 112, 2) := by decide +kernel
theorem dX2_init_15 : decode cX2_init 15 = .ok (.newarray .int, 2) := by decide +kernel
theorem dX2_init_17 : decode cX2_init 17 = .ok (.putfield 15, 3) := by decide +kernel
theorem dX2_init_20 : decode cX2_init 20 = .ok (.return_, 1) := by decide +kernel
set_option maxRecDepth 20000 in
theorem ggX2_clear_J7_fill_53178 : GoodIn wsX2_clear wsJ7_fill_53178 := goodIn_r _ [6] (by decide +kernel) (by decide +kernel)
set_option maxRecDepth 20000 in
theorem gX2_clear_J7_fill_53178 : GoodIn wsX2_clear (va_wsS RX2 19 yJ7_fill_53178 wsJ7_fill_53178) := goodIn_app (goodIn_of _ (by decide +kernel)) ggX2_clear_J7_fill_53178
theorem dX2_clear_0 : decode cX2_clear 0 = .ok (.iconst 0, 1) := by decide +kernel
theorem dX2_clear_1 : decode cX2_clear 1 = .ok (.istore_n 1, 1) := by decide +kernel
theorem dX2_clear_2 : decode cX2_clear 2 = .ok (.iload_n 1, 1) := by decide +kernel
theorem dX2_clear_3 : decode cX2_clear 3 = .ok (.bipush 28, 2) := by decide +kernel
theorem dX2_clear_5 : decode cX2_clear 5 = .ok (.if_icmp .ge 16, 3) := by decide +kernel
theorem dX2_clear_8 : decode cX2_clear 8 = .ok (.aload_n 0, 1) := by decide +kernel
theorem dX2_clear_9 : decode cX2_clear 9 = .ok (.getfield 9, 3) := by decide +kernel
theorem dX2_clear_12 : decode cX2_clear 12 = .ok (.iload_n 1, 1) := by decide +kernel
theorem dX2_clear_13 : decode cX2_clear 13 = .ok (.iconst 0, 1) := by decide +kernel
theorem dX2_clear_14 : decode cX2_clear 14 = .ok (.bastore, 1) := by decide +kernel
theorem dX2_clear_15 : decode cX2_clear 15 = .ok (.iinc 1 1, 3) := by decide +kernel
theorem dX2_clear_18 : decode cX2_clear 18 = .ok (.goto (-16), 3) := by decide +kernel
theorem dX2_clear_21 : decode cX2_clear 21 = .ok (.aload_n 0, 1) := by decide +kernel
theorem dX2_clear_22 : decode cX2_clear 22 = .ok (.getfield 15, 3) := by decide +kernel
theorem dX2_clear_25 : decode cX2_clear 25 = .ok (.iconst 0, 1) := by decide +kernel
theorem dX2_clear_26 : decode cX2_clear 26 = .ok (.invokestatic 19, 3) := by decide +kernel
theorem dX2_clear_29 : decode cX2_clear 29 = .ok (.return_, 1) := by decide +kernel
set_option maxRecDepth 20000 in
theorem ggX3_init_J7_fill_53178 : GoodIn wsX3_init wsJ7_fill_53178 := goodIn_r _ [10] (by decide +kernel) (by decide +kernel)
set_option maxRecDepth 20000 in
theorem gX3_init_J7_fill_53178 : GoodIn wsX3_init (va_wsS RX3 18 yJ7_fill_53178 wsJ7_fill_53178) := goodIn_app (goodIn_of _ (by decide +kernel)) ggX3_init_J7_fill_53178
theorem dX3_init_0 : decode cX3_init 0 = .ok (.aload_n 0, 1) := by decide +kernel
theorem dX3_init_1 : decode cX3_init 1 = .ok (.invokespecial 3, 3) := by decide +kernel
theorem dX3_init_4 : decode cX3_init 4 = .ok (.aload_n 0, 1) := by decide +kernel
theorem dX3_init_5 : decode cX3_init 5 = .ok (.bipush 80, 2) := by decide +kernel
theorem dX3_init_7 : decode cX3_init 7 = .ok (.newarray .int, 2) := by decide +kernel
theorem dX3_init_9 : decode cX3_init 9 = .ok (.putfield 9, 3) := by decide +kernel
theorem dX3_init_12 : decode cX3_init 12 = .ok (.aload_n 0, 1) := by decide +kernel
theorem dX3_init_13 : decode cX3_init 13 = .ok (.bipush 80, 2) := by decide +kernel
theorem dX3_init_15 : decode cX3_init 15 = .ok (.newarray .int, 2) := by decide +kernel
theorem dX3_init_17 : decode cX3_init 17 = .ok (.putfield 15, 3) := by decide +kernel
theorem dX3_init_20 : decode cX3_init 20 = .ok (.aload_n 0, 1) := by decide +kernel
theorem dX3_init_21 : decode cX3_init 21 = .ok (.getfield 9, 3) := by decide +kernel
theorem dX3_init_24 : decode cX3_init 24 = .ok (.iconst 0, 1) := by decide +kernel
theorem dX3_init_25 : decode cX3_init 25 = .ok (.invokestatic 18, 3) := by decide +kernel
theorem dX3_init_28 : decode cX3_init 28 = .ok (.return_, 1) := by decide +kernel
theorem dX3_change_0 : decode cX3_change 0 = .ok (.aload_n 0, 1) := by decide +kernel
theorem dX3_change_1 : decode cX3_change 1 = .ok (.getfield 9, 3) := by decide +kernel
theorem dX3_change_4 : decode cX3_change 4 = .ok (.iload_n 1, 1) := by decide +kernel
theorem dX3_change_5 : decode cX3_change 5 = .ok (.iload_n 2, 1) := by decide +kernel
theorem dX3_change_6 : decode cX3_change 6 = .ok (.iastore, 1) := by decide +kernel
theorem dX3_change_7 : decode cX3_change 7 = .ok (.aload_n 0, 1) := by decide +kernel
theorem dX3_change_8 : decode cX3_change 8 = .ok (.getfield 15, 3) := by decide +kernel
theorem dX3_change_11 : decode cX3_change 11 = .ok (.iload_n 1, 1) := by decide +kernel
theorem dX3_change_12 : decode cX3_change 12 = .ok (.iload_n 3, 1) := by decide +kernel
theorem dX3_change_13 : decode cX3_change 13 = .ok (.iastore, 1) := by decide +kernel
theorem dX3_change_14 : decode cX3_change 14 = .ok (.return_, 1) := by decide +kernel
set_option maxRecDepth 20000 in
theorem ggX3_startLeaving_X3_change : GoodIn wsX3_startLeaving wsX3_change := goodIn_r _ [6, 1, 7, 8, 9] (by decide +kernel) (by decide +kernel)
set_option maxRecDepth 20000 in
theorem gX3_startLeaving_X3_change : GoodIn wsX3_startLeaving (wsV RX3 24 RX3 yX3_change wsX3_change) := goodIn_app (goodIn_of _ (by decide +kernel)) ggX3_startLeaving_X3_change
theorem dX3_startLeaving_0 : decode cX3_startLeaving 0 = .ok (.aload_n 0, 1) := by decide +kernel
theorem dX3_startLeaving_1 : decode cX3_startLeaving 1 = .ok (.getfield 9, 3) := by decide +kernel
theorem dX3_startLeaving_4 : decode cX3_startLeaving 4 = .ok (.iload_n 1, 1) := by decide +kernel
theorem dX3_startLeaving_5 : decode cX3_startLeaving 5 = .ok (.iaload, 1) := by decide +kernel
theorem dX3_startLeaving_6 : decode cX3_startLeaving 6 = .ok (.iconst 1, 1) := by decide +kernel
theorem dX3_startLeaving_7 : decode cX3_startLeaving 7 = .ok (.if_icmp .ne 10, 3) := by decide +kernel
theorem dX3_startLeaving_10 : decode cX3_startLeaving 10 = .ok (.aload_n 0, 1) := by decide +kernel
theorem dX3_startLeaving_11 : decode cX3_startLeaving 11 = .ok (.iload_n 1, 1) := by decide +kernel
theorem dX3_startLeaving_12 : decode cX3_startLeaving 12 = .ok (.iconst 2, 1) := by decide +kernel
theorem dX3_startLeaving_13 : decode cX3_startLeaving 13 = .ok (.iload_n 2, 1) := by decide +kernel
theorem dX3_startLeaving_14 : decode cX3_startLeaving 14 = .ok (.invokevirtual 24, 3) := by decide +kernel
theorem dX3_startLeaving_17 : decode cX3_startLeaving 17 = .ok (.return_, 1) := by decide +kernel
set_option maxRecDepth 20000 in
theorem ggX3_hear_X3_change : GoodIn wsX3_hear wsX3_change := goodIn_r _ [5, 6, 7, 12, 13] (by decide +kernel) (by decide +kernel)
set_option maxRecDepth 20000 in
theorem gX3_hear_X3_change : GoodIn wsX3_hear (wsV RX3 24 RX3 yX3_change wsX3_change) := goodIn_app (goodIn_of _ (by decide +kernel)) ggX3_hear_X3_change
set_option maxRecDepth 20000 in
theorem ggX3_hear_X3_startLeaving : GoodIn wsX3_hear wsX3_startLeaving := goodIn_r _ [11, 6, 1, 2, 3, 4, 5, 7, 12, 13] (by decide +kernel) (by decide +kernel)
set_option maxRecDepth 20000 in
theorem gX3_hear_X3_startLeaving : GoodIn wsX3_hear (wsV RX3 28 RX3 yX3_startLeaving wsX3_startLeaving) := goodIn_app (goodIn_of _ (by decide +kernel)) ggX3_hear_X3_startLeaving
theorem dX3_hear_0 : decode cX3_hear 0 = .ok (.iload_n 2, 1) := by decide +kernel
theorem dX3_hear_1 : decode cX3_hear 1 = .ok (.iconst 1, 1) := by decide +kernel
theorem dX3_hear_2 : decode cX3_hear 2 = .ok (.if_icmp .ne 13, 3) := by decide +kernel
theorem dX3_hear_5 : decode cX3_hear 5 = .ok (.aload_n 0, 1) := by decide +kernel
theorem dX3_hear_6 : decode cX3_hear 6 = .ok (.iload_n 1, 1) := by decide +kernel
theorem dX3_hear_7 : decode cX3_hear 7 = .ok (.iconst 1, 1) := by decide +kernel
theorem dX3_hear_8 : decode cX3_hear 8 = .ok (.iconst 0, 1) := by decide +kernel
theorem dX3_hear_9 : decode cX3_hear 9 = .ok (.invokevirtual 24, 3) := by decide +kernel
theorem dX3_hear_12 : decode cX3_hear 12 = .ok (.goto 14, 3) := by decide +kernel
theorem dX3_hear_15 : decode cX3_hear 15 = .ok (.iload_n 2, 1) := by decide +kernel
theorem dX3_hear_16 : decode cX3_hear 16 = .ok (.iconst 2, 1) := by decide +kernel
theorem dX3_hear_17 : decode cX3_hear 17 = .ok (.if_icmp .ne 9, 3) := by decide +kernel
theorem dX3_hear_20 : decode cX3_hear 20 = .ok (.aload_n 0, 1) := by decide +kernel
theorem dX3_hear_21 : decode cX3_hear 21 = .ok (.iload_n 1, 1) := by decide +kernel
theorem dX3_hear_22 : decode cX3_hear 22 = .ok (.iload_n 3, 1) := by decide +kernel
theorem dX3_hear_23 : decode cX3_hear 23 = .ok (.invokevirtual 28, 3) := by decide +kernel
theorem dX3_hear_26 : decode cX3_hear 26 = .ok (.return_, 1) := by decide +kernel
theorem dX3_countDown_0 : decode cX3_countDown 0 = .ok (.aload_n 0, 1) := by decide +kernel
theorem dX3_countDown_1 : decode cX3_countDown 1 = .ok (.getfield 9, 3) := by decide +kernel
theorem dX3_countDown_4 : decode cX3_countDown 4 = .ok (.iload_n 1, 1) := by decide +kernel
theorem dX3_countDown_5 : decode cX3_countDown 5 = .ok (.iaload, 1) := by decide +kernel
theorem dX3_countDown_6 : decode cX3_countDown 6 = .ok (.iconst 2, 1) := by decide +kernel
theorem dX3_countDown_7 : decode cX3_countDown 7 = .ok (.if_icmp .ne 29, 3) := by decide +kernel
theorem dX3_countDown_10 : decode cX3_countDown 10 = .ok (.aload_n 0, 1) := by decide +kernel
theorem dX3_countDown_11 : decode cX3_countDown 11 = .ok (.getfield 15, 3) := by decide +kernel
theorem dX3_countDown_14 : decode cX3_countDown 14 = .ok (.iload_n 1, 1) := by decide +kernel
theorem dX3_countDown_15 : decode cX3_countDown 15 = .ok (.dup2, 1) := by decide +kernel
theorem dX3_countDown_16 : decode cX3_countDown 16 = .ok (.iaload, 1) := by decide +kernel
theorem dX3_countDown_17 : decode cX3_countDown 17 = .ok (.iconst 1, 1) := by decide +kernel
theorem dX3_countDown_18 : decode cX3_countDown 18 = .ok (.isub, 1) := by decide +kernel
theorem dX3_countDown_19 : decode cX3_countDown 19 = .ok (.iastore, 1) := by decide +kernel
theorem dX3_countDown_20 : decode cX3_countDown 20 = .ok (.aload_n 0, 1) := by decide +kernel
theorem dX3_countDown_21 : decode cX3_countDown 21 = .ok (.getfield 15, 3) := by decide +kernel
theorem dX3_countDown_24 : decode cX3_countDown 24 = .ok (.iload_n 1, 1) := by decide +kernel
theorem dX3_countDown_25 : decode cX3_countDown 25 = .ok (.iaload, 1) := by decide +kernel
theorem dX3_countDown_26 : decode cX3_countDown 26 = .ok (.ifCond .ne 10, 3) := by decide +kernel
theorem dX3_countDown_29 : decode cX3_countDown 29 = .ok (.aload_n 0, 1) := by decide +kernel
theorem dX3_countDown_30 : decode cX3_countDown 30 = .ok (.getfield 9, 3) := by decide +kernel
theorem dX3_countDown_33 : decode cX3_countDown 33 = .ok (.iload_n 1, 1) := by decide +kernel
theorem dX3_countDown_34 : decode cX3_countDown 34 = .ok (.iconst 0, 1) := by decide +kernel
theorem dX3_countDown_35 : decode cX3_countDown 35 = .ok (.iastore, 1) := by decide +kernel
theorem dX3_countDown_36 : decode cX3_countDown 36 = .ok (.return_, 1) := by decide +kernel
set_option maxRecDepth 20000 in
theorem ggX4_init_X1_init : GoodIn wsX4_init wsX1_init := goodIn_r _ [30, 31, 2, 3, 20, 32, 33, 34, 35, 36, 37, 38, 39, 57, 58, 59, 60] (by decide +kernel) (by decide +kernel)
set_option maxRecDepth 20000 in
theorem gX4_init_X1_init_n11 : GoodIn wsX4_init (wsX1_init) := ggX4_init_X1_init
set_option maxRecDepth 20000 in
theorem ggX4_init_X3_init : GoodIn wsX4_init wsX3_init := goodIn_r _ [41, 42, 2, 3, 20, 43, 44, 45, 37, 38, 39, 72, 73] (by decide +kernel) (by decide +kernel)
set_option maxRecDepth 20000 in
theorem gX4_init_X3_init_n18 : GoodIn wsX4_init (wsX3_init) := ggX4_init_X3_init
set_option maxRecDepth 20000 in
theorem ggX4_init_X0_init : GoodIn wsX4_init wsX0_init := goodIn_r _ [47, 48, 2, 3, 20, 49, 50, 51, 37, 38, 39, 74, 75] (by decide +kernel) (by decide +kernel)
set_option maxRecDepth 20000 in
theorem gX4_init_X0_init_n25 : GoodIn wsX4_init (wsX0_init) := ggX4_init_X0_init
set_option maxRecDepth 20000 in
theorem ggX4_init_X2_init : GoodIn wsX4_init wsX2_init := goodIn_r _ [53, 54, 2, 3, 22, 55, 20, 56, 76, 77] (by decide +kernel) (by decide +kernel)
set_option maxRecDepth 20000 in
theorem gX4_init_X2_init_n32 : GoodIn wsX4_init (wsX2_init) := ggX4_init_X2_init
theorem dX4_init_0 : decode cX4_init 0 = .ok (.aload_n 0, 1) := by decide +kernel
theorem dX4_init_1 : decode cX4_init 1 = .ok (.invokespecial 3, 3) := by decide +kernel
theorem dX4_init_4 : decode cX4_init 4 = .ok (.aload_n 0, 1) := by decide +kernel
theorem dX4_init_5 : decode cX4_init 5 = .ok (.new 9, 3) := by decide +kernel
theorem dX4_init_8 : decode cX4_init 8 = .ok (.dup, 1) := by decide +kernel
theorem dX4_init_9 : decode cX4_init 9 = .ok (.invokespecial 11, 3) := by decide +kernel
theorem dX4_init_12 : decode cX4_init 12 = .ok (.putfield 12, 3) := by decide +kernel
theorem dX4_init_15 : decode cX4_init 15 = .ok (.aload_n 0, 1) := by decide +kernel
theorem dX4_init_16 : decode cX4_init 16 = .ok (.new 16, 3) := by decide +kernel
theorem dX4_init_19 : decode cX4_init 19 = .ok (.dup, 1) := by decide +kernel
theorem dX4_init_20 : decode cX4_init 20 = .ok (.invokespecial 18, 3) := by decide +kernel
theorem dX4_init_23 : decode cX4_init 23 = .ok (.putfield 19, 3) := by decide +kernel
theorem dX4_init_26 : decode cX4_init 26 = .ok (.aload_n 0, 1) := by decide +kernel
theorem dX4_init_27 : decode cX4_init 27 = .ok (.new 23, 3) := by decide +kernel
theorem dX4_init_30 : decode cX4_init 30 = .ok (.dup, 1) := by decide +kernel
theorem dX4_init_31 : decode cX4_init 31 = .ok (.invokespecial 25, 3) := by decide +kernel
theorem dX4_init_34 : decode cX4_init 34 = .ok (.putfield 26, 3) := by decide +kernel
theorem dX4_init_37 : decode cX4_init 37 = .ok (.aload_n 0, 1) := by decide +kernel
theorem dX4_init_38 : decode cX4_init 38 = .ok (.new 30, 3) := by decide +kernel
theorem dX4_init_41 : decode cX4_init 41 = .ok (.dup, 1) := by decide +kernel
theorem dX4_init_42 : decode cX4_init 42 = .ok (.invokespecial 32, 3) := by decide +kernel
theorem dX4_init_45 : decode cX4_init 45 = .ok (.putfield 33, 3) := by decide +kernel
theorem dX4_init_48 : decode cX4_init 48 = .ok (.aload_n 0, 1) := by decide +kernel
theorem dX4_init_49 : decode cX4_init 49 = .ok (.bipush 20, 2) := by decide +kernel
theorem dX4_init_51 : decode cX4_init 51 = .ok (.newarray .int, 2) := by decide +kernel
theorem dX4_init_53 : decode cX4_init 53 = .ok (.putfield 37, 3) := by decide +kernel
theorem dX4_init_56 : decode cX4_init 56 = .ok (.aload_n 0, 1) := by decide +kernel
theorem dX4_init_57 : decode cX4_init 57 = .ok (.bipush 20, 2) := by decide +kernel
theorem dX4_init_59 : decode cX4_init 59 = .ok (.newarray .boolean, 2) := by decide +kernel
theorem dX4_init_61 : decode cX4_init 61 = .ok (.putfield 41, 3) := by decide +kernel
theorem dX4_init_64 : decode cX4_init 64 = .ok (.aload_n 0, 1) := by decide +kernel
theorem dX4_init_65 : decode cX4_init 65 = .ok (.bipush 28, 2) := by decide +kernel
theorem dX4_init_67 : decode cX4_init 67 = .ok (.newarray .boolean, 2) := by decide +kernel
theorem dX4_init_69 : decode cX4_init 69 = .ok (.putfield 45, 3) := by decide +kernel
theorem dX4_init_72 : decode cX4_init 72 = .ok (.aload_n 0, 1) := by decide +kernel
theorem dX4_init_73 : decode cX4_init 73 = .ok (.bipush 28, 2) := by decide +kernel
theorem dX4_init_75 : decode cX4_init 75 = .ok (.newarray .boolean, 2) := by decide +kernel
theorem dX4_init_77 : decode cX4_init 77 = .ok (.putfield 48, 3) := by decide +kernel
theorem dX4_init_80 : decode cX4_init 80 = .ok (.aload_n 0, 1) := by decide +kernel
theorem dX4_init_81 : decode cX4_init 81 = .ok (.bipush 6, 2) := by decide +kernel
theorem dX4_init_83 : decode cX4_init 83 = .ok (.putfield 51, 3) := by decide +kernel
theorem dX4_init_86 : decode cX4_init 86 = .ok (.aload_n 0, 1) := by decide +kernel
theorem dX4_init_87 : decode cX4_init 87 = .ok (.iconst 0, 1) := by decide +kernel
theorem dX4_init_88 : decode cX4_init 88 = .ok (.putfield 55, 3) := by decide +kernel
theorem dX4_init_91 : decode cX4_init 91 = .ok (.aload_n 0, 1) := by decide +kernel
theorem dX4_init_92 : decode cX4_init 92 = .ok (.iconst 0, 1) := by decide +kernel
theorem dX4_init_93 : decode cX4_init 93 = .ok (.putfield 58, 3) := by decide +kernel
theorem dX4_init_96 : decode cX4_init 96 = .ok (.return_, 1) := by decide +kernel
theorem dX4_addBridge_0 : decode cX4_addBridge 0 = .ok (.aload_n 0, 1) := by decide +kernel
theorem dX4_addBridge_1 : decode cX4_addBridge 1 = .ok (.getfield 12, 3) := by decide +kernel
theorem dX4_addBridge_4 : decode cX4_addBridge 4 = .ok (.getfield 61, 3) := by decide +kernel
theorem dX4_addBridge_7 : decode cX4_addBridge 7 = .ok (.iconst 5, 1) := by decide +kernel
theorem dX4_addBridge_8 : decode cX4_addBridge 8 = .ok (.if_icmp .lt 6, 3) := by decide +kernel
theorem dX4_addBridge_11 : decode cX4_addBridge 11 = .ok (.bipush (-5), 2) := by decide +kernel
theorem dX4_addBridge_13 : decode cX4_addBridge 13 = .ok (.ireturn, 1) := by decide +kernel
theorem dX4_addBridge_14 : decode cX4_addBridge 14 = .ok (.aload_n 0, 1) := by decide +kernel
theorem dX4_addBridge_15 : decode cX4_addBridge 15 = .ok (.getfield 12, 3) := by decide +kernel
theorem dX4_addBridge_18 : decode cX4_addBridge 18 = .ok (.getfield 61, 3) := by decide +kernel
theorem dX4_addBridge_21 : decode cX4_addBridge 21 = .ok (.istore_n 1, 1) := by decide +kernel
theorem dX4_addBridge_22 : decode cX4_addBridge 22 = .ok (.aload_n 0, 1) := by decide +kernel
theorem dX4_addBridge_23 : decode cX4_addBridge 23 = .ok (.getfield 12, 3) := by decide +kernel
theorem dX4_addBridge_26 : decode cX4_addBridge 26 = .ok (.dup, 1) := by decide +kernel
theorem dX4_addBridge_27 : decode cX4_addBridge 27 = .ok (.getfield 61, 3) := by decide +kernel
theorem dX4_addBridge_30 : decode cX4_addBridge 30 = .ok (.iconst 1, 1) := by decide +kernel
theorem dX4_addBridge_31 : decode cX4_addBridge 31 = .ok (.iadd, 1) := by decide +kernel
theorem dX4_addBridge_32 : decode cX4_addBridge 32 = .ok (.putfield 61, 3) := by decide +kernel
theorem dX4_addBridge_35 : decode cX4_addBridge 35 = .ok (.iload_n 1, 1) := by decide +kernel
theorem dX4_addBridge_36 : decode cX4_addBridge 36 = .ok (.ireturn, 1) := by decide +kernel
set_option maxRecDepth 20000 in
theorem ggX4_connect_X1_stationOfPort : GoodIn wsX4_connect wsX1_stationOfPort := goodIn_r _ [5, 6, 47, 48, 49, 50] (by decide +kernel) (by decide +kernel)
set_option maxRecDepth 20000 in
theorem gX4_connect_X1_stationOfPort_n64 : GoodIn wsX4_connect (wsX1_stationOfPort) := ggX4_connect_X1_stationOfPort
set_option maxRecDepth 20000 in
theorem ggX4_connect_X1_isConnected : GoodIn wsX4_connect wsX1_isConnected := goodIn_r _ [9, 10, 11, 12, 13, 47, 48, 49, 50] (by decide +kernel) (by decide +kernel)
set_option maxRecDepth 20000 in
theorem gX4_connect_X1_isConnected_n68 : GoodIn wsX4_connect (wsX1_isConnected) := ggX4_connect_X1_isConnected
set_option maxRecDepth 20000 in
theorem ggX4_connect_X1_bridgesOnWay : GoodIn wsX4_connect wsX1_bridgesOnWay := goodIn_r _ [16, 17, 12, 18, 19, 20, 21, 3, 22, 10, 23, 24, 25, 26, 47, 48, 49, 50] (by decide +kernel) (by decide +kernel)
set_option maxRecDepth 20000 in
theorem gX4_connect_X1_bridgesOnWay_n72 : GoodIn wsX4_connect (wsX1_bridgesOnWay) := ggX4_connect_X1_bridgesOnWay
set_option maxRecDepth 20000 in
theorem ggX4_connect_X1_tie : GoodIn wsX4_connect wsX1_tie := goodIn_r _ [29, 10, 47, 48, 49, 50] (by decide +kernel) (by decide +kernel)
set_option maxRecDepth 20000 in
theorem gX4_connect_X1_tie_n75 : GoodIn wsX4_connect (wsX1_tie) := ggX4_connect_X1_tie
set_option maxRecDepth 20000 in
theorem ggX4_connect_X4_startPort : GoodIn wsX4_connect wsX4_startPort := goodIn_r _ [33, 34, 35, 36, 37, 38, 39, 40, 41, 42, 43, 44, 45, 46] (by decide +kernel) (by decide +kernel)
set_option maxRecDepth 20000 in
theorem gX4_connect_X4_startPort : GoodIn wsX4_connect (wsV RX4 82 RX4 yX4_startPort wsX4_startPort) := goodIn_app (goodIn_of _ (by decide +kernel)) ggX4_connect_X4_startPort
theorem dX4_connect_0 : decode cX4_connect 0 = .ok (.aload_n 0, 1) := by decide +kernel
theorem dX4_connect_1 : decode cX4_connect 1 = .ok (.getfield 12, 3) := by decide +kernel
theorem dX4_connect_4 : decode cX4_connect 4 = .ok (.iload_n 1, 1) := by decide +kernel
theorem dX4_connect_5 : decode cX4_connect 5 = .ok (.iload_n 2, 1) := by decide +kernel
theorem dX4_connect_6 : decode cX4_connect 6 = .ok (.invokevirtual 64, 3) := by decide +kernel
theorem dX4_connect_9 : decode cX4_connect 9 = .ok (.istore 5, 2) := by decide +kernel
theorem dX4_connect_11 : decode cX4_connect 11 = .ok (.aload_n 0, 1) := by decide +kernel
theorem dX4_connect_12 : decode cX4_connect 12 = .ok (.getfield 12, 3) := by decide +kernel
theorem dX4_connect_15 : decode cX4_connect 15 = .ok (.iload_n 3, 1) := by decide +kernel
theorem dX4_connect_16 : decode cX4_connect 16 = .ok (.iload 4, 2) := by decide +kernel
theorem dX4_connect_18 : decode cX4_connect 18 = .ok (.invokevirtual 64, 3) := by decide +kernel
theorem dX4_connect_21 : decode cX4_connect 21 = .ok (.istore 6, 2) := by decide +kernel
theorem dX4_connect_23 : decode cX4_connect 23 = .ok (.iload 5, 2) := by decide +kernel
theorem dX4_connect_25 : decode cX4_connect 25 = .ok (.ifCond .lt 8, 3) := by decide +kernel
theorem dX4_connect_28 : decode cX4_connect 28 = .ok (.iload 6, 2) := by decide +kernel
theorem dX4_connect_30 : decode cX4_connect 30 = .ok (.ifCond .ge 5, 3) := by decide +kernel
theorem dX4_connect_33 : decode cX4_connect 33 = .ok (.iconst (-1), 1) := by decide +kernel
theorem dX4_connect_34 : decode cX4_connect 34 = .ok (.ireturn, 1) := by decide +kernel
theorem dX4_connect_35 : decode cX4_connect 35 = .ok (.aload_n 0, 1) := by decide +kernel
theorem dX4_connect_36 : decode cX4_connect 36 = .ok (.getfield 12, 3) := by decide +kernel
theorem dX4_connect_39 : decode cX4_connect 39 = .ok (.iload 5, 2) := by decide +kernel
theorem dX4_connect_41 : decode cX4_connect 41 = .ok (.invokevirtual 68, 3) := by decide +kernel
theorem dX4_connect_44 : decode cX4_connect 44 = .ok (.ifCond .ne 15, 3) := by decide +kernel
theorem dX4_connect_47 : decode cX4_connect 47 = .ok (.aload_n 0, 1) := by decide +kernel
theorem dX4_connect_48 : decode cX4_connect 48 = .ok (.getfield 12, 3) := by decide +kernel
theorem dX4_connect_51 : decode cX4_connect 51 = .ok (.iload 6, 2) := by decide +kernel
theorem dX4_connect_53 : decode cX4_connect 53 = .ok (.invokevirtual 68, 3) := by decide +kernel
theorem dX4_connect_56 : decode cX4_connect 56 = .ok (.ifCond .eq 6, 3) := by decide +kernel
theorem dX4_connect_59 : decode cX4_connect 59 = .ok (.bipush (-6), 2) := by decide +kernel
theorem dX4_connect_61 : decode cX4_connect 61 = .ok (.ireturn, 1) := by decide +kernel
theorem dX4_connect_62 : decode cX4_connect 62 = .ok (.aload_n 0, 1) := by decide +kernel
theorem dX4_connect_63 : decode cX4_connect 63 = .ok (.getfield 12, 3) := by decide +kernel
theorem dX4_connect_66 : decode cX4_connect 66 = .ok (.iload_n 1, 1) := by decide +kernel
theorem dX4_connect_67 : decode cX4_connect 67 = .ok (.iload_n 3, 1) := by decide +kernel
theorem dX4_connect_68 : decode cX4_connect 68 = .ok (.invokevirtual 72, 3) := by decide +kernel
theorem dX4_connect_71 : decode cX4_connect 71 = .ok (.ifCond .le 6, 3) := by decide +kernel
theorem dX4_connect_74 : decode cX4_connect 74 = .ok (.bipush (-8), 2) := by decide +kernel
theorem dX4_connect_76 : decode cX4_connect 76 = .ok (.ireturn, 1) := by decide +kernel
theorem dX4_connect_77 : decode cX4_connect 77 = .ok (.aload_n 0, 1) := by decide +kernel
theorem dX4_connect_78 : decode cX4_connect 78 = .ok (.getfield 12, 3) := by decide +kernel
theorem dX4_connect_81 : decode cX4_connect 81 = .ok (.iload 5, 2) := by decide +kernel
theorem dX4_connect_83 : decode cX4_connect 83 = .ok (.iload 6, 2) := by decide +kernel
theorem dX4_connect_85 : decode cX4_connect 85 = .ok (.invokevirtual 75, 3) := by decide +kernel
theorem dX4_connect_88 : decode cX4_connect 88 = .ok (.aload_n 0, 1) := by decide +kernel
theorem dX4_connect_89 : decode cX4_connect 89 = .ok (.getfield 12, 3) := by decide +kernel
theorem dX4_connect_92 : decode cX4_connect 92 = .ok (.dup, 1) := by decide +kernel
theorem dX4_connect_93 : decode cX4_connect 93 = .ok (.getfield 79, 3) := by decide +kernel
theorem dX4_connect_96 : decode cX4_connect 96 = .ok (.iconst 1, 1) := by decide +kernel
theorem dX4_connect_97 : decode cX4_connect 97 = .ok (.iadd, 1) := by decide +kernel
theorem dX4_connect_98 : decode cX4_connect 98 = .ok (.putfield 79, 3) := by decide +kernel
theorem dX4_connect_101 : decode cX4_connect 101 = .ok (.aload_n 0, 1) := by decide +kernel
theorem dX4_connect_102 : decode cX4_connect 102 = .ok (.iload 5, 2) := by decide +kernel
theorem dX4_connect_104 : decode cX4_connect 104 = .ok (.invokevirtual 82, 3) := by decide +kernel
theorem dX4_connect_107 : decode cX4_connect 107 = .ok (.aload_n 0, 1) := by decide +kernel
theorem dX4_connect_108 : decode cX4_connect 108 = .ok (.iload 6, 2) := by decide +kernel
theorem dX4_connect_110 : decode cX4_connect 110 = .ok (.invokevirtual 82, 3) := by decide +kernel
theorem dX4_connect_113 : decode cX4_connect 113 = .ok (.aload_n 0, 1) := by decide +kernel
theorem dX4_connect_114 : decode cX4_connect 114 = .ok (.getfield 12, 3) := by decide +kernel
theorem dX4_connect_117 : decode cX4_connect 117 = .ok (.getfield 79, 3) := by decide +kernel
theorem dX4_connect_120 : decode cX4_connect 120 = .ok (.ireturn, 1) := by decide +kernel
set_option maxRecDepth 20000 in
theorem ggX4_cut_X1_stationOfPort : GoodIn wsX4_cut wsX1_stationOfPort := goodIn_r _ [5, 6, 49, 50, 51, 52] (by decide +kernel) (by decide +kernel)
set_option maxRecDepth 20000 in
theorem gX4_cut_X1_stationOfPort_n64 : GoodIn wsX4_cut (wsX1_stationOfPort) := ggX4_cut_X1_stationOfPort
set_option maxRecDepth 20000 in
theorem ggX4_cut_X4_isPort : GoodIn wsX4_cut wsX4_isPort := goodIn_r _ [10] (by decide +kernel) (by decide +kernel)
set_option maxRecDepth 20000 in
theorem gX4_cut_X4_isPort : GoodIn wsX4_cut (va_wsS RX4 89 yX4_isPort wsX4_isPort) := goodIn_app (goodIn_of _ (by decide +kernel)) ggX4_cut_X4_isPort
set_option maxRecDepth 20000 in
theorem ggX4_cut_X1_untie : GoodIn wsX4_cut wsX1_untie := goodIn_r _ [13, 14, 49, 50, 51, 52] (by decide +kernel) (by decide +kernel)
set_option maxRecDepth 20000 in
theorem gX4_cut_X1_untie_n92 : GoodIn wsX4_cut (wsX1_untie) := ggX4_cut_X1_untie
set_option maxRecDepth 20000 in
theorem ggX4_cut_X4_clearPort : GoodIn wsX4_cut wsX4_clearPort := goodIn_r _ [18, 19, 20, 21, 22, 23, 24, 9, 25, 26, 27, 28, 29, 30, 31, 32, 33, 34, 35, 36, 37, 38, 39, 40, 41, 42, 43, 44, 45, 46, 47, 48, 53, 54, 55, 56] (by decide +kernel) (by decide +kernel)
set_option maxRecDepth 20000 in
theorem gX4_cut_X4_clearPort : GoodIn wsX4_cut (wsV RX4 95 RX4 yX4_clearPort wsX4_clearPort) := goodIn_app (goodIn_of _ (by decide +kernel)) ggX4_cut_X4_clearPort
theorem dX4_cut_0 : decode cX4_cut 0 = .ok (.aload_n 0, 1) := by decide +kernel
theorem dX4_cut_1 : decode cX4_cut 1 = .ok (.getfield 12, 3) := by decide +kernel
theorem dX4_cut_4 : decode cX4_cut 4 = .ok (.iload_n 1, 1) := by decide +kernel
theorem dX4_cut_5 : decode cX4_cut 5 = .ok (.iload_n 2, 1) := by decide +kernel
theorem dX4_cut_6 : decode cX4_cut 6 = .ok (.invokevirtual 64, 3) := by decide +kernel
theorem dX4_cut_9 : decode cX4_cut 9 = .ok (.istore_n 3, 1) := by decide +kernel
theorem dX4_cut_10 : decode cX4_cut 10 = .ok (.iload_n 3, 1) := by decide +kernel
theorem dX4_cut_11 : decode cX4_cut 11 = .ok (.ifCond .ge 5, 3) := by decide +kernel
theorem dX4_cut_14 : decode cX4_cut 14 = .ok (.iload_n 3, 1) := by decide +kernel
theorem dX4_cut_15 : decode cX4_cut 15 = .ok (.ireturn, 1) := by decide +kernel
theorem dX4_cut_16 : decode cX4_cut 16 = .ok (.aload_n 0, 1) := by decide +kernel
theorem dX4_cut_17 : decode cX4_cut 17 = .ok (.getfield 12, 3) := by decide +kernel
theorem dX4_cut_20 : decode cX4_cut 20 = .ok (.getfield 86, 3) := by decide +kernel
theorem dX4_cut_23 : decode cX4_cut 23 = .ok (.iload_n 3, 1) := by decide +kernel
theorem dX4_cut_24 : decode cX4_cut 24 = .ok (.iaload, 1) := by decide +kernel
theorem dX4_cut_25 : decode cX4_cut 25 = .ok (.istore 4, 2) := by decide +kernel
theorem dX4_cut_27 : decode cX4_cut 27 = .ok (.iload 4, 2) := by decide +kernel
theorem dX4_cut_29 : decode cX4_cut 29 = .ok (.invokestatic 89, 3) := by decide +kernel
theorem dX4_cut_32 : decode cX4_cut 32 = .ok (.ifCond .ne 6, 3) := by decide +kernel
theorem dX4_cut_35 : decode cX4_cut 35 = .ok (.bipush (-7), 2) := by decide +kernel
theorem dX4_cut_37 : decode cX4_cut 37 = .ok (.ireturn, 1) := by decide +kernel
theorem dX4_cut_38 : decode cX4_cut 38 = .ok (.aload_n 0, 1) := by decide +kernel
theorem dX4_cut_39 : decode cX4_cut 39 = .ok (.getfield 12, 3) := by decide +kernel
theorem dX4_cut_42 : decode cX4_cut 42 = .ok (.iload_n 3, 1) := by decide +kernel
theorem dX4_cut_43 : decode cX4_cut 43 = .ok (.iload 4, 2) := by decide +kernel
theorem dX4_cut_45 : decode cX4_cut 45 = .ok (.invokevirtual 92, 3) := by decide +kernel
theorem dX4_cut_48 : decode cX4_cut 48 = .ok (.aload_n 0, 1) := by decide +kernel
theorem dX4_cut_49 : decode cX4_cut 49 = .ok (.getfield 12, 3) := by decide +kernel
theorem dX4_cut_52 : decode cX4_cut 52 = .ok (.dup, 1) := by decide +kernel
theorem dX4_cut_53 : decode cX4_cut 53 = .ok (.getfield 79, 3) := by decide +kernel
theorem dX4_cut_56 : decode cX4_cut 56 = .ok (.iconst 1, 1) := by decide +kernel
theorem dX4_cut_57 : decode cX4_cut 57 = .ok (.isub, 1) := by decide +kernel
theorem dX4_cut_58 : decode cX4_cut 58 = .ok (.putfield 79, 3) := by decide +kernel
theorem dX4_cut_61 : decode cX4_cut 61 = .ok (.aload_n 0, 1) := by decide +kernel
theorem dX4_cut_62 : decode cX4_cut 62 = .ok (.iload_n 3, 1) := by decide +kernel
theorem dX4_cut_63 : decode cX4_cut 63 = .ok (.invokevirtual 95, 3) := by decide +kernel
theorem dX4_cut_66 : decode cX4_cut 66 = .ok (.aload_n 0, 1) := by decide +kernel
theorem dX4_cut_67 : decode cX4_cut 67 = .ok (.iload 4, 2) := by decide +kernel
theorem dX4_cut_69 : decode cX4_cut 69 = .ok (.invokevirtual 95, 3) := by decide +kernel
theorem dX4_cut_72 : decode cX4_cut 72 = .ok (.aload_n 0, 1) := by decide +kernel
theorem dX4_cut_73 : decode cX4_cut 73 = .ok (.getfield 12, 3) := by decide +kernel
theorem dX4_cut_76 : decode cX4_cut 76 = .ok (.getfield 79, 3) := by decide +kernel
theorem dX4_cut_79 : decode cX4_cut 79 = .ok (.ireturn, 1) := by decide +kernel
set_option maxRecDepth 20000 in
theorem ggX4_addHost_X1_stationOfPort : GoodIn wsX4_addHost wsX1_stationOfPort := goodIn_r _ [5, 6, 34, 35, 36, 37] (by decide +kernel) (by decide +kernel)
set_option maxRecDepth 20000 in
theorem gX4_addHost_X1_stationOfPort_n64 : GoodIn wsX4_addHost (wsX1_stationOfPort) := ggX4_addHost_X1_stationOfPort
set_option maxRecDepth 20000 in
theorem ggX4_addHost_X1_isConnected : GoodIn wsX4_addHost wsX1_isConnected := goodIn_r _ [9, 10, 11, 12, 13, 34, 35, 36, 37] (by decide +kernel) (by decide +kernel)
set_option maxRecDepth 20000 in
theorem gX4_addHost_X1_isConnected_n68 : GoodIn wsX4_addHost (wsX1_isConnected) := ggX4_addHost_X1_isConnected
set_option maxRecDepth 20000 in
theorem ggX4_addHost_X1_tie : GoodIn wsX4_addHost wsX1_tie := goodIn_r _ [16, 10, 34, 35, 36, 37] (by decide +kernel) (by decide +kernel)
set_option maxRecDepth 20000 in
theorem gX4_addHost_X1_tie_n75 : GoodIn wsX4_addHost (wsX1_tie) := ggX4_addHost_X1_tie
set_option maxRecDepth 20000 in
theorem ggX4_addHost_X4_startPort : GoodIn wsX4_addHost wsX4_startPort := goodIn_r _ [20, 21, 22, 23, 24, 25, 26, 27, 28, 29, 30, 31, 32, 33] (by decide +kernel) (by decide +kernel)
set_option maxRecDepth 20000 in
theorem gX4_addHost_X4_startPort : GoodIn wsX4_addHost (wsV RX4 82 RX4 yX4_startPort wsX4_startPort) := goodIn_app (goodIn_of _ (by decide +kernel)) ggX4_addHost_X4_startPort
theorem dX4_addHost_0 : decode cX4_addHost 0 = .ok (.aload_n 0, 1) := by decide +kernel
theorem dX4_addHost_1 : decode cX4_addHost 1 = .ok (.getfield 12, 3) := by decide +kernel
theorem dX4_addHost_4 : decode cX4_addHost 4 = .ok (.iload_n 1, 1) := by decide +kernel
theorem dX4_addHost_5 : decode cX4_addHost 5 = .ok (.iload_n 2, 1) := by decide +kernel
theorem dX4_addHost_6 : decode cX4_addHost 6 = .ok (.invokevirtual 64, 3) := by decide +kernel
theorem dX4_addHost_9 : decode cX4_addHost 9 = .ok (.istore_n 3, 1) := by decide +kernel
theorem dX4_addHost_10 : decode cX4_addHost 10 = .ok (.iload_n 3, 1) := by decide +kernel
theorem dX4_addHost_11 : decode cX4_addHost 11 = .ok (.ifCond .ge 5, 3) := by decide +kernel
theorem dX4_addHost_14 : decode cX4_addHost 14 = .ok (.iload_n 3, 1) := by decide +kernel
theorem dX4_addHost_15 : decode cX4_addHost 15 = .ok (.ireturn, 1) := by decide +kernel
theorem dX4_addHost_16 : decode cX4_addHost 16 = .ok (.aload_n 0, 1) := by decide +kernel
theorem dX4_addHost_17 : decode cX4_addHost 17 = .ok (.getfield 12, 3) := by decide +kernel
theorem dX4_addHost_20 : decode cX4_addHost 20 = .ok (.iload_n 3, 1) := by decide +kernel
theorem dX4_addHost_21 : decode cX4_addHost 21 = .ok (.invokevirtual 68, 3) := by decide +kernel
theorem dX4_addHost_24 : decode cX4_addHost 24 = .ok (.ifCond .eq 6, 3) := by decide +kernel
theorem dX4_addHost_27 : decode cX4_addHost 27 = .ok (.bipush (-6), 2) := by decide +kernel
theorem dX4_addHost_29 : decode cX4_addHost 29 = .ok (.ireturn, 1) := by decide +kernel
theorem dX4_addHost_30 : decode cX4_addHost 30 = .ok (.aload_n 0, 1) := by decide +kernel
theorem dX4_addHost_31 : decode cX4_addHost 31 = .ok (.getfield 12, 3) := by decide +kernel
theorem dX4_addHost_34 : decode cX4_addHost 34 = .ok (.getfield 98, 3) := by decide +kernel
theorem dX4_addHost_37 : decode cX4_addHost 37 = .ok (.bipush 8, 2) := by decide +kernel
theorem dX4_addHost_39 : decode cX4_addHost 39 = .ok (.if_icmp .lt 6, 3) := by decide +kernel
theorem dX4_addHost_42 : decode cX4_addHost 42 = .ok (.bipush (-5), 2) := by decide +kernel
theorem dX4_addHost_44 : decode cX4_addHost 44 = .ok (.ireturn, 1) := by decide +kernel
theorem dX4_addHost_45 : decode cX4_addHost 45 = .ok (.aload_n 0, 1) := by decide +kernel
theorem dX4_addHost_46 : decode cX4_addHost 46 = .ok (.getfield 12, 3) := by decide +kernel
theorem dX4_addHost_49 : decode cX4_addHost 49 = .ok (.getfield 98, 3) := by decide +kernel
theorem dX4_addHost_52 : decode cX4_addHost 52 = .ok (.istore 4, 2) := by decide +kernel
theorem dX4_addHost_54 : decode cX4_addHost 54 = .ok (.aload_n 0, 1) := by decide +kernel
theorem dX4_addHost_55 : decode cX4_addHost 55 = .ok (.getfield 12, 3) := by decide +kernel
theorem dX4_addHost_58 : decode cX4_addHost 58 = .ok (.dup, 1) := by decide +kernel
theorem dX4_addHost_59 : decode cX4_addHost 59 = .ok (.getfield 98, 3) := by decide +kernel
theorem dX4_addHost_62 : decode cX4_addHost 62 = .ok (.iconst 1, 1) := by decide +kernel
theorem dX4_addHost_63 : decode cX4_addHost 63 = .ok (.iadd, 1) := by decide +kernel
theorem dX4_addHost_64 : decode cX4_addHost 64 = .ok (.putfield 98, 3) := by decide +kernel
theorem dX4_addHost_67 : decode cX4_addHost 67 = .ok (.aload_n 0, 1) := by decide +kernel
theorem dX4_addHost_68 : decode cX4_addHost 68 = .ok (.getfield 12, 3) := by decide +kernel
theorem dX4_addHost_71 : decode cX4_addHost 71 = .ok (.iload_n 3, 1) := by decide +kernel
theorem dX4_addHost_72 : decode cX4_addHost 72 = .ok (.bipush 20, 2) := by decide +kernel
theorem dX4_addHost_74 : decode cX4_addHost 74 = .ok (.iload 4, 2) := by decide +kernel
theorem dX4_addHost_76 : decode cX4_addHost 76 = .ok (.iadd, 1) := by decide +kernel
theorem dX4_addHost_77 : decode cX4_addHost 77 = .ok (.invokevirtual 75, 3) := by decide +kernel
theorem dX4_addHost_80 : decode cX4_addHost 80 = .ok (.aload_n 0, 1) := by decide +kernel
theorem dX4_addHost_81 : decode cX4_addHost 81 = .ok (.iload_n 3, 1) := by decide +kernel
theorem dX4_addHost_82 : decode cX4_addHost 82 = .ok (.invokevirtual 82, 3) := by decide +kernel
theorem dX4_addHost_85 : decode cX4_addHost 85 = .ok (.iload 4, 2) := by decide +kernel
theorem dX4_addHost_87 : decode cX4_addHost 87 = .ok (.ireturn, 1) := by decide +kernel
set_option maxRecDepth 20000 in
theorem ggX4_setTimes_X1_isConnected : GoodIn wsX4_setTimes wsX1_isConnected := goodIn_r _ [7, 8, 9, 10, 11, 28, 29, 30, 31] (by decide +kernel) (by decide +kernel)
set_option maxRecDepth 20000 in
theorem gX4_setTimes_X1_isConnected_n68 : GoodIn wsX4_setTimes (wsX1_isConnected) := ggX4_setTimes_X1_isConnected
set_option maxRecDepth 20000 in
theorem ggX4_setTimes_X4_startPort : GoodIn wsX4_setTimes wsX4_startPort := goodIn_r _ [15, 16, 2, 17, 18, 19, 20, 21, 22, 23, 24, 25, 26, 27] (by decide +kernel) (by decide +kernel)
set_option maxRecDepth 20000 in
theorem gX4_setTimes_X4_startPort : GoodIn wsX4_setTimes (wsV RX4 82 RX4 yX4_startPort wsX4_startPort) := goodIn_app (goodIn_of _ (by decide +kernel)) ggX4_setTimes_X4_startPort
theorem dX4_setTimes_0 : decode cX4_setTimes 0 = .ok (.iload_n 1, 1) := by decide +kernel
theorem dX4_setTimes_1 : decode cX4_setTimes 1 = .ok (.iconst 1, 1) := by decide +kernel
theorem dX4_setTimes_2 : decode cX4_setTimes 2 = .ok (.if_icmp .lt 20, 3) := by decide +kernel
theorem dX4_setTimes_5 : decode cX4_setTimes 5 = .ok (.iload_n 1, 1) := by decide +kernel
theorem dX4_setTimes_6 : decode cX4_setTimes 6 = .ok (.bipush 50, 2) := by decide +kernel
theorem dX4_setTimes_8 : decode cX4_setTimes 8 = .ok (.if_icmp .gt 14, 3) := by decide +kernel
theorem dX4_setTimes_11 : decode cX4_setTimes 11 = .ok (.iload_n 2, 1) := by decide +kernel
theorem dX4_setTimes_12 : decode cX4_setTimes 12 = .ok (.ifCond .lt 10, 3) := by decide +kernel
theorem dX4_setTimes_15 : decode cX4_setTimes 15 = .ok (.iload_n 2, 1) := by decide +kernel
theorem dX4_setTimes_16 : decode cX4_setTimes 16 = .ok (.sipush 200, 3) := by decide +kernel
theorem dX4_setTimes_19 : decode cX4_setTimes 19 = .ok (.if_icmp .le 6, 3) := by decide +kernel
theorem dX4_setTimes_22 : decode cX4_setTimes 22 = .ok (.bipush (-4), 2) := by decide +kernel
theorem dX4_setTimes_24 : decode cX4_setTimes 24 = .ok (.ireturn, 1) := by decide +kernel
theorem dX4_setTimes_25 : decode cX4_setTimes 25 = .ok (.aload_n 0, 1) := by decide +kernel
theorem dX4_setTimes_26 : decode cX4_setTimes 26 = .ok (.iload_n 1, 1) := by decide +kernel
theorem dX4_setTimes_27 : decode cX4_setTimes 27 = .ok (.putfield 51, 3) := by decide +kernel
theorem dX4_setTimes_30 : decode cX4_setTimes 30 = .ok (.aload_n 0, 1) := by decide +kernel
theorem dX4_setTimes_31 : decode cX4_setTimes 31 = .ok (.iload_n 2, 1) := by decide +kernel
theorem dX4_setTimes_32 : decode cX4_setTimes 32 = .ok (.putfield 55, 3) := by decide +kernel
theorem dX4_setTimes_35 : decode cX4_setTimes 35 = .ok (.iconst 0, 1) := by decide +kernel
theorem dX4_setTimes_36 : decode cX4_setTimes 36 = .ok (.istore_n 3, 1) := by decide +kernel
theorem dX4_setTimes_37 : decode cX4_setTimes 37 = .ok (.iconst 0, 1) := by decide +kernel
theorem dX4_setTimes_38 : decode cX4_setTimes 38 = .ok (.istore 4, 2) := by decide +kernel
theorem dX4_setTimes_40 : decode cX4_setTimes 40 = .ok (.iload 4, 2) := by decide +kernel
theorem dX4_setTimes_42 : decode cX4_setTimes 42 = .ok (.bipush 20, 2) := by decide +kernel
theorem dX4_setTimes_44 : decode cX4_setTimes 44 = .ok (.if_icmp .ge 30, 3) := by decide +kernel
theorem dX4_setTimes_47 : decode cX4_setTimes 47 = .ok (.aload_n 0, 1) := by decide +kernel
theorem dX4_setTimes_48 : decode cX4_setTimes 48 = .ok (.getfield 12, 3) := by decide +kernel
theorem dX4_setTimes_51 : decode cX4_setTimes 51 = .ok (.iload 4, 2) := by decide +kernel
theorem dX4_setTimes_53 : decode cX4_setTimes 53 = .ok (.invokevirtual 68, 3) := by decide +kernel
theorem dX4_setTimes_56 : decode cX4_setTimes 56 = .ok (.ifCond .eq 12, 3) := by decide +kernel
theorem dX4_setTimes_59 : decode cX4_setTimes 59 = .ok (.aload_n 0, 1) := by decide +kernel
theorem dX4_setTimes_60 : decode cX4_setTimes 60 = .ok (.iload 4, 2) := by decide +kernel
theorem dX4_setTimes_62 : decode cX4_setTimes 62 = .ok (.invokevirtual 82, 3) := by decide +kernel
theorem dX4_setTimes_65 : decode cX4_setTimes 65 = .ok (.iinc 3 1, 3) := by decide +kernel
theorem dX4_setTimes_68 : decode cX4_setTimes 68 = .ok (.iinc 4 1, 3) := by decide +kernel
theorem dX4_setTimes_71 : decode cX4_setTimes 71 = .ok (.goto (-31), 3) := by decide +kernel
theorem dX4_setTimes_74 : decode cX4_setTimes 74 = .ok (.iload_n 3, 1) := by decide +kernel
theorem dX4_setTimes_75 : decode cX4_setTimes 75 = .ok (.ireturn, 1) := by decide +kernel
set_option maxRecDepth 20000 in
theorem ggX4_join_X4_cellOfHost : GoodIn wsX4_join wsX4_cellOfHost := goodIn_r _ [6, 7, 8, 9, 10, 11, 12, 13, 14, 5, 15, 16, 17, 18, 33, 34, 35, 36, 37, 38, 39, 40, 41, 42, 43, 44, 45, 46, 47] (by decide +kernel) (by decide +kernel)
set_option maxRecDepth 20000 in
theorem gX4_join_X4_cellOfHost : GoodIn wsX4_join (wsV RX4 101 RX4 yX4_cellOfHost wsX4_cellOfHost) := goodIn_app (goodIn_of _ (by decide +kernel)) ggX4_join_X4_cellOfHost
set_option maxRecDepth 20000 in
theorem ggX4_join_X0_startDeclaring : GoodIn wsX4_join wsX0_startDeclaring := goodIn_r _ [22, 23, 24, 25, 20, 26, 27, 28, 29, 30, 31, 32, 48, 49] (by decide +kernel) (by decide +kernel)
set_option maxRecDepth 20000 in
theorem gX4_join_X0_startDeclaring_n104 : GoodIn wsX4_join (wsX0_startDeclaring) := ggX4_join_X0_startDeclaring
theorem dX4_join_0 : decode cX4_join 0 = .ok (.aload_n 0, 1) := by decide +kernel
theorem dX4_join_1 : decode cX4_join 1 = .ok (.iload_n 1, 1) := by decide +kernel
theorem dX4_join_2 : decode cX4_join 2 = .ok (.iload_n 2, 1) := by decide +kernel
theorem dX4_join_3 : decode cX4_join 3 = .ok (.invokevirtual 101, 3) := by decide +kernel
theorem dX4_join_6 : decode cX4_join 6 = .ok (.istore_n 3, 1) := by decide +kernel
theorem dX4_join_7 : decode cX4_join 7 = .ok (.iload_n 3, 1) := by decide +kernel
theorem dX4_join_8 : decode cX4_join 8 = .ok (.ifCond .ge 5, 3) := by decide +kernel
theorem dX4_join_11 : decode cX4_join 11 = .ok (.iload_n 3, 1) := by decide +kernel
theorem dX4_join_12 : decode cX4_join 12 = .ok (.ireturn, 1) := by decide +kernel
theorem dX4_join_13 : decode cX4_join 13 = .ok (.aload_n 0, 1) := by decide +kernel
theorem dX4_join_14 : decode cX4_join 14 = .ok (.getfield 26, 3) := by decide +kernel
theorem dX4_join_17 : decode cX4_join 17 = .ok (.iload_n 3, 1) := by decide +kernel
theorem dX4_join_18 : decode cX4_join 18 = .ok (.invokevirtual 104, 3) := by decide +kernel
theorem dX4_join_21 : decode cX4_join 21 = .ok (.ifCond .eq 7, 3) := by decide +kernel
theorem dX4_join_24 : decode cX4_join 24 = .ok (.iconst 1, 1) := by decide +kernel
theorem dX4_join_25 : decode cX4_join 25 = .ok (.goto 4, 3) := by decide +kernel
theorem dX4_join_28 : decode cX4_join 28 = .ok (.iconst 0, 1) := by decide +kernel
theorem dX4_join_29 : decode cX4_join 29 = .ok (.ireturn, 1) := by decide +kernel
set_option maxRecDepth 20000 in
theorem ggX4_leave_X4_cellOfHost : GoodIn wsX4_leave wsX4_cellOfHost := goodIn_r _ [6, 7, 8, 9, 10, 11, 12, 13, 14, 5, 15, 16, 17, 18, 33, 34, 35, 36, 37, 38, 39, 40, 41, 42, 43, 44, 45, 46, 47] (by decide +kernel) (by decide +kernel)
set_option maxRecDepth 20000 in
theorem gX4_leave_X4_cellOfHost : GoodIn wsX4_leave (wsV RX4 101 RX4 yX4_cellOfHost wsX4_cellOfHost) := goodIn_app (goodIn_of _ (by decide +kernel)) ggX4_leave_X4_cellOfHost
set_option maxRecDepth 20000 in
theorem ggX4_leave_X0_stopDeclaring : GoodIn wsX4_leave wsX0_stopDeclaring := goodIn_r _ [22, 23, 24, 25, 20, 26, 27, 28, 29, 30, 31, 32, 48, 49] (by decide +kernel) (by decide +kernel)
set_option maxRecDepth 20000 in
theorem gX4_leave_X0_stopDeclaring_n107 : GoodIn wsX4_leave (wsX0_stopDeclaring) := ggX4_leave_X0_stopDeclaring
theorem dX4_leave_0 : decode cX4_leave 0 = .ok (.aload_n 0, 1) := by decide +kernel
theorem dX4_leave_1 : decode cX4_leave 1 = .ok (.iload_n 1, 1) := by decide +kernel
theorem dX4_leave_2 : decode cX4_leave 2 = .ok (.iload_n 2, 1) := by decide +kernel
theorem dX4_leave_3 : decode cX4_leave 3 = .ok (.invokevirtual 101, 3) := by decide +kernel
theorem dX4_leave_6 : decode cX4_leave 6 = .ok (.istore_n 3, 1) := by decide +kernel
theorem dX4_leave_7 : decode cX4_leave 7 = .ok (.iload_n 3, 1) := by decide +kernel
theorem dX4_leave_8 : decode cX4_leave 8 = .ok (.ifCond .ge 5, 3) := by decide +kernel
theorem dX4_leave_11 : decode cX4_leave 11 = .ok (.iload_n 3, 1) := by decide +kernel
theorem dX4_leave_12 : decode cX4_leave 12 = .ok (.ireturn, 1) := by decide +kernel
theorem dX4_leave_13 : decode cX4_leave 13 = .ok (.aload_n 0, 1) := by decide +kernel
theorem dX4_leave_14 : decode cX4_leave 14 = .ok (.getfield 26, 3) := by decide +kernel
theorem dX4_leave_17 : decode cX4_leave 17 = .ok (.iload_n 3, 1) := by decide +kernel
theorem dX4_leave_18 : decode cX4_leave 18 = .ok (.invokevirtual 107, 3) := by decide +kernel
theorem dX4_leave_21 : decode cX4_leave 21 = .ok (.ifCond .eq 7, 3) := by decide +kernel
theorem dX4_leave_24 : decode cX4_leave 24 = .ok (.iconst 1, 1) := by decide +kernel
theorem dX4_leave_25 : decode cX4_leave 25 = .ok (.goto 4, 3) := by decide +kernel
theorem dX4_leave_28 : decode cX4_leave 28 = .ok (.iconst 0, 1) := by decide +kernel
theorem dX4_leave_29 : decode cX4_leave 29 = .ok (.ireturn, 1) := by decide +kernel
set_option maxRecDepth 20000 in
theorem ggX4_setSilent_X1_stationOfHost : GoodIn wsX4_setSilent wsX1_stationOfHost := goodIn_r _ [6, 7, 19, 20, 21, 22] (by decide +kernel) (by decide +kernel)
set_option maxRecDepth 20000 in
theorem gX4_setSilent_X1_stationOfHost_n110 : GoodIn wsX4_setSilent (wsX1_stationOfHost) := ggX4_setSilent_X1_stationOfHost
theorem dX4_setSilent_0 : decode cX4_setSilent 0 = .ok (.aload_n 0, 1) := by decide +kernel
theorem dX4_setSilent_1 : decode cX4_setSilent 1 = .ok (.getfield 12, 3) := by decide +kernel
theorem dX4_setSilent_4 : decode cX4_setSilent 4 = .ok (.iload_n 1, 1) := by decide +kernel
theorem dX4_setSilent_5 : decode cX4_setSilent 5 = .ok (.invokevirtual 110, 3) := by decide +kernel
theorem dX4_setSilent_8 : decode cX4_setSilent 8 = .ok (.istore_n 3, 1) := by decide +kernel
theorem dX4_setSilent_9 : decode cX4_setSilent 9 = .ok (.iload_n 3, 1) := by decide +kernel
theorem dX4_setSilent_10 : decode cX4_setSilent 10 = .ok (.ifCond .ge 5, 3) := by decide +kernel
theorem dX4_setSilent_13 : decode cX4_setSilent 13 = .ok (.iload_n 3, 1) := by decide +kernel
theorem dX4_setSilent_14 : decode cX4_setSilent 14 = .ok (.ireturn, 1) := by decide +kernel
theorem dX4_setSilent_15 : decode cX4_setSilent 15 = .ok (.aload_n 0, 1) := by decide +kernel
theorem dX4_setSilent_16 : decode cX4_setSilent 16 = .ok (.getfield 48, 3) := by decide +kernel
theorem dX4_setSilent_19 : decode cX4_setSilent 19 = .ok (.iload_n 3, 1) := by decide +kernel
theorem dX4_setSilent_20 : decode cX4_setSilent 20 = .ok (.baload, 1) := by decide +kernel
theorem dX4_setSilent_21 : decode cX4_setSilent 21 = .ok (.iload_n 2, 1) := by decide +kernel
theorem dX4_setSilent_22 : decode cX4_setSilent 22 = .ok (.if_icmp .eq 7, 3) := by decide +kernel
theorem dX4_setSilent_25 : decode cX4_setSilent 25 = .ok (.iconst 1, 1) := by decide +kernel
theorem dX4_setSilent_26 : decode cX4_setSilent 26 = .ok (.goto 4, 3) := by decide +kernel
theorem dX4_setSilent_29 : decode cX4_setSilent 29 = .ok (.iconst 0, 1) := by decide +kernel
theorem dX4_setSilent_30 : decode cX4_setSilent 30 = .ok (.istore 4, 2) := by decide +kernel
theorem dX4_setSilent_32 : decode cX4_setSilent 32 = .ok (.aload_n 0, 1) := by decide +kernel
theorem dX4_setSilent_33 : decode cX4_setSilent 33 = .ok (.getfield 48, 3) := by decide +kernel
theorem dX4_setSilent_36 : decode cX4_setSilent 36 = .ok (.iload_n 3, 1) := by decide +kernel
theorem dX4_setSilent_37 : decode cX4_setSilent 37 = .ok (.iload_n 2, 1) := by decide +kernel
theorem dX4_setSilent_38 : decode cX4_setSilent 38 = .ok (.bastore, 1) := by decide +kernel
theorem dX4_setSilent_39 : decode cX4_setSilent 39 = .ok (.iload 4, 2) := by decide +kernel
theorem dX4_setSilent_41 : decode cX4_setSilent 41 = .ok (.ifCond .eq 7, 3) := by decide +kernel
theorem dX4_setSilent_44 : decode cX4_setSilent 44 = .ok (.iconst 1, 1) := by decide +kernel
theorem dX4_setSilent_45 : decode cX4_setSilent 45 = .ok (.goto 4, 3) := by decide +kernel
theorem dX4_setSilent_48 : decode cX4_setSilent 48 = .ok (.iconst 0, 1) := by decide +kernel
theorem dX4_setSilent_49 : decode cX4_setSilent 49 = .ok (.ireturn, 1) := by decide +kernel
set_option maxRecDepth 20000 in
theorem ggX4_loseNext_X1_stationOfPort : GoodIn wsX4_loseNext wsX1_stationOfPort := goodIn_r _ [6, 7, 23, 24, 25, 26] (by decide +kernel) (by decide +kernel)
set_option maxRecDepth 20000 in
theorem gX4_loseNext_X1_stationOfPort_n64 : GoodIn wsX4_loseNext (wsX1_stationOfPort) := ggX4_loseNext_X1_stationOfPort
set_option maxRecDepth 20000 in
theorem ggX4_loseNext_X4_isPort : GoodIn wsX4_loseNext wsX4_isPort := goodIn_r _ [11] (by decide +kernel) (by decide +kernel)
set_option maxRecDepth 20000 in
theorem gX4_loseNext_X4_isPort : GoodIn wsX4_loseNext (va_wsS RX4 89 yX4_isPort wsX4_isPort) := goodIn_app (goodIn_of _ (by decide +kernel)) ggX4_loseNext_X4_isPort
theorem dX4_loseNext_0 : decode cX4_loseNext 0 = .ok (.aload_n 0, 1) := by decide +kernel
theorem dX4_loseNext_1 : decode cX4_loseNext 1 = .ok (.getfield 12, 3) := by decide +kernel
theorem dX4_loseNext_4 : decode cX4_loseNext 4 = .ok (.iload_n 1, 1) := by decide +kernel
theorem dX4_loseNext_5 : decode cX4_loseNext 5 = .ok (.iload_n 2, 1) := by decide +kernel
theorem dX4_loseNext_6 : decode cX4_loseNext 6 = .ok (.invokevirtual 64, 3) := by decide +kernel
theorem dX4_loseNext_9 : decode cX4_loseNext 9 = .ok (.istore_n 3, 1) := by decide +kernel
theorem dX4_loseNext_10 : decode cX4_loseNext 10 = .ok (.iload_n 3, 1) := by decide +kernel
theorem dX4_loseNext_11 : decode cX4_loseNext 11 = .ok (.ifCond .ge 5, 3) := by decide +kernel
theorem dX4_loseNext_14 : decode cX4_loseNext 14 = .ok (.iload_n 3, 1) := by decide +kernel
theorem dX4_loseNext_15 : decode cX4_loseNext 15 = .ok (.ireturn, 1) := by decide +kernel
theorem dX4_loseNext_16 : decode cX4_loseNext 16 = .ok (.aload_n 0, 1) := by decide +kernel
theorem dX4_loseNext_17 : decode cX4_loseNext 17 = .ok (.getfield 12, 3) := by decide +kernel
theorem dX4_loseNext_20 : decode cX4_loseNext 20 = .ok (.getfield 86, 3) := by decide +kernel
theorem dX4_loseNext_23 : decode cX4_loseNext 23 = .ok (.iload_n 3, 1) := by decide +kernel
theorem dX4_loseNext_24 : decode cX4_loseNext 24 = .ok (.iaload, 1) := by decide +kernel
theorem dX4_loseNext_25 : decode cX4_loseNext 25 = .ok (.invokestatic 89, 3) := by decide +kernel
theorem dX4_loseNext_28 : decode cX4_loseNext 28 = .ok (.ifCond .ne 6, 3) := by decide +kernel
theorem dX4_loseNext_31 : decode cX4_loseNext 31 = .ok (.bipush (-7), 2) := by decide +kernel
theorem dX4_loseNext_33 : decode cX4_loseNext 33 = .ok (.ireturn, 1) := by decide +kernel
theorem dX4_loseNext_34 : decode cX4_loseNext 34 = .ok (.aload_n 0, 1) := by decide +kernel
theorem dX4_loseNext_35 : decode cX4_loseNext 35 = .ok (.getfield 45, 3) := by decide +kernel
theorem dX4_loseNext_38 : decode cX4_loseNext 38 = .ok (.iload_n 3, 1) := by decide +kernel
theorem dX4_loseNext_39 : decode cX4_loseNext 39 = .ok (.baload, 1) := by decide +kernel
theorem dX4_loseNext_40 : decode cX4_loseNext 40 = .ok (.ifCond .ne 7, 3) := by decide +kernel
theorem dX4_loseNext_43 : decode cX4_loseNext 43 = .ok (.iconst 1, 1) := by decide +kernel
theorem dX4_loseNext_44 : decode cX4_loseNext 44 = .ok (.goto 4, 3) := by decide +kernel
theorem dX4_loseNext_47 : decode cX4_loseNext 47 = .ok (.iconst 0, 1) := by decide +kernel
theorem dX4_loseNext_48 : decode cX4_loseNext 48 = .ok (.istore 4, 2) := by decide +kernel
theorem dX4_loseNext_50 : decode cX4_loseNext 50 = .ok (.aload_n 0, 1) := by decide +kernel
theorem dX4_loseNext_51 : decode cX4_loseNext 51 = .ok (.getfield 45, 3) := by decide +kernel
theorem dX4_loseNext_54 : decode cX4_loseNext 54 = .ok (.iload_n 3, 1) := by decide +kernel
theorem dX4_loseNext_55 : decode cX4_loseNext 55 = .ok (.iconst 1, 1) := by decide +kernel
theorem dX4_loseNext_56 : decode cX4_loseNext 56 = .ok (.bastore, 1) := by decide +kernel
theorem dX4_loseNext_57 : decode cX4_loseNext 57 = .ok (.iload 4, 2) := by decide +kernel
theorem dX4_loseNext_59 : decode cX4_loseNext 59 = .ok (.ifCond .eq 7, 3) := by decide +kernel
theorem dX4_loseNext_62 : decode cX4_loseNext 62 = .ok (.iconst 1, 1) := by decide +kernel
theorem dX4_loseNext_63 : decode cX4_loseNext 63 = .ok (.goto 4, 3) := by decide +kernel
theorem dX4_loseNext_66 : decode cX4_loseNext 66 = .ok (.iconst 0, 1) := by decide +kernel
theorem dX4_loseNext_67 : decode cX4_loseNext 67 = .ok (.ireturn, 1) := by decide +kernel
set_option maxRecDepth 20000 in
theorem ggX4_tick_X4_runTimers : GoodIn wsX4_tick wsX4_runTimers := goodIn_r _ [6, 7, 8, 9, 10, 11, 12, 13, 14, 5, 15, 16, 17, 18, 19, 20, 21, 22, 23, 24, 25, 26, 27, 28, 29, 30, 31, 32, 33, 34, 35, 128, 129, 130, 131, 132, 133, 134, 135, 136, 137, 138, 139, 140, 141, 142, 143, 144] (by decide +kernel) (by decide +kernel)
set_option maxRecDepth 20000 in
theorem gX4_tick_X4_runTimers : GoodIn wsX4_tick (wsV RX4 114 RX4 yX4_runTimers wsX4_runTimers) := goodIn_app (goodIn_of _ (by decide +kernel)) ggX4_tick_X4_runTimers
set_option maxRecDepth 20000 in
theorem ggX4_tick_X4_propagate : GoodIn wsX4_tick wsX4_propagate := goodIn_r _ [39, 8, 9, 10, 11, 12, 13, 14, 5, 15, 40, 41, 42, 43, 44, 45, 46, 47, 48, 49, 50, 51, 52, 53, 54, 55, 20, 21, 22, 23, 56, 57, 58, 59, 60, 61, 62, 63, 64, 65, 66, 67, 68, 69, 70, 71, 72, 128, 129, 130, 131, 132, 133, 134, 135, 136, 137, 138, 139, 140, 141, 142, 143, 144, 145, 146] (by decide +kernel) (by decide +kernel)
set_option maxRecDepth 20000 in
theorem gX4_tick_X4_propagate : GoodIn wsX4_tick (wsV RX4 117 RX4 yX4_propagate wsX4_propagate) := goodIn_app (goodIn_of _ (by decide +kernel)) ggX4_tick_X4_propagate
set_option maxRecDepth 20000 in
theorem ggX4_tick_X4_sendAll : GoodIn wsX4_tick wsX4_sendAll := goodIn_r _ [76, 77, 8, 78, 79, 80, 81, 82, 83, 84, 85, 86, 87, 88, 9, 10, 11, 12, 13, 14, 5, 15, 89, 90, 91, 92, 7, 44, 93, 94, 95, 96, 97, 98, 99, 20, 100, 21, 22, 23, 101, 25, 102, 103, 28, 104, 105, 106, 107, 29, 108, 57, 109, 110, 64, 65, 66, 67, 68, 69, 111, 112, 113, 128, 129, 130, 131, 132, 133, 134, 135, 136, 137, 138, 147, 148, 139, 140, 141, 142, 143, 144, 145, 146] (by decide +kernel) (by decide +kernel)
set_option maxRecDepth 20000 in
theorem gX4_tick_X4_sendAll : GoodIn wsX4_tick (wsV RX4 120 RX4 yX4_sendAll wsX4_sendAll) := goodIn_app (goodIn_of _ (by decide +kernel)) ggX4_tick_X4_sendAll
set_option maxRecDepth 20000 in
theorem ggX4_tick_X4_receiveAll : GoodIn wsX4_tick wsX4_receiveAll := goodIn_r _ [117, 8, 118, 119, 14, 5, 15, 120, 121, 122, 123, 77, 20, 100, 96, 97, 98, 99, 44, 21, 22, 23, 93, 94, 95, 101, 25, 102, 103, 28, 104, 105, 106, 107, 29, 108, 57, 109, 110, 64, 65, 66, 67, 68, 69, 124, 125, 126, 127, 128, 129, 130, 131, 132, 133, 134, 135, 136, 137, 138, 139, 140, 141, 142, 147, 148, 143, 144, 145, 146] (by decide +kernel) (by decide +kernel)
set_option maxRecDepth 20000 in
theorem gX4_tick_X4_receiveAll : GoodIn wsX4_tick (wsV RX4 124 RX4 yX4_receiveAll wsX4_receiveAll) := goodIn_app (goodIn_of _ (by decide +kernel)) ggX4_tick_X4_receiveAll
theorem dX4_tick_0 : decode cX4_tick 0 = .ok (.iload_n 1, 1) := by decide +kernel
theorem dX4_tick_1 : decode cX4_tick 1 = .ok (.iconst 1, 1) := by decide +kernel
theorem dX4_tick_2 : decode cX4_tick 2 = .ok (.if_icmp .lt 9, 3) := by decide +kernel
theorem dX4_tick_5 : decode cX4_tick 5 = .ok (.iload_n 1, 1) := by decide +kernel
theorem dX4_tick_6 : decode cX4_tick 6 = .ok (.bipush 100, 2) := by decide +kernel
theorem dX4_tick_8 : decode cX4_tick 8 = .ok (.if_icmp .le 6, 3) := by decide +kernel
theorem dX4_tick_11 : decode cX4_tick 11 = .ok (.bipush (-4), 2) := by decide +kernel
theorem dX4_tick_13 : decode cX4_tick 13 = .ok (.ireturn, 1) := by decide +kernel
theorem dX4_tick_14 : decode cX4_tick 14 = .ok (.iconst 0, 1) := by decide +kernel
theorem dX4_tick_15 : decode cX4_tick 15 = .ok (.istore_n 2, 1) := by decide +kernel
theorem dX4_tick_16 : decode cX4_tick 16 = .ok (.iconst 0, 1) := by decide +kernel
theorem dX4_tick_17 : decode cX4_tick 17 = .ok (.istore_n 3, 1) := by decide +kernel
theorem dX4_tick_18 : decode cX4_tick 18 = .ok (.iload_n 3, 1) := by decide +kernel
theorem dX4_tick_19 : decode cX4_tick 19 = .ok (.iload_n 1, 1) := by decide +kernel
theorem dX4_tick_20 : decode cX4_tick 20 = .ok (.if_icmp .ge 38, 3) := by decide +kernel
theorem dX4_tick_23 : decode cX4_tick 23 = .ok (.aload_n 0, 1) := by decide +kernel
theorem dX4_tick_24 : decode cX4_tick 24 = .ok (.invokevirtual 114, 3) := by decide +kernel
theorem dX4_tick_27 : decode cX4_tick 27 = .ok (.aload_n 0, 1) := by decide +kernel
theorem dX4_tick_28 : decode cX4_tick 28 = .ok (.invokevirtual 117, 3) := by decide +kernel
theorem dX4_tick_31 : decode cX4_tick 31 = .ok (.iload_n 2, 1) := by decide +kernel
theorem dX4_tick_32 : decode cX4_tick 32 = .ok (.aload_n 0, 1) := by decide +kernel
theorem dX4_tick_33 : decode cX4_tick 33 = .ok (.invokevirtual 120, 3) := by decide +kernel
theorem dX4_tick_36 : decode cX4_tick 36 = .ok (.iadd, 1) := by decide +kernel
theorem dX4_tick_37 : decode cX4_tick 37 = .ok (.istore_n 2, 1) := by decide +kernel
theorem dX4_tick_38 : decode cX4_tick 38 = .ok (.aload_n 0, 1) := by decide +kernel
theorem dX4_tick_39 : decode cX4_tick 39 = .ok (.invokevirtual 124, 3) := by decide +kernel
theorem dX4_tick_42 : decode cX4_tick 42 = .ok (.aload_n 0, 1) := by decide +kernel
theorem dX4_tick_43 : decode cX4_tick 43 = .ok (.dup, 1) := by decide +kernel
theorem dX4_tick_44 : decode cX4_tick 44 = .ok (.getfield 58, 3) := by decide +kernel
theorem dX4_tick_47 : decode cX4_tick 47 = .ok (.iconst 1, 1) := by decide +kernel
theorem dX4_tick_48 : decode cX4_tick 48 = .ok (.iadd, 1) := by decide +kernel
theorem dX4_tick_49 : decode cX4_tick 49 = .ok (.putfield 58, 3) := by decide +kernel
theorem dX4_tick_52 : decode cX4_tick 52 = .ok (.iinc 3 1, 3) := by decide +kernel
theorem dX4_tick_55 : decode cX4_tick 55 = .ok (.goto (-37), 3) := by decide +kernel
theorem dX4_tick_58 : decode cX4_tick 58 = .ok (.iload_n 2, 1) := by decide +kernel
theorem dX4_tick_59 : decode cX4_tick 59 = .ok (.ireturn, 1) := by decide +kernel
theorem dX4_time_0 : decode cX4_time 0 = .ok (.aload_n 0, 1) := by decide +kernel
theorem dX4_time_1 : decode cX4_time 1 = .ok (.getfield 58, 3) := by decide +kernel
theorem dX4_time_4 : decode cX4_time 4 = .ok (.ireturn, 1) := by decide +kernel
set_option maxRecDepth 20000 in
theorem ggX4_registrar_X4_cellOfPort : GoodIn wsX4_registrar wsX4_cellOfPort := goodIn_r _ [6, 7, 8, 9, 10, 11, 12, 13, 14, 5, 15, 16, 17, 18, 19, 20, 21, 22, 23, 24, 25, 26, 27, 28, 29, 32, 33, 34, 35] (by decide +kernel) (by decide +kernel)
set_option maxRecDepth 20000 in
theorem gX4_registrar_X4_cellOfPort : GoodIn wsX4_registrar (wsV RX4 127 RX4 yX4_cellOfPort wsX4_cellOfPort) := goodIn_app (goodIn_of _ (by decide +kernel)) ggX4_registrar_X4_cellOfPort
theorem dX4_registrar_0 : decode cX4_registrar 0 = .ok (.aload_n 0, 1) := by decide +kernel
theorem dX4_registrar_1 : decode cX4_registrar 1 = .ok (.iload_n 1, 1) := by decide +kernel
theorem dX4_registrar_2 : decode cX4_registrar 2 = .ok (.iload_n 2, 1) := by decide +kernel
theorem dX4_registrar_3 : decode cX4_registrar 3 = .ok (.iload_n 3, 1) := by decide +kernel
theorem dX4_registrar_4 : decode cX4_registrar 4 = .ok (.invokevirtual 127, 3) := by decide +kernel
theorem dX4_registrar_7 : decode cX4_registrar 7 = .ok (.istore 4, 2) := by decide +kernel
theorem dX4_registrar_9 : decode cX4_registrar 9 = .ok (.iload 4, 2) := by decide +kernel
theorem dX4_registrar_11 : decode cX4_registrar 11 = .ok (.ifCond .ge 8, 3) := by decide +kernel
theorem dX4_registrar_14 : decode cX4_registrar 14 = .ok (.iload 4, 2) := by decide +kernel
theorem dX4_registrar_16 : decode cX4_registrar 16 = .ok (.goto 13, 3) := by decide +kernel
theorem dX4_registrar_19 : decode cX4_registrar 19 = .ok (.aload_n 0, 1) := by decide +kernel
theorem dX4_registrar_20 : decode cX4_registrar 20 = .ok (.getfield 19, 3) := by decide +kernel
theorem dX4_registrar_23 : decode cX4_registrar 23 = .ok (.getfield 131, 3) := by decide +kernel
theorem dX4_registrar_26 : decode cX4_registrar 26 = .ok (.iload 4, 2) := by decide +kernel
theorem dX4_registrar_28 : decode cX4_registrar 28 = .ok (.iaload, 1) := by decide +kernel
theorem dX4_registrar_29 : decode cX4_registrar 29 = .ok (.ireturn, 1) := by decide +kernel
set_option maxRecDepth 20000 in
theorem ggX4_registrarTimer_X4_cellOfPort : GoodIn wsX4_registrarTimer wsX4_cellOfPort := goodIn_r _ [6, 7, 8, 9, 10, 11, 12, 13, 14, 5, 15, 16, 17, 18, 19, 20, 21, 22, 23, 24, 25, 26, 27, 28, 29, 32, 33, 34, 35] (by decide +kernel) (by decide +kernel)
set_option maxRecDepth 20000 in
theorem gX4_registrarTimer_X4_cellOfPort : GoodIn wsX4_registrarTimer (wsV RX4 127 RX4 yX4_cellOfPort wsX4_cellOfPort) := goodIn_app (goodIn_of _ (by decide +kernel)) ggX4_registrarTimer_X4_cellOfPort
theorem dX4_registrarTimer_0 : decode cX4_registrarTimer 0 = .ok (.aload_n 0, 1) := by decide +kernel
theorem dX4_registrarTimer_1 : decode cX4_registrarTimer 1 = .ok (.iload_n 1, 1) := by decide +kernel
theorem dX4_registrarTimer_2 : decode cX4_registrarTimer 2 = .ok (.iload_n 2, 1) := by decide +kernel
theorem dX4_registrarTimer_3 : decode cX4_registrarTimer 3 = .ok (.iload_n 3, 1) := by decide +kernel
theorem dX4_registrarTimer_4 : decode cX4_registrarTimer 4 = .ok (.invokevirtual 127, 3) := by decide +kernel
theorem dX4_registrarTimer_7 : decode cX4_registrarTimer 7 = .ok (.istore 4, 2) := by decide +kernel
theorem dX4_registrarTimer_9 : decode cX4_registrarTimer 9 = .ok (.iload 4, 2) := by decide +kernel
theorem dX4_registrarTimer_11 : decode cX4_registrarTimer 11 = .ok (.ifCond .ge 8, 3) := by decide +kernel
theorem dX4_registrarTimer_14 : decode cX4_registrarTimer 14 = .ok (.iload 4, 2) := by decide +kernel
theorem dX4_registrarTimer_16 : decode cX4_registrarTimer 16 = .ok (.goto 13, 3) := by decide +kernel
theorem dX4_registrarTimer_19 : decode cX4_registrarTimer 19 = .ok (.aload_n 0, 1) := by decide +kernel
theorem dX4_registrarTimer_20 : decode cX4_registrarTimer 20 = .ok (.getfield 19, 3) := by decide +kernel
theorem dX4_registrarTimer_23 : decode cX4_registrarTimer 23 = .ok (.getfield 134, 3) := by decide +kernel
theorem dX4_registrarTimer_26 : decode cX4_registrarTimer 26 = .ok (.iload 4, 2) := by decide +kernel
theorem dX4_registrarTimer_28 : decode cX4_registrarTimer 28 = .ok (.iaload, 1) := by decide +kernel
theorem dX4_registrarTimer_29 : decode cX4_registrarTimer 29 = .ok (.ireturn, 1) := by decide +kernel
set_option maxRecDepth 20000 in
theorem ggX4_applicant_X4_cellOfPort : GoodIn wsX4_applicant wsX4_cellOfPort := goodIn_r _ [6, 7, 8, 9, 10, 11, 12, 13, 14, 5, 15, 16, 17, 18, 19, 20, 21, 22, 23, 24, 25, 26, 27, 28, 29, 32, 33, 34, 35] (by decide +kernel) (by decide +kernel)
set_option maxRecDepth 20000 in
theorem gX4_applicant_X4_cellOfPort : GoodIn wsX4_applicant (wsV RX4 127 RX4 yX4_cellOfPort wsX4_cellOfPort) := goodIn_app (goodIn_of _ (by decide +kernel)) ggX4_applicant_X4_cellOfPort
theorem dX4_applicant_0 : decode cX4_applicant 0 = .ok (.aload_n 0, 1) := by decide +kernel
theorem dX4_applicant_1 : decode cX4_applicant 1 = .ok (.iload_n 1, 1) := by decide +kernel
theorem dX4_applicant_2 : decode cX4_applicant 2 = .ok (.iload_n 2, 1) := by decide +kernel
theorem dX4_applicant_3 : decode cX4_applicant 3 = .ok (.iload_n 3, 1) := by decide +kernel
theorem dX4_applicant_4 : decode cX4_applicant 4 = .ok (.invokevirtual 127, 3) := by decide +kernel
theorem dX4_applicant_7 : decode cX4_applicant 7 = .ok (.istore 4, 2) := by decide +kernel
theorem dX4_applicant_9 : decode cX4_applicant 9 = .ok (.iload 4, 2) := by decide +kernel
theorem dX4_applicant_11 : decode cX4_applicant 11 = .ok (.ifCond .ge 8, 3) := by decide +kernel
theorem dX4_applicant_14 : decode cX4_applicant 14 = .ok (.iload 4, 2) := by decide +kernel
theorem dX4_applicant_16 : decode cX4_applicant 16 = .ok (.goto 13, 3) := by decide +kernel
theorem dX4_applicant_19 : decode cX4_applicant 19 = .ok (.aload_n 0, 1) := by decide +kernel
theorem dX4_applicant_20 : decode cX4_applicant 20 = .ok (.getfield 26, 3) := by decide +kernel
theorem dX4_applicant_23 : decode cX4_applicant 23 = .ok (.getfield 137, 3) := by decide +kernel
theorem dX4_applicant_26 : decode cX4_applicant 26 = .ok (.iload 4, 2) := by decide +kernel
theorem dX4_applicant_28 : decode cX4_applicant 28 = .ok (.iaload, 1) := by decide +kernel
theorem dX4_applicant_29 : decode cX4_applicant 29 = .ok (.ireturn, 1) := by decide +kernel
set_option maxRecDepth 20000 in
theorem ggX4_hostApplicant_X4_cellOfHost : GoodIn wsX4_hostApplicant wsX4_cellOfHost := goodIn_r _ [6, 7, 8, 9, 10, 11, 12, 13, 14, 5, 15, 16, 17, 18, 19, 20, 21, 22, 23, 24, 25, 26, 27, 28, 29, 32, 33, 34, 35] (by decide +kernel) (by decide +kernel)
set_option maxRecDepth 20000 in
theorem gX4_hostApplicant_X4_cellOfHost : GoodIn wsX4_hostApplicant (wsV RX4 101 RX4 yX4_cellOfHost wsX4_cellOfHost) := goodIn_app (goodIn_of _ (by decide +kernel)) ggX4_hostApplicant_X4_cellOfHost
theorem dX4_hostApplicant_0 : decode cX4_hostApplicant 0 = .ok (.aload_n 0, 1) := by decide +kernel
theorem dX4_hostApplicant_1 : decode cX4_hostApplicant 1 = .ok (.iload_n 1, 1) := by decide +kernel
theorem dX4_hostApplicant_2 : decode cX4_hostApplicant 2 = .ok (.iload_n 2, 1) := by decide +kernel
theorem dX4_hostApplicant_3 : decode cX4_hostApplicant 3 = .ok (.invokevirtual 101, 3) := by decide +kernel
theorem dX4_hostApplicant_6 : decode cX4_hostApplicant 6 = .ok (.istore_n 3, 1) := by decide +kernel
theorem dX4_hostApplicant_7 : decode cX4_hostApplicant 7 = .ok (.iload_n 3, 1) := by decide +kernel
theorem dX4_hostApplicant_8 : decode cX4_hostApplicant 8 = .ok (.ifCond .ge 7, 3) := by decide +kernel
theorem dX4_hostApplicant_11 : decode cX4_hostApplicant 11 = .ok (.iload_n 3, 1) := by decide +kernel
theorem dX4_hostApplicant_12 : decode cX4_hostApplicant 12 = .ok (.goto 12, 3) := by decide +kernel
theorem dX4_hostApplicant_15 : decode cX4_hostApplicant 15 = .ok (.aload_n 0, 1) := by decide +kernel
theorem dX4_hostApplicant_16 : decode cX4_hostApplicant 16 = .ok (.getfield 26, 3) := by decide +kernel
theorem dX4_hostApplicant_19 : decode cX4_hostApplicant 19 = .ok (.getfield 137, 3) := by decide +kernel
theorem dX4_hostApplicant_22 : decode cX4_hostApplicant 22 = .ok (.iload_n 3, 1) := by decide +kernel
theorem dX4_hostApplicant_23 : decode cX4_hostApplicant 23 = .ok (.iaload, 1) := by decide +kernel
theorem dX4_hostApplicant_24 : decode cX4_hostApplicant 24 = .ok (.ireturn, 1) := by decide +kernel
set_option maxRecDepth 20000 in
theorem ggX4_leaveAllTimer_X1_stationOfPort : GoodIn wsX4_leaveAllTimer wsX1_stationOfPort := goodIn_r _ [6, 7, 19, 20, 21, 22] (by decide +kernel) (by decide +kernel)
set_option maxRecDepth 20000 in
theorem gX4_leaveAllTimer_X1_stationOfPort_n64 : GoodIn wsX4_leaveAllTimer (wsX1_stationOfPort) := ggX4_leaveAllTimer_X1_stationOfPort
theorem dX4_leaveAllTimer_0 : decode cX4_leaveAllTimer 0 = .ok (.aload_n 0, 1) := by decide +kernel
theorem dX4_leaveAllTimer_1 : decode cX4_leaveAllTimer 1 = .ok (.getfield 12, 3) := by decide +kernel
theorem dX4_leaveAllTimer_4 : decode cX4_leaveAllTimer 4 = .ok (.iload_n 1, 1) := by decide +kernel
theorem dX4_leaveAllTimer_5 : decode cX4_leaveAllTimer 5 = .ok (.iload_n 2, 1) := by decide +kernel
theorem dX4_leaveAllTimer_6 : decode cX4_leaveAllTimer 6 = .ok (.invokevirtual 64, 3) := by decide +kernel
theorem dX4_leaveAllTimer_9 : decode cX4_leaveAllTimer 9 = .ok (.istore_n 3, 1) := by decide +kernel
theorem dX4_leaveAllTimer_10 : decode cX4_leaveAllTimer 10 = .ok (.iload_n 3, 1) := by decide +kernel
theorem dX4_leaveAllTimer_11 : decode cX4_leaveAllTimer 11 = .ok (.ifCond .ge 7, 3) := by decide +kernel
theorem dX4_leaveAllTimer_14 : decode cX4_leaveAllTimer 14 = .ok (.iload_n 3, 1) := by decide +kernel
theorem dX4_leaveAllTimer_15 : decode cX4_leaveAllTimer 15 = .ok (.goto 9, 3) := by decide +kernel
theorem dX4_leaveAllTimer_18 : decode cX4_leaveAllTimer 18 = .ok (.aload_n 0, 1) := by decide +kernel
theorem dX4_leaveAllTimer_19 : decode cX4_leaveAllTimer 19 = .ok (.getfield 37, 3) := by decide +kernel
theorem dX4_leaveAllTimer_22 : decode cX4_leaveAllTimer 22 = .ok (.iload_n 3, 1) := by decide +kernel
theorem dX4_leaveAllTimer_23 : decode cX4_leaveAllTimer 23 = .ok (.iaload, 1) := by decide +kernel
theorem dX4_leaveAllTimer_24 : decode cX4_leaveAllTimer 24 = .ok (.ireturn, 1) := by decide +kernel
set_option maxRecDepth 20000 in
theorem ggX4_isSettled_X4_hasToSend : GoodIn wsX4_isSettled wsX4_hasToSend := goodIn_r _ [7, 8, 9, 10, 6, 11, 35, 36, 37, 38, 39, 40, 41, 42, 43, 44, 45, 46, 47] (by decide +kernel) (by decide +kernel)
set_option maxRecDepth 20000 in
theorem gX4_isSettled_X4_hasToSend : GoodIn wsX4_isSettled (wsV RX4 138 RX4 yX4_hasToSend wsX4_hasToSend) := goodIn_app (goodIn_of _ (by decide +kernel)) ggX4_isSettled_X4_hasToSend
set_option maxRecDepth 20000 in
theorem ggX4_isSettled_X1_isConnected : GoodIn wsX4_isSettled wsX1_isConnected := goodIn_r _ [15, 16, 17, 6, 18, 48, 49, 50, 51] (by decide +kernel) (by decide +kernel)
set_option maxRecDepth 20000 in
theorem gX4_isSettled_X1_isConnected_n68 : GoodIn wsX4_isSettled (wsX1_isConnected) := ggX4_isSettled_X1_isConnected
set_option maxRecDepth 20000 in
theorem ggX4_isSettled_X4_isPortSettled : GoodIn wsX4_isSettled wsX4_isPortSettled := goodIn_r _ [22, 8, 23, 9, 10, 6, 11, 24, 25, 26, 27, 28, 29, 30, 31, 32, 33, 34, 2, 12, 13, 14, 15, 16, 17, 18, 35, 36, 37, 38, 39, 40, 41, 42, 43, 44, 45, 46, 47, 52, 53, 48, 49, 50, 51] (by decide +kernel) (by decide +kernel)
set_option maxRecDepth 20000 in
theorem gX4_isSettled_X4_isPortSettled : GoodIn wsX4_isSettled (wsV RX4 141 RX4 yX4_isPortSettled wsX4_isPortSettled) := goodIn_app (goodIn_of _ (by decide +kernel)) ggX4_isSettled_X4_isPortSettled
theorem dX4_isSettled_0 : decode cX4_isSettled 0 = .ok (.iconst 0, 1) := by decide +kernel
theorem dX4_isSettled_1 : decode cX4_isSettled 1 = .ok (.istore_n 1, 1) := by decide +kernel
theorem dX4_isSettled_2 : decode cX4_isSettled 2 = .ok (.iload_n 1, 1) := by decide +kernel
theorem dX4_isSettled_3 : decode cX4_isSettled 3 = .ok (.bipush 28, 2) := by decide +kernel
theorem dX4_isSettled_5 : decode cX4_isSettled 5 = .ok (.if_icmp .ge 28, 3) := by decide +kernel
theorem dX4_isSettled_8 : decode cX4_isSettled 8 = .ok (.aload_n 0, 1) := by decide +kernel
theorem dX4_isSettled_9 : decode cX4_isSettled 9 = .ok (.getfield 48, 3) := by decide +kernel
theorem dX4_isSettled_12 : decode cX4_isSettled 12 = .ok (.iload_n 1, 1) := by decide +kernel
theorem dX4_isSettled_13 : decode cX4_isSettled 13 = .ok (.baload, 1) := by decide +kernel
theorem dX4_isSettled_14 : decode cX4_isSettled 14 = .ok (.ifCond .ne 13, 3) := by decide +kernel
theorem dX4_isSettled_17 : decode cX4_isSettled 17 = .ok (.aload_n 0, 1) := by decide +kernel
theorem dX4_isSettled_18 : decode cX4_isSettled 18 = .ok (.iload_n 1, 1) := by decide +kernel
theorem dX4_isSettled_19 : decode cX4_isSettled 19 = .ok (.invokevirtual 138, 3) := by decide +kernel
theorem dX4_isSettled_22 : decode cX4_isSettled 22 = .ok (.ifCond .eq 5, 3) := by decide +kernel
theorem dX4_isSettled_25 : decode cX4_isSettled 25 = .ok (.iconst 0, 1) := by decide +kernel
theorem dX4_isSettled_26 : decode cX4_isSettled 26 = .ok (.ireturn, 1) := by decide +kernel
theorem dX4_isSettled_27 : decode cX4_isSettled 27 = .ok (.iinc 1 1, 3) := by decide +kernel
theorem dX4_isSettled_30 : decode cX4_isSettled 30 = .ok (.goto (-28), 3) := by decide +kernel
theorem dX4_isSettled_33 : decode cX4_isSettled 33 = .ok (.iconst 0, 1) := by decide +kernel
theorem dX4_isSettled_34 : decode cX4_isSettled 34 = .ok (.istore_n 1, 1) := by decide +kernel
theorem dX4_isSettled_35 : decode cX4_isSettled 35 = .ok (.iload_n 1, 1) := by decide +kernel
theorem dX4_isSettled_36 : decode cX4_isSettled 36 = .ok (.bipush 20, 2) := by decide +kernel
theorem dX4_isSettled_38 : decode cX4_isSettled 38 = .ok (.if_icmp .ge 30, 3) := by decide +kernel
theorem dX4_isSettled_41 : decode cX4_isSettled 41 = .ok (.aload_n 0, 1) := by decide +kernel
theorem dX4_isSettled_42 : decode cX4_isSettled 42 = .ok (.getfield 12, 3) := by decide +kernel
theorem dX4_isSettled_45 : decode cX4_isSettled 45 = .ok (.iload_n 1, 1) := by decide +kernel
theorem dX4_isSettled_46 : decode cX4_isSettled 46 = .ok (.invokevirtual 68, 3) := by decide +kernel
theorem dX4_isSettled_49 : decode cX4_isSettled 49 = .ok (.ifCond .eq 13, 3) := by decide +kernel
theorem dX4_isSettled_52 : decode cX4_isSettled 52 = .ok (.aload_n 0, 1) := by decide +kernel
theorem dX4_isSettled_53 : decode cX4_isSettled 53 = .ok (.iload_n 1, 1) := by decide +kernel
theorem dX4_isSettled_54 : decode cX4_isSettled 54 = .ok (.invokevirtual 141, 3) := by decide +kernel
theorem dX4_isSettled_57 : decode cX4_isSettled 57 = .ok (.ifCond .ne 5, 3) := by decide +kernel
theorem dX4_isSettled_60 : decode cX4_isSettled 60 = .ok (.iconst 0, 1) := by decide +kernel
theorem dX4_isSettled_61 : decode cX4_isSettled 61 = .ok (.ireturn, 1) := by decide +kernel
theorem dX4_isSettled_62 : decode cX4_isSettled 62 = .ok (.iinc 1 1, 3) := by decide +kernel
theorem dX4_isSettled_65 : decode cX4_isSettled 65 = .ok (.goto (-30), 3) := by decide +kernel
theorem dX4_isSettled_68 : decode cX4_isSettled 68 = .ok (.iconst 1, 1) := by decide +kernel
theorem dX4_isSettled_69 : decode cX4_isSettled 69 = .ok (.ireturn, 1) := by decide +kernel
set_option maxRecDepth 20000 in
theorem ggX4_receivers_X4_cellOfHost : GoodIn wsX4_receivers wsX4_cellOfHost := goodIn_r _ [5, 6, 7, 8, 9, 10, 11, 12, 13, 4, 14, 15, 16, 17, 49, 50, 51, 52, 53, 54, 55, 56, 57, 58, 59, 60, 61, 62, 63] (by decide +kernel) (by decide +kernel)
set_option maxRecDepth 20000 in
theorem gX4_receivers_X4_cellOfHost : GoodIn wsX4_receivers (wsV RX4 101 RX4 yX4_cellOfHost wsX4_cellOfHost) := goodIn_app (goodIn_of _ (by decide +kernel)) ggX4_receivers_X4_cellOfHost
set_option maxRecDepth 20000 in
theorem ggX4_receivers_X4_hostsReached : GoodIn wsX4_receivers wsX4_hostsReached := goodIn_r _ [21, 6, 22, 23, 4, 24, 25, 26, 27, 28, 29, 30, 31, 32, 33, 34, 8, 35, 36, 37, 38, 39, 15, 16, 17, 40, 41, 42, 43, 44, 45, 46, 47, 48, 49, 50, 51, 52, 53, 54, 55, 56, 57, 58, 59, 60, 61, 62, 63, 64, 65] (by decide +kernel) (by decide +kernel)
set_option maxRecDepth 20000 in
theorem gX4_receivers_X4_hostsReached : GoodIn wsX4_receivers (wsV RX4 144 RX4 yX4_hostsReached wsX4_hostsReached) := goodIn_app (goodIn_of _ (by decide +kernel)) ggX4_receivers_X4_hostsReached
theorem dX4_receivers_0 : decode cX4_receivers 0 = .ok (.aload_n 0, 1) := by decide +kernel
theorem dX4_receivers_1 : decode cX4_receivers 1 = .ok (.iload_n 1, 1) := by decide +kernel
theorem dX4_receivers_2 : decode cX4_receivers 2 = .ok (.iload_n 2, 1) := by decide +kernel
theorem dX4_receivers_3 : decode cX4_receivers 3 = .ok (.invokevirtual 101, 3) := by decide +kernel
theorem dX4_receivers_6 : decode cX4_receivers 6 = .ok (.istore_n 3, 1) := by decide +kernel
theorem dX4_receivers_7 : decode cX4_receivers 7 = .ok (.iload_n 3, 1) := by decide +kernel
theorem dX4_receivers_8 : decode cX4_receivers 8 = .ok (.ifCond .ge 7, 3) := by decide +kernel
theorem dX4_receivers_11 : decode cX4_receivers 11 = .ok (.iload_n 3, 1) := by decide +kernel
theorem dX4_receivers_12 : decode cX4_receivers 12 = .ok (.goto 9, 3) := by decide +kernel
theorem dX4_receivers_15 : decode cX4_receivers 15 = .ok (.aload_n 0, 1) := by decide +kernel
theorem dX4_receivers_16 : decode cX4_receivers 16 = .ok (.iload_n 1, 1) := by decide +kernel
theorem dX4_receivers_17 : decode cX4_receivers 17 = .ok (.iload_n 2, 1) := by decide +kernel
theorem dX4_receivers_18 : decode cX4_receivers 18 = .ok (.invokevirtual 144, 3) := by decide +kernel
theorem dX4_receivers_21 : decode cX4_receivers 21 = .ok (.ireturn, 1) := by decide +kernel
set_option maxRecDepth 20000 in
theorem ggX4_missedCount_X4_cellOfHost : GoodIn wsX4_missedCount wsX4_cellOfHost := goodIn_r _ [7, 1, 8, 9, 10, 11, 12, 13, 14, 6, 15, 16, 17, 18, 66, 67, 68, 69, 70, 71, 72, 73, 74, 75, 76, 77, 78, 79, 80] (by decide +kernel) (by decide +kernel)
set_option maxRecDepth 20000 in
theorem gX4_missedCount_X4_cellOfHost : GoodIn wsX4_missedCount (wsV RX4 101 RX4 yX4_cellOfHost wsX4_cellOfHost) := goodIn_app (goodIn_of _ (by decide +kernel)) ggX4_missedCount_X4_cellOfHost
set_option maxRecDepth 20000 in
theorem ggX4_missedCount_X4_hostsReached : GoodIn wsX4_missedCount wsX4_hostsReached := goodIn_r _ [22, 1, 23, 24, 6, 25, 26, 27, 28, 29, 30, 31, 32, 33, 34, 35, 9, 36, 37, 38, 39, 40, 16, 17, 18, 41, 42, 43, 44, 45, 46, 47, 48, 49, 66, 67, 68, 69, 70, 71, 72, 73, 74, 75, 76, 77, 78, 79, 80, 81, 82] (by decide +kernel) (by decide +kernel)
set_option maxRecDepth 20000 in
theorem gX4_missedCount_X4_hostsReached : GoodIn wsX4_missedCount (wsV RX4 144 RX4 yX4_hostsReached wsX4_hostsReached) := goodIn_app (goodIn_of _ (by decide +kernel)) ggX4_missedCount_X4_hostsReached
set_option maxRecDepth 20000 in
theorem ggX4_missedCount_X4_bridgesBetweenHosts : GoodIn wsX4_missedCount wsX4_bridgesBetweenHosts := goodIn_r _ [53, 1, 23, 24, 6, 25, 44, 45, 46, 54, 9, 55, 56, 48, 49, 57, 58, 59, 60, 38, 66, 67, 68, 69, 70, 71, 72, 73, 74, 75, 76, 77, 78, 79, 80] (by decide +kernel) (by decide +kernel)
set_option maxRecDepth 20000 in
theorem gX4_missedCount_X4_bridgesBetweenHosts : GoodIn wsX4_missedCount (wsV RX4 147 RX4 yX4_bridgesBetweenHosts wsX4_bridgesBetweenHosts) := goodIn_app (goodIn_of _ (by decide +kernel)) ggX4_missedCount_X4_bridgesBetweenHosts
set_option maxRecDepth 20000 in
theorem ggX4_missedCount_X4_cellOf : GoodIn wsX4_missedCount wsX4_cellOf := goodIn_r _ [18] (by decide +kernel) (by decide +kernel)
set_option maxRecDepth 20000 in
theorem gX4_missedCount_X4_cellOf : GoodIn wsX4_missedCount (va_wsS RX4 150 yX4_cellOf wsX4_cellOf) := goodIn_app (goodIn_of _ (by decide +kernel)) ggX4_missedCount_X4_cellOf
set_option maxRecDepth 20000 in
theorem ggX4_missedCount_X0_isDeclaring : GoodIn wsX4_missedCount wsX0_isDeclaring := goodIn_r _ [64, 65, 83, 84] (by decide +kernel) (by decide +kernel)
set_option maxRecDepth 20000 in
theorem gX4_missedCount_X0_isDeclaring_n153 : GoodIn wsX4_missedCount (wsX0_isDeclaring) := ggX4_missedCount_X0_isDeclaring
set_option maxRecDepth 20000 in
theorem ggX4_missedCount_X4_contains : GoodIn wsX4_missedCount wsX4_contains := goodIn_r _ [49] (by decide +kernel) (by decide +kernel)
set_option maxRecDepth 20000 in
theorem gX4_missedCount_X4_contains : GoodIn wsX4_missedCount (va_wsS RX4 156 yX4_contains wsX4_contains) := goodIn_app (goodIn_of _ (by decide +kernel)) ggX4_missedCount_X4_contains
theorem dX4_missedCount_0 : decode cX4_missedCount 0 = .ok (.aload_n 0, 1) := by decide +kernel
theorem dX4_missedCount_1 : decode cX4_missedCount 1 = .ok (.iload_n 1, 1) := by decide +kernel
theorem dX4_missedCount_2 : decode cX4_missedCount 2 = .ok (.iload_n 2, 1) := by decide +kernel
theorem dX4_missedCount_3 : decode cX4_missedCount 3 = .ok (.invokevirtual 101, 3) := by decide +kernel
theorem dX4_missedCount_6 : decode cX4_missedCount 6 = .ok (.istore_n 3, 1) := by decide +kernel
theorem dX4_missedCount_7 : decode cX4_missedCount 7 = .ok (.iload_n 3, 1) := by decide +kernel
theorem dX4_missedCount_8 : decode cX4_missedCount 8 = .ok (.ifCond .ge 5, 3) := by decide +kernel
theorem dX4_missedCount_11 : decode cX4_missedCount 11 = .ok (.iload_n 3, 1) := by decide +kernel
theorem dX4_missedCount_12 : decode cX4_missedCount 12 = .ok (.ireturn, 1) := by decide +kernel
theorem dX4_missedCount_13 : decode cX4_missedCount 13 = .ok (.aload_n 0, 1) := by decide +kernel
theorem dX4_missedCount_14 : decode cX4_missedCount 14 = .ok (.iload_n 1, 1) := by decide +kernel
theorem dX4_missedCount_15 : decode cX4_missedCount 15 = .ok (.iload_n 2, 1) := by decide +kernel
theorem dX4_missedCount_16 : decode cX4_missedCount 16 = .ok (.invokevirtual 144, 3) := by decide +kernel
theorem dX4_missedCount_19 : decode cX4_missedCount 19 = .ok (.istore 4, 2) := by decide +kernel
theorem dX4_missedCount_21 : decode cX4_missedCount 21 = .ok (.iconst 0, 1) := by decide +kernel
theorem dX4_missedCount_22 : decode cX4_missedCount 22 = .ok (.istore 5, 2) := by decide +kernel
theorem dX4_missedCount_24 : decode cX4_missedCount 24 = .ok (.iconst 0, 1) := by decide +kernel
theorem dX4_missedCount_25 : decode cX4_missedCount 25 = .ok (.istore 6, 2) := by decide +kernel
theorem dX4_missedCount_27 : decode cX4_missedCount 27 = .ok (.iload 6, 2) := by decide +kernel
theorem dX4_missedCount_29 : decode cX4_missedCount 29 = .ok (.aload_n 0, 1) := by decide +kernel
theorem dX4_missedCount_30 : decode cX4_missedCount 30 = .ok (.getfield 12, 3) := by decide +kernel
theorem dX4_missedCount_33 : decode cX4_missedCount 33 = .ok (.getfield 98, 3) := by decide +kernel
theorem dX4_missedCount_36 : decode cX4_missedCount 36 = .ok (.if_icmp .ge 69, 3) := by decide +kernel
theorem dX4_missedCount_39 : decode cX4_missedCount 39 = .ok (.iload 6, 2) := by decide +kernel
theorem dX4_missedCount_41 : decode cX4_missedCount 41 = .ok (.iload_n 1, 1) := by decide +kernel
theorem dX4_missedCount_42 : decode cX4_missedCount 42 = .ok (.if_icmp .eq 36, 3) := by decide +kernel
theorem dX4_missedCount_45 : decode cX4_missedCount 45 = .ok (.aload_n 0, 1) := by decide +kernel
theorem dX4_missedCount_46 : decode cX4_missedCount 46 = .ok (.iload_n 1, 1) := by decide +kernel
theorem dX4_missedCount_47 : decode cX4_missedCount 47 = .ok (.iload 6, 2) := by decide +kernel
theorem dX4_missedCount_49 : decode cX4_missedCount 49 = .ok (.invokevirtual 147, 3) := by decide +kernel
theorem dX4_missedCount_52 : decode cX4_missedCount 52 = .ok (.ifCond .le 26, 3) := by decide +kernel
theorem dX4_missedCount_55 : decode cX4_missedCount 55 = .ok (.aload_n 0, 1) := by decide +kernel
theorem dX4_missedCount_56 : decode cX4_missedCount 56 = .ok (.getfield 26, 3) := by decide +kernel
theorem dX4_missedCount_59 : decode cX4_missedCount 59 = .ok (.bipush 20, 2) := by decide +kernel
theorem dX4_missedCount_61 : decode cX4_missedCount 61 = .ok (.iload 6, 2) := by decide +kernel
theorem dX4_missedCount_63 : decode cX4_missedCount 63 = .ok (.iadd, 1) := by decide +kernel
theorem dX4_missedCount_64 : decode cX4_missedCount 64 = .ok (.iload_n 2, 1) := by decide +kernel
theorem dX4_missedCount_65 : decode cX4_missedCount 65 = .ok (.invokestatic 150, 3) := by decide +kernel
theorem dX4_missedCount_68 : decode cX4_missedCount 68 = .ok (.invokevirtual 153, 3) := by decide +kernel
theorem dX4_missedCount_71 : decode cX4_missedCount 71 = .ok (.ifCond .eq 7, 3) := by decide +kernel
theorem dX4_missedCount_74 : decode cX4_missedCount 74 = .ok (.iconst 1, 1) := by decide +kernel
theorem dX4_missedCount_75 : decode cX4_missedCount 75 = .ok (.goto 4, 3) := by decide +kernel
theorem dX4_missedCount_78 : decode cX4_missedCount 78 = .ok (.iconst 0, 1) := by decide +kernel
theorem dX4_missedCount_79 : decode cX4_missedCount 79 = .ok (.istore 7, 2) := by decide +kernel
theorem dX4_missedCount_81 : decode cX4_missedCount 81 = .ok (.iload 7, 2) := by decide +kernel
theorem dX4_missedCount_83 : decode cX4_missedCount 83 = .ok (.ifCond .eq 16, 3) := by decide +kernel
theorem dX4_missedCount_86 : decode cX4_missedCount 86 = .ok (.iload 4, 2) := by decide +kernel
theorem dX4_missedCount_88 : decode cX4_missedCount 88 = .ok (.iload 6, 2) := by decide +kernel
theorem dX4_missedCount_90 : decode cX4_missedCount 90 = .ok (.invokestatic 156, 3) := by decide +kernel
theorem dX4_missedCount_93 : decode cX4_missedCount 93 = .ok (.ifCond .ne 6, 3) := by decide +kernel
theorem dX4_missedCount_96 : decode cX4_missedCount 96 = .ok (.iinc 5 1, 3) := by decide +kernel
theorem dX4_missedCount_99 : decode cX4_missedCount 99 = .ok (.iinc 6 1, 3) := by decide +kernel
theorem dX4_missedCount_102 : decode cX4_missedCount 102 = .ok (.goto (-75), 3) := by decide +kernel
theorem dX4_missedCount_105 : decode cX4_missedCount 105 = .ok (.iload 5, 2) := by decide +kernel
theorem dX4_missedCount_107 : decode cX4_missedCount 107 = .ok (.ireturn, 1) := by decide +kernel
set_option maxRecDepth 20000 in
theorem ggX4_needlessCount_X4_cellOfHost : GoodIn wsX4_needlessCount wsX4_cellOfHost := goodIn_r _ [7, 1, 8, 9, 10, 11, 12, 13, 14, 6, 15, 16, 17, 18, 55, 56, 57, 58, 59, 60, 61, 62, 63, 64, 65, 66, 67, 68, 69] (by decide +kernel) (by decide +kernel)
set_option maxRecDepth 20000 in
theorem gX4_needlessCount_X4_cellOfHost : GoodIn wsX4_needlessCount (wsV RX4 101 RX4 yX4_cellOfHost wsX4_cellOfHost) := goodIn_app (goodIn_of _ (by decide +kernel)) ggX4_needlessCount_X4_cellOfHost
set_option maxRecDepth 20000 in
theorem ggX4_needlessCount_X4_hostsReached : GoodIn wsX4_needlessCount wsX4_hostsReached := goodIn_r _ [22, 1, 23, 24, 6, 25, 26, 27, 28, 29, 30, 31, 32, 33, 34, 35, 9, 36, 37, 38, 39, 40, 16, 17, 18, 41, 42, 43, 44, 45, 46, 47, 48, 49, 55, 56, 57, 58, 59, 60, 61, 62, 63, 64, 65, 66, 67, 68, 69, 70, 71] (by decide +kernel) (by decide +kernel)
set_option maxRecDepth 20000 in
theorem gX4_needlessCount_X4_hostsReached : GoodIn wsX4_needlessCount (wsV RX4 144 RX4 yX4_hostsReached wsX4_hostsReached) := goodIn_app (goodIn_of _ (by decide +kernel)) ggX4_needlessCount_X4_hostsReached
set_option maxRecDepth 20000 in
theorem ggX4_needlessCount_X4_cellOf : GoodIn wsX4_needlessCount wsX4_cellOf := goodIn_r _ [18] (by decide +kernel) (by decide +kernel)
set_option maxRecDepth 20000 in
theorem gX4_needlessCount_X4_cellOf : GoodIn wsX4_needlessCount (va_wsS RX4 150 yX4_cellOf wsX4_cellOf) := goodIn_app (goodIn_of _ (by decide +kernel)) ggX4_needlessCount_X4_cellOf
set_option maxRecDepth 20000 in
theorem ggX4_needlessCount_X0_isDeclaring : GoodIn wsX4_needlessCount wsX0_isDeclaring := goodIn_r _ [53, 54, 72, 73] (by decide +kernel) (by decide +kernel)
set_option maxRecDepth 20000 in
theorem gX4_needlessCount_X0_isDeclaring_n153 : GoodIn wsX4_needlessCount (wsX0_isDeclaring) := ggX4_needlessCount_X0_isDeclaring
set_option maxRecDepth 20000 in
theorem ggX4_needlessCount_X4_contains : GoodIn wsX4_needlessCount wsX4_contains := goodIn_r _ [49] (by decide +kernel) (by decide +kernel)
set_option maxRecDepth 20000 in
theorem gX4_needlessCount_X4_contains : GoodIn wsX4_needlessCount (va_wsS RX4 156 yX4_contains wsX4_contains) := goodIn_app (goodIn_of _ (by decide +kernel)) ggX4_needlessCount_X4_contains
theorem dX4_needlessCount_0 : decode cX4_needlessCount 0 = .ok (.aload_n 0, 1) := by decide +kernel
theorem dX4_needlessCount_1 : decode cX4_needlessCount 1 = .ok (.iload_n 1, 1) := by decide +kernel
theorem dX4_needlessCount_2 : decode cX4_needlessCount 2 = .ok (.iload_n 2, 1) := by decide +kernel
theorem dX4_needlessCount_3 : decode cX4_needlessCount 3 = .ok (.invokevirtual 101, 3) := by decide +kernel
theorem dX4_needlessCount_6 : decode cX4_needlessCount 6 = .ok (.istore_n 3, 1) := by decide +kernel
theorem dX4_needlessCount_7 : decode cX4_needlessCount 7 = .ok (.iload_n 3, 1) := by decide +kernel
theorem dX4_needlessCount_8 : decode cX4_needlessCount 8 = .ok (.ifCond .ge 5, 3) := by decide +kernel
theorem dX4_needlessCount_11 : decode cX4_needlessCount 11 = .ok (.iload_n 3, 1) := by decide +kernel
theorem dX4_needlessCount_12 : decode cX4_needlessCount 12 = .ok (.ireturn, 1) := by decide +kernel
theorem dX4_needlessCount_13 : decode cX4_needlessCount 13 = .ok (.aload_n 0, 1) := by decide +kernel
theorem dX4_needlessCount_14 : decode cX4_needlessCount 14 = .ok (.iload_n 1, 1) := by decide +kernel
theorem dX4_needlessCount_15 : decode cX4_needlessCount 15 = .ok (.iload_n 2, 1) := by decide +kernel
theorem dX4_needlessCount_16 : decode cX4_needlessCount 16 = .ok (.invokevirtual 144, 3) := by decide +kernel
theorem dX4_needlessCount_19 : decode cX4_needlessCount 19 = .ok (.istore 4, 2) := by decide +kernel
theorem dX4_needlessCount_21 : decode cX4_needlessCount 21 = .ok (.iconst 0, 1) := by decide +kernel
theorem dX4_needlessCount_22 : decode cX4_needlessCount 22 = .ok (.istore 5, 2) := by decide +kernel
theorem dX4_needlessCount_24 : decode cX4_needlessCount 24 = .ok (.iconst 0, 1) := by decide +kernel
theorem dX4_needlessCount_25 : decode cX4_needlessCount 25 = .ok (.istore 6, 2) := by decide +kernel
theorem dX4_needlessCount_27 : decode cX4_needlessCount 27 = .ok (.iload 6, 2) := by decide +kernel
theorem dX4_needlessCount_29 : decode cX4_needlessCount 29 = .ok (.aload_n 0, 1) := by decide +kernel
theorem dX4_needlessCount_30 : decode cX4_needlessCount 30 = .ok (.getfield 12, 3) := by decide +kernel
theorem dX4_needlessCount_33 : decode cX4_needlessCount 33 = .ok (.getfield 98, 3) := by decide +kernel
theorem dX4_needlessCount_36 : decode cX4_needlessCount 36 = .ok (.if_icmp .ge 45, 3) := by decide +kernel
theorem dX4_needlessCount_39 : decode cX4_needlessCount 39 = .ok (.aload_n 0, 1) := by decide +kernel
theorem dX4_needlessCount_40 : decode cX4_needlessCount 40 = .ok (.getfield 26, 3) := by decide +kernel
theorem dX4_needlessCount_43 : decode cX4_needlessCount 43 = .ok (.bipush 20, 2) := by decide +kernel
theorem dX4_needlessCount_45 : decode cX4_needlessCount 45 = .ok (.iload 6, 2) := by decide +kernel
theorem dX4_needlessCount_47 : decode cX4_needlessCount 47 = .ok (.iadd, 1) := by decide +kernel
theorem dX4_needlessCount_48 : decode cX4_needlessCount 48 = .ok (.iload_n 2, 1) := by decide +kernel
theorem dX4_needlessCount_49 : decode cX4_needlessCount 49 = .ok (.invokestatic 150, 3) := by decide +kernel
theorem dX4_needlessCount_52 : decode cX4_needlessCount 52 = .ok (.invokevirtual 153, 3) := by decide +kernel
theorem dX4_needlessCount_55 : decode cX4_needlessCount 55 = .ok (.istore 7, 2) := by decide +kernel
theorem dX4_needlessCount_57 : decode cX4_needlessCount 57 = .ok (.iload 4, 2) := by decide +kernel
theorem dX4_needlessCount_59 : decode cX4_needlessCount 59 = .ok (.iload 6, 2) := by decide +kernel
theorem dX4_needlessCount_61 : decode cX4_needlessCount 61 = .ok (.invokestatic 156, 3) := by decide +kernel
theorem dX4_needlessCount_64 : decode cX4_needlessCount 64 = .ok (.ifCond .eq 11, 3) := by decide +kernel
theorem dX4_needlessCount_67 : decode cX4_needlessCount 67 = .ok (.iload 7, 2) := by decide +kernel
theorem dX4_needlessCount_69 : decode cX4_needlessCount 69 = .ok (.ifCond .ne 6, 3) := by decide +kernel
theorem dX4_needlessCount_72 : decode cX4_needlessCount 72 = .ok (.iinc 5 1, 3) := by decide +kernel
theorem dX4_needlessCount_75 : decode cX4_needlessCount 75 = .ok (.iinc 6 1, 3) := by decide +kernel
theorem dX4_needlessCount_78 : decode cX4_needlessCount 78 = .ok (.goto (-51), 3) := by decide +kernel
theorem dX4_needlessCount_81 : decode cX4_needlessCount 81 = .ok (.iload 5, 2) := by decide +kernel
theorem dX4_needlessCount_83 : decode cX4_needlessCount 83 = .ok (.ireturn, 1) := by decide +kernel
set_option maxRecDepth 20000 in
theorem ggX4_distance_X1_stationOfHost : GoodIn wsX4_distance wsX1_stationOfHost := goodIn_r _ [5, 6, 39, 40, 41, 42] (by decide +kernel) (by decide +kernel)
set_option maxRecDepth 20000 in
theorem gX4_distance_X1_stationOfHost_n110 : GoodIn wsX4_distance (wsX1_stationOfHost) := ggX4_distance_X1_stationOfHost
set_option maxRecDepth 20000 in
theorem ggX4_distance_X4_bridgesBetweenHosts : GoodIn wsX4_distance wsX4_bridgesBetweenHosts := goodIn_r _ [11, 1, 12, 13, 10, 14, 15, 16, 17, 18, 3, 19, 20, 21, 22, 23, 24, 25, 26, 27, 28, 29, 30, 31, 32, 33, 34, 35, 36, 37, 38, 39, 40, 41, 42] (by decide +kernel) (by decide +kernel)
set_option maxRecDepth 20000 in
theorem gX4_distance_X4_bridgesBetweenHosts : GoodIn wsX4_distance (wsV RX4 147 RX4 yX4_bridgesBetweenHosts wsX4_bridgesBetweenHosts) := goodIn_app (goodIn_of _ (by decide +kernel)) ggX4_distance_X4_bridgesBetweenHosts
theorem dX4_distance_0 : decode cX4_distance 0 = .ok (.aload_n 0, 1) := by decide +kernel
theorem dX4_distance_1 : decode cX4_distance 1 = .ok (.getfield 12, 3) := by decide +kernel
theorem dX4_distance_4 : decode cX4_distance 4 = .ok (.iload_n 1, 1) := by decide +kernel
theorem dX4_distance_5 : decode cX4_distance 5 = .ok (.invokevirtual 110, 3) := by decide +kernel
theorem dX4_distance_8 : decode cX4_distance 8 = .ok (.ifCond .lt 14, 3) := by decide +kernel
theorem dX4_distance_11 : decode cX4_distance 11 = .ok (.aload_n 0, 1) := by decide +kernel
theorem dX4_distance_12 : decode cX4_distance 12 = .ok (.getfield 12, 3) := by decide +kernel
theorem dX4_distance_15 : decode cX4_distance 15 = .ok (.iload_n 2, 1) := by decide +kernel
theorem dX4_distance_16 : decode cX4_distance 16 = .ok (.invokevirtual 110, 3) := by decide +kernel
theorem dX4_distance_19 : decode cX4_distance 19 = .ok (.ifCond .ge 6, 3) := by decide +kernel
theorem dX4_distance_22 : decode cX4_distance 22 = .ok (.bipush (-2), 2) := by decide +kernel
theorem dX4_distance_24 : decode cX4_distance 24 = .ok (.ireturn, 1) := by decide +kernel
theorem dX4_distance_25 : decode cX4_distance 25 = .ok (.aload_n 0, 1) := by decide +kernel
theorem dX4_distance_26 : decode cX4_distance 26 = .ok (.iload_n 1, 1) := by decide +kernel
theorem dX4_distance_27 : decode cX4_distance 27 = .ok (.iload_n 2, 1) := by decide +kernel
theorem dX4_distance_28 : decode cX4_distance 28 = .ok (.invokevirtual 147, 3) := by decide +kernel
theorem dX4_distance_31 : decode cX4_distance 31 = .ok (.ireturn, 1) := by decide +kernel
theorem dX4_isStation_0 : decode cX4_isStation 0 = .ok (.iload_n 0, 1) := by decide +kernel
theorem dX4_isStation_1 : decode cX4_isStation 1 = .ok (.ifCond .lt 13, 3) := by decide +kernel
theorem dX4_isStation_4 : decode cX4_isStation 4 = .ok (.iload_n 0, 1) := by decide +kernel
theorem dX4_isStation_5 : decode cX4_isStation 5 = .ok (.bipush 28, 2) := by decide +kernel
theorem dX4_isStation_7 : decode cX4_isStation 7 = .ok (.if_icmp .ge 7, 3) := by decide +kernel
theorem dX4_isStation_10 : decode cX4_isStation 10 = .ok (.iconst 1, 1) := by decide +kernel
theorem dX4_isStation_11 : decode cX4_isStation 11 = .ok (.goto 4, 3) := by decide +kernel
theorem dX4_isStation_14 : decode cX4_isStation 14 = .ok (.iconst 0, 1) := by decide +kernel
theorem dX4_isStation_15 : decode cX4_isStation 15 = .ok (.ireturn, 1) := by decide +kernel
theorem dX4_isPort_0 : decode cX4_isPort 0 = .ok (.iload_n 0, 1) := by decide +kernel
theorem dX4_isPort_1 : decode cX4_isPort 1 = .ok (.ifCond .lt 13, 3) := by decide +kernel
theorem dX4_isPort_4 : decode cX4_isPort 4 = .ok (.iload_n 0, 1) := by decide +kernel
theorem dX4_isPort_5 : decode cX4_isPort 5 = .ok (.bipush 20, 2) := by decide +kernel
theorem dX4_isPort_7 : decode cX4_isPort 7 = .ok (.if_icmp .ge 7, 3) := by decide +kernel
theorem dX4_isPort_10 : decode cX4_isPort 10 = .ok (.iconst 1, 1) := by decide +kernel
theorem dX4_isPort_11 : decode cX4_isPort 11 = .ok (.goto 4, 3) := by decide +kernel
theorem dX4_isPort_14 : decode cX4_isPort 14 = .ok (.iconst 0, 1) := by decide +kernel
theorem dX4_isPort_15 : decode cX4_isPort 15 = .ok (.ireturn, 1) := by decide +kernel
theorem dX4_isGroup_0 : decode cX4_isGroup 0 = .ok (.iload_n 0, 1) := by decide +kernel
theorem dX4_isGroup_1 : decode cX4_isGroup 1 = .ok (.ifCond .lt 12, 3) := by decide +kernel
theorem dX4_isGroup_4 : decode cX4_isGroup 4 = .ok (.iload_n 0, 1) := by decide +kernel
theorem dX4_isGroup_5 : decode cX4_isGroup 5 = .ok (.iconst 4, 1) := by decide +kernel
theorem dX4_isGroup_6 : decode cX4_isGroup 6 = .ok (.if_icmp .ge 7, 3) := by decide +kernel
theorem dX4_isGroup_9 : decode cX4_isGroup 9 = .ok (.iconst 1, 1) := by decide +kernel
theorem dX4_isGroup_10 : decode cX4_isGroup 10 = .ok (.goto 4, 3) := by decide +kernel
theorem dX4_isGroup_13 : decode cX4_isGroup 13 = .ok (.iconst 0, 1) := by decide +kernel
theorem dX4_isGroup_14 : decode cX4_isGroup 14 = .ok (.ireturn, 1) := by decide +kernel
theorem dX4_bridgeOf_0 : decode cX4_bridgeOf 0 = .ok (.iload_n 0, 1) := by decide +kernel
theorem dX4_bridgeOf_1 : decode cX4_bridgeOf 1 = .ok (.iconst 4, 1) := by decide +kernel
theorem dX4_bridgeOf_2 : decode cX4_bridgeOf 2 = .ok (.idiv, 1) := by decide +kernel
theorem dX4_bridgeOf_3 : decode cX4_bridgeOf 3 = .ok (.ireturn, 1) := by decide +kernel
theorem dX4_cellOf_0 : decode cX4_cellOf 0 = .ok (.iload_n 0, 1) := by decide +kernel
theorem dX4_cellOf_1 : decode cX4_cellOf 1 = .ok (.iconst 4, 1) := by decide +kernel
theorem dX4_cellOf_2 : decode cX4_cellOf 2 = .ok (.imul, 1) := by decide +kernel
theorem dX4_cellOf_3 : decode cX4_cellOf 3 = .ok (.iload_n 1, 1) := by decide +kernel
theorem dX4_cellOf_4 : decode cX4_cellOf 4 = .ok (.iadd, 1) := by decide +kernel
theorem dX4_cellOf_5 : decode cX4_cellOf 5 = .ok (.ireturn, 1) := by decide +kernel
theorem dX4_contains_0 : decode cX4_contains 0 = .ok (.iload_n 0, 1) := by decide +kernel
theorem dX4_contains_1 : decode cX4_contains 1 = .ok (.iconst 1, 1) := by decide +kernel
theorem dX4_contains_2 : decode cX4_contains 2 = .ok (.iload_n 1, 1) := by decide +kernel
theorem dX4_contains_3 : decode cX4_contains 3 = .ok (.ishl, 1) := by decide +kernel
theorem dX4_contains_4 : decode cX4_contains 4 = .ok (.iand, 1) := by decide +kernel
theorem dX4_contains_5 : decode cX4_contains 5 = .ok (.ifCond .eq 7, 3) := by decide +kernel
theorem dX4_contains_8 : decode cX4_contains 8 = .ok (.iconst 1, 1) := by decide +kernel
theorem dX4_contains_9 : decode cX4_contains 9 = .ok (.goto 4, 3) := by decide +kernel
theorem dX4_contains_12 : decode cX4_contains 12 = .ok (.iconst 0, 1) := by decide +kernel
theorem dX4_contains_13 : decode cX4_contains 13 = .ok (.ireturn, 1) := by decide +kernel
set_option maxRecDepth 20000 in
theorem ggX4_cellOfPort_X1_stationOfPort : GoodIn wsX4_cellOfPort wsX1_stationOfPort := goodIn_r _ [5, 6, 25, 26, 27, 28] (by decide +kernel) (by decide +kernel)
set_option maxRecDepth 20000 in
theorem gX4_cellOfPort_X1_stationOfPort_n64 : GoodIn wsX4_cellOfPort (wsX1_stationOfPort) := ggX4_cellOfPort_X1_stationOfPort
set_option maxRecDepth 20000 in
theorem ggX4_cellOfPort_X4_isGroup : GoodIn wsX4_cellOfPort wsX4_isGroup := goodIn_r _ [10] (by decide +kernel) (by decide +kernel)
set_option maxRecDepth 20000 in
theorem gX4_cellOfPort_X4_isGroup : GoodIn wsX4_cellOfPort (va_wsS RX4 160 yX4_isGroup wsX4_isGroup) := goodIn_app (goodIn_of _ (by decide +kernel)) ggX4_cellOfPort_X4_isGroup
set_option maxRecDepth 20000 in
theorem ggX4_cellOfPort_X4_cellOf : GoodIn wsX4_cellOfPort wsX4_cellOf := goodIn_r _ [13] (by decide +kernel) (by decide +kernel)
set_option maxRecDepth 20000 in
theorem gX4_cellOfPort_X4_cellOf : GoodIn wsX4_cellOfPort (va_wsS RX4 150 yX4_cellOf wsX4_cellOf) := goodIn_app (goodIn_of _ (by decide +kernel)) ggX4_cellOfPort_X4_cellOf
theorem dX4_cellOfPort_0 : decode cX4_cellOfPort 0 = .ok (.aload_n 0, 1) := by decide +kernel
theorem dX4_cellOfPort_1 : decode cX4_cellOfPort 1 = .ok (.getfield 12, 3) := by decide +kernel
theorem dX4_cellOfPort_4 : decode cX4_cellOfPort 4 = .ok (.iload_n 1, 1) := by decide +kernel
theorem dX4_cellOfPort_5 : decode cX4_cellOfPort 5 = .ok (.iload_n 2, 1) := by decide +kernel
theorem dX4_cellOfPort_6 : decode cX4_cellOfPort 6 = .ok (.invokevirtual 64, 3) := by decide +kernel
theorem dX4_cellOfPort_9 : decode cX4_cellOfPort 9 = .ok (.istore 4, 2) := by decide +kernel
theorem dX4_cellOfPort_11 : decode cX4_cellOfPort 11 = .ok (.iload 4, 2) := by decide +kernel
theorem dX4_cellOfPort_13 : decode cX4_cellOfPort 13 = .ok (.ifCond .ge 6, 3) := by decide +kernel
theorem dX4_cellOfPort_16 : decode cX4_cellOfPort 16 = .ok (.iload 4, 2) := by decide +kernel
theorem dX4_cellOfPort_18 : decode cX4_cellOfPort 18 = .ok (.ireturn, 1) := by decide +kernel
theorem dX4_cellOfPort_19 : decode cX4_cellOfPort 19 = .ok (.iload_n 3, 1) := by decide +kernel
theorem dX4_cellOfPort_20 : decode cX4_cellOfPort 20 = .ok (.invokestatic 160, 3) := by decide +kernel
theorem dX4_cellOfPort_23 : decode cX4_cellOfPort 23 = .ok (.ifCond .eq 12, 3) := by decide +kernel
theorem dX4_cellOfPort_26 : decode cX4_cellOfPort 26 = .ok (.iload 4, 2) := by decide +kernel
theorem dX4_cellOfPort_28 : decode cX4_cellOfPort 28 = .ok (.iload_n 3, 1) := by decide +kernel
theorem dX4_cellOfPort_29 : decode cX4_cellOfPort 29 = .ok (.invokestatic 150, 3) := by decide +kernel
theorem dX4_cellOfPort_32 : decode cX4_cellOfPort 32 = .ok (.goto 5, 3) := by decide +kernel
theorem dX4_cellOfPort_35 : decode cX4_cellOfPort 35 = .ok (.bipush (-3), 2) := by decide +kernel
theorem dX4_cellOfPort_37 : decode cX4_cellOfPort 37 = .ok (.ireturn, 1) := by decide +kernel
set_option maxRecDepth 20000 in
theorem ggX4_cellOfHost_X1_stationOfHost : GoodIn wsX4_cellOfHost wsX1_stationOfHost := goodIn_r _ [5, 6, 25, 26, 27, 28] (by decide +kernel) (by decide +kernel)
set_option maxRecDepth 20000 in
theorem gX4_cellOfHost_X1_stationOfHost_n110 : GoodIn wsX4_cellOfHost (wsX1_stationOfHost) := ggX4_cellOfHost_X1_stationOfHost
set_option maxRecDepth 20000 in
theorem ggX4_cellOfHost_X4_isGroup : GoodIn wsX4_cellOfHost wsX4_isGroup := goodIn_r _ [10] (by decide +kernel) (by decide +kernel)
set_option maxRecDepth 20000 in
theorem gX4_cellOfHost_X4_isGroup : GoodIn wsX4_cellOfHost (va_wsS RX4 160 yX4_isGroup wsX4_isGroup) := goodIn_app (goodIn_of _ (by decide +kernel)) ggX4_cellOfHost_X4_isGroup
set_option maxRecDepth 20000 in
theorem ggX4_cellOfHost_X4_cellOf : GoodIn wsX4_cellOfHost wsX4_cellOf := goodIn_r _ [13] (by decide +kernel) (by decide +kernel)
set_option maxRecDepth 20000 in
theorem gX4_cellOfHost_X4_cellOf : GoodIn wsX4_cellOfHost (va_wsS RX4 150 yX4_cellOf wsX4_cellOf) := goodIn_app (goodIn_of _ (by decide +kernel)) ggX4_cellOfHost_X4_cellOf
theorem dX4_cellOfHost_0 : decode cX4_cellOfHost 0 = .ok (.aload_n 0, 1) := by decide +kernel
theorem dX4_cellOfHost_1 : decode cX4_cellOfHost 1 = .ok (.getfield 12, 3) := by decide +kernel
theorem dX4_cellOfHost_4 : decode cX4_cellOfHost 4 = .ok (.iload_n 1, 1) := by decide +kernel
theorem dX4_cellOfHost_5 : decode cX4_cellOfHost 5 = .ok (.invokevirtual 110, 3) := by decide +kernel
theorem dX4_cellOfHost_8 : decode cX4_cellOfHost 8 = .ok (.istore_n 3, 1) := by decide +kernel
theorem dX4_cellOfHost_9 : decode cX4_cellOfHost 9 = .ok (.iload_n 3, 1) := by decide +kernel
theorem dX4_cellOfHost_10 : decode cX4_cellOfHost 10 = .ok (.ifCond .ge 5, 3) := by decide +kernel
theorem dX4_cellOfHost_13 : decode cX4_cellOfHost 13 = .ok (.iload_n 3, 1) := by decide +kernel
theorem dX4_cellOfHost_14 : decode cX4_cellOfHost 14 = .ok (.ireturn, 1) := by decide +kernel
theorem dX4_cellOfHost_15 : decode cX4_cellOfHost 15 = .ok (.iload_n 2, 1) := by decide +kernel
theorem dX4_cellOfHost_16 : decode cX4_cellOfHost 16 = .ok (.invokestatic 160, 3) := by decide +kernel
theorem dX4_cellOfHost_19 : decode cX4_cellOfHost 19 = .ok (.ifCond .eq 11, 3) := by decide +kernel
theorem dX4_cellOfHost_22 : decode cX4_cellOfHost 22 = .ok (.iload_n 3, 1) := by decide +kernel
theorem dX4_cellOfHost_23 : decode cX4_cellOfHost 23 = .ok (.iload_n 2, 1) := by decide +kernel
theorem dX4_cellOfHost_24 : decode cX4_cellOfHost 24 = .ok (.invokestatic 150, 3) := by decide +kernel
theorem dX4_cellOfHost_27 : decode cX4_cellOfHost 27 = .ok (.goto 5, 3) := by decide +kernel
theorem dX4_cellOfHost_30 : decode cX4_cellOfHost 30 = .ok (.bipush (-3), 2) := by decide +kernel
theorem dX4_cellOfHost_32 : decode cX4_cellOfHost 32 = .ok (.ireturn, 1) := by decide +kernel
theorem dX4_startPort_0 : decode cX4_startPort 0 = .ok (.aload_n 0, 1) := by decide +kernel
theorem dX4_startPort_1 : decode cX4_startPort 1 = .ok (.getfield 37, 3) := by decide +kernel
theorem dX4_startPort_4 : decode cX4_startPort 4 = .ok (.iload_n 1, 1) := by decide +kernel
theorem dX4_startPort_5 : decode cX4_startPort 5 = .ok (.aload_n 0, 1) := by decide +kernel
theorem dX4_startPort_6 : decode cX4_startPort 6 = .ok (.getfield 55, 3) := by decide +kernel
theorem dX4_startPort_9 : decode cX4_startPort 9 = .ok (.iastore, 1) := by decide +kernel
theorem dX4_startPort_10 : decode cX4_startPort 10 = .ok (.return_, 1) := by decide +kernel
set_option maxRecDepth 20000 in
theorem ggX4_clearPort_X4_cellOf : GoodIn wsX4_clearPort wsX4_cellOf := goodIn_r _ [8] (by decide +kernel) (by decide +kernel)
set_option maxRecDepth 20000 in
theorem gX4_clearPort_X4_cellOf : GoodIn wsX4_clearPort (va_wsS RX4 150 yX4_cellOf wsX4_cellOf) := goodIn_app (goodIn_of _ (by decide +kernel)) ggX4_clearPort_X4_cellOf
set_option maxRecDepth 20000 in
theorem ggX4_clearPort_X3_change : GoodIn wsX4_clearPort wsX3_change := goodIn_r _ [12, 13, 14, 32, 33] (by decide +kernel) (by decide +kernel)
set_option maxRecDepth 20000 in
theorem gX4_clearPort_X3_change_n163 : GoodIn wsX4_clearPort (wsX3_change) := ggX4_clearPort_X3_change
set_option maxRecDepth 20000 in
theorem ggX4_clearPort_X0_change : GoodIn wsX4_clearPort wsX0_change := goodIn_r _ [18, 19, 20, 34, 35] (by decide +kernel) (by decide +kernel)
set_option maxRecDepth 20000 in
theorem gX4_clearPort_X0_change_n167 : GoodIn wsX4_clearPort (wsX0_change) := ggX4_clearPort_X0_change
theorem dX4_clearPort_0 : decode cX4_clearPort 0 = .ok (.iconst 0, 1) := by decide +kernel
theorem dX4_clearPort_1 : decode cX4_clearPort 1 = .ok (.istore_n 2, 1) := by decide +kernel
theorem dX4_clearPort_2 : decode cX4_clearPort 2 = .ok (.iload_n 2, 1) := by decide +kernel
theorem dX4_clearPort_3 : decode cX4_clearPort 3 = .ok (.iconst 4, 1) := by decide +kernel
theorem dX4_clearPort_4 : decode cX4_clearPort 4 = .ok (.if_icmp .ge 37, 3) := by decide +kernel
theorem dX4_clearPort_7 : decode cX4_clearPort 7 = .ok (.aload_n 0, 1) := by decide +kernel
theorem dX4_clearPort_8 : decode cX4_clearPort 8 = .ok (.getfield 19, 3) := by decide +kernel
theorem dX4_clearPort_11 : decode cX4_clearPort 11 = .ok (.iload_n 1, 1) := by decide +kernel
theorem dX4_clearPort_12 : decode cX4_clearPort 12 = .ok (.iload_n 2, 1) := by decide +kernel
theorem dX4_clearPort_13 : decode cX4_clearPort 13 = .ok (.invokestatic 150, 3) := by decide +kernel
theorem dX4_clearPort_16 : decode cX4_clearPort 16 = .ok (.iconst 0, 1) := by decide +kernel
theorem dX4_clearPort_17 : decode cX4_clearPort 17 = .ok (.iconst 0, 1) := by decide +kernel
theorem dX4_clearPort_18 : decode cX4_clearPort 18 = .ok (.invokevirtual 163, 3) := by decide +kernel
theorem dX4_clearPort_21 : decode cX4_clearPort 21 = .ok (.aload_n 0, 1) := by decide +kernel
theorem dX4_clearPort_22 : decode cX4_clearPort 22 = .ok (.getfield 26, 3) := by decide +kernel
theorem dX4_clearPort_25 : decode cX4_clearPort 25 = .ok (.iload_n 1, 1) := by decide +kernel
theorem dX4_clearPort_26 : decode cX4_clearPort 26 = .ok (.iload_n 2, 1) := by decide +kernel
theorem dX4_clearPort_27 : decode cX4_clearPort 27 = .ok (.invokestatic 150, 3) := by decide +kernel
theorem dX4_clearPort_30 : decode cX4_clearPort 30 = .ok (.iconst 0, 1) := by decide +kernel
theorem dX4_clearPort_31 : decode cX4_clearPort 31 = .ok (.iconst 0, 1) := by decide +kernel
theorem dX4_clearPort_32 : decode cX4_clearPort 32 = .ok (.invokevirtual 167, 3) := by decide +kernel
theorem dX4_clearPort_35 : decode cX4_clearPort 35 = .ok (.iinc 2 1, 3) := by decide +kernel
theorem dX4_clearPort_38 : decode cX4_clearPort 38 = .ok (.goto (-36), 3) := by decide +kernel
theorem dX4_clearPort_41 : decode cX4_clearPort 41 = .ok (.aload_n 0, 1) := by decide +kernel
theorem dX4_clearPort_42 : decode cX4_clearPort 42 = .ok (.getfield 37, 3) := by decide +kernel
theorem dX4_clearPort_45 : decode cX4_clearPort 45 = .ok (.iload_n 1, 1) := by decide +kernel
theorem dX4_clearPort_46 : decode cX4_clearPort 46 = .ok (.iconst 0, 1) := by decide +kernel
theorem dX4_clearPort_47 : decode cX4_clearPort 47 = .ok (.iastore, 1) := by decide +kernel
theorem dX4_clearPort_48 : decode cX4_clearPort 48 = .ok (.aload_n 0, 1) := by decide +kernel
theorem dX4_clearPort_49 : decode cX4_clearPort 49 = .ok (.getfield 45, 3) := by decide +kernel
theorem dX4_clearPort_52 : decode cX4_clearPort 52 = .ok (.iload_n 1, 1) := by decide +kernel
theorem dX4_clearPort_53 : decode cX4_clearPort 53 = .ok (.iconst 0, 1) := by decide +kernel
theorem dX4_clearPort_54 : decode cX4_clearPort 54 = .ok (.bastore, 1) := by decide +kernel
theorem dX4_clearPort_55 : decode cX4_clearPort 55 = .ok (.return_, 1) := by decide +kernel
set_option maxRecDepth 20000 in
theorem ggX4_isRegisteredAt_X1_isConnected : GoodIn wsX4_isRegisteredAt wsX1_isConnected := goodIn_r _ [6, 7, 8, 9, 10, 27, 28, 29, 30] (by decide +kernel) (by decide +kernel)
set_option maxRecDepth 20000 in
theorem gX4_isRegisteredAt_X1_isConnected_n68 : GoodIn wsX4_isRegisteredAt (wsX1_isConnected) := ggX4_isRegisteredAt_X1_isConnected
set_option maxRecDepth 20000 in
theorem ggX4_isRegisteredAt_X4_cellOf : GoodIn wsX4_isRegisteredAt wsX4_cellOf := goodIn_r _ [13] (by decide +kernel) (by decide +kernel)
set_option maxRecDepth 20000 in
theorem gX4_isRegisteredAt_X4_cellOf : GoodIn wsX4_isRegisteredAt (va_wsS RX4 150 yX4_cellOf wsX4_cellOf) := goodIn_app (goodIn_of _ (by decide +kernel)) ggX4_isRegisteredAt_X4_cellOf
theorem dX4_isRegisteredAt_0 : decode cX4_isRegisteredAt 0 = .ok (.aload_n 0, 1) := by decide +kernel
theorem dX4_isRegisteredAt_1 : decode cX4_isRegisteredAt 1 = .ok (.getfield 12, 3) := by decide +kernel
theorem dX4_isRegisteredAt_4 : decode cX4_isRegisteredAt 4 = .ok (.iload_n 1, 1) := by decide +kernel
theorem dX4_isRegisteredAt_5 : decode cX4_isRegisteredAt 5 = .ok (.invokevirtual 68, 3) := by decide +kernel
theorem dX4_isRegisteredAt_8 : decode cX4_isRegisteredAt 8 = .ok (.ifCond .eq 23, 3) := by decide +kernel
theorem dX4_isRegisteredAt_11 : decode cX4_isRegisteredAt 11 = .ok (.aload_n 0, 1) := by decide +kernel
theorem dX4_isRegisteredAt_12 : decode cX4_isRegisteredAt 12 = .ok (.getfield 19, 3) := by decide +kernel
theorem dX4_isRegisteredAt_15 : decode cX4_isRegisteredAt 15 = .ok (.getfield 131, 3) := by decide +kernel
theorem dX4_isRegisteredAt_18 : decode cX4_isRegisteredAt 18 = .ok (.iload_n 1, 1) := by decide +kernel
theorem dX4_isRegisteredAt_19 : decode cX4_isRegisteredAt 19 = .ok (.iload_n 2, 1) := by decide +kernel
theorem dX4_isRegisteredAt_20 : decode cX4_isRegisteredAt 20 = .ok (.invokestatic 150, 3) := by decide +kernel
theorem dX4_isRegisteredAt_23 : decode cX4_isRegisteredAt 23 = .ok (.iaload, 1) := by decide +kernel
theorem dX4_isRegisteredAt_24 : decode cX4_isRegisteredAt 24 = .ok (.ifCond .eq 7, 3) := by decide +kernel
theorem dX4_isRegisteredAt_27 : decode cX4_isRegisteredAt 27 = .ok (.iconst 1, 1) := by decide +kernel
theorem dX4_isRegisteredAt_28 : decode cX4_isRegisteredAt 28 = .ok (.goto 4, 3) := by decide +kernel
theorem dX4_isRegisteredAt_31 : decode cX4_isRegisteredAt 31 = .ok (.iconst 0, 1) := by decide +kernel
theorem dX4_isRegisteredAt_32 : decode cX4_isRegisteredAt 32 = .ok (.ireturn, 1) := by decide +kernel
set_option maxRecDepth 20000 in
theorem ggX4_isWanted_X4_bridgeOf : GoodIn wsX4_isWanted wsX4_bridgeOf := goodIn_r _ [4] (by decide +kernel) (by decide +kernel)
set_option maxRecDepth 20000 in
theorem gX4_isWanted_X4_bridgeOf : GoodIn wsX4_isWanted (va_wsS RX4 168 yX4_bridgeOf wsX4_bridgeOf) := goodIn_app (goodIn_of _ (by decide +kernel)) ggX4_isWanted_X4_bridgeOf
set_option maxRecDepth 20000 in
theorem ggX4_isWanted_X4_isRegisteredAt : GoodIn wsX4_isWanted wsX4_isRegisteredAt := goodIn_r _ [8, 9, 10, 11, 12, 13, 14, 15, 16, 3, 17, 18, 19, 20, 21, 22, 23, 24, 25, 26, 27, 28, 29, 30, 31, 32, 33, 34, 35, 36, 37] (by decide +kernel) (by decide +kernel)
set_option maxRecDepth 20000 in
theorem gX4_isWanted_X4_isRegisteredAt : GoodIn wsX4_isWanted (wsV RX4 171 RX4 yX4_isRegisteredAt wsX4_isRegisteredAt) := goodIn_app (goodIn_of _ (by decide +kernel)) ggX4_isWanted_X4_isRegisteredAt
theorem dX4_isWanted_0 : decode cX4_isWanted 0 = .ok (.iload_n 1, 1) := by decide +kernel
theorem dX4_isWanted_1 : decode cX4_isWanted 1 = .ok (.invokestatic 168, 3) := by decide +kernel
theorem dX4_isWanted_4 : decode cX4_isWanted 4 = .ok (.iconst 4, 1) := by decide +kernel
theorem dX4_isWanted_5 : decode cX4_isWanted 5 = .ok (.imul, 1) := by decide +kernel
theorem dX4_isWanted_6 : decode cX4_isWanted 6 = .ok (.istore_n 3, 1) := by decide +kernel
theorem dX4_isWanted_7 : decode cX4_isWanted 7 = .ok (.iload_n 3, 1) := by decide +kernel
theorem dX4_isWanted_8 : decode cX4_isWanted 8 = .ok (.istore 4, 2) := by decide +kernel
theorem dX4_isWanted_10 : decode cX4_isWanted 10 = .ok (.iload 4, 2) := by decide +kernel
theorem dX4_isWanted_12 : decode cX4_isWanted 12 = .ok (.iload_n 3, 1) := by decide +kernel
theorem dX4_isWanted_13 : decode cX4_isWanted 13 = .ok (.iconst 4, 1) := by decide +kernel
theorem dX4_isWanted_14 : decode cX4_isWanted 14 = .ok (.iadd, 1) := by decide +kernel
theorem dX4_isWanted_15 : decode cX4_isWanted 15 = .ok (.if_icmp .ge 27, 3) := by decide +kernel
theorem dX4_isWanted_18 : decode cX4_isWanted 18 = .ok (.iload 4, 2) := by decide +kernel
theorem dX4_isWanted_20 : decode cX4_isWanted 20 = .ok (.iload_n 1, 1) := by decide +kernel
theorem dX4_isWanted_21 : decode cX4_isWanted 21 = .ok (.if_icmp .eq 15, 3) := by decide +kernel
theorem dX4_isWanted_24 : decode cX4_isWanted 24 = .ok (.aload_n 0, 1) := by decide +kernel
theorem dX4_isWanted_25 : decode cX4_isWanted 25 = .ok (.iload 4, 2) := by decide +kernel
theorem dX4_isWanted_27 : decode cX4_isWanted 27 = .ok (.iload_n 2, 1) := by decide +kernel
theorem dX4_isWanted_28 : decode cX4_isWanted 28 = .ok (.invokevirtual 171, 3) := by decide +kernel
theorem dX4_isWanted_31 : decode cX4_isWanted 31 = .ok (.ifCond .eq 5, 3) := by decide +kernel
theorem dX4_isWanted_34 : decode cX4_isWanted 34 = .ok (.iconst 1, 1) := by decide +kernel
theorem dX4_isWanted_35 : decode cX4_isWanted 35 = .ok (.ireturn, 1) := by decide +kernel
theorem dX4_isWanted_36 : decode cX4_isWanted 36 = .ok (.iinc 4 1, 3) := by decide +kernel
theorem dX4_isWanted_39 : decode cX4_isWanted 39 = .ok (.goto (-29), 3) := by decide +kernel
theorem dX4_isWanted_42 : decode cX4_isWanted 42 = .ok (.iconst 0, 1) := by decide +kernel
theorem dX4_isWanted_43 : decode cX4_isWanted 43 = .ok (.ireturn, 1) := by decide +kernel
set_option maxRecDepth 20000 in
theorem ggX4_hasToSend_X4_cellOf : GoodIn wsX4_hasToSend wsX4_cellOf := goodIn_r _ [5] (by decide +kernel) (by decide +kernel)
set_option maxRecDepth 20000 in
theorem gX4_hasToSend_X4_cellOf : GoodIn wsX4_hasToSend (va_wsS RX4 150 yX4_cellOf wsX4_cellOf) := goodIn_app (goodIn_of _ (by decide +kernel)) ggX4_hasToSend_X4_cellOf
theorem dX4_hasToSend_0 : decode cX4_hasToSend 0 = .ok (.iconst 0, 1) := by decide +kernel
theorem dX4_hasToSend_1 : decode cX4_hasToSend 1 = .ok (.istore_n 2, 1) := by decide +kernel
theorem dX4_hasToSend_2 : decode cX4_hasToSend 2 = .ok (.iload_n 2, 1) := by decide +kernel
theorem dX4_hasToSend_3 : decode cX4_hasToSend 3 = .ok (.iconst 4, 1) := by decide +kernel
theorem dX4_hasToSend_4 : decode cX4_hasToSend 4 = .ok (.if_icmp .ge 35, 3) := by decide +kernel
theorem dX4_hasToSend_7 : decode cX4_hasToSend 7 = .ok (.aload_n 0, 1) := by decide +kernel
theorem dX4_hasToSend_8 : decode cX4_hasToSend 8 = .ok (.getfield 26, 3) := by decide +kernel
theorem dX4_hasToSend_11 : decode cX4_hasToSend 11 = .ok (.getfield 137, 3) := by decide +kernel
theorem dX4_hasToSend_14 : decode cX4_hasToSend 14 = .ok (.iload_n 1, 1) := by decide +kernel
theorem dX4_hasToSend_15 : decode cX4_hasToSend 15 = .ok (.iload_n 2, 1) := by decide +kernel
theorem dX4_hasToSend_16 : decode cX4_hasToSend 16 = .ok (.invokestatic 150, 3) := by decide +kernel
theorem dX4_hasToSend_19 : decode cX4_hasToSend 19 = .ok (.iaload, 1) := by decide +kernel
theorem dX4_hasToSend_20 : decode cX4_hasToSend 20 = .ok (.istore_n 3, 1) := by decide +kernel
theorem dX4_hasToSend_21 : decode cX4_hasToSend 21 = .ok (.iload_n 3, 1) := by decide +kernel
theorem dX4_hasToSend_22 : decode cX4_hasToSend 22 = .ok (.iconst 1, 1) := by decide +kernel
theorem dX4_hasToSend_23 : decode cX4_hasToSend 23 = .ok (.if_icmp .eq 8, 3) := by decide +kernel
theorem dX4_hasToSend_26 : decode cX4_hasToSend 26 = .ok (.iload_n 3, 1) := by decide +kernel
theorem dX4_hasToSend_27 : decode cX4_hasToSend 27 = .ok (.iconst 3, 1) := by decide +kernel
theorem dX4_hasToSend_28 : decode cX4_hasToSend 28 = .ok (.if_icmp .ne 5, 3) := by decide +kernel
theorem dX4_hasToSend_31 : decode cX4_hasToSend 31 = .ok (.iconst 1, 1) := by decide +kernel
theorem dX4_hasToSend_32 : decode cX4_hasToSend 32 = .ok (.ireturn, 1) := by decide +kernel
theorem dX4_hasToSend_33 : decode cX4_hasToSend 33 = .ok (.iinc 2 1, 3) := by decide +kernel
theorem dX4_hasToSend_36 : decode cX4_hasToSend 36 = .ok (.goto (-34), 3) := by decide +kernel
theorem dX4_hasToSend_39 : decode cX4_hasToSend 39 = .ok (.iconst 0, 1) := by decide +kernel
theorem dX4_hasToSend_40 : decode cX4_hasToSend 40 = .ok (.ireturn, 1) := by decide +kernel
set_option maxRecDepth 20000 in
theorem ggX4_isPortSettled_X4_cellOf : GoodIn wsX4_isPortSettled wsX4_cellOf := goodIn_r _ [6] (by decide +kernel) (by decide +kernel)
set_option maxRecDepth 20000 in
theorem gX4_isPortSettled_X4_cellOf : GoodIn wsX4_isPortSettled (va_wsS RX4 150 yX4_cellOf wsX4_cellOf) := goodIn_app (goodIn_of _ (by decide +kernel)) ggX4_isPortSettled_X4_cellOf
set_option maxRecDepth 20000 in
theorem ggX4_isPortSettled_X4_isWanted : GoodIn wsX4_isPortSettled wsX4_isWanted := goodIn_r _ [10, 11, 12, 5, 13, 14, 15, 16, 17, 18, 2, 19, 20, 21, 22, 23, 24, 25, 3, 4, 6, 26, 27, 28, 29, 30, 31, 32, 33, 34, 35, 36, 39, 40, 41, 42, 43, 44] (by decide +kernel) (by decide +kernel)
set_option maxRecDepth 20000 in
theorem gX4_isPortSettled_X4_isWanted : GoodIn wsX4_isPortSettled (wsV RX4 174 RX4 yX4_isWanted wsX4_isWanted) := goodIn_app (goodIn_of _ (by decide +kernel)) ggX4_isPortSettled_X4_isWanted
theorem dX4_isPortSettled_0 : decode cX4_isPortSettled 0 = .ok (.iconst 0, 1) := by decide +kernel
theorem dX4_isPortSettled_1 : decode cX4_isPortSettled 1 = .ok (.istore_n 2, 1) := by decide +kernel
theorem dX4_isPortSettled_2 : decode cX4_isPortSettled 2 = .ok (.iload_n 2, 1) := by decide +kernel
theorem dX4_isPortSettled_3 : decode cX4_isPortSettled 3 = .ok (.iconst 4, 1) := by decide +kernel
theorem dX4_isPortSettled_4 : decode cX4_isPortSettled 4 = .ok (.if_icmp .ge 61, 3) := by decide +kernel
theorem dX4_isPortSettled_7 : decode cX4_isPortSettled 7 = .ok (.iload_n 1, 1) := by decide +kernel
theorem dX4_isPortSettled_8 : decode cX4_isPortSettled 8 = .ok (.iload_n 2, 1) := by decide +kernel
theorem dX4_isPortSettled_9 : decode cX4_isPortSettled 9 = .ok (.invokestatic 150, 3) := by decide +kernel
theorem dX4_isPortSettled_12 : decode cX4_isPortSettled 12 = .ok (.istore_n 3, 1) := by decide +kernel
theorem dX4_isPortSettled_13 : decode cX4_isPortSettled 13 = .ok (.aload_n 0, 1) := by decide +kernel
theorem dX4_isPortSettled_14 : decode cX4_isPortSettled 14 = .ok (.getfield 26, 3) := by decide +kernel
theorem dX4_isPortSettled_17 : decode cX4_isPortSettled 17 = .ok (.getfield 137, 3) := by decide +kernel
theorem dX4_isPortSettled_20 : decode cX4_isPortSettled 20 = .ok (.iload_n 3, 1) := by decide +kernel
theorem dX4_isPortSettled_21 : decode cX4_isPortSettled 21 = .ok (.iaload, 1) := by decide +kernel
theorem dX4_isPortSettled_22 : decode cX4_isPortSettled 22 = .ok (.iconst 2, 1) := by decide +kernel
theorem dX4_isPortSettled_23 : decode cX4_isPortSettled 23 = .ok (.if_icmp .ne 7, 3) := by decide +kernel
theorem dX4_isPortSettled_26 : decode cX4_isPortSettled 26 = .ok (.iconst 1, 1) := by decide +kernel
theorem dX4_isPortSettled_27 : decode cX4_isPortSettled 27 = .ok (.goto 4, 3) := by decide +kernel
theorem dX4_isPortSettled_30 : decode cX4_isPortSettled 30 = .ok (.iconst 0, 1) := by decide +kernel
theorem dX4_isPortSettled_31 : decode cX4_isPortSettled 31 = .ok (.istore 4, 2) := by decide +kernel
theorem dX4_isPortSettled_33 : decode cX4_isPortSettled 33 = .ok (.aload_n 0, 1) := by decide +kernel
theorem dX4_isPortSettled_34 : decode cX4_isPortSettled 34 = .ok (.getfield 19, 3) := by decide +kernel
theorem dX4_isPortSettled_37 : decode cX4_isPortSettled 37 = .ok (.getfield 131, 3) := by decide +kernel
theorem dX4_isPortSettled_40 : decode cX4_isPortSettled 40 = .ok (.iload_n 3, 1) := by decide +kernel
theorem dX4_isPortSettled_41 : decode cX4_isPortSettled 41 = .ok (.iaload, 1) := by decide +kernel
theorem dX4_isPortSettled_42 : decode cX4_isPortSettled 42 = .ok (.iconst 2, 1) := by decide +kernel
theorem dX4_isPortSettled_43 : decode cX4_isPortSettled 43 = .ok (.if_icmp .eq 14, 3) := by decide +kernel
theorem dX4_isPortSettled_46 : decode cX4_isPortSettled 46 = .ok (.iload 4, 2) := by decide +kernel
theorem dX4_isPortSettled_48 : decode cX4_isPortSettled 48 = .ok (.aload_n 0, 1) := by decide +kernel
theorem dX4_isPortSettled_49 : decode cX4_isPortSettled 49 = .ok (.iload_n 1, 1) := by decide +kernel
theorem dX4_isPortSettled_50 : decode cX4_isPortSettled 50 = .ok (.iload_n 2, 1) := by decide +kernel
theorem dX4_isPortSettled_51 : decode cX4_isPortSettled 51 = .ok (.invokevirtual 174, 3) := by decide +kernel
theorem dX4_isPortSettled_54 : decode cX4_isPortSettled 54 = .ok (.if_icmp .eq 5, 3) := by decide +kernel
theorem dX4_isPortSettled_57 : decode cX4_isPortSettled 57 = .ok (.iconst 0, 1) := by decide +kernel
theorem dX4_isPortSettled_58 : decode cX4_isPortSettled 58 = .ok (.ireturn, 1) := by decide +kernel
theorem dX4_isPortSettled_59 : decode cX4_isPortSettled 59 = .ok (.iinc 2 1, 3) := by decide +kernel
theorem dX4_isPortSettled_62 : decode cX4_isPortSettled 62 = .ok (.goto (-60), 3) := by decide +kernel
theorem dX4_isPortSettled_65 : decode cX4_isPortSettled 65 = .ok (.iconst 1, 1) := by decide +kernel
theorem dX4_isPortSettled_66 : decode cX4_isPortSettled 66 = .ok (.ireturn, 1) := by decide +kernel
set_option maxRecDepth 20000 in
theorem ggX4_runTimers_X1_isConnected : GoodIn wsX4_runTimers wsX1_isConnected := goodIn_r _ [6, 7, 8, 9, 10, 42, 43, 44, 45] (by decide +kernel) (by decide +kernel)
set_option maxRecDepth 20000 in
theorem gX4_runTimers_X1_isConnected_n68 : GoodIn wsX4_runTimers (wsX1_isConnected) := ggX4_runTimers_X1_isConnected
set_option maxRecDepth 20000 in
theorem ggX4_runTimers_X4_countDownRegistrars : GoodIn wsX4_runTimers wsX4_countDownRegistrars := goodIn_r _ [14, 15, 16, 17, 9, 18, 19, 20, 21, 22, 23, 24, 31, 32, 33, 34, 35, 36, 37, 38, 39, 40, 41, 46, 47] (by decide +kernel) (by decide +kernel)
set_option maxRecDepth 20000 in
theorem gX4_runTimers_X4_countDownRegistrars : GoodIn wsX4_runTimers (wsV RX4 177 RX4 yX4_countDownRegistrars wsX4_countDownRegistrars) := goodIn_app (goodIn_of _ (by decide +kernel)) ggX4_runTimers_X4_countDownRegistrars
set_option maxRecDepth 20000 in
theorem ggX4_runTimers_X4_countDownToLeaveAll : GoodIn wsX4_runTimers wsX4_countDownToLeaveAll := goodIn_r _ [28, 29, 1, 30, 31, 32, 33, 34, 35, 36, 37, 38, 39, 40, 41] (by decide +kernel) (by decide +kernel)
set_option maxRecDepth 20000 in
theorem gX4_runTimers_X4_countDownToLeaveAll : GoodIn wsX4_runTimers (wsV RX4 180 RX4 yX4_countDownToLeaveAll wsX4_countDownToLeaveAll) := goodIn_app (goodIn_of _ (by decide +kernel)) ggX4_runTimers_X4_countDownToLeaveAll
theorem dX4_runTimers_0 : decode cX4_runTimers 0 = .ok (.iconst 0, 1) := by decide +kernel
theorem dX4_runTimers_1 : decode cX4_runTimers 1 = .ok (.istore_n 1, 1) := by decide +kernel
theorem dX4_runTimers_2 : decode cX4_runTimers 2 = .ok (.iload_n 1, 1) := by decide +kernel
theorem dX4_runTimers_3 : decode cX4_runTimers 3 = .ok (.bipush 20, 2) := by decide +kernel
theorem dX4_runTimers_5 : decode cX4_runTimers 5 = .ok (.if_icmp .ge 37, 3) := by decide +kernel
theorem dX4_runTimers_8 : decode cX4_runTimers 8 = .ok (.aload_n 0, 1) := by decide +kernel
theorem dX4_runTimers_9 : decode cX4_runTimers 9 = .ok (.getfield 41, 3) := by decide +kernel
theorem dX4_runTimers_12 : decode cX4_runTimers 12 = .ok (.iload_n 1, 1) := by decide +kernel
theorem dX4_runTimers_13 : decode cX4_runTimers 13 = .ok (.iconst 0, 1) := by decide +kernel
theorem dX4_runTimers_14 : decode cX4_runTimers 14 = .ok (.bastore, 1) := by decide +kernel
theorem dX4_runTimers_15 : decode cX4_runTimers 15 = .ok (.aload_n 0, 1) := by decide +kernel
theorem dX4_runTimers_16 : decode cX4_runTimers 16 = .ok (.getfield 12, 3) := by decide +kernel
theorem dX4_runTimers_19 : decode cX4_runTimers 19 = .ok (.iload_n 1, 1) := by decide +kernel
theorem dX4_runTimers_20 : decode cX4_runTimers 20 = .ok (.invokevirtual 68, 3) := by decide +kernel
theorem dX4_runTimers_23 : decode cX4_runTimers 23 = .ok (.ifCond .eq 13, 3) := by decide +kernel
theorem dX4_runTimers_26 : decode cX4_runTimers 26 = .ok (.aload_n 0, 1) := by decide +kernel
theorem dX4_runTimers_27 : decode cX4_runTimers 27 = .ok (.iload_n 1, 1) := by decide +kernel
theorem dX4_runTimers_28 : decode cX4_runTimers 28 = .ok (.invokevirtual 177, 3) := by decide +kernel
theorem dX4_runTimers_31 : decode cX4_runTimers 31 = .ok (.aload_n 0, 1) := by decide +kernel
theorem dX4_runTimers_32 : decode cX4_runTimers 32 = .ok (.iload_n 1, 1) := by decide +kernel
theorem dX4_runTimers_33 : decode cX4_runTimers 33 = .ok (.invokevirtual 180, 3) := by decide +kernel
theorem dX4_runTimers_36 : decode cX4_runTimers 36 = .ok (.iinc 1 1, 3) := by decide +kernel
theorem dX4_runTimers_39 : decode cX4_runTimers 39 = .ok (.goto (-37), 3) := by decide +kernel
theorem dX4_runTimers_42 : decode cX4_runTimers 42 = .ok (.return_, 1) := by decide +kernel
set_option maxRecDepth 20000 in
theorem ggX4_countDownRegistrars_X4_cellOf : GoodIn wsX4_countDownRegistrars wsX4_cellOf := goodIn_r _ [5] (by decide +kernel) (by decide +kernel)
set_option maxRecDepth 20000 in
theorem gX4_countDownRegistrars_X4_cellOf : GoodIn wsX4_countDownRegistrars (va_wsS RX4 150 yX4_cellOf wsX4_cellOf) := goodIn_app (goodIn_of _ (by decide +kernel)) ggX4_countDownRegistrars_X4_cellOf
set_option maxRecDepth 20000 in
theorem ggX4_countDownRegistrars_X3_countDown : GoodIn wsX4_countDownRegistrars wsX3_countDown := goodIn_r _ [9, 10, 11, 23, 24] (by decide +kernel) (by decide +kernel)
set_option maxRecDepth 20000 in
theorem gX4_countDownRegistrars_X3_countDown_n183 : GoodIn wsX4_countDownRegistrars (wsX3_countDown) := ggX4_countDownRegistrars_X3_countDown
theorem dX4_countDownRegistrars_0 : decode cX4_countDownRegistrars 0 = .ok (.iconst 0, 1) := by decide +kernel
theorem dX4_countDownRegistrars_1 : decode cX4_countDownRegistrars 1 = .ok (.istore_n 2, 1) := by decide +kernel
theorem dX4_countDownRegistrars_2 : decode cX4_countDownRegistrars 2 = .ok (.iload_n 2, 1) := by decide +kernel
theorem dX4_countDownRegistrars_3 : decode cX4_countDownRegistrars 3 = .ok (.iconst 4, 1) := by decide +kernel
theorem dX4_countDownRegistrars_4 : decode cX4_countDownRegistrars 4 = .ok (.if_icmp .ge 21, 3) := by decide +kernel
theorem dX4_countDownRegistrars_7 : decode cX4_countDownRegistrars 7 = .ok (.aload_n 0, 1) := by decide +kernel
theorem dX4_countDownRegistrars_8 : decode cX4_countDownRegistrars 8 = .ok (.getfield 19, 3) := by decide +kernel
theorem dX4_countDownRegistrars_11 : decode cX4_countDownRegistrars 11 = .ok (.iload_n 1, 1) := by decide +kernel
theorem dX4_countDownRegistrars_12 : decode cX4_countDownRegistrars 12 = .ok (.iload_n 2, 1) := by decide +kernel
theorem dX4_countDownRegistrars_13 : decode cX4_countDownRegistrars 13 = .ok (.invokestatic 150, 3) := by decide +kernel
theorem dX4_countDownRegistrars_16 : decode cX4_countDownRegistrars 16 = .ok (.invokevirtual 183, 3) := by decide +kernel
theorem dX4_countDownRegistrars_19 : decode cX4_countDownRegistrars 19 = .ok (.iinc 2 1, 3) := by decide +kernel
theorem dX4_countDownRegistrars_22 : decode cX4_countDownRegistrars 22 = .ok (.goto (-20), 3) := by decide +kernel
theorem dX4_countDownRegistrars_25 : decode cX4_countDownRegistrars 25 = .ok (.return_, 1) := by decide +kernel
theorem dX4_countDownToLeaveAll_0 : decode cX4_countDownToLeaveAll 0 = .ok (.aload_n 0, 1) := by decide +kernel
theorem dX4_countDownToLeaveAll_1 : decode cX4_countDownToLeaveAll 1 = .ok (.getfield 37, 3) := by decide +kernel
theorem dX4_countDownToLeaveAll_4 : decode cX4_countDownToLeaveAll 4 = .ok (.iload_n 1, 1) := by decide +kernel
theorem dX4_countDownToLeaveAll_5 : decode cX4_countDownToLeaveAll 5 = .ok (.iaload, 1) := by decide +kernel
theorem dX4_countDownToLeaveAll_6 : decode cX4_countDownToLeaveAll 6 = .ok (.ifCond .le 39, 3) := by decide +kernel
theorem dX4_countDownToLeaveAll_9 : decode cX4_countDownToLeaveAll 9 = .ok (.aload_n 0, 1) := by decide +kernel
theorem dX4_countDownToLeaveAll_10 : decode cX4_countDownToLeaveAll 10 = .ok (.getfield 37, 3) := by decide +kernel
theorem dX4_countDownToLeaveAll_13 : decode cX4_countDownToLeaveAll 13 = .ok (.iload_n 1, 1) := by decide +kernel
theorem dX4_countDownToLeaveAll_14 : decode cX4_countDownToLeaveAll 14 = .ok (.dup2, 1) := by decide +kernel
theorem dX4_countDownToLeaveAll_15 : decode cX4_countDownToLeaveAll 15 = .ok (.iaload, 1) := by decide +kernel
theorem dX4_countDownToLeaveAll_16 : decode cX4_countDownToLeaveAll 16 = .ok (.iconst 1, 1) := by decide +kernel
theorem dX4_countDownToLeaveAll_17 : decode cX4_countDownToLeaveAll 17 = .ok (.isub, 1) := by decide +kernel
theorem dX4_countDownToLeaveAll_18 : decode cX4_countDownToLeaveAll 18 = .ok (.iastore, 1) := by decide +kernel
theorem dX4_countDownToLeaveAll_19 : decode cX4_countDownToLeaveAll 19 = .ok (.aload_n 0, 1) := by decide +kernel
theorem dX4_countDownToLeaveAll_20 : decode cX4_countDownToLeaveAll 20 = .ok (.getfield 37, 3) := by decide +kernel
theorem dX4_countDownToLeaveAll_23 : decode cX4_countDownToLeaveAll 23 = .ok (.iload_n 1, 1) := by decide +kernel
theorem dX4_countDownToLeaveAll_24 : decode cX4_countDownToLeaveAll 24 = .ok (.iaload, 1) := by decide +kernel
theorem dX4_countDownToLeaveAll_25 : decode cX4_countDownToLeaveAll 25 = .ok (.ifCond .ne 20, 3) := by decide +kernel
theorem dX4_countDownToLeaveAll_28 : decode cX4_countDownToLeaveAll 28 = .ok (.aload_n 0, 1) := by decide +kernel
theorem dX4_countDownToLeaveAll_29 : decode cX4_countDownToLeaveAll 29 = .ok (.getfield 41, 3) := by decide +kernel
theorem dX4_countDownToLeaveAll_32 : decode cX4_countDownToLeaveAll 32 = .ok (.iload_n 1, 1) := by decide +kernel
theorem dX4_countDownToLeaveAll_33 : decode cX4_countDownToLeaveAll 33 = .ok (.iconst 1, 1) := by decide +kernel
theorem dX4_countDownToLeaveAll_34 : decode cX4_countDownToLeaveAll 34 = .ok (.bastore, 1) := by decide +kernel
theorem dX4_countDownToLeaveAll_35 : decode cX4_countDownToLeaveAll 35 = .ok (.aload_n 0, 1) := by decide +kernel
theorem dX4_countDownToLeaveAll_36 : decode cX4_countDownToLeaveAll 36 = .ok (.getfield 37, 3) := by decide +kernel
theorem dX4_countDownToLeaveAll_39 : decode cX4_countDownToLeaveAll 39 = .ok (.iload_n 1, 1) := by decide +kernel
theorem dX4_countDownToLeaveAll_40 : decode cX4_countDownToLeaveAll 40 = .ok (.aload_n 0, 1) := by decide +kernel
theorem dX4_countDownToLeaveAll_41 : decode cX4_countDownToLeaveAll 41 = .ok (.getfield 55, 3) := by decide +kernel
theorem dX4_countDownToLeaveAll_44 : decode cX4_countDownToLeaveAll 44 = .ok (.iastore, 1) := by decide +kernel
theorem dX4_countDownToLeaveAll_45 : decode cX4_countDownToLeaveAll 45 = .ok (.return_, 1) := by decide +kernel
set_option maxRecDepth 20000 in
theorem ggX4_propagate_X1_isConnected : GoodIn wsX4_propagate wsX1_isConnected := goodIn_r _ [5, 6, 7, 8, 9, 58, 59, 60, 61] (by decide +kernel) (by decide +kernel)
set_option maxRecDepth 20000 in
theorem gX4_propagate_X1_isConnected_n68 : GoodIn wsX4_propagate (wsX1_isConnected) := ggX4_propagate_X1_isConnected
set_option maxRecDepth 20000 in
theorem ggX4_propagate_X4_propagateTo : GoodIn wsX4_propagate wsX4_propagateTo := goodIn_r _ [13, 14, 15, 16, 17, 8, 18, 19, 20, 21, 22, 23, 24, 25, 1, 26, 2, 3, 4, 5, 6, 7, 9, 27, 28, 29, 30, 31, 32, 33, 34, 35, 36, 37, 38, 39, 40, 41, 42, 43, 44, 45, 46, 47, 48, 49, 50, 51, 52, 53, 54, 55, 56, 57, 62, 63, 58, 59, 60, 61, 64, 65] (by decide +kernel) (by decide +kernel)
set_option maxRecDepth 20000 in
theorem gX4_propagate_X4_propagateTo : GoodIn wsX4_propagate (wsV RX4 186 RX4 yX4_propagateTo wsX4_propagateTo) := goodIn_app (goodIn_of _ (by decide +kernel)) ggX4_propagate_X4_propagateTo
theorem dX4_propagate_0 : decode cX4_propagate 0 = .ok (.iconst 0, 1) := by decide +kernel
theorem dX4_propagate_1 : decode cX4_propagate 1 = .ok (.istore_n 1, 1) := by decide +kernel
theorem dX4_propagate_2 : decode cX4_propagate 2 = .ok (.iload_n 1, 1) := by decide +kernel
theorem dX4_propagate_3 : decode cX4_propagate 3 = .ok (.bipush 20, 2) := by decide +kernel
theorem dX4_propagate_5 : decode cX4_propagate 5 = .ok (.if_icmp .ge 25, 3) := by decide +kernel
theorem dX4_propagate_8 : decode cX4_propagate 8 = .ok (.aload_n 0, 1) := by decide +kernel
theorem dX4_propagate_9 : decode cX4_propagate 9 = .ok (.getfield 12, 3) := by decide +kernel
theorem dX4_propagate_12 : decode cX4_propagate 12 = .ok (.iload_n 1, 1) := by decide +kernel
theorem dX4_propagate_13 : decode cX4_propagate 13 = .ok (.invokevirtual 68, 3) := by decide +kernel
theorem dX4_propagate_16 : decode cX4_propagate 16 = .ok (.ifCond .eq 8, 3) := by decide +kernel
theorem dX4_propagate_19 : decode cX4_propagate 19 = .ok (.aload_n 0, 1) := by decide +kernel
theorem dX4_propagate_20 : decode cX4_propagate 20 = .ok (.iload_n 1, 1) := by decide +kernel
theorem dX4_propagate_21 : decode cX4_propagate 21 = .ok (.invokevirtual 186, 3) := by decide +kernel
theorem dX4_propagate_24 : decode cX4_propagate 24 = .ok (.iinc 1 1, 3) := by decide +kernel
theorem dX4_propagate_27 : decode cX4_propagate 27 = .ok (.goto (-25), 3) := by decide +kernel
theorem dX4_propagate_30 : decode cX4_propagate 30 = .ok (.return_, 1) := by decide +kernel
set_option maxRecDepth 20000 in
theorem ggX4_propagateTo_X4_isWanted : GoodIn wsX4_propagateTo wsX4_isWanted := goodIn_r _ [6, 7, 8, 5, 9, 10, 11, 12, 13, 14, 15, 16, 17, 18, 19, 20, 21, 22, 23, 24, 25, 43, 44, 45, 46, 47, 48, 49, 50, 51, 52, 53, 54, 55, 56, 57, 58, 59] (by decide +kernel) (by decide +kernel)
set_option maxRecDepth 20000 in
theorem gX4_propagateTo_X4_isWanted : GoodIn wsX4_propagateTo (wsV RX4 174 RX4 yX4_isWanted wsX4_isWanted) := goodIn_app (goodIn_of _ (by decide +kernel)) ggX4_propagateTo_X4_isWanted
set_option maxRecDepth 20000 in
theorem ggX4_propagateTo_X4_cellOf : GoodIn wsX4_propagateTo wsX4_cellOf := goodIn_r _ [25] (by decide +kernel) (by decide +kernel)
set_option maxRecDepth 20000 in
theorem gX4_propagateTo_X4_cellOf : GoodIn wsX4_propagateTo (va_wsS RX4 150 yX4_cellOf wsX4_cellOf) := goodIn_app (goodIn_of _ (by decide +kernel)) ggX4_propagateTo_X4_cellOf
set_option maxRecDepth 20000 in
theorem ggX4_propagateTo_X0_startDeclaring : GoodIn wsX4_propagateTo wsX0_startDeclaring := goodIn_r _ [29, 30, 31, 32, 27, 33, 34, 35, 36, 37, 38, 39, 60, 61] (by decide +kernel) (by decide +kernel)
set_option maxRecDepth 20000 in
theorem gX4_propagateTo_X0_startDeclaring_n104 : GoodIn wsX4_propagateTo (wsX0_startDeclaring) := ggX4_propagateTo_X0_startDeclaring
set_option maxRecDepth 20000 in
theorem ggX4_propagateTo_X0_stopDeclaring : GoodIn wsX4_propagateTo wsX0_stopDeclaring := goodIn_r _ [42, 30, 31, 32, 27, 33, 34, 35, 36, 37, 38, 39, 60, 61] (by decide +kernel) (by decide +kernel)
set_option maxRecDepth 20000 in
theorem gX4_propagateTo_X0_stopDeclaring_n107 : GoodIn wsX4_propagateTo (wsX0_stopDeclaring) := ggX4_propagateTo_X0_stopDeclaring
theorem dX4_propagateTo_0 : decode cX4_propagateTo 0 = .ok (.iconst 0, 1) := by decide +kernel
theorem dX4_propagateTo_1 : decode cX4_propagateTo 1 = .ok (.istore_n 2, 1) := by decide +kernel
theorem dX4_propagateTo_2 : decode cX4_propagateTo 2 = .ok (.iload_n 2, 1) := by decide +kernel
theorem dX4_propagateTo_3 : decode cX4_propagateTo 3 = .ok (.iconst 4, 1) := by decide +kernel
theorem dX4_propagateTo_4 : decode cX4_propagateTo 4 = .ok (.if_icmp .ge 47, 3) := by decide +kernel
theorem dX4_propagateTo_7 : decode cX4_propagateTo 7 = .ok (.aload_n 0, 1) := by decide +kernel
theorem dX4_propagateTo_8 : decode cX4_propagateTo 8 = .ok (.iload_n 1, 1) := by decide +kernel
theorem dX4_propagateTo_9 : decode cX4_propagateTo 9 = .ok (.iload_n 2, 1) := by decide +kernel
theorem dX4_propagateTo_10 : decode cX4_propagateTo 10 = .ok (.invokevirtual 174, 3) := by decide +kernel
theorem dX4_propagateTo_13 : decode cX4_propagateTo 13 = .ok (.ifCond .eq 19, 3) := by decide +kernel
theorem dX4_propagateTo_16 : decode cX4_propagateTo 16 = .ok (.aload_n 0, 1) := by decide +kernel
theorem dX4_propagateTo_17 : decode cX4_propagateTo 17 = .ok (.getfield 26, 3) := by decide +kernel
theorem dX4_propagateTo_20 : decode cX4_propagateTo 20 = .ok (.iload_n 1, 1) := by decide +kernel
theorem dX4_propagateTo_21 : decode cX4_propagateTo 21 = .ok (.iload_n 2, 1) := by decide +kernel
theorem dX4_propagateTo_22 : decode cX4_propagateTo 22 = .ok (.invokestatic 150, 3) := by decide +kernel
theorem dX4_propagateTo_25 : decode cX4_propagateTo 25 = .ok (.invokevirtual 104, 3) := by decide +kernel
theorem dX4_propagateTo_28 : decode cX4_propagateTo 28 = .ok (.pop, 1) := by decide +kernel
theorem dX4_propagateTo_29 : decode cX4_propagateTo 29 = .ok (.goto 16, 3) := by decide +kernel
theorem dX4_propagateTo_32 : decode cX4_propagateTo 32 = .ok (.aload_n 0, 1) := by decide +kernel
theorem dX4_propagateTo_33 : decode cX4_propagateTo 33 = .ok (.getfield 26, 3) := by decide +kernel
theorem dX4_propagateTo_36 : decode cX4_propagateTo 36 = .ok (.iload_n 1, 1) := by decide +kernel
theorem dX4_propagateTo_37 : decode cX4_propagateTo 37 = .ok (.iload_n 2, 1) := by decide +kernel
theorem dX4_propagateTo_38 : decode cX4_propagateTo 38 = .ok (.invokestatic 150, 3) := by decide +kernel
theorem dX4_propagateTo_41 : decode cX4_propagateTo 41 = .ok (.invokevirtual 107, 3) := by decide +kernel
theorem dX4_propagateTo_44 : decode cX4_propagateTo 44 = .ok (.pop, 1) := by decide +kernel
theorem dX4_propagateTo_45 : decode cX4_propagateTo 45 = .ok (.iinc 2 1, 3) := by decide +kernel
theorem dX4_propagateTo_48 : decode cX4_propagateTo 48 = .ok (.goto (-46), 3) := by decide +kernel
theorem dX4_propagateTo_51 : decode cX4_propagateTo 51 = .ok (.return_, 1) := by decide +kernel
set_option maxRecDepth 20000 in
theorem ggX4_sendAll_X2_clear : GoodIn wsX4_sendAll wsX2_clear := goodIn_r _ [7, 8, 9, 10, 11, 12, 13, 74, 75] (by decide +kernel) (by decide +kernel)
set_option maxRecDepth 20000 in
theorem gX4_sendAll_X2_clear_n189 : GoodIn wsX4_sendAll (wsX2_clear) := ggX4_sendAll_X2_clear
set_option maxRecDepth 20000 in
theorem ggX4_sendAll_X1_isConnected : GoodIn wsX4_sendAll wsX1_isConnected := goodIn_r _ [17, 18, 19, 20, 21, 76, 77, 78, 79] (by decide +kernel) (by decide +kernel)
set_option maxRecDepth 20000 in
theorem gX4_sendAll_X1_isConnected_n68 : GoodIn wsX4_sendAll (wsX1_isConnected) := ggX4_sendAll_X1_isConnected
set_option maxRecDepth 20000 in
theorem ggX4_sendAll_X4_sendFrom : GoodIn wsX4_sendAll wsX4_sendFrom := goodIn_r _ [25, 26, 1, 27, 28, 29, 20, 30, 31, 32, 33, 34, 35, 36, 37, 38, 39, 40, 41, 42, 43, 44, 45, 46, 47, 48, 49, 50, 51, 52, 53, 54, 55, 56, 57, 58, 59, 60, 61, 62, 63, 64, 65, 66, 67, 68, 69, 70, 71, 72, 73, 74, 75, 80, 81, 82, 83] (by decide +kernel) (by decide +kernel)
set_option maxRecDepth 20000 in
theorem gX4_sendAll_X4_sendFrom : GoodIn wsX4_sendAll (wsV RX4 192 RX4 yX4_sendFrom wsX4_sendFrom) := goodIn_app (goodIn_of _ (by decide +kernel)) ggX4_sendAll_X4_sendFrom
theorem dX4_sendAll_0 : decode cX4_sendAll 0 = .ok (.aload_n 0, 1) := by decide +kernel
theorem dX4_sendAll_1 : decode cX4_sendAll 1 = .ok (.getfield 33, 3) := by decide +kernel
theorem dX4_sendAll_4 : decode cX4_sendAll 4 = .ok (.invokevirtual 189, 3) := by decide +kernel
theorem dX4_sendAll_7 : decode cX4_sendAll 7 = .ok (.iconst 0, 1) := by decide +kernel
theorem dX4_sendAll_8 : decode cX4_sendAll 8 = .ok (.istore_n 1, 1) := by decide +kernel
theorem dX4_sendAll_9 : decode cX4_sendAll 9 = .ok (.iconst 0, 1) := by decide +kernel
theorem dX4_sendAll_10 : decode cX4_sendAll 10 = .ok (.istore_n 2, 1) := by decide +kernel
theorem dX4_sendAll_11 : decode cX4_sendAll 11 = .ok (.iload_n 2, 1) := by decide +kernel
theorem dX4_sendAll_12 : decode cX4_sendAll 12 = .ok (.bipush 28, 2) := by decide +kernel
theorem dX4_sendAll_14 : decode cX4_sendAll 14 = .ok (.if_icmp .ge 37, 3) := by decide +kernel
theorem dX4_sendAll_17 : decode cX4_sendAll 17 = .ok (.aload_n 0, 1) := by decide +kernel
theorem dX4_sendAll_18 : decode cX4_sendAll 18 = .ok (.getfield 12, 3) := by decide +kernel
theorem dX4_sendAll_21 : decode cX4_sendAll 21 = .ok (.iload_n 2, 1) := by decide +kernel
theorem dX4_sendAll_22 : decode cX4_sendAll 22 = .ok (.invokevirtual 68, 3) := by decide +kernel
theorem dX4_sendAll_25 : decode cX4_sendAll 25 = .ok (.ifCond .eq 20, 3) := by decide +kernel
theorem dX4_sendAll_28 : decode cX4_sendAll 28 = .ok (.aload_n 0, 1) := by decide +kernel
theorem dX4_sendAll_29 : decode cX4_sendAll 29 = .ok (.getfield 48, 3) := by decide +kernel
theorem dX4_sendAll_32 : decode cX4_sendAll 32 = .ok (.iload_n 2, 1) := by decide +kernel
theorem dX4_sendAll_33 : decode cX4_sendAll 33 = .ok (.baload, 1) := by decide +kernel
theorem dX4_sendAll_34 : decode cX4_sendAll 34 = .ok (.ifCond .ne 11, 3) := by decide +kernel
theorem dX4_sendAll_37 : decode cX4_sendAll 37 = .ok (.iload_n 1, 1) := by decide +kernel
theorem dX4_sendAll_38 : decode cX4_sendAll 38 = .ok (.aload_n 0, 1) := by decide +kernel
theorem dX4_sendAll_39 : decode cX4_sendAll 39 = .ok (.iload_n 2, 1) := by decide +kernel
theorem dX4_sendAll_40 : decode cX4_sendAll 40 = .ok (.invokevirtual 192, 3) := by decide +kernel
theorem dX4_sendAll_43 : decode cX4_sendAll 43 = .ok (.iadd, 1) := by decide +kernel
theorem dX4_sendAll_44 : decode cX4_sendAll 44 = .ok (.istore_n 1, 1) := by decide +kernel
theorem dX4_sendAll_45 : decode cX4_sendAll 45 = .ok (.iinc 2 1, 3) := by decide +kernel
theorem dX4_sendAll_48 : decode cX4_sendAll 48 = .ok (.goto (-37), 3) := by decide +kernel
theorem dX4_sendAll_51 : decode cX4_sendAll 51 = .ok (.iload_n 1, 1) := by decide +kernel
theorem dX4_sendAll_52 : decode cX4_sendAll 52 = .ok (.ireturn, 1) := by decide +kernel
set_option maxRecDepth 20000 in
theorem ggX4_sendFrom_X4_isPort : GoodIn wsX4_sendFrom wsX4_isPort := goodIn_r _ [7] (by decide +kernel) (by decide +kernel)
set_option maxRecDepth 20000 in
theorem gX4_sendFrom_X4_isPort : GoodIn wsX4_sendFrom (va_wsS RX4 89 yX4_isPort wsX4_isPort) := goodIn_app (goodIn_of _ (by decide +kernel)) ggX4_sendFrom_X4_isPort
set_option maxRecDepth 20000 in
theorem ggX4_sendFrom_X4_obeyLeaveAll : GoodIn wsX4_sendFrom wsX4_obeyLeaveAll := goodIn_r _ [11, 12, 13, 3, 14, 15, 6, 16, 4, 5, 7, 17, 18, 19, 20, 21, 22, 23, 24, 25, 26, 27, 28, 29, 30, 31, 32, 33, 34, 35, 36, 40, 41, 42, 43, 44, 45, 46, 47, 48, 49, 50, 53, 54, 55, 56] (by decide +kernel) (by decide +kernel)
set_option maxRecDepth 20000 in
theorem gX4_sendFrom_X4_obeyLeaveAll : GoodIn wsX4_sendFrom (wsV RX4 198 RX4 yX4_obeyLeaveAll wsX4_obeyLeaveAll) := goodIn_app (goodIn_of _ (by decide +kernel)) ggX4_sendFrom_X4_obeyLeaveAll
set_option maxRecDepth 20000 in
theorem ggX4_sendFrom_X4_cellOf : GoodIn wsX4_sendFrom wsX4_cellOf := goodIn_r _ [16] (by decide +kernel) (by decide +kernel)
set_option maxRecDepth 20000 in
theorem gX4_sendFrom_X4_cellOf : GoodIn wsX4_sendFrom (va_wsS RX4 150 yX4_cellOf wsX4_cellOf) := goodIn_app (goodIn_of _ (by decide +kernel)) ggX4_sendFrom_X4_cellOf
set_option maxRecDepth 20000 in
theorem ggX4_sendFrom_X0_nextMessage : GoodIn wsX4_sendFrom wsX0_nextMessage := goodIn_r _ [39, 31, 36, 55, 56] (by decide +kernel) (by decide +kernel)
set_option maxRecDepth 20000 in
theorem gX4_sendFrom_X0_nextMessage_n204 : GoodIn wsX4_sendFrom (wsX0_nextMessage) := ggX4_sendFrom_X0_nextMessage
theorem dX4_sendFrom_0 : decode cX4_sendFrom 0 = .ok (.iconst 0, 1) := by decide +kernel
theorem dX4_sendFrom_1 : decode cX4_sendFrom 1 = .ok (.istore_n 2, 1) := by decide +kernel
theorem dX4_sendFrom_2 : decode cX4_sendFrom 2 = .ok (.iload_n 1, 1) := by decide +kernel
theorem dX4_sendFrom_3 : decode cX4_sendFrom 3 = .ok (.invokestatic 89, 3) := by decide +kernel
theorem dX4_sendFrom_6 : decode cX4_sendFrom 6 = .ok (.ifCond .eq 30, 3) := by decide +kernel
theorem dX4_sendFrom_9 : decode cX4_sendFrom 9 = .ok (.aload_n 0, 1) := by decide +kernel
theorem dX4_sendFrom_10 : decode cX4_sendFrom 10 = .ok (.getfield 41, 3) := by decide +kernel
theorem dX4_sendFrom_13 : decode cX4_sendFrom 13 = .ok (.iload_n 1, 1) := by decide +kernel
theorem dX4_sendFrom_14 : decode cX4_sendFrom 14 = .ok (.baload, 1) := by decide +kernel
theorem dX4_sendFrom_15 : decode cX4_sendFrom 15 = .ok (.ifCond .eq 21, 3) := by decide +kernel
theorem dX4_sendFrom_18 : decode cX4_sendFrom 18 = .ok (.aload_n 0, 1) := by decide +kernel
theorem dX4_sendFrom_19 : decode cX4_sendFrom 19 = .ok (.getfield 33, 3) := by decide +kernel
theorem dX4_sendFrom_22 : decode cX4_sendFrom 22 = .ok (.getfield 195, 3) := by decide +kernel
theorem dX4_sendFrom_25 : decode cX4_sendFrom 25 = .ok (.iload_n 1, 1) := by decide +kernel
theorem dX4_sendFrom_26 : decode cX4_sendFrom 26 = .ok (.iconst 1, 1) := by decide +kernel
theorem dX4_sendFrom_27 : decode cX4_sendFrom 27 = .ok (.bastore, 1) := by decide +kernel
theorem dX4_sendFrom_28 : decode cX4_sendFrom 28 = .ok (.aload_n 0, 1) := by decide +kernel
theorem dX4_sendFrom_29 : decode cX4_sendFrom 29 = .ok (.iload_n 1, 1) := by decide +kernel
theorem dX4_sendFrom_30 : decode cX4_sendFrom 30 = .ok (.invokevirtual 198, 3) := by decide +kernel
theorem dX4_sendFrom_33 : decode cX4_sendFrom 33 = .ok (.iinc 2 1, 3) := by decide +kernel
theorem dX4_sendFrom_36 : decode cX4_sendFrom 36 = .ok (.iconst 0, 1) := by decide +kernel
theorem dX4_sendFrom_37 : decode cX4_sendFrom 37 = .ok (.istore_n 3, 1) := by decide +kernel
theorem dX4_sendFrom_38 : decode cX4_sendFrom 38 = .ok (.iload_n 3, 1) := by decide +kernel
theorem dX4_sendFrom_39 : decode cX4_sendFrom 39 = .ok (.iconst 4, 1) := by decide +kernel
theorem dX4_sendFrom_40 : decode cX4_sendFrom 40 = .ok (.if_icmp .ge 51, 3) := by decide +kernel
theorem dX4_sendFrom_43 : decode cX4_sendFrom 43 = .ok (.iload_n 1, 1) := by decide +kernel
theorem dX4_sendFrom_44 : decode cX4_sendFrom 44 = .ok (.iload_n 3, 1) := by decide +kernel
theorem dX4_sendFrom_45 : decode cX4_sendFrom 45 = .ok (.invokestatic 150, 3) := by decide +kernel
theorem dX4_sendFrom_48 : decode cX4_sendFrom 48 = .ok (.istore 4, 2) := by decide +kernel
theorem dX4_sendFrom_50 : decode cX4_sendFrom 50 = .ok (.aload_n 0, 1) := by decide +kernel
theorem dX4_sendFrom_51 : decode cX4_sendFrom 51 = .ok (.getfield 33, 3) := by decide +kernel
theorem dX4_sendFrom_54 : decode cX4_sendFrom 54 = .ok (.getfield 201, 3) := by decide +kernel
theorem dX4_sendFrom_57 : decode cX4_sendFrom 57 = .ok (.iload 4, 2) := by decide +kernel
theorem dX4_sendFrom_59 : decode cX4_sendFrom 59 = .ok (.aload_n 0, 1) := by decide +kernel
theorem dX4_sendFrom_60 : decode cX4_sendFrom 60 = .ok (.getfield 26, 3) := by decide +kernel
theorem dX4_sendFrom_63 : decode cX4_sendFrom 63 = .ok (.iload 4, 2) := by decide +kernel
theorem dX4_sendFrom_65 : decode cX4_sendFrom 65 = .ok (.invokevirtual 204, 3) := by decide +kernel
theorem dX4_sendFrom_68 : decode cX4_sendFrom 68 = .ok (.iastore, 1) := by decide +kernel
theorem dX4_sendFrom_69 : decode cX4_sendFrom 69 = .ok (.aload_n 0, 1) := by decide +kernel
theorem dX4_sendFrom_70 : decode cX4_sendFrom 70 = .ok (.getfield 33, 3) := by decide +kernel
theorem dX4_sendFrom_73 : decode cX4_sendFrom 73 = .ok (.getfield 201, 3) := by decide +kernel
theorem dX4_sendFrom_76 : decode cX4_sendFrom 76 = .ok (.iload 4, 2) := by decide +kernel
theorem dX4_sendFrom_78 : decode cX4_sendFrom 78 = .ok (.iaload, 1) := by decide +kernel
theorem dX4_sendFrom_79 : decode cX4_sendFrom 79 = .ok (.ifCond .eq 6, 3) := by decide +kernel
theorem dX4_sendFrom_82 : decode cX4_sendFrom 82 = .ok (.iinc 2 1, 3) := by decide +kernel
theorem dX4_sendFrom_85 : decode cX4_sendFrom 85 = .ok (.iinc 3 1, 3) := by decide +kernel
theorem dX4_sendFrom_88 : decode cX4_sendFrom 88 = .ok (.goto (-50), 3) := by decide +kernel
theorem dX4_sendFrom_91 : decode cX4_sendFrom 91 = .ok (.iload_n 2, 1) := by decide +kernel
theorem dX4_sendFrom_92 : decode cX4_sendFrom 92 = .ok (.ireturn, 1) := by decide +kernel
set_option maxRecDepth 20000 in
theorem ggX4_obeyLeaveAll_X4_cellOf : GoodIn wsX4_obeyLeaveAll wsX4_cellOf := goodIn_r _ [7] (by decide +kernel) (by decide +kernel)
set_option maxRecDepth 20000 in
theorem gX4_obeyLeaveAll_X4_cellOf : GoodIn wsX4_obeyLeaveAll (va_wsS RX4 150 yX4_cellOf wsX4_cellOf) := goodIn_app (goodIn_of _ (by decide +kernel)) ggX4_obeyLeaveAll_X4_cellOf
set_option maxRecDepth 20000 in
theorem ggX4_obeyLeaveAll_X4_isPort : GoodIn wsX4_obeyLeaveAll wsX4_isPort := goodIn_r _ [10] (by decide +kernel) (by decide +kernel)
set_option maxRecDepth 20000 in
theorem gX4_obeyLeaveAll_X4_isPort : GoodIn wsX4_obeyLeaveAll (va_wsS RX4 89 yX4_isPort wsX4_isPort) := goodIn_app (goodIn_of _ (by decide +kernel)) ggX4_obeyLeaveAll_X4_isPort
set_option maxRecDepth 20000 in
theorem ggX4_obeyLeaveAll_X3_startLeaving : GoodIn wsX4_obeyLeaveAll wsX3_startLeaving := goodIn_r _ [14, 15, 16, 17, 18, 12, 19, 20, 42, 43] (by decide +kernel) (by decide +kernel)
set_option maxRecDepth 20000 in
theorem gX4_obeyLeaveAll_X3_startLeaving_n207 : GoodIn wsX4_obeyLeaveAll (wsX3_startLeaving) := ggX4_obeyLeaveAll_X3_startLeaving
set_option maxRecDepth 20000 in
theorem ggX4_obeyLeaveAll_X0_declareAgain : GoodIn wsX4_obeyLeaveAll wsX0_declareAgain := goodIn_r _ [24, 25, 26, 27, 28, 22, 29, 30, 44, 45] (by decide +kernel) (by decide +kernel)
set_option maxRecDepth 20000 in
theorem gX4_obeyLeaveAll_X0_declareAgain_n210 : GoodIn wsX4_obeyLeaveAll (wsX0_declareAgain) := ggX4_obeyLeaveAll_X0_declareAgain
theorem dX4_obeyLeaveAll_0 : decode cX4_obeyLeaveAll 0 = .ok (.iconst 0, 1) := by decide +kernel
theorem dX4_obeyLeaveAll_1 : decode cX4_obeyLeaveAll 1 = .ok (.istore_n 2, 1) := by decide +kernel
theorem dX4_obeyLeaveAll_2 : decode cX4_obeyLeaveAll 2 = .ok (.iload_n 2, 1) := by decide +kernel
theorem dX4_obeyLeaveAll_3 : decode cX4_obeyLeaveAll 3 = .ok (.iconst 4, 1) := by decide +kernel
theorem dX4_obeyLeaveAll_4 : decode cX4_obeyLeaveAll 4 = .ok (.if_icmp .ge 42, 3) := by decide +kernel
theorem dX4_obeyLeaveAll_7 : decode cX4_obeyLeaveAll 7 = .ok (.iload_n 1, 1) := by decide +kernel
theorem dX4_obeyLeaveAll_8 : decode cX4_obeyLeaveAll 8 = .ok (.iload_n 2, 1) := by decide +kernel
theorem dX4_obeyLeaveAll_9 : decode cX4_obeyLeaveAll 9 = .ok (.invokestatic 150, 3) := by decide +kernel
theorem dX4_obeyLeaveAll_12 : decode cX4_obeyLeaveAll 12 = .ok (.istore_n 3, 1) := by decide +kernel
theorem dX4_obeyLeaveAll_13 : decode cX4_obeyLeaveAll 13 = .ok (.iload_n 1, 1) := by decide +kernel
theorem dX4_obeyLeaveAll_14 : decode cX4_obeyLeaveAll 14 = .ok (.invokestatic 89, 3) := by decide +kernel
theorem dX4_obeyLeaveAll_17 : decode cX4_obeyLeaveAll 17 = .ok (.ifCond .eq 15, 3) := by decide +kernel
theorem dX4_obeyLeaveAll_20 : decode cX4_obeyLeaveAll 20 = .ok (.aload_n 0, 1) := by decide +kernel
theorem dX4_obeyLeaveAll_21 : decode cX4_obeyLeaveAll 21 = .ok (.getfield 19, 3) := by decide +kernel
theorem dX4_obeyLeaveAll_24 : decode cX4_obeyLeaveAll 24 = .ok (.iload_n 3, 1) := by decide +kernel
theorem dX4_obeyLeaveAll_25 : decode cX4_obeyLeaveAll 25 = .ok (.aload_n 0, 1) := by decide +kernel
theorem dX4_obeyLeaveAll_26 : decode cX4_obeyLeaveAll 26 = .ok (.getfield 51, 3) := by decide +kernel
theorem dX4_obeyLeaveAll_29 : decode cX4_obeyLeaveAll 29 = .ok (.invokevirtual 207, 3) := by decide +kernel
theorem dX4_obeyLeaveAll_32 : decode cX4_obeyLeaveAll 32 = .ok (.aload_n 0, 1) := by decide +kernel
theorem dX4_obeyLeaveAll_33 : decode cX4_obeyLeaveAll 33 = .ok (.getfield 26, 3) := by decide +kernel
theorem dX4_obeyLeaveAll_36 : decode cX4_obeyLeaveAll 36 = .ok (.iload_n 3, 1) := by decide +kernel
theorem dX4_obeyLeaveAll_37 : decode cX4_obeyLeaveAll 37 = .ok (.invokevirtual 210, 3) := by decide +kernel
theorem dX4_obeyLeaveAll_40 : decode cX4_obeyLeaveAll 40 = .ok (.iinc 2 1, 3) := by decide +kernel
theorem dX4_obeyLeaveAll_43 : decode cX4_obeyLeaveAll 43 = .ok (.goto (-41), 3) := by decide +kernel
theorem dX4_obeyLeaveAll_46 : decode cX4_obeyLeaveAll 46 = .ok (.return_, 1) := by decide +kernel
set_option maxRecDepth 20000 in
theorem ggX4_receiveAll_X4_isStation : GoodIn wsX4_receiveAll wsX4_isStation := goodIn_r _ [6] (by decide +kernel) (by decide +kernel)
set_option maxRecDepth 20000 in
theorem gX4_receiveAll_X4_isStation : GoodIn wsX4_receiveAll (va_wsS RX4 213 yX4_isStation wsX4_isStation) := goodIn_app (goodIn_of _ (by decide +kernel)) ggX4_receiveAll_X4_isStation
set_option maxRecDepth 20000 in
theorem ggX4_receiveAll_X4_receiveFrom : GoodIn wsX4_receiveAll wsX4_receiveFrom := goodIn_r _ [10, 11, 12, 13, 14, 15, 16, 5, 17, 18, 19, 20, 21, 22, 23, 24, 25, 26, 27, 28, 29, 30, 31, 32, 33, 34, 35, 36, 37, 38, 39, 40, 41, 42, 43, 44, 45, 46, 47, 48, 49, 50, 51, 52, 53, 54, 55, 56, 57, 58, 59, 64, 65, 66, 67, 68, 69] (by decide +kernel) (by decide +kernel)
set_option maxRecDepth 20000 in
theorem gX4_receiveAll_X4_receiveFrom : GoodIn wsX4_receiveAll (wsV RX4 216 RX4 yX4_receiveFrom wsX4_receiveFrom) := goodIn_app (goodIn_of _ (by decide +kernel)) ggX4_receiveAll_X4_receiveFrom
theorem dX4_receiveAll_0 : decode cX4_receiveAll 0 = .ok (.iconst 0, 1) := by decide +kernel
theorem dX4_receiveAll_1 : decode cX4_receiveAll 1 = .ok (.istore_n 1, 1) := by decide +kernel
theorem dX4_receiveAll_2 : decode cX4_receiveAll 2 = .ok (.iload_n 1, 1) := by decide +kernel
theorem dX4_receiveAll_3 : decode cX4_receiveAll 3 = .ok (.bipush 28, 2) := by decide +kernel
theorem dX4_receiveAll_5 : decode cX4_receiveAll 5 = .ok (.if_icmp .ge 48, 3) := by decide +kernel
theorem dX4_receiveAll_8 : decode cX4_receiveAll 8 = .ok (.aload_n 0, 1) := by decide +kernel
theorem dX4_receiveAll_9 : decode cX4_receiveAll 9 = .ok (.getfield 12, 3) := by decide +kernel
theorem dX4_receiveAll_12 : decode cX4_receiveAll 12 = .ok (.getfield 86, 3) := by decide +kernel
theorem dX4_receiveAll_15 : decode cX4_receiveAll 15 = .ok (.iload_n 1, 1) := by decide +kernel
theorem dX4_receiveAll_16 : decode cX4_receiveAll 16 = .ok (.iaload, 1) := by decide +kernel
theorem dX4_receiveAll_17 : decode cX4_receiveAll 17 = .ok (.istore_n 2, 1) := by decide +kernel
theorem dX4_receiveAll_18 : decode cX4_receiveAll 18 = .ok (.iload_n 2, 1) := by decide +kernel
theorem dX4_receiveAll_19 : decode cX4_receiveAll 19 = .ok (.invokestatic 213, 3) := by decide +kernel
theorem dX4_receiveAll_22 : decode cX4_receiveAll 22 = .ok (.ifCond .eq 18, 3) := by decide +kernel
theorem dX4_receiveAll_25 : decode cX4_receiveAll 25 = .ok (.aload_n 0, 1) := by decide +kernel
theorem dX4_receiveAll_26 : decode cX4_receiveAll 26 = .ok (.getfield 45, 3) := by decide +kernel
theorem dX4_receiveAll_29 : decode cX4_receiveAll 29 = .ok (.iload_n 1, 1) := by decide +kernel
theorem dX4_receiveAll_30 : decode cX4_receiveAll 30 = .ok (.baload, 1) := by decide +kernel
theorem dX4_receiveAll_31 : decode cX4_receiveAll 31 = .ok (.ifCond .ne 9, 3) := by decide +kernel
theorem dX4_receiveAll_34 : decode cX4_receiveAll 34 = .ok (.aload_n 0, 1) := by decide +kernel
theorem dX4_receiveAll_35 : decode cX4_receiveAll 35 = .ok (.iload_n 1, 1) := by decide +kernel
theorem dX4_receiveAll_36 : decode cX4_receiveAll 36 = .ok (.iload_n 2, 1) := by decide +kernel
theorem dX4_receiveAll_37 : decode cX4_receiveAll 37 = .ok (.invokevirtual 216, 3) := by decide +kernel
theorem dX4_receiveAll_40 : decode cX4_receiveAll 40 = .ok (.aload_n 0, 1) := by decide +kernel
theorem dX4_receiveAll_41 : decode cX4_receiveAll 41 = .ok (.getfield 45, 3) := by decide +kernel
theorem dX4_receiveAll_44 : decode cX4_receiveAll 44 = .ok (.iload_n 1, 1) := by decide +kernel
theorem dX4_receiveAll_45 : decode cX4_receiveAll 45 = .ok (.iconst 0, 1) := by decide +kernel
theorem dX4_receiveAll_46 : decode cX4_receiveAll 46 = .ok (.bastore, 1) := by decide +kernel
theorem dX4_receiveAll_47 : decode cX4_receiveAll 47 = .ok (.iinc 1 1, 3) := by decide +kernel
theorem dX4_receiveAll_50 : decode cX4_receiveAll 50 = .ok (.goto (-48), 3) := by decide +kernel
theorem dX4_receiveAll_53 : decode cX4_receiveAll 53 = .ok (.return_, 1) := by decide +kernel
set_option maxRecDepth 20000 in
theorem ggX4_receiveFrom_X4_obeyLeaveAll : GoodIn wsX4_receiveFrom wsX4_obeyLeaveAll := goodIn_r _ [8, 2, 3, 9, 10, 11, 7, 12, 13, 14, 15, 16, 17, 18, 19, 20, 21, 22, 23, 24, 25, 26, 27, 28, 29, 30, 31, 32, 33, 34, 35, 40, 41, 42, 43, 44, 45, 46, 47, 48, 49, 50, 53, 54, 55, 56] (by decide +kernel) (by decide +kernel)
set_option maxRecDepth 20000 in
theorem gX4_receiveFrom_X4_obeyLeaveAll : GoodIn wsX4_receiveFrom (wsV RX4 198 RX4 yX4_obeyLeaveAll wsX4_obeyLeaveAll) := goodIn_app (goodIn_of _ (by decide +kernel)) ggX4_receiveFrom_X4_obeyLeaveAll
set_option maxRecDepth 20000 in
theorem ggX4_receiveFrom_X4_isPort : GoodIn wsX4_receiveFrom wsX4_isPort := goodIn_r _ [15] (by decide +kernel) (by decide +kernel)
set_option maxRecDepth 20000 in
theorem gX4_receiveFrom_X4_isPort : GoodIn wsX4_receiveFrom (va_wsS RX4 89 yX4_isPort wsX4_isPort) := goodIn_app (goodIn_of _ (by decide +kernel)) ggX4_receiveFrom_X4_isPort
set_option maxRecDepth 20000 in
theorem ggX4_receiveFrom_X4_cellOf : GoodIn wsX4_receiveFrom wsX4_cellOf := goodIn_r _ [12] (by decide +kernel) (by decide +kernel)
set_option maxRecDepth 20000 in
theorem gX4_receiveFrom_X4_cellOf : GoodIn wsX4_receiveFrom (va_wsS RX4 150 yX4_cellOf wsX4_cellOf) := goodIn_app (goodIn_of _ (by decide +kernel)) ggX4_receiveFrom_X4_cellOf
set_option maxRecDepth 20000 in
theorem ggX4_receiveFrom_X3_hear : GoodIn wsX4_receiveFrom wsX3_hear := goodIn_r _ [38, 21, 22, 23, 17, 24, 20, 25, 39, 16, 18, 19, 53, 54] (by decide +kernel) (by decide +kernel)
set_option maxRecDepth 20000 in
theorem gX4_receiveFrom_X3_hear_n219 : GoodIn wsX4_receiveFrom (wsX3_hear) := ggX4_receiveFrom_X3_hear
theorem dX4_receiveFrom_0 : decode cX4_receiveFrom 0 = .ok (.aload_n 0, 1) := by decide +kernel
theorem dX4_receiveFrom_1 : decode cX4_receiveFrom 1 = .ok (.getfield 33, 3) := by decide +kernel
theorem dX4_receiveFrom_4 : decode cX4_receiveFrom 4 = .ok (.getfield 195, 3) := by decide +kernel
theorem dX4_receiveFrom_7 : decode cX4_receiveFrom 7 = .ok (.iload_n 1, 1) := by decide +kernel
theorem dX4_receiveFrom_8 : decode cX4_receiveFrom 8 = .ok (.baload, 1) := by decide +kernel
theorem dX4_receiveFrom_9 : decode cX4_receiveFrom 9 = .ok (.ifCond .eq 8, 3) := by decide +kernel
theorem dX4_receiveFrom_12 : decode cX4_receiveFrom 12 = .ok (.aload_n 0, 1) := by decide +kernel
theorem dX4_receiveFrom_13 : decode cX4_receiveFrom 13 = .ok (.iload_n 2, 1) := by decide +kernel
theorem dX4_receiveFrom_14 : decode cX4_receiveFrom 14 = .ok (.invokevirtual 198, 3) := by decide +kernel
theorem dX4_receiveFrom_17 : decode cX4_receiveFrom 17 = .ok (.iload_n 2, 1) := by decide +kernel
theorem dX4_receiveFrom_18 : decode cX4_receiveFrom 18 = .ok (.invokestatic 89, 3) := by decide +kernel
theorem dX4_receiveFrom_21 : decode cX4_receiveFrom 21 = .ok (.ifCond .eq 49, 3) := by decide +kernel
theorem dX4_receiveFrom_24 : decode cX4_receiveFrom 24 = .ok (.iconst 0, 1) := by decide +kernel
theorem dX4_receiveFrom_25 : decode cX4_receiveFrom 25 = .ok (.istore_n 3, 1) := by decide +kernel
theorem dX4_receiveFrom_26 : decode cX4_receiveFrom 26 = .ok (.iload_n 3, 1) := by decide +kernel
theorem dX4_receiveFrom_27 : decode cX4_receiveFrom 27 = .ok (.iconst 4, 1) := by decide +kernel
theorem dX4_receiveFrom_28 : decode cX4_receiveFrom 28 = .ok (.if_icmp .ge 42, 3) := by decide +kernel
theorem dX4_receiveFrom_31 : decode cX4_receiveFrom 31 = .ok (.aload_n 0, 1) := by decide +kernel
theorem dX4_receiveFrom_32 : decode cX4_receiveFrom 32 = .ok (.getfield 33, 3) := by decide +kernel
theorem dX4_receiveFrom_35 : decode cX4_receiveFrom 35 = .ok (.getfield 201, 3) := by decide +kernel
theorem dX4_receiveFrom_38 : decode cX4_receiveFrom 38 = .ok (.iload_n 1, 1) := by decide +kernel
theorem dX4_receiveFrom_39 : decode cX4_receiveFrom 39 = .ok (.iload_n 3, 1) := by decide +kernel
theorem dX4_receiveFrom_40 : decode cX4_receiveFrom 40 = .ok (.invokestatic 150, 3) := by decide +kernel
theorem dX4_receiveFrom_43 : decode cX4_receiveFrom 43 = .ok (.iaload, 1) := by decide +kernel
theorem dX4_receiveFrom_44 : decode cX4_receiveFrom 44 = .ok (.istore 4, 2) := by decide +kernel
theorem dX4_receiveFrom_46 : decode cX4_receiveFrom 46 = .ok (.aload_n 0, 1) := by decide +kernel
theorem dX4_receiveFrom_47 : decode cX4_receiveFrom 47 = .ok (.getfield 19, 3) := by decide +kernel
theorem dX4_receiveFrom_50 : decode cX4_receiveFrom 50 = .ok (.iload_n 2, 1) := by decide +kernel
theorem dX4_receiveFrom_51 : decode cX4_receiveFrom 51 = .ok (.iload_n 3, 1) := by decide +kernel
theorem dX4_receiveFrom_52 : decode cX4_receiveFrom 52 = .ok (.invokestatic 150, 3) := by decide +kernel
theorem dX4_receiveFrom_55 : decode cX4_receiveFrom 55 = .ok (.iload 4, 2) := by decide +kernel
theorem dX4_receiveFrom_57 : decode cX4_receiveFrom 57 = .ok (.aload_n 0, 1) := by decide +kernel
theorem dX4_receiveFrom_58 : decode cX4_receiveFrom 58 = .ok (.getfield 51, 3) := by decide +kernel
theorem dX4_receiveFrom_61 : decode cX4_receiveFrom 61 = .ok (.invokevirtual 219, 3) := by decide +kernel
theorem dX4_receiveFrom_64 : decode cX4_receiveFrom 64 = .ok (.iinc 3 1, 3) := by decide +kernel
theorem dX4_receiveFrom_67 : decode cX4_receiveFrom 67 = .ok (.goto (-41), 3) := by decide +kernel
theorem dX4_receiveFrom_70 : decode cX4_receiveFrom 70 = .ok (.return_, 1) := by decide +kernel
set_option maxRecDepth 20000 in
theorem ggX4_bridgesBetweenHosts_X4_isPort : GoodIn wsX4_bridgesBetweenHosts wsX4_isPort := goodIn_r _ [5] (by decide +kernel) (by decide +kernel)
set_option maxRecDepth 20000 in
theorem gX4_bridgesBetweenHosts_X4_isPort : GoodIn wsX4_bridgesBetweenHosts (va_wsS RX4 89 yX4_isPort wsX4_isPort) := goodIn_app (goodIn_of _ (by decide +kernel)) ggX4_bridgesBetweenHosts_X4_isPort
set_option maxRecDepth 20000 in
theorem ggX4_bridgesBetweenHosts_X4_bridgeOf : GoodIn wsX4_bridgesBetweenHosts wsX4_bridgeOf := goodIn_r _ [8] (by decide +kernel) (by decide +kernel)
set_option maxRecDepth 20000 in
theorem gX4_bridgesBetweenHosts_X4_bridgeOf : GoodIn wsX4_bridgesBetweenHosts (va_wsS RX4 168 yX4_bridgeOf wsX4_bridgeOf) := goodIn_app (goodIn_of _ (by decide +kernel)) ggX4_bridgesBetweenHosts_X4_bridgeOf
set_option maxRecDepth 20000 in
theorem ggX4_bridgesBetweenHosts_X1_bridgesOnWay : GoodIn wsX4_bridgesBetweenHosts wsX1_bridgesOnWay := goodIn_r _ [12, 13, 4, 14, 15, 16, 17, 10, 18, 19, 7, 8, 3, 5, 31, 32, 33, 34] (by decide +kernel) (by decide +kernel)
set_option maxRecDepth 20000 in
theorem gX4_bridgesBetweenHosts_X1_bridgesOnWay_n72 : GoodIn wsX4_bridgesBetweenHosts (wsX1_bridgesOnWay) := ggX4_bridgesBetweenHosts_X1_bridgesOnWay
theorem dX4_bridgesBetweenHosts_0 : decode cX4_bridgesBetweenHosts 0 = .ok (.aload_n 0, 1) := by decide +kernel
theorem dX4_bridgesBetweenHosts_1 : decode cX4_bridgesBetweenHosts 1 = .ok (.getfield 12, 3) := by decide +kernel
theorem dX4_bridgesBetweenHosts_4 : decode cX4_bridgesBetweenHosts 4 = .ok (.getfield 86, 3) := by decide +kernel
theorem dX4_bridgesBetweenHosts_7 : decode cX4_bridgesBetweenHosts 7 = .ok (.bipush 20, 2) := by decide +kernel
theorem dX4_bridgesBetweenHosts_9 : decode cX4_bridgesBetweenHosts 9 = .ok (.iload_n 1, 1) := by decide +kernel
theorem dX4_bridgesBetweenHosts_10 : decode cX4_bridgesBetweenHosts 10 = .ok (.iadd, 1) := by decide +kernel
theorem dX4_bridgesBetweenHosts_11 : decode cX4_bridgesBetweenHosts 11 = .ok (.iaload, 1) := by decide +kernel
theorem dX4_bridgesBetweenHosts_12 : decode cX4_bridgesBetweenHosts 12 = .ok (.istore_n 3, 1) := by decide +kernel
theorem dX4_bridgesBetweenHosts_13 : decode cX4_bridgesBetweenHosts 13 = .ok (.aload_n 0, 1) := by decide +kernel
theorem dX4_bridgesBetweenHosts_14 : decode cX4_bridgesBetweenHosts 14 = .ok (.getfield 12, 3) := by decide +kernel
theorem dX4_bridgesBetweenHosts_17 : decode cX4_bridgesBetweenHosts 17 = .ok (.getfield 86, 3) := by decide +kernel
theorem dX4_bridgesBetweenHosts_20 : decode cX4_bridgesBetweenHosts 20 = .ok (.bipush 20, 2) := by decide +kernel
theorem dX4_bridgesBetweenHosts_22 : decode cX4_bridgesBetweenHosts 22 = .ok (.iload_n 2, 1) := by decide +kernel
theorem dX4_bridgesBetweenHosts_23 : decode cX4_bridgesBetweenHosts 23 = .ok (.iadd, 1) := by decide +kernel
theorem dX4_bridgesBetweenHosts_24 : decode cX4_bridgesBetweenHosts 24 = .ok (.iaload, 1) := by decide +kernel
theorem dX4_bridgesBetweenHosts_25 : decode cX4_bridgesBetweenHosts 25 = .ok (.istore 4, 2) := by decide +kernel
theorem dX4_bridgesBetweenHosts_27 : decode cX4_bridgesBetweenHosts 27 = .ok (.iload_n 3, 1) := by decide +kernel
theorem dX4_bridgesBetweenHosts_28 : decode cX4_bridgesBetweenHosts 28 = .ok (.invokestatic 89, 3) := by decide +kernel
theorem dX4_bridgesBetweenHosts_31 : decode cX4_bridgesBetweenHosts 31 = .ok (.ifCond .eq 11, 3) := by decide +kernel
theorem dX4_bridgesBetweenHosts_34 : decode cX4_bridgesBetweenHosts 34 = .ok (.iload 4, 2) := by decide +kernel
theorem dX4_bridgesBetweenHosts_36 : decode cX4_bridgesBetweenHosts 36 = .ok (.invokestatic 89, 3) := by decide +kernel
theorem dX4_bridgesBetweenHosts_39 : decode cX4_bridgesBetweenHosts 39 = .ok (.ifCond .ne 5, 3) := by decide +kernel
theorem dX4_bridgesBetweenHosts_42 : decode cX4_bridgesBetweenHosts 42 = .ok (.iconst 0, 1) := by decide +kernel
theorem dX4_bridgesBetweenHosts_43 : decode cX4_bridgesBetweenHosts 43 = .ok (.ireturn, 1) := by decide +kernel
theorem dX4_bridgesBetweenHosts_44 : decode cX4_bridgesBetweenHosts 44 = .ok (.aload_n 0, 1) := by decide +kernel
theorem dX4_bridgesBetweenHosts_45 : decode cX4_bridgesBetweenHosts 45 = .ok (.getfield 12, 3) := by decide +kernel
theorem dX4_bridgesBetweenHosts_48 : decode cX4_bridgesBetweenHosts 48 = .ok (.iload_n 3, 1) := by decide +kernel
theorem dX4_bridgesBetweenHosts_49 : decode cX4_bridgesBetweenHosts 49 = .ok (.invokestatic 168, 3) := by decide +kernel
theorem dX4_bridgesBetweenHosts_52 : decode cX4_bridgesBetweenHosts 52 = .ok (.iload 4, 2) := by decide +kernel
theorem dX4_bridgesBetweenHosts_54 : decode cX4_bridgesBetweenHosts 54 = .ok (.invokestatic 168, 3) := by decide +kernel
theorem dX4_bridgesBetweenHosts_57 : decode cX4_bridgesBetweenHosts 57 = .ok (.invokevirtual 72, 3) := by decide +kernel
theorem dX4_bridgesBetweenHosts_60 : decode cX4_bridgesBetweenHosts 60 = .ok (.ireturn, 1) := by decide +kernel
set_option maxRecDepth 20000 in
theorem ggX4_hostsReached_X4_isPort : GoodIn wsX4_hostsReached wsX4_isPort := goodIn_r _ [5] (by decide +kernel) (by decide +kernel)
set_option maxRecDepth 20000 in
theorem gX4_hostsReached_X4_isPort : GoodIn wsX4_hostsReached (va_wsS RX4 89 yX4_isPort wsX4_isPort) := goodIn_app (goodIn_of _ (by decide +kernel)) ggX4_hostsReached_X4_isPort
set_option maxRecDepth 20000 in
theorem ggX4_hostsReached_X4_nextArrivals : GoodIn wsX4_hostsReached wsX4_nextArrivals := goodIn_r _ [9, 1, 10, 11, 12, 4, 13, 14, 15, 16, 17, 18, 19, 20, 21, 22, 23, 24, 25, 26, 27, 28, 29, 30, 31, 32, 33, 34, 35, 36, 37, 38, 39, 40, 41, 42, 43, 44, 45, 46, 47, 48, 49, 50] (by decide +kernel) (by decide +kernel)
set_option maxRecDepth 20000 in
theorem gX4_hostsReached_X4_nextArrivals : GoodIn wsX4_hostsReached (wsV RX4 222 RX4 yX4_nextArrivals wsX4_nextArrivals) := goodIn_app (goodIn_of _ (by decide +kernel)) ggX4_hostsReached_X4_nextArrivals
theorem dX4_hostsReached_0 : decode cX4_hostsReached 0 = .ok (.aload_n 0, 1) := by decide +kernel
theorem dX4_hostsReached_1 : decode cX4_hostsReached 1 = .ok (.getfield 12, 3) := by decide +kernel
theorem dX4_hostsReached_4 : decode cX4_hostsReached 4 = .ok (.getfield 86, 3) := by decide +kernel
theorem dX4_hostsReached_7 : decode cX4_hostsReached 7 = .ok (.bipush 20, 2) := by decide +kernel
theorem dX4_hostsReached_9 : decode cX4_hostsReached 9 = .ok (.iload_n 1, 1) := by decide +kernel
theorem dX4_hostsReached_10 : decode cX4_hostsReached 10 = .ok (.iadd, 1) := by decide +kernel
theorem dX4_hostsReached_11 : decode cX4_hostsReached 11 = .ok (.iaload, 1) := by decide +kernel
theorem dX4_hostsReached_12 : decode cX4_hostsReached 12 = .ok (.istore_n 3, 1) := by decide +kernel
theorem dX4_hostsReached_13 : decode cX4_hostsReached 13 = .ok (.iload_n 3, 1) := by decide +kernel
theorem dX4_hostsReached_14 : decode cX4_hostsReached 14 = .ok (.invokestatic 89, 3) := by decide +kernel
theorem dX4_hostsReached_17 : decode cX4_hostsReached 17 = .ok (.ifCond .ne 5, 3) := by decide +kernel
theorem dX4_hostsReached_20 : decode cX4_hostsReached 20 = .ok (.iconst 0, 1) := by decide +kernel
theorem dX4_hostsReached_21 : decode cX4_hostsReached 21 = .ok (.ireturn, 1) := by decide +kernel
theorem dX4_hostsReached_22 : decode cX4_hostsReached 22 = .ok (.iconst 0, 1) := by decide +kernel
theorem dX4_hostsReached_23 : decode cX4_hostsReached 23 = .ok (.istore 4, 2) := by decide +kernel
theorem dX4_hostsReached_25 : decode cX4_hostsReached 25 = .ok (.iconst 1, 1) := by decide +kernel
theorem dX4_hostsReached_26 : decode cX4_hostsReached 26 = .ok (.iload_n 3, 1) := by decide +kernel
theorem dX4_hostsReached_27 : decode cX4_hostsReached 27 = .ok (.ishl, 1) := by decide +kernel
theorem dX4_hostsReached_28 : decode cX4_hostsReached 28 = .ok (.istore 5, 2) := by decide +kernel
theorem dX4_hostsReached_30 : decode cX4_hostsReached 30 = .ok (.iconst 0, 1) := by decide +kernel
theorem dX4_hostsReached_31 : decode cX4_hostsReached 31 = .ok (.istore 6, 2) := by decide +kernel
theorem dX4_hostsReached_33 : decode cX4_hostsReached 33 = .ok (.iload 6, 2) := by decide +kernel
theorem dX4_hostsReached_35 : decode cX4_hostsReached 35 = .ok (.iconst 5, 1) := by decide +kernel
theorem dX4_hostsReached_36 : decode cX4_hostsReached 36 = .ok (.if_icmp .ge 28, 3) := by decide +kernel
theorem dX4_hostsReached_39 : decode cX4_hostsReached 39 = .ok (.aload_n 0, 1) := by decide +kernel
theorem dX4_hostsReached_40 : decode cX4_hostsReached 40 = .ok (.iload 5, 2) := by decide +kernel
theorem dX4_hostsReached_42 : decode cX4_hostsReached 42 = .ok (.iload_n 2, 1) := by decide +kernel
theorem dX4_hostsReached_43 : decode cX4_hostsReached 43 = .ok (.invokevirtual 222, 3) := by decide +kernel
theorem dX4_hostsReached_46 : decode cX4_hostsReached 46 = .ok (.istore 5, 2) := by decide +kernel
theorem dX4_hostsReached_48 : decode cX4_hostsReached 48 = .ok (.iload 4, 2) := by decide +kernel
theorem dX4_hostsReached_50 : decode cX4_hostsReached 50 = .ok (.iload 5, 2) := by decide +kernel
theorem dX4_hostsReached_52 : decode cX4_hostsReached 52 = .ok (.bipush 20, 2) := by decide +kernel
theorem dX4_hostsReached_54 : decode cX4_hostsReached 54 = .ok (.iushr, 1) := by decide +kernel
theorem dX4_hostsReached_55 : decode cX4_hostsReached 55 = .ok (.ior, 1) := by decide +kernel
theorem dX4_hostsReached_56 : decode cX4_hostsReached 56 = .ok (.istore 4, 2) := by decide +kernel
theorem dX4_hostsReached_58 : decode cX4_hostsReached 58 = .ok (.iinc 6 1, 3) := by decide +kernel
theorem dX4_hostsReached_61 : decode cX4_hostsReached 61 = .ok (.goto (-28), 3) := by decide +kernel
theorem dX4_hostsReached_64 : decode cX4_hostsReached 64 = .ok (.iload 4, 2) := by decide +kernel
theorem dX4_hostsReached_66 : decode cX4_hostsReached 66 = .ok (.ireturn, 1) := by decide +kernel
set_option maxRecDepth 20000 in
theorem ggX4_nextArrivals_X4_isRegisteredAt : GoodIn wsX4_nextArrivals wsX4_isRegisteredAt := goodIn_r _ [6, 1, 7, 8, 9, 10, 11, 12, 13, 5, 14, 15, 16, 17, 27, 28, 29, 30, 31, 32, 33, 34, 35, 36, 37, 42, 43, 38, 39, 40, 41] (by decide +kernel) (by decide +kernel)
set_option maxRecDepth 20000 in
theorem gX4_nextArrivals_X4_isRegisteredAt : GoodIn wsX4_nextArrivals (wsV RX4 171 RX4 yX4_isRegisteredAt wsX4_isRegisteredAt) := goodIn_app (goodIn_of _ (by decide +kernel)) ggX4_nextArrivals_X4_isRegisteredAt
set_option maxRecDepth 20000 in
theorem ggX4_nextArrivals_X4_arrivesBeside : GoodIn wsX4_nextArrivals wsX4_arrivesBeside := goodIn_r _ [20, 21, 22, 5, 23, 24, 25, 26] (by decide +kernel) (by decide +kernel)
set_option maxRecDepth 20000 in
theorem gX4_nextArrivals_X4_arrivesBeside : GoodIn wsX4_nextArrivals (va_wsS RX4 225 yX4_arrivesBeside wsX4_arrivesBeside) := goodIn_app (goodIn_of _ (by decide +kernel)) ggX4_nextArrivals_X4_arrivesBeside
theorem dX4_nextArrivals_0 : decode cX4_nextArrivals 0 = .ok (.iconst 0, 1) := by decide +kernel
theorem dX4_nextArrivals_1 : decode cX4_nextArrivals 1 = .ok (.istore_n 3, 1) := by decide +kernel
theorem dX4_nextArrivals_2 : decode cX4_nextArrivals 2 = .ok (.iconst 0, 1) := by decide +kernel
theorem dX4_nextArrivals_3 : decode cX4_nextArrivals 3 = .ok (.istore 4, 2) := by decide +kernel
theorem dX4_nextArrivals_5 : decode cX4_nextArrivals 5 = .ok (.iload 4, 2) := by decide +kernel
theorem dX4_nextArrivals_7 : decode cX4_nextArrivals 7 = .ok (.bipush 20, 2) := by decide +kernel
theorem dX4_nextArrivals_9 : decode cX4_nextArrivals 9 = .ok (.if_icmp .ge 43, 3) := by decide +kernel
theorem dX4_nextArrivals_12 : decode cX4_nextArrivals 12 = .ok (.aload_n 0, 1) := by decide +kernel
theorem dX4_nextArrivals_13 : decode cX4_nextArrivals 13 = .ok (.iload 4, 2) := by decide +kernel
theorem dX4_nextArrivals_15 : decode cX4_nextArrivals 15 = .ok (.iload_n 2, 1) := by decide +kernel
theorem dX4_nextArrivals_16 : decode cX4_nextArrivals 16 = .ok (.invokevirtual 171, 3) := by decide +kernel
theorem dX4_nextArrivals_19 : decode cX4_nextArrivals 19 = .ok (.ifCond .eq 27, 3) := by decide +kernel
theorem dX4_nextArrivals_22 : decode cX4_nextArrivals 22 = .ok (.iload 4, 2) := by decide +kernel
theorem dX4_nextArrivals_24 : decode cX4_nextArrivals 24 = .ok (.iload_n 1, 1) := by decide +kernel
theorem dX4_nextArrivals_25 : decode cX4_nextArrivals 25 = .ok (.invokestatic 225, 3) := by decide +kernel
theorem dX4_nextArrivals_28 : decode cX4_nextArrivals 28 = .ok (.ifCond .eq 18, 3) := by decide +kernel
theorem dX4_nextArrivals_31 : decode cX4_nextArrivals 31 = .ok (.iload_n 3, 1) := by decide +kernel
theorem dX4_nextArrivals_32 : decode cX4_nextArrivals 32 = .ok (.iconst 1, 1) := by decide +kernel
theorem dX4_nextArrivals_33 : decode cX4_nextArrivals 33 = .ok (.aload_n 0, 1) := by decide +kernel
theorem dX4_nextArrivals_34 : decode cX4_nextArrivals 34 = .ok (.getfield 12, 3) := by decide +kernel
theorem dX4_nextArrivals_37 : decode cX4_nextArrivals 37 = .ok (.getfield 86, 3) := by decide +kernel
theorem dX4_nextArrivals_40 : decode cX4_nextArrivals 40 = .ok (.iload 4, 2) := by decide +kernel
theorem dX4_nextArrivals_42 : decode cX4_nextArrivals 42 = .ok (.iaload, 1) := by decide +kernel
theorem dX4_nextArrivals_43 : decode cX4_nextArrivals 43 = .ok (.ishl, 1) := by decide +kernel
theorem dX4_nextArrivals_44 : decode cX4_nextArrivals 44 = .ok (.ior, 1) := by decide +kernel
theorem dX4_nextArrivals_45 : decode cX4_nextArrivals 45 = .ok (.istore_n 3, 1) := by decide +kernel
theorem dX4_nextArrivals_46 : decode cX4_nextArrivals 46 = .ok (.iinc 4 1, 3) := by decide +kernel
theorem dX4_nextArrivals_49 : decode cX4_nextArrivals 49 = .ok (.goto (-44), 3) := by decide +kernel
theorem dX4_nextArrivals_52 : decode cX4_nextArrivals 52 = .ok (.iload_n 3, 1) := by decide +kernel
theorem dX4_nextArrivals_53 : decode cX4_nextArrivals 53 = .ok (.ireturn, 1) := by decide +kernel
set_option maxRecDepth 20000 in
theorem ggX4_arrivesBeside_X4_bridgeOf : GoodIn wsX4_arrivesBeside wsX4_bridgeOf := goodIn_r _ [4] (by decide +kernel) (by decide +kernel)
set_option maxRecDepth 20000 in
theorem gX4_arrivesBeside_X4_bridgeOf : GoodIn wsX4_arrivesBeside (va_wsS RX4 168 yX4_bridgeOf wsX4_bridgeOf) := goodIn_app (goodIn_of _ (by decide +kernel)) ggX4_arrivesBeside_X4_bridgeOf
set_option maxRecDepth 20000 in
theorem ggX4_arrivesBeside_X4_contains : GoodIn wsX4_arrivesBeside wsX4_contains := goodIn_r _ [7] (by decide +kernel) (by decide +kernel)
set_option maxRecDepth 20000 in
theorem gX4_arrivesBeside_X4_contains : GoodIn wsX4_arrivesBeside (va_wsS RX4 156 yX4_contains wsX4_contains) := goodIn_app (goodIn_of _ (by decide +kernel)) ggX4_arrivesBeside_X4_contains
theorem dX4_arrivesBeside_0 : decode cX4_arrivesBeside 0 = .ok (.iload_n 0, 1) := by decide +kernel
theorem dX4_arrivesBeside_1 : decode cX4_arrivesBeside 1 = .ok (.invokestatic 168, 3) := by decide +kernel
theorem dX4_arrivesBeside_4 : decode cX4_arrivesBeside 4 = .ok (.iconst 4, 1) := by decide +kernel
theorem dX4_arrivesBeside_5 : decode cX4_arrivesBeside 5 = .ok (.imul, 1) := by decide +kernel
theorem dX4_arrivesBeside_6 : decode cX4_arrivesBeside 6 = .ok (.istore_n 2, 1) := by decide +kernel
theorem dX4_arrivesBeside_7 : decode cX4_arrivesBeside 7 = .ok (.iload_n 2, 1) := by decide +kernel
theorem dX4_arrivesBeside_8 : decode cX4_arrivesBeside 8 = .ok (.istore_n 3, 1) := by decide +kernel
theorem dX4_arrivesBeside_9 : decode cX4_arrivesBeside 9 = .ok (.iload_n 3, 1) := by decide +kernel
theorem dX4_arrivesBeside_10 : decode cX4_arrivesBeside 10 = .ok (.iload_n 2, 1) := by decide +kernel
theorem dX4_arrivesBeside_11 : decode cX4_arrivesBeside 11 = .ok (.iconst 4, 1) := by decide +kernel
theorem dX4_arrivesBeside_12 : decode cX4_arrivesBeside 12 = .ok (.iadd, 1) := by decide +kernel
theorem dX4_arrivesBeside_13 : decode cX4_arrivesBeside 13 = .ok (.if_icmp .ge 24, 3) := by decide +kernel
theorem dX4_arrivesBeside_16 : decode cX4_arrivesBeside 16 = .ok (.iload_n 3, 1) := by decide +kernel
theorem dX4_arrivesBeside_17 : decode cX4_arrivesBeside 17 = .ok (.iload_n 0, 1) := by decide +kernel
theorem dX4_arrivesBeside_18 : decode cX4_arrivesBeside 18 = .ok (.if_icmp .eq 13, 3) := by decide +kernel
theorem dX4_arrivesBeside_21 : decode cX4_arrivesBeside 21 = .ok (.iload_n 1, 1) := by decide +kernel
theorem dX4_arrivesBeside_22 : decode cX4_arrivesBeside 22 = .ok (.iload_n 3, 1) := by decide +kernel
theorem dX4_arrivesBeside_23 : decode cX4_arrivesBeside 23 = .ok (.invokestatic 156, 3) := by decide +kernel
theorem dX4_arrivesBeside_26 : decode cX4_arrivesBeside 26 = .ok (.ifCond .eq 5, 3) := by decide +kernel
theorem dX4_arrivesBeside_29 : decode cX4_arrivesBeside 29 = .ok (.iconst 1, 1) := by decide +kernel
theorem dX4_arrivesBeside_30 : decode cX4_arrivesBeside 30 = .ok (.ireturn, 1) := by decide +kernel
theorem dX4_arrivesBeside_31 : decode cX4_arrivesBeside 31 = .ok (.iinc 3 1, 3) := by decide +kernel
theorem dX4_arrivesBeside_34 : decode cX4_arrivesBeside 34 = .ok (.goto (-25), 3) := by decide +kernel
theorem dX4_arrivesBeside_37 : decode cX4_arrivesBeside 37 = .ok (.iconst 0, 1) := by decide +kernel
theorem dX4_arrivesBeside_38 : decode cX4_arrivesBeside 38 = .ok (.ireturn, 1) := by decide +kernel
end
section
theorem dX5_init_0 : decode cX5_init 0 = .ok (.aload_n 0, 1) := by decide +kernel
theorem dX5_init_1 : decode cX5_init 1 = .ok (.invokespecial 1, 3) := by decide +kernel
theorem dX5_init_4 : decode cX5_init 4 = .ok (.aload_n 0, 1) := by decide +kernel
theorem dX5_init_5 : decode cX5_init 5 = .ok (.bipush 20, 2) := by decide +kernel
theorem dX5_init_7 : decode cX5_init 7 = .ok (.newarray .int, 2) := by decide +kernel
theorem dX5_init_9 : decode cX5_init 9 = .ok (.putfield 7, 3) := by decide +kernel
theorem dX5_init_12 : decode cX5_init 12 = .ok (.aload_n 0, 1) := by decide +kernel
theorem dX5_init_13 : decode cX5_init 13 = .ok (.bipush 8, 2) := by decide +kernel
theorem dX5_init_15 : decode cX5_init 15 = .ok (.newarray .int, 2) := by decide +kernel
theorem dX5_init_17 : decode cX5_init 17 = .ok (.putfield 13, 3) := by decide +kernel
theorem dX5_init_20 : decode cX5_init 20 = .ok (.aload_n 0, 1) := by decide +kernel
theorem dX5_init_21 : decode cX5_init 21 = .ok (.bipush 8, 2) := by decide +kernel
theorem dX5_init_23 : decode cX5_init 23 = .ok (.newarray .boolean, 2) := by decide +kernel
theorem dX5_init_25 : decode cX5_init 25 = .ok (.putfield 16, 3) := by decide +kernel
theorem dX5_init_28 : decode cX5_init 28 = .ok (.aload_n 0, 1) := by decide +kernel
theorem dX5_init_29 : decode cX5_init 29 = .ok (.bipush 6, 2) := by decide +kernel
theorem dX5_init_31 : decode cX5_init 31 = .ok (.putfield 20, 3) := by decide +kernel
theorem dX5_init_34 : decode cX5_init 34 = .ok (.aload_n 0, 1) := by decide +kernel
theorem dX5_init_35 : decode cX5_init 35 = .ok (.bipush 80, 2) := by decide +kernel
theorem dX5_init_37 : decode cX5_init 37 = .ok (.newarray .int, 2) := by decide +kernel
theorem dX5_init_39 : decode cX5_init 39 = .ok (.putfield 24, 3) := by decide +kernel
theorem dX5_init_42 : decode cX5_init 42 = .ok (.aload_n 0, 1) := by decide +kernel
theorem dX5_init_43 : decode cX5_init 43 = .ok (.bipush 80, 2) := by decide +kernel
theorem dX5_init_45 : decode cX5_init 45 = .ok (.newarray .int, 2) := by decide +kernel
theorem dX5_init_47 : decode cX5_init 47 = .ok (.putfield 27, 3) := by decide +kernel
theorem dX5_init_50 : decode cX5_init 50 = .ok (.aload_n 0, 1) := by decide +kernel
theorem dX5_init_51 : decode cX5_init 51 = .ok (.bipush 80, 2) := by decide +kernel
theorem dX5_init_53 : decode cX5_init 53 = .ok (.newarray .int, 2) := by decide +kernel
theorem dX5_init_55 : decode cX5_init 55 = .ok (.putfield 30, 3) := by decide +kernel
theorem dX5_init_58 : decode cX5_init 58 = .ok (.aload_n 0, 1) := by decide +kernel
theorem dX5_init_59 : decode cX5_init 59 = .ok (.bipush 80, 2) := by decide +kernel
theorem dX5_init_61 : decode cX5_init 61 = .ok (.newarray .int, 2) := by decide +kernel
theorem dX5_init_63 : decode cX5_init 63 = .ok (.putfield 33, 3) := by decide +kernel
theorem dX5_init_66 : decode cX5_init 66 = .ok (.aload_n 0, 1) := by decide +kernel
theorem dX5_init_67 : decode cX5_init 67 = .ok (.bipush 20, 2) := by decide +kernel
theorem dX5_init_69 : decode cX5_init 69 = .ok (.newarray .int, 2) := by decide +kernel
theorem dX5_init_71 : decode cX5_init 71 = .ok (.putfield 36, 3) := by decide +kernel
theorem dX5_init_74 : decode cX5_init 74 = .ok (.aload_n 0, 1) := by decide +kernel
theorem dX5_init_75 : decode cX5_init 75 = .ok (.bipush 20, 2) := by decide +kernel
theorem dX5_init_77 : decode cX5_init 77 = .ok (.newarray .boolean, 2) := by decide +kernel
theorem dX5_init_79 : decode cX5_init 79 = .ok (.putfield 39, 3) := by decide +kernel
theorem dX5_init_82 : decode cX5_init 82 = .ok (.aload_n 0, 1) := by decide +kernel
theorem dX5_init_83 : decode cX5_init 83 = .ok (.bipush 32, 2) := by decide +kernel
theorem dX5_init_85 : decode cX5_init 85 = .ok (.newarray .int, 2) := by decide +kernel
theorem dX5_init_87 : decode cX5_init 87 = .ok (.putfield 42, 3) := by decide +kernel
theorem dX5_init_90 : decode cX5_init 90 = .ok (.aload_n 0, 1) := by decide +kernel
theorem dX5_init_91 : decode cX5_init 91 = .ok (.bipush 32, 2) := by decide +kernel
theorem dX5_init_93 : decode cX5_init 93 = .ok (.newarray .int, 2) := by decide +kernel
theorem dX5_init_95 : decode cX5_init 95 = .ok (.putfield 45, 3) := by decide +kernel
theorem dX5_init_98 : decode cX5_init 98 = .ok (.aload_n 0, 1) := by decide +kernel
theorem dX5_init_99 : decode cX5_init 99 = .ok (.bipush 20, 2) := by decide +kernel
theorem dX5_init_101 : decode cX5_init 101 = .ok (.newarray .boolean, 2) := by decide +kernel
theorem dX5_init_103 : decode cX5_init 103 = .ok (.putfield 48, 3) := by decide +kernel
theorem dX5_init_106 : decode cX5_init 106 = .ok (.aload_n 0, 1) := by decide +kernel
theorem dX5_init_107 : decode cX5_init 107 = .ok (.bipush 20, 2) := by decide +kernel
theorem dX5_init_109 : decode cX5_init 109 = .ok (.newarray .boolean, 2) := by decide +kernel
theorem dX5_init_111 : decode cX5_init 111 = .ok (.putfield 51, 3) := by decide +kernel
theorem dX5_init_114 : decode cX5_init 114 = .ok (.aload_n 0, 1) := by decide +kernel
theorem dX5_init_115 : decode cX5_init 115 = .ok (.bipush 80, 2) := by decide +kernel
theorem dX5_init_117 : decode cX5_init 117 = .ok (.newarray .int, 2) := by decide +kernel
theorem dX5_init_119 : decode cX5_init 119 = .ok (.putfield 54, 3) := by decide +kernel
theorem dX5_init_122 : decode cX5_init 122 = .ok (.aload_n 0, 1) := by decide +kernel
theorem dX5_init_123 : decode cX5_init 123 = .ok (.bipush 32, 2) := by decide +kernel
theorem dX5_init_125 : decode cX5_init 125 = .ok (.newarray .int, 2) := by decide +kernel
theorem dX5_init_127 : decode cX5_init 127 = .ok (.putfield 57, 3) := by decide +kernel
theorem dX5_init_130 : decode cX5_init 130 = .ok (.aload_n 0, 1) := by decide +kernel
theorem dX5_init_131 : decode cX5_init 131 = .ok (.bipush 20, 2) := by decide +kernel
theorem dX5_init_133 : decode cX5_init 133 = .ok (.newarray .int, 2) := by decide +kernel
theorem dX5_init_135 : decode cX5_init 135 = .ok (.putfield 60, 3) := by decide +kernel
theorem dX5_init_138 : decode cX5_init 138 = .ok (.aload_n 0, 1) := by decide +kernel
theorem dX5_init_139 : decode cX5_init 139 = .ok (.iconst 5, 1) := by decide +kernel
theorem dX5_init_140 : decode cX5_init 140 = .ok (.newarray .int, 2) := by decide +kernel
theorem dX5_init_142 : decode cX5_init 142 = .ok (.putfield 63, 3) := by decide +kernel
theorem dX5_init_145 : decode cX5_init 145 = .ok (.iconst 0, 1) := by decide +kernel
theorem dX5_init_146 : decode cX5_init 146 = .ok (.istore_n 1, 1) := by decide +kernel
theorem dX5_init_147 : decode cX5_init 147 = .ok (.iload_n 1, 1) := by decide +kernel
theorem dX5_init_148 : decode cX5_init 148 = .ok (.bipush 20, 2) := by decide +kernel
theorem dX5_init_150 : decode cX5_init 150 = .ok (.if_icmp .ge 16, 3) := by decide +kernel
theorem dX5_init_153 : decode cX5_init 153 = .ok (.aload_n 0, 1) := by decide +kernel
theorem dX5_init_154 : decode cX5_init 154 = .ok (.getfield 7, 3) := by decide +kernel
theorem dX5_init_157 : decode cX5_init 157 = .ok (.iload_n 1, 1) := by decide +kernel
theorem dX5_init_158 : decode cX5_init 158 = .ok (.iconst (-1), 1) := by decide +kernel
theorem dX5_init_159 : decode cX5_init 159 = .ok (.iastore, 1) := by decide +kernel
theorem dX5_init_160 : decode cX5_init 160 = .ok (.iinc 1 1, 3) := by decide +kernel
theorem dX5_init_163 : decode cX5_init 163 = .ok (.goto (-16), 3) := by decide +kernel
theorem dX5_init_166 : decode cX5_init 166 = .ok (.return_, 1) := by decide +kernel
theorem dX5_within_0 : decode cX5_within 0 = .ok (.iload_n 0, 1) := by decide +kernel
theorem dX5_within_1 : decode cX5_within 1 = .ok (.iload_n 1, 1) := by decide +kernel
theorem dX5_within_2 : decode cX5_within 2 = .ok (.if_icmp .lt 12, 3) := by decide +kernel
theorem dX5_within_5 : decode cX5_within 5 = .ok (.iload_n 0, 1) := by decide +kernel
theorem dX5_within_6 : decode cX5_within 6 = .ok (.iload_n 2, 1) := by decide +kernel
theorem dX5_within_7 : decode cX5_within 7 = .ok (.if_icmp .gt 7, 3) := by decide +kernel
theorem dX5_within_10 : decode cX5_within 10 = .ok (.iconst 1, 1) := by decide +kernel
theorem dX5_within_11 : decode cX5_within 11 = .ok (.goto 4, 3) := by decide +kernel
theorem dX5_within_14 : decode cX5_within 14 = .ok (.iconst 0, 1) := by decide +kernel
theorem dX5_within_15 : decode cX5_within 15 = .ok (.ireturn, 1) := by decide +kernel
set_option maxRecDepth 20000 in
theorem ggX5_isPort_X5_within : GoodIn wsX5_isPort wsX5_within := goodIn_r _ [5] (by decide +kernel) (by decide +kernel)
set_option maxRecDepth 20000 in
theorem gX5_isPort_X5_within : GoodIn wsX5_isPort (va_wsS RX5 69 yX5_within wsX5_within) := goodIn_app (goodIn_of _ (by decide +kernel)) ggX5_isPort_X5_within
theorem dX5_isPort_0 : decode cX5_isPort 0 = .ok (.iload_n 1, 1) := by decide +kernel
theorem dX5_isPort_1 : decode cX5_isPort 1 = .ok (.iconst 0, 1) := by decide +kernel
theorem dX5_isPort_2 : decode cX5_isPort 2 = .ok (.aload_n 0, 1) := by decide +kernel
theorem dX5_isPort_3 : decode cX5_isPort 3 = .ok (.getfield 66, 3) := by decide +kernel
theorem dX5_isPort_6 : decode cX5_isPort 6 = .ok (.iconst 1, 1) := by decide +kernel
theorem dX5_isPort_7 : decode cX5_isPort 7 = .ok (.isub, 1) := by decide +kernel
theorem dX5_isPort_8 : decode cX5_isPort 8 = .ok (.invokestatic 69, 3) := by decide +kernel
theorem dX5_isPort_11 : decode cX5_isPort 11 = .ok (.ifCond .eq 16, 3) := by decide +kernel
theorem dX5_isPort_14 : decode cX5_isPort 14 = .ok (.iload_n 2, 1) := by decide +kernel
theorem dX5_isPort_15 : decode cX5_isPort 15 = .ok (.iconst 0, 1) := by decide +kernel
theorem dX5_isPort_16 : decode cX5_isPort 16 = .ok (.iconst 3, 1) := by decide +kernel
theorem dX5_isPort_17 : decode cX5_isPort 17 = .ok (.invokestatic 69, 3) := by decide +kernel
theorem dX5_isPort_20 : decode cX5_isPort 20 = .ok (.ifCond .eq 7, 3) := by decide +kernel
theorem dX5_isPort_23 : decode cX5_isPort 23 = .ok (.iconst 1, 1) := by decide +kernel
theorem dX5_isPort_24 : decode cX5_isPort 24 = .ok (.goto 4, 3) := by decide +kernel
theorem dX5_isPort_27 : decode cX5_isPort 27 = .ok (.iconst 0, 1) := by decide +kernel
theorem dX5_isPort_28 : decode cX5_isPort 28 = .ok (.ireturn, 1) := by decide +kernel
set_option maxRecDepth 20000 in
theorem ggX5_isHost_X5_within : GoodIn wsX5_isHost wsX5_within := goodIn_r _ [5] (by decide +kernel) (by decide +kernel)
set_option maxRecDepth 20000 in
theorem gX5_isHost_X5_within : GoodIn wsX5_isHost (va_wsS RX5 69 yX5_within wsX5_within) := goodIn_app (goodIn_of _ (by decide +kernel)) ggX5_isHost_X5_within
theorem dX5_isHost_0 : decode cX5_isHost 0 = .ok (.iload_n 1, 1) := by decide +kernel
theorem dX5_isHost_1 : decode cX5_isHost 1 = .ok (.iconst 0, 1) := by decide +kernel
theorem dX5_isHost_2 : decode cX5_isHost 2 = .ok (.aload_n 0, 1) := by decide +kernel
theorem dX5_isHost_3 : decode cX5_isHost 3 = .ok (.getfield 73, 3) := by decide +kernel
theorem dX5_isHost_6 : decode cX5_isHost 6 = .ok (.iconst 1, 1) := by decide +kernel
theorem dX5_isHost_7 : decode cX5_isHost 7 = .ok (.isub, 1) := by decide +kernel
theorem dX5_isHost_8 : decode cX5_isHost 8 = .ok (.invokestatic 69, 3) := by decide +kernel
theorem dX5_isHost_11 : decode cX5_isHost 11 = .ok (.ireturn, 1) := by decide +kernel
set_option maxRecDepth 20000 in
theorem ggX5_isGroup_X5_within : GoodIn wsX5_isGroup wsX5_within := goodIn_r _ [4] (by decide +kernel) (by decide +kernel)
set_option maxRecDepth 20000 in
theorem gX5_isGroup_X5_within : GoodIn wsX5_isGroup (va_wsS RX5 69 yX5_within wsX5_within) := goodIn_app (goodIn_of _ (by decide +kernel)) ggX5_isGroup_X5_within
theorem dX5_isGroup_0 : decode cX5_isGroup 0 = .ok (.iload_n 0, 1) := by decide +kernel
theorem dX5_isGroup_1 : decode cX5_isGroup 1 = .ok (.iconst 0, 1) := by decide +kernel
theorem dX5_isGroup_2 : decode cX5_isGroup 2 = .ok (.iconst 3, 1) := by decide +kernel
theorem dX5_isGroup_3 : decode cX5_isGroup 3 = .ok (.invokestatic 69, 3) := by decide +kernel
theorem dX5_isGroup_6 : decode cX5_isGroup 6 = .ok (.ireturn, 1) := by decide +kernel
theorem dX5_isConnected_0 : decode cX5_isConnected 0 = .ok (.aload_n 0, 1) := by decide +kernel
theorem dX5_isConnected_1 : decode cX5_isConnected 1 = .ok (.getfield 7, 3) := by decide +kernel
theorem dX5_isConnected_4 : decode cX5_isConnected 4 = .ok (.iload_n 1, 1) := by decide +kernel
theorem dX5_isConnected_5 : decode cX5_isConnected 5 = .ok (.iaload, 1) := by decide +kernel
theorem dX5_isConnected_6 : decode cX5_isConnected 6 = .ok (.iconst (-1), 1) := by decide +kernel
theorem dX5_isConnected_7 : decode cX5_isConnected 7 = .ok (.if_icmp .eq 7, 3) := by decide +kernel
theorem dX5_isConnected_10 : decode cX5_isConnected 10 = .ok (.iconst 1, 1) := by decide +kernel
theorem dX5_isConnected_11 : decode cX5_isConnected 11 = .ok (.goto 4, 3) := by decide +kernel
theorem dX5_isConnected_14 : decode cX5_isConnected 14 = .ok (.iconst 0, 1) := by decide +kernel
theorem dX5_isConnected_15 : decode cX5_isConnected 15 = .ok (.ireturn, 1) := by decide +kernel
set_option maxRecDepth 20000 in
theorem ggX5_isLinked_X5_within : GoodIn wsX5_isLinked wsX5_within := goodIn_r _ [5] (by decide +kernel) (by decide +kernel)
set_option maxRecDepth 20000 in
theorem gX5_isLinked_X5_within : GoodIn wsX5_isLinked (va_wsS RX5 69 yX5_within wsX5_within) := goodIn_app (goodIn_of _ (by decide +kernel)) ggX5_isLinked_X5_within
theorem dX5_isLinked_0 : decode cX5_isLinked 0 = .ok (.aload_n 0, 1) := by decide +kernel
theorem dX5_isLinked_1 : decode cX5_isLinked 1 = .ok (.getfield 7, 3) := by decide +kernel
theorem dX5_isLinked_4 : decode cX5_isLinked 4 = .ok (.iload_n 1, 1) := by decide +kernel
theorem dX5_isLinked_5 : decode cX5_isLinked 5 = .ok (.iaload, 1) := by decide +kernel
theorem dX5_isLinked_6 : decode cX5_isLinked 6 = .ok (.iconst 0, 1) := by decide +kernel
theorem dX5_isLinked_7 : decode cX5_isLinked 7 = .ok (.bipush 19, 2) := by decide +kernel
theorem dX5_isLinked_9 : decode cX5_isLinked 9 = .ok (.invokestatic 69, 3) := by decide +kernel
theorem dX5_isLinked_12 : decode cX5_isLinked 12 = .ok (.ireturn, 1) := by decide +kernel
theorem dX5_addBridge_0 : decode cX5_addBridge 0 = .ok (.aload_n 0, 1) := by decide +kernel
theorem dX5_addBridge_1 : decode cX5_addBridge 1 = .ok (.getfield 66, 3) := by decide +kernel
theorem dX5_addBridge_4 : decode cX5_addBridge 4 = .ok (.iconst 5, 1) := by decide +kernel
theorem dX5_addBridge_5 : decode cX5_addBridge 5 = .ok (.if_icmp .ne 6, 3) := by decide +kernel
theorem dX5_addBridge_8 : decode cX5_addBridge 8 = .ok (.bipush (-5), 2) := by decide +kernel
theorem dX5_addBridge_10 : decode cX5_addBridge 10 = .ok (.ireturn, 1) := by decide +kernel
theorem dX5_addBridge_11 : decode cX5_addBridge 11 = .ok (.aload_n 0, 1) := by decide +kernel
theorem dX5_addBridge_12 : decode cX5_addBridge 12 = .ok (.dup, 1) := by decide +kernel
theorem dX5_addBridge_13 : decode cX5_addBridge 13 = .ok (.getfield 66, 3) := by decide +kernel
theorem dX5_addBridge_16 : decode cX5_addBridge 16 = .ok (.iconst 1, 1) := by decide +kernel
theorem dX5_addBridge_17 : decode cX5_addBridge 17 = .ok (.iadd, 1) := by decide +kernel
theorem dX5_addBridge_18 : decode cX5_addBridge 18 = .ok (.putfield 66, 3) := by decide +kernel
theorem dX5_addBridge_21 : decode cX5_addBridge 21 = .ok (.aload_n 0, 1) := by decide +kernel
theorem dX5_addBridge_22 : decode cX5_addBridge 22 = .ok (.getfield 66, 3) := by decide +kernel
theorem dX5_addBridge_25 : decode cX5_addBridge 25 = .ok (.iconst 1, 1) := by decide +kernel
theorem dX5_addBridge_26 : decode cX5_addBridge 26 = .ok (.isub, 1) := by decide +kernel
theorem dX5_addBridge_27 : decode cX5_addBridge 27 = .ok (.ireturn, 1) := by decide +kernel
set_option maxRecDepth 20000 in
theorem ggX5_partOf_X5_isLinked : GoodIn wsX5_partOf wsX5_isLinked := goodIn_r _ [6, 1, 7, 8, 5, 9, 10, 11, 12, 13, 14, 15, 16, 17, 18, 19, 20, 21, 22, 23, 24, 25, 26, 27, 28, 29, 30, 31, 32] (by decide +kernel) (by decide +kernel)
set_option maxRecDepth 20000 in
theorem gX5_partOf_X5_isLinked : GoodIn wsX5_partOf (wsV RX5 76 RX5 yX5_isLinked wsX5_isLinked) := goodIn_app (goodIn_of _ (by decide +kernel)) ggX5_partOf_X5_isLinked
theorem dX5_partOf_0 : decode cX5_partOf 0 = .ok (.iconst 1, 1) := by decide +kernel
theorem dX5_partOf_1 : decode cX5_partOf 1 = .ok (.iload_n 1, 1) := by decide +kernel
theorem dX5_partOf_2 : decode cX5_partOf 2 = .ok (.ishl, 1) := by decide +kernel
theorem dX5_partOf_3 : decode cX5_partOf 3 = .ok (.istore_n 2, 1) := by decide +kernel
theorem dX5_partOf_4 : decode cX5_partOf 4 = .ok (.iconst 0, 1) := by decide +kernel
theorem dX5_partOf_5 : decode cX5_partOf 5 = .ok (.istore_n 3, 1) := by decide +kernel
theorem dX5_partOf_6 : decode cX5_partOf 6 = .ok (.iload_n 3, 1) := by decide +kernel
theorem dX5_partOf_7 : decode cX5_partOf 7 = .ok (.iconst 5, 1) := by decide +kernel
theorem dX5_partOf_8 : decode cX5_partOf 8 = .ok (.if_icmp .ge 60, 3) := by decide +kernel
theorem dX5_partOf_11 : decode cX5_partOf 11 = .ok (.iconst 0, 1) := by decide +kernel
theorem dX5_partOf_12 : decode cX5_partOf 12 = .ok (.istore 4, 2) := by decide +kernel
theorem dX5_partOf_14 : decode cX5_partOf 14 = .ok (.iload 4, 2) := by decide +kernel
theorem dX5_partOf_16 : decode cX5_partOf 16 = .ok (.bipush 20, 2) := by decide +kernel
theorem dX5_partOf_18 : decode cX5_partOf 18 = .ok (.if_icmp .ge 44, 3) := by decide +kernel
theorem dX5_partOf_21 : decode cX5_partOf 21 = .ok (.aload_n 0, 1) := by decide +kernel
theorem dX5_partOf_22 : decode cX5_partOf 22 = .ok (.iload 4, 2) := by decide +kernel
theorem dX5_partOf_24 : decode cX5_partOf 24 = .ok (.invokevirtual 76, 3) := by decide +kernel
theorem dX5_partOf_27 : decode cX5_partOf 27 = .ok (.ifCond .eq 29, 3) := by decide +kernel
theorem dX5_partOf_30 : decode cX5_partOf 30 = .ok (.iload_n 2, 1) := by decide +kernel
theorem dX5_partOf_31 : decode cX5_partOf 31 = .ok (.iload 4, 2) := by decide +kernel
theorem dX5_partOf_33 : decode cX5_partOf 33 = .ok (.iconst 4, 1) := by decide +kernel
theorem dX5_partOf_34 : decode cX5_partOf 34 = .ok (.idiv, 1) := by decide +kernel
theorem dX5_partOf_35 : decode cX5_partOf 35 = .ok (.ishr, 1) := by decide +kernel
theorem dX5_partOf_36 : decode cX5_partOf 36 = .ok (.iconst 1, 1) := by decide +kernel
theorem dX5_partOf_37 : decode cX5_partOf 37 = .ok (.iand, 1) := by decide +kernel
theorem dX5_partOf_38 : decode cX5_partOf 38 = .ok (.iconst 1, 1) := by decide +kernel
theorem dX5_partOf_39 : decode cX5_partOf 39 = .ok (.if_icmp .ne 17, 3) := by decide +kernel
theorem dX5_partOf_42 : decode cX5_partOf 42 = .ok (.iload_n 2, 1) := by decide +kernel
theorem dX5_partOf_43 : decode cX5_partOf 43 = .ok (.iconst 1, 1) := by decide +kernel
theorem dX5_partOf_44 : decode cX5_partOf 44 = .ok (.aload_n 0, 1) := by decide +kernel
theorem dX5_partOf_45 : decode cX5_partOf 45 = .ok (.getfield 7, 3) := by decide +kernel
theorem dX5_partOf_48 : decode cX5_partOf 48 = .ok (.iload 4, 2) := by decide +kernel
theorem dX5_partOf_50 : decode cX5_partOf 50 = .ok (.iaload, 1) := by decide +kernel
theorem dX5_partOf_51 : decode cX5_partOf 51 = .ok (.iconst 4, 1) := by decide +kernel
theorem dX5_partOf_52 : decode cX5_partOf 52 = .ok (.idiv, 1) := by decide +kernel
theorem dX5_partOf_53 : decode cX5_partOf 53 = .ok (.ishl, 1) := by decide +kernel
theorem dX5_partOf_54 : decode cX5_partOf 54 = .ok (.ior, 1) := by decide +kernel
theorem dX5_partOf_55 : decode cX5_partOf 55 = .ok (.istore_n 2, 1) := by decide +kernel
theorem dX5_partOf_56 : decode cX5_partOf 56 = .ok (.iinc 4 1, 3) := by decide +kernel
theorem dX5_partOf_59 : decode cX5_partOf 59 = .ok (.goto (-45), 3) := by decide +kernel
theorem dX5_partOf_62 : decode cX5_partOf 62 = .ok (.iinc 3 1, 3) := by decide +kernel
theorem dX5_partOf_65 : decode cX5_partOf 65 = .ok (.goto (-59), 3) := by decide +kernel
theorem dX5_partOf_68 : decode cX5_partOf 68 = .ok (.iload_n 2, 1) := by decide +kernel
theorem dX5_partOf_69 : decode cX5_partOf 69 = .ok (.ireturn, 1) := by decide +kernel
theorem dX5_resets_0 : decode cX5_resets 0 = .ok (.aload_n 0, 1) := by decide +kernel
theorem dX5_resets_1 : decode cX5_resets 1 = .ok (.getfield 7, 3) := by decide +kernel
theorem dX5_resets_4 : decode cX5_resets 4 = .ok (.iload_n 1, 1) := by decide +kernel
theorem dX5_resets_5 : decode cX5_resets 5 = .ok (.iload_n 2, 1) := by decide +kernel
theorem dX5_resets_6 : decode cX5_resets 6 = .ok (.iastore, 1) := by decide +kernel
theorem dX5_resets_7 : decode cX5_resets 7 = .ok (.aload_n 0, 1) := by decide +kernel
theorem dX5_resets_8 : decode cX5_resets 8 = .ok (.getfield 39, 3) := by decide +kernel
theorem dX5_resets_11 : decode cX5_resets 11 = .ok (.iload_n 1, 1) := by decide +kernel
theorem dX5_resets_12 : decode cX5_resets 12 = .ok (.iconst 0, 1) := by decide +kernel
theorem dX5_resets_13 : decode cX5_resets 13 = .ok (.bastore, 1) := by decide +kernel
theorem dX5_resets_14 : decode cX5_resets 14 = .ok (.aload_n 0, 1) := by decide +kernel
theorem dX5_resets_15 : decode cX5_resets 15 = .ok (.getfield 36, 3) := by decide +kernel
theorem dX5_resets_18 : decode cX5_resets 18 = .ok (.iload_n 1, 1) := by decide +kernel
theorem dX5_resets_19 : decode cX5_resets 19 = .ok (.iload_n 2, 1) := by decide +kernel
theorem dX5_resets_20 : decode cX5_resets 20 = .ok (.iconst (-1), 1) := by decide +kernel
theorem dX5_resets_21 : decode cX5_resets 21 = .ok (.if_icmp .ne 7, 3) := by decide +kernel
theorem dX5_resets_24 : decode cX5_resets 24 = .ok (.iconst 0, 1) := by decide +kernel
theorem dX5_resets_25 : decode cX5_resets 25 = .ok (.goto 7, 3) := by decide +kernel
theorem dX5_resets_28 : decode cX5_resets 28 = .ok (.aload_n 0, 1) := by decide +kernel
theorem dX5_resets_29 : decode cX5_resets 29 = .ok (.getfield 80, 3) := by decide +kernel
theorem dX5_resets_32 : decode cX5_resets 32 = .ok (.iastore, 1) := by decide +kernel
theorem dX5_resets_33 : decode cX5_resets 33 = .ok (.iconst 4, 1) := by decide +kernel
theorem dX5_resets_34 : decode cX5_resets 34 = .ok (.iload_n 1, 1) := by decide +kernel
theorem dX5_resets_35 : decode cX5_resets 35 = .ok (.imul, 1) := by decide +kernel
theorem dX5_resets_36 : decode cX5_resets 36 = .ok (.istore_n 3, 1) := by decide +kernel
theorem dX5_resets_37 : decode cX5_resets 37 = .ok (.iload_n 3, 1) := by decide +kernel
theorem dX5_resets_38 : decode cX5_resets 38 = .ok (.iconst 4, 1) := by decide +kernel
theorem dX5_resets_39 : decode cX5_resets 39 = .ok (.iload_n 1, 1) := by decide +kernel
theorem dX5_resets_40 : decode cX5_resets 40 = .ok (.imul, 1) := by decide +kernel
theorem dX5_resets_41 : decode cX5_resets 41 = .ok (.iconst 4, 1) := by decide +kernel
theorem dX5_resets_42 : decode cX5_resets 42 = .ok (.iadd, 1) := by decide +kernel
theorem dX5_resets_43 : decode cX5_resets 43 = .ok (.if_icmp .ge 37, 3) := by decide +kernel
theorem dX5_resets_46 : decode cX5_resets 46 = .ok (.aload_n 0, 1) := by decide +kernel
theorem dX5_resets_47 : decode cX5_resets 47 = .ok (.getfield 24, 3) := by decide +kernel
theorem dX5_resets_50 : decode cX5_resets 50 = .ok (.iload_n 3, 1) := by decide +kernel
theorem dX5_resets_51 : decode cX5_resets 51 = .ok (.iconst 0, 1) := by decide +kernel
theorem dX5_resets_52 : decode cX5_resets 52 = .ok (.iastore, 1) := by decide +kernel
theorem dX5_resets_53 : decode cX5_resets 53 = .ok (.aload_n 0, 1) := by decide +kernel
theorem dX5_resets_54 : decode cX5_resets 54 = .ok (.getfield 27, 3) := by decide +kernel
theorem dX5_resets_57 : decode cX5_resets 57 = .ok (.iload_n 3, 1) := by decide +kernel
theorem dX5_resets_58 : decode cX5_resets 58 = .ok (.iconst 0, 1) := by decide +kernel
theorem dX5_resets_59 : decode cX5_resets 59 = .ok (.iastore, 1) := by decide +kernel
theorem dX5_resets_60 : decode cX5_resets 60 = .ok (.aload_n 0, 1) := by decide +kernel
theorem dX5_resets_61 : decode cX5_resets 61 = .ok (.getfield 30, 3) := by decide +kernel
theorem dX5_resets_64 : decode cX5_resets 64 = .ok (.iload_n 3, 1) := by decide +kernel
theorem dX5_resets_65 : decode cX5_resets 65 = .ok (.iconst 0, 1) := by decide +kernel
theorem dX5_resets_66 : decode cX5_resets 66 = .ok (.iastore, 1) := by decide +kernel
theorem dX5_resets_67 : decode cX5_resets 67 = .ok (.aload_n 0, 1) := by decide +kernel
theorem dX5_resets_68 : decode cX5_resets 68 = .ok (.getfield 33, 3) := by decide +kernel
theorem dX5_resets_71 : decode cX5_resets 71 = .ok (.iload_n 3, 1) := by decide +kernel
theorem dX5_resets_72 : decode cX5_resets 72 = .ok (.iconst 0, 1) := by decide +kernel
theorem dX5_resets_73 : decode cX5_resets 73 = .ok (.iastore, 1) := by decide +kernel
theorem dX5_resets_74 : decode cX5_resets 74 = .ok (.iinc 3 1, 3) := by decide +kernel
theorem dX5_resets_77 : decode cX5_resets 77 = .ok (.goto (-40), 3) := by decide +kernel
theorem dX5_resets_80 : decode cX5_resets 80 = .ok (.return_, 1) := by decide +kernel
set_option maxRecDepth 20000 in
theorem ggX5_connect_X5_isPort : GoodIn wsX5_connect wsX5_isPort := goodIn_r _ [6, 7, 8, 9, 5, 10, 35, 36, 37, 38, 39, 40, 41, 42, 43, 44, 45, 46, 47, 48, 49, 50, 51, 52, 53, 54, 55, 56, 57] (by decide +kernel) (by decide +kernel)
set_option maxRecDepth 20000 in
theorem gX5_connect_X5_isPort : GoodIn wsX5_connect (wsV RX5 83 RX5 yX5_isPort wsX5_isPort) := goodIn_app (goodIn_of _ (by decide +kernel)) ggX5_connect_X5_isPort
set_option maxRecDepth 20000 in
theorem ggX5_connect_X5_isConnected : GoodIn wsX5_connect wsX5_isConnected := goodIn_r _ [14, 15, 35, 36, 37, 38, 39, 40, 41, 42, 43, 44, 45, 46, 47, 48, 49, 50, 51, 52, 53, 54, 55, 56, 57] (by decide +kernel) (by decide +kernel)
set_option maxRecDepth 20000 in
theorem gX5_connect_X5_isConnected : GoodIn wsX5_connect (wsV RX5 87 RX5 yX5_isConnected wsX5_isConnected) := goodIn_app (goodIn_of _ (by decide +kernel)) ggX5_connect_X5_isConnected
set_option maxRecDepth 20000 in
theorem ggX5_connect_X5_partOf : GoodIn wsX5_connect wsX5_partOf := goodIn_r _ [19, 15, 20, 21, 22, 5, 23, 8, 9, 10, 35, 36, 37, 38, 39, 40, 41, 42, 43, 44, 45, 46, 47, 48, 49, 50, 51, 52, 53, 54, 55, 56, 57] (by decide +kernel) (by decide +kernel)
set_option maxRecDepth 20000 in
theorem gX5_connect_X5_partOf : GoodIn wsX5_connect (wsV RX5 90 RX5 yX5_partOf wsX5_partOf) := goodIn_app (goodIn_of _ (by decide +kernel)) ggX5_connect_X5_partOf
set_option maxRecDepth 20000 in
theorem ggX5_connect_X5_resets : GoodIn wsX5_connect wsX5_resets := goodIn_r _ [27, 15, 28, 29, 30, 31, 32, 33, 34, 35, 36, 37, 38, 39, 40, 41, 42, 43, 44, 45, 46, 47, 48, 49, 50, 51, 52, 53, 54, 55, 56, 57] (by decide +kernel) (by decide +kernel)
set_option maxRecDepth 20000 in
theorem gX5_connect_X5_resets : GoodIn wsX5_connect (wsV RX5 94 RX5 yX5_resets wsX5_resets) := goodIn_app (goodIn_of _ (by decide +kernel)) ggX5_connect_X5_resets
theorem dX5_connect_0 : decode cX5_connect 0 = .ok (.aload_n 0, 1) := by decide +kernel
theorem dX5_connect_1 : decode cX5_connect 1 = .ok (.iload_n 1, 1) := by decide +kernel
theorem dX5_connect_2 : decode cX5_connect 2 = .ok (.iload_n 2, 1) := by decide +kernel
theorem dX5_connect_3 : decode cX5_connect 3 = .ok (.invokevirtual 83, 3) := by decide +kernel
theorem dX5_connect_6 : decode cX5_connect 6 = .ok (.ifCond .eq 13, 3) := by decide +kernel
theorem dX5_connect_9 : decode cX5_connect 9 = .ok (.aload_n 0, 1) := by decide +kernel
theorem dX5_connect_10 : decode cX5_connect 10 = .ok (.iload_n 3, 1) := by decide +kernel
theorem dX5_connect_11 : decode cX5_connect 11 = .ok (.iload 4, 2) := by decide +kernel
theorem dX5_connect_13 : decode cX5_connect 13 = .ok (.invokevirtual 83, 3) := by decide +kernel
theorem dX5_connect_16 : decode cX5_connect 16 = .ok (.ifCond .ne 5, 3) := by decide +kernel
theorem dX5_connect_19 : decode cX5_connect 19 = .ok (.iconst (-1), 1) := by decide +kernel
theorem dX5_connect_20 : decode cX5_connect 20 = .ok (.ireturn, 1) := by decide +kernel
theorem dX5_connect_21 : decode cX5_connect 21 = .ok (.iconst 4, 1) := by decide +kernel
theorem dX5_connect_22 : decode cX5_connect 22 = .ok (.iload_n 1, 1) := by decide +kernel
theorem dX5_connect_23 : decode cX5_connect 23 = .ok (.imul, 1) := by decide +kernel
theorem dX5_connect_24 : decode cX5_connect 24 = .ok (.iload_n 2, 1) := by decide +kernel
theorem dX5_connect_25 : decode cX5_connect 25 = .ok (.iadd, 1) := by decide +kernel
theorem dX5_connect_26 : decode cX5_connect 26 = .ok (.istore 5, 2) := by decide +kernel
theorem dX5_connect_28 : decode cX5_connect 28 = .ok (.iconst 4, 1) := by decide +kernel
theorem dX5_connect_29 : decode cX5_connect 29 = .ok (.iload_n 3, 1) := by decide +kernel
theorem dX5_connect_30 : decode cX5_connect 30 = .ok (.imul, 1) := by decide +kernel
theorem dX5_connect_31 : decode cX5_connect 31 = .ok (.iload 4, 2) := by decide +kernel
theorem dX5_connect_33 : decode cX5_connect 33 = .ok (.iadd, 1) := by decide +kernel
theorem dX5_connect_34 : decode cX5_connect 34 = .ok (.istore 6, 2) := by decide +kernel
theorem dX5_connect_36 : decode cX5_connect 36 = .ok (.aload_n 0, 1) := by decide +kernel
theorem dX5_connect_37 : decode cX5_connect 37 = .ok (.iload 5, 2) := by decide +kernel
theorem dX5_connect_39 : decode cX5_connect 39 = .ok (.invokevirtual 87, 3) := by decide +kernel
theorem dX5_connect_42 : decode cX5_connect 42 = .ok (.ifCond .ne 12, 3) := by decide +kernel
theorem dX5_connect_45 : decode cX5_connect 45 = .ok (.aload_n 0, 1) := by decide +kernel
theorem dX5_connect_46 : decode cX5_connect 46 = .ok (.iload 6, 2) := by decide +kernel
theorem dX5_connect_48 : decode cX5_connect 48 = .ok (.invokevirtual 87, 3) := by decide +kernel
theorem dX5_connect_51 : decode cX5_connect 51 = .ok (.ifCond .eq 6, 3) := by decide +kernel
theorem dX5_connect_54 : decode cX5_connect 54 = .ok (.bipush (-6), 2) := by decide +kernel
theorem dX5_connect_56 : decode cX5_connect 56 = .ok (.ireturn, 1) := by decide +kernel
theorem dX5_connect_57 : decode cX5_connect 57 = .ok (.aload_n 0, 1) := by decide +kernel
theorem dX5_connect_58 : decode cX5_connect 58 = .ok (.iload_n 1, 1) := by decide +kernel
theorem dX5_connect_59 : decode cX5_connect 59 = .ok (.invokevirtual 90, 3) := by decide +kernel
theorem dX5_connect_62 : decode cX5_connect 62 = .ok (.iload_n 3, 1) := by decide +kernel
theorem dX5_connect_63 : decode cX5_connect 63 = .ok (.ishr, 1) := by decide +kernel
theorem dX5_connect_64 : decode cX5_connect 64 = .ok (.iconst 1, 1) := by decide +kernel
theorem dX5_connect_65 : decode cX5_connect 65 = .ok (.iand, 1) := by decide +kernel
theorem dX5_connect_66 : decode cX5_connect 66 = .ok (.iconst 1, 1) := by decide +kernel
theorem dX5_connect_67 : decode cX5_connect 67 = .ok (.if_icmp .ne 6, 3) := by decide +kernel
theorem dX5_connect_70 : decode cX5_connect 70 = .ok (.bipush (-8), 2) := by decide +kernel
theorem dX5_connect_72 : decode cX5_connect 72 = .ok (.ireturn, 1) := by decide +kernel
theorem dX5_connect_73 : decode cX5_connect 73 = .ok (.aload_n 0, 1) := by decide +kernel
theorem dX5_connect_74 : decode cX5_connect 74 = .ok (.iload 5, 2) := by decide +kernel
theorem dX5_connect_76 : decode cX5_connect 76 = .ok (.iload 6, 2) := by decide +kernel
theorem dX5_connect_78 : decode cX5_connect 78 = .ok (.invokevirtual 94, 3) := by decide +kernel
theorem dX5_connect_81 : decode cX5_connect 81 = .ok (.aload_n 0, 1) := by decide +kernel
theorem dX5_connect_82 : decode cX5_connect 82 = .ok (.iload 6, 2) := by decide +kernel
theorem dX5_connect_84 : decode cX5_connect 84 = .ok (.iload 5, 2) := by decide +kernel
theorem dX5_connect_86 : decode cX5_connect 86 = .ok (.invokevirtual 94, 3) := by decide +kernel
theorem dX5_connect_89 : decode cX5_connect 89 = .ok (.aload_n 0, 1) := by decide +kernel
theorem dX5_connect_90 : decode cX5_connect 90 = .ok (.dup, 1) := by decide +kernel
theorem dX5_connect_91 : decode cX5_connect 91 = .ok (.getfield 98, 3) := by decide +kernel
theorem dX5_connect_94 : decode cX5_connect 94 = .ok (.iconst 1, 1) := by decide +kernel
theorem dX5_connect_95 : decode cX5_connect 95 = .ok (.iadd, 1) := by decide +kernel
theorem dX5_connect_96 : decode cX5_connect 96 = .ok (.putfield 98, 3) := by decide +kernel
theorem dX5_connect_99 : decode cX5_connect 99 = .ok (.aload_n 0, 1) := by decide +kernel
theorem dX5_connect_100 : decode cX5_connect 100 = .ok (.getfield 98, 3) := by decide +kernel
theorem dX5_connect_103 : decode cX5_connect 103 = .ok (.ireturn, 1) := by decide +kernel
set_option maxRecDepth 20000 in
theorem ggX5_cut_X5_isPort : GoodIn wsX5_cut wsX5_isPort := goodIn_r _ [7, 8, 9, 10, 6, 11, 27, 28, 29, 30, 31, 32, 33, 34, 35, 36, 37, 38, 39, 40, 41, 42, 43, 44, 45, 46, 47, 48, 49] (by decide +kernel) (by decide +kernel)
set_option maxRecDepth 20000 in
theorem gX5_cut_X5_isPort : GoodIn wsX5_cut (wsV RX5 83 RX5 yX5_isPort wsX5_isPort) := goodIn_app (goodIn_of _ (by decide +kernel)) ggX5_cut_X5_isPort
set_option maxRecDepth 20000 in
theorem ggX5_cut_X5_isLinked : GoodIn wsX5_cut wsX5_isLinked := goodIn_r _ [15, 1, 9, 10, 6, 11, 27, 28, 29, 30, 31, 32, 33, 34, 35, 36, 37, 38, 39, 40, 41, 42, 43, 44, 45, 46, 47, 48, 49] (by decide +kernel) (by decide +kernel)
set_option maxRecDepth 20000 in
theorem gX5_cut_X5_isLinked : GoodIn wsX5_cut (wsV RX5 76 RX5 yX5_isLinked wsX5_isLinked) := goodIn_app (goodIn_of _ (by decide +kernel)) ggX5_cut_X5_isLinked
set_option maxRecDepth 20000 in
theorem ggX5_cut_X5_resets : GoodIn wsX5_cut wsX5_resets := goodIn_r _ [19, 1, 20, 21, 22, 23, 24, 25, 26, 27, 28, 29, 30, 31, 32, 33, 34, 35, 36, 37, 38, 39, 40, 41, 42, 43, 44, 45, 46, 47, 48, 49] (by decide +kernel) (by decide +kernel)
set_option maxRecDepth 20000 in
theorem gX5_cut_X5_resets : GoodIn wsX5_cut (wsV RX5 94 RX5 yX5_resets wsX5_resets) := goodIn_app (goodIn_of _ (by decide +kernel)) ggX5_cut_X5_resets
theorem dX5_cut_0 : decode cX5_cut 0 = .ok (.aload_n 0, 1) := by decide +kernel
theorem dX5_cut_1 : decode cX5_cut 1 = .ok (.iload_n 1, 1) := by decide +kernel
theorem dX5_cut_2 : decode cX5_cut 2 = .ok (.iload_n 2, 1) := by decide +kernel
theorem dX5_cut_3 : decode cX5_cut 3 = .ok (.invokevirtual 83, 3) := by decide +kernel
theorem dX5_cut_6 : decode cX5_cut 6 = .ok (.ifCond .ne 5, 3) := by decide +kernel
theorem dX5_cut_9 : decode cX5_cut 9 = .ok (.iconst (-1), 1) := by decide +kernel
theorem dX5_cut_10 : decode cX5_cut 10 = .ok (.ireturn, 1) := by decide +kernel
theorem dX5_cut_11 : decode cX5_cut 11 = .ok (.iconst 4, 1) := by decide +kernel
theorem dX5_cut_12 : decode cX5_cut 12 = .ok (.iload_n 1, 1) := by decide +kernel
theorem dX5_cut_13 : decode cX5_cut 13 = .ok (.imul, 1) := by decide +kernel
theorem dX5_cut_14 : decode cX5_cut 14 = .ok (.iload_n 2, 1) := by decide +kernel
theorem dX5_cut_15 : decode cX5_cut 15 = .ok (.iadd, 1) := by decide +kernel
theorem dX5_cut_16 : decode cX5_cut 16 = .ok (.istore_n 3, 1) := by decide +kernel
theorem dX5_cut_17 : decode cX5_cut 17 = .ok (.aload_n 0, 1) := by decide +kernel
theorem dX5_cut_18 : decode cX5_cut 18 = .ok (.iload_n 3, 1) := by decide +kernel
theorem dX5_cut_19 : decode cX5_cut 19 = .ok (.invokevirtual 76, 3) := by decide +kernel
theorem dX5_cut_22 : decode cX5_cut 22 = .ok (.ifCond .ne 6, 3) := by decide +kernel
theorem dX5_cut_25 : decode cX5_cut 25 = .ok (.bipush (-7), 2) := by decide +kernel
theorem dX5_cut_27 : decode cX5_cut 27 = .ok (.ireturn, 1) := by decide +kernel
theorem dX5_cut_28 : decode cX5_cut 28 = .ok (.aload_n 0, 1) := by decide +kernel
theorem dX5_cut_29 : decode cX5_cut 29 = .ok (.aload_n 0, 1) := by decide +kernel
theorem dX5_cut_30 : decode cX5_cut 30 = .ok (.getfield 7, 3) := by decide +kernel
theorem dX5_cut_33 : decode cX5_cut 33 = .ok (.iload_n 3, 1) := by decide +kernel
theorem dX5_cut_34 : decode cX5_cut 34 = .ok (.iaload, 1) := by decide +kernel
theorem dX5_cut_35 : decode cX5_cut 35 = .ok (.iconst (-1), 1) := by decide +kernel
theorem dX5_cut_36 : decode cX5_cut 36 = .ok (.invokevirtual 94, 3) := by decide +kernel
theorem dX5_cut_39 : decode cX5_cut 39 = .ok (.aload_n 0, 1) := by decide +kernel
theorem dX5_cut_40 : decode cX5_cut 40 = .ok (.iload_n 3, 1) := by decide +kernel
theorem dX5_cut_41 : decode cX5_cut 41 = .ok (.iconst (-1), 1) := by decide +kernel
theorem dX5_cut_42 : decode cX5_cut 42 = .ok (.invokevirtual 94, 3) := by decide +kernel
theorem dX5_cut_45 : decode cX5_cut 45 = .ok (.aload_n 0, 1) := by decide +kernel
theorem dX5_cut_46 : decode cX5_cut 46 = .ok (.dup, 1) := by decide +kernel
theorem dX5_cut_47 : decode cX5_cut 47 = .ok (.getfield 98, 3) := by decide +kernel
theorem dX5_cut_50 : decode cX5_cut 50 = .ok (.iconst 1, 1) := by decide +kernel
theorem dX5_cut_51 : decode cX5_cut 51 = .ok (.isub, 1) := by decide +kernel
theorem dX5_cut_52 : decode cX5_cut 52 = .ok (.putfield 98, 3) := by decide +kernel
theorem dX5_cut_55 : decode cX5_cut 55 = .ok (.aload_n 0, 1) := by decide +kernel
theorem dX5_cut_56 : decode cX5_cut 56 = .ok (.getfield 98, 3) := by decide +kernel
theorem dX5_cut_59 : decode cX5_cut 59 = .ok (.ireturn, 1) := by decide +kernel
set_option maxRecDepth 20000 in
theorem ggX5_addHost_X5_isPort : GoodIn wsX5_addHost wsX5_isPort := goodIn_r _ [7, 8, 9, 10, 6, 11, 28, 29, 30, 31, 32, 33, 34, 35, 36, 37, 38, 39, 40, 41, 42, 43, 44, 45, 46, 47, 48, 49, 50] (by decide +kernel) (by decide +kernel)
set_option maxRecDepth 20000 in
theorem gX5_addHost_X5_isPort : GoodIn wsX5_addHost (wsV RX5 83 RX5 yX5_isPort wsX5_isPort) := goodIn_app (goodIn_of _ (by decide +kernel)) ggX5_addHost_X5_isPort
set_option maxRecDepth 20000 in
theorem ggX5_addHost_X5_isConnected : GoodIn wsX5_addHost wsX5_isConnected := goodIn_r _ [15, 16, 28, 29, 30, 31, 32, 33, 34, 35, 36, 37, 38, 39, 40, 41, 42, 43, 44, 45, 46, 47, 48, 49, 50] (by decide +kernel) (by decide +kernel)
set_option maxRecDepth 20000 in
theorem gX5_addHost_X5_isConnected : GoodIn wsX5_addHost (wsV RX5 87 RX5 yX5_isConnected wsX5_isConnected) := goodIn_app (goodIn_of _ (by decide +kernel)) ggX5_addHost_X5_isConnected
set_option maxRecDepth 20000 in
theorem ggX5_addHost_X5_resets : GoodIn wsX5_addHost wsX5_resets := goodIn_r _ [20, 16, 21, 22, 23, 24, 25, 26, 27, 28, 29, 30, 31, 32, 33, 34, 35, 36, 37, 38, 39, 40, 41, 42, 43, 44, 45, 46, 47, 48, 49, 50] (by decide +kernel) (by decide +kernel)
set_option maxRecDepth 20000 in
theorem gX5_addHost_X5_resets : GoodIn wsX5_addHost (wsV RX5 94 RX5 yX5_resets wsX5_resets) := goodIn_app (goodIn_of _ (by decide +kernel)) ggX5_addHost_X5_resets
theorem dX5_addHost_0 : decode cX5_addHost 0 = .ok (.aload_n 0, 1) := by decide +kernel
theorem dX5_addHost_1 : decode cX5_addHost 1 = .ok (.iload_n 1, 1) := by decide +kernel
theorem dX5_addHost_2 : decode cX5_addHost 2 = .ok (.iload_n 2, 1) := by decide +kernel
theorem dX5_addHost_3 : decode cX5_addHost 3 = .ok (.invokevirtual 83, 3) := by decide +kernel
theorem dX5_addHost_6 : decode cX5_addHost 6 = .ok (.ifCond .ne 5, 3) := by decide +kernel
theorem dX5_addHost_9 : decode cX5_addHost 9 = .ok (.iconst (-1), 1) := by decide +kernel
theorem dX5_addHost_10 : decode cX5_addHost 10 = .ok (.ireturn, 1) := by decide +kernel
theorem dX5_addHost_11 : decode cX5_addHost 11 = .ok (.iconst 4, 1) := by decide +kernel
theorem dX5_addHost_12 : decode cX5_addHost 12 = .ok (.iload_n 1, 1) := by decide +kernel
theorem dX5_addHost_13 : decode cX5_addHost 13 = .ok (.imul, 1) := by decide +kernel
theorem dX5_addHost_14 : decode cX5_addHost 14 = .ok (.iload_n 2, 1) := by decide +kernel
theorem dX5_addHost_15 : decode cX5_addHost 15 = .ok (.iadd, 1) := by decide +kernel
theorem dX5_addHost_16 : decode cX5_addHost 16 = .ok (.istore_n 3, 1) := by decide +kernel
theorem dX5_addHost_17 : decode cX5_addHost 17 = .ok (.aload_n 0, 1) := by decide +kernel
theorem dX5_addHost_18 : decode cX5_addHost 18 = .ok (.iload_n 3, 1) := by decide +kernel
theorem dX5_addHost_19 : decode cX5_addHost 19 = .ok (.invokevirtual 87, 3) := by decide +kernel
theorem dX5_addHost_22 : decode cX5_addHost 22 = .ok (.ifCond .eq 6, 3) := by decide +kernel
theorem dX5_addHost_25 : decode cX5_addHost 25 = .ok (.bipush (-6), 2) := by decide +kernel
theorem dX5_addHost_27 : decode cX5_addHost 27 = .ok (.ireturn, 1) := by decide +kernel
theorem dX5_addHost_28 : decode cX5_addHost 28 = .ok (.aload_n 0, 1) := by decide +kernel
theorem dX5_addHost_29 : decode cX5_addHost 29 = .ok (.getfield 73, 3) := by decide +kernel
theorem dX5_addHost_32 : decode cX5_addHost 32 = .ok (.bipush 8, 2) := by decide +kernel
theorem dX5_addHost_34 : decode cX5_addHost 34 = .ok (.if_icmp .ne 6, 3) := by decide +kernel
theorem dX5_addHost_37 : decode cX5_addHost 37 = .ok (.bipush (-5), 2) := by decide +kernel
theorem dX5_addHost_39 : decode cX5_addHost 39 = .ok (.ireturn, 1) := by decide +kernel
theorem dX5_addHost_40 : decode cX5_addHost 40 = .ok (.aload_n 0, 1) := by decide +kernel
theorem dX5_addHost_41 : decode cX5_addHost 41 = .ok (.iload_n 3, 1) := by decide +kernel
theorem dX5_addHost_42 : decode cX5_addHost 42 = .ok (.bipush 100, 2) := by decide +kernel
theorem dX5_addHost_44 : decode cX5_addHost 44 = .ok (.aload_n 0, 1) := by decide +kernel
theorem dX5_addHost_45 : decode cX5_addHost 45 = .ok (.getfield 73, 3) := by decide +kernel
theorem dX5_addHost_48 : decode cX5_addHost 48 = .ok (.iadd, 1) := by decide +kernel
theorem dX5_addHost_49 : decode cX5_addHost 49 = .ok (.invokevirtual 94, 3) := by decide +kernel
theorem dX5_addHost_52 : decode cX5_addHost 52 = .ok (.aload_n 0, 1) := by decide +kernel
theorem dX5_addHost_53 : decode cX5_addHost 53 = .ok (.getfield 13, 3) := by decide +kernel
theorem dX5_addHost_56 : decode cX5_addHost 56 = .ok (.aload_n 0, 1) := by decide +kernel
theorem dX5_addHost_57 : decode cX5_addHost 57 = .ok (.getfield 73, 3) := by decide +kernel
theorem dX5_addHost_60 : decode cX5_addHost 60 = .ok (.iload_n 3, 1) := by decide +kernel
theorem dX5_addHost_61 : decode cX5_addHost 61 = .ok (.iastore, 1) := by decide +kernel
theorem dX5_addHost_62 : decode cX5_addHost 62 = .ok (.aload_n 0, 1) := by decide +kernel
theorem dX5_addHost_63 : decode cX5_addHost 63 = .ok (.dup, 1) := by decide +kernel
theorem dX5_addHost_64 : decode cX5_addHost 64 = .ok (.getfield 73, 3) := by decide +kernel
theorem dX5_addHost_67 : decode cX5_addHost 67 = .ok (.iconst 1, 1) := by decide +kernel
theorem dX5_addHost_68 : decode cX5_addHost 68 = .ok (.iadd, 1) := by decide +kernel
theorem dX5_addHost_69 : decode cX5_addHost 69 = .ok (.putfield 73, 3) := by decide +kernel
theorem dX5_addHost_72 : decode cX5_addHost 72 = .ok (.aload_n 0, 1) := by decide +kernel
theorem dX5_addHost_73 : decode cX5_addHost 73 = .ok (.getfield 73, 3) := by decide +kernel
theorem dX5_addHost_76 : decode cX5_addHost 76 = .ok (.iconst 1, 1) := by decide +kernel
theorem dX5_addHost_77 : decode cX5_addHost 77 = .ok (.isub, 1) := by decide +kernel
theorem dX5_addHost_78 : decode cX5_addHost 78 = .ok (.ireturn, 1) := by decide +kernel
set_option maxRecDepth 20000 in
theorem ggX5_setTimes_X5_within : GoodIn wsX5_setTimes wsX5_within := goodIn_r _ [7] (by decide +kernel) (by decide +kernel)
set_option maxRecDepth 20000 in
theorem gX5_setTimes_X5_within : GoodIn wsX5_setTimes (va_wsS RX5 69 yX5_within wsX5_within) := goodIn_app (goodIn_of _ (by decide +kernel)) ggX5_setTimes_X5_within
set_option maxRecDepth 20000 in
theorem ggX5_setTimes_X5_isConnected : GoodIn wsX5_setTimes wsX5_isConnected := goodIn_r _ [11, 12, 13, 14, 15, 16, 17, 18, 19, 20, 21, 22, 23, 24, 25, 26, 27, 28, 29, 30, 31, 32, 33, 34, 35] (by decide +kernel) (by decide +kernel)
set_option maxRecDepth 20000 in
theorem gX5_setTimes_X5_isConnected : GoodIn wsX5_setTimes (wsV RX5 87 RX5 yX5_isConnected wsX5_isConnected) := goodIn_app (goodIn_of _ (by decide +kernel)) ggX5_setTimes_X5_isConnected
theorem dX5_setTimes_0 : decode cX5_setTimes 0 = .ok (.iload_n 1, 1) := by decide +kernel
theorem dX5_setTimes_1 : decode cX5_setTimes 1 = .ok (.iconst 1, 1) := by decide +kernel
theorem dX5_setTimes_2 : decode cX5_setTimes 2 = .ok (.bipush 50, 2) := by decide +kernel
theorem dX5_setTimes_4 : decode cX5_setTimes 4 = .ok (.invokestatic 69, 3) := by decide +kernel
theorem dX5_setTimes_7 : decode cX5_setTimes 7 = .ok (.ifCond .eq 14, 3) := by decide +kernel
theorem dX5_setTimes_10 : decode cX5_setTimes 10 = .ok (.iload_n 2, 1) := by decide +kernel
theorem dX5_setTimes_11 : decode cX5_setTimes 11 = .ok (.iconst 0, 1) := by decide +kernel
theorem dX5_setTimes_12 : decode cX5_setTimes 12 = .ok (.sipush 200, 3) := by decide +kernel
theorem dX5_setTimes_15 : decode cX5_setTimes 15 = .ok (.invokestatic 69, 3) := by decide +kernel
theorem dX5_setTimes_18 : decode cX5_setTimes 18 = .ok (.ifCond .ne 6, 3) := by decide +kernel
theorem dX5_setTimes_21 : decode cX5_setTimes 21 = .ok (.bipush (-4), 2) := by decide +kernel
theorem dX5_setTimes_23 : decode cX5_setTimes 23 = .ok (.ireturn, 1) := by decide +kernel
theorem dX5_setTimes_24 : decode cX5_setTimes 24 = .ok (.aload_n 0, 1) := by decide +kernel
theorem dX5_setTimes_25 : decode cX5_setTimes 25 = .ok (.iload_n 1, 1) := by decide +kernel
theorem dX5_setTimes_26 : decode cX5_setTimes 26 = .ok (.putfield 20, 3) := by decide +kernel
theorem dX5_setTimes_29 : decode cX5_setTimes 29 = .ok (.aload_n 0, 1) := by decide +kernel
theorem dX5_setTimes_30 : decode cX5_setTimes 30 = .ok (.iload_n 2, 1) := by decide +kernel
theorem dX5_setTimes_31 : decode cX5_setTimes 31 = .ok (.putfield 80, 3) := by decide +kernel
theorem dX5_setTimes_34 : decode cX5_setTimes 34 = .ok (.iconst 0, 1) := by decide +kernel
theorem dX5_setTimes_35 : decode cX5_setTimes 35 = .ok (.istore_n 3, 1) := by decide +kernel
theorem dX5_setTimes_36 : decode cX5_setTimes 36 = .ok (.iconst 0, 1) := by decide +kernel
theorem dX5_setTimes_37 : decode cX5_setTimes 37 = .ok (.istore 4, 2) := by decide +kernel
theorem dX5_setTimes_39 : decode cX5_setTimes 39 = .ok (.iload 4, 2) := by decide +kernel
theorem dX5_setTimes_41 : decode cX5_setTimes 41 = .ok (.bipush 20, 2) := by decide +kernel
theorem dX5_setTimes_43 : decode cX5_setTimes 43 = .ok (.if_icmp .ge 29, 3) := by decide +kernel
theorem dX5_setTimes_46 : decode cX5_setTimes 46 = .ok (.aload_n 0, 1) := by decide +kernel
theorem dX5_setTimes_47 : decode cX5_setTimes 47 = .ok (.iload 4, 2) := by decide +kernel
theorem dX5_setTimes_49 : decode cX5_setTimes 49 = .ok (.invokevirtual 87, 3) := by decide +kernel
theorem dX5_setTimes_52 : decode cX5_setTimes 52 = .ok (.ifCond .eq 14, 3) := by decide +kernel
theorem dX5_setTimes_55 : decode cX5_setTimes 55 = .ok (.aload_n 0, 1) := by decide +kernel
theorem dX5_setTimes_56 : decode cX5_setTimes 56 = .ok (.getfield 36, 3) := by decide +kernel
theorem dX5_setTimes_59 : decode cX5_setTimes 59 = .ok (.iload 4, 2) := by decide +kernel
theorem dX5_setTimes_61 : decode cX5_setTimes 61 = .ok (.iload_n 2, 1) := by decide +kernel
theorem dX5_setTimes_62 : decode cX5_setTimes 62 = .ok (.iastore, 1) := by decide +kernel
theorem dX5_setTimes_63 : decode cX5_setTimes 63 = .ok (.iinc 3 1, 3) := by decide +kernel
theorem dX5_setTimes_66 : decode cX5_setTimes 66 = .ok (.iinc 4 1, 3) := by decide +kernel
theorem dX5_setTimes_69 : decode cX5_setTimes 69 = .ok (.goto (-30), 3) := by decide +kernel
theorem dX5_setTimes_72 : decode cX5_setTimes 72 = .ok (.iload_n 3, 1) := by decide +kernel
theorem dX5_setTimes_73 : decode cX5_setTimes 73 = .ok (.ireturn, 1) := by decide +kernel
theorem dX5_declares_0 : decode cX5_declares 0 = .ok (.iload_n 0, 1) := by decide +kernel
theorem dX5_declares_1 : decode cX5_declares 1 = .ok (.iconst 1, 1) := by decide +kernel
theorem dX5_declares_2 : decode cX5_declares 2 = .ok (.if_icmp .eq 8, 3) := by decide +kernel
theorem dX5_declares_5 : decode cX5_declares 5 = .ok (.iload_n 0, 1) := by decide +kernel
theorem dX5_declares_6 : decode cX5_declares 6 = .ok (.iconst 2, 1) := by decide +kernel
theorem dX5_declares_7 : decode cX5_declares 7 = .ok (.if_icmp .ne 7, 3) := by decide +kernel
theorem dX5_declares_10 : decode cX5_declares 10 = .ok (.iconst 1, 1) := by decide +kernel
theorem dX5_declares_11 : decode cX5_declares 11 = .ok (.goto 4, 3) := by decide +kernel
theorem dX5_declares_14 : decode cX5_declares 14 = .ok (.iconst 0, 1) := by decide +kernel
theorem dX5_declares_15 : decode cX5_declares 15 = .ok (.ireturn, 1) := by decide +kernel
set_option maxRecDepth 20000 in
theorem ggX5_refusedHost_X5_isHost : GoodIn wsX5_refusedHost wsX5_isHost := goodIn_r _ [5, 6, 7, 8, 4, 9, 13, 14, 15, 16, 17, 18, 19, 20, 21, 22, 23, 24, 25, 26, 27, 28, 29, 30, 31, 32, 33, 34, 35] (by decide +kernel) (by decide +kernel)
set_option maxRecDepth 20000 in
theorem gX5_refusedHost_X5_isHost : GoodIn wsX5_refusedHost (wsV RX5 101 RX5 yX5_isHost wsX5_isHost) := goodIn_app (goodIn_of _ (by decide +kernel)) ggX5_refusedHost_X5_isHost
set_option maxRecDepth 20000 in
theorem ggX5_refusedHost_X5_isGroup : GoodIn wsX5_refusedHost wsX5_isGroup := goodIn_r _ [12, 7, 8, 4, 9] (by decide +kernel) (by decide +kernel)
set_option maxRecDepth 20000 in
theorem gX5_refusedHost_X5_isGroup : GoodIn wsX5_refusedHost (va_wsS RX5 104 yX5_isGroup wsX5_isGroup) := goodIn_app (goodIn_of _ (by decide +kernel)) ggX5_refusedHost_X5_isGroup
theorem dX5_refusedHost_0 : decode cX5_refusedHost 0 = .ok (.aload_n 0, 1) := by decide +kernel
theorem dX5_refusedHost_1 : decode cX5_refusedHost 1 = .ok (.iload_n 1, 1) := by decide +kernel
theorem dX5_refusedHost_2 : decode cX5_refusedHost 2 = .ok (.invokevirtual 101, 3) := by decide +kernel
theorem dX5_refusedHost_5 : decode cX5_refusedHost 5 = .ok (.ifCond .ne 8, 3) := by decide +kernel
theorem dX5_refusedHost_8 : decode cX5_refusedHost 8 = .ok (.bipush (-2), 2) := by decide +kernel
theorem dX5_refusedHost_10 : decode cX5_refusedHost 10 = .ok (.goto 16, 3) := by decide +kernel
theorem dX5_refusedHost_13 : decode cX5_refusedHost 13 = .ok (.iload_n 2, 1) := by decide +kernel
theorem dX5_refusedHost_14 : decode cX5_refusedHost 14 = .ok (.invokestatic 104, 3) := by decide +kernel
theorem dX5_refusedHost_17 : decode cX5_refusedHost 17 = .ok (.ifCond .ne 8, 3) := by decide +kernel
theorem dX5_refusedHost_20 : decode cX5_refusedHost 20 = .ok (.bipush (-3), 2) := by decide +kernel
theorem dX5_refusedHost_22 : decode cX5_refusedHost 22 = .ok (.goto 4, 3) := by decide +kernel
theorem dX5_refusedHost_25 : decode cX5_refusedHost 25 = .ok (.iconst 0, 1) := by decide +kernel
theorem dX5_refusedHost_26 : decode cX5_refusedHost 26 = .ok (.ireturn, 1) := by decide +kernel
set_option maxRecDepth 20000 in
theorem ggX5_join_X5_refusedHost : GoodIn wsX5_join wsX5_refusedHost := goodIn_r _ [7, 8, 9, 10, 6, 11, 12, 13, 14, 15, 16, 17, 18, 22, 23, 24, 25, 26, 27, 28, 29, 30, 31, 32, 33, 34, 35, 36, 37, 38, 39, 40, 41, 42, 43, 44] (by decide +kernel) (by decide +kernel)
set_option maxRecDepth 20000 in
theorem gX5_join_X5_refusedHost : GoodIn wsX5_join (wsV RX5 107 RX5 yX5_refusedHost wsX5_refusedHost) := goodIn_app (goodIn_of _ (by decide +kernel)) ggX5_join_X5_refusedHost
set_option maxRecDepth 20000 in
theorem ggX5_join_X5_declares : GoodIn wsX5_join wsX5_declares := goodIn_r _ [21] (by decide +kernel) (by decide +kernel)
set_option maxRecDepth 20000 in
theorem gX5_join_X5_declares : GoodIn wsX5_join (va_wsS RX5 111 yX5_declares wsX5_declares) := goodIn_app (goodIn_of _ (by decide +kernel)) ggX5_join_X5_declares
theorem dX5_join_0 : decode cX5_join 0 = .ok (.aload_n 0, 1) := by decide +kernel
theorem dX5_join_1 : decode cX5_join 1 = .ok (.iload_n 1, 1) := by decide +kernel
theorem dX5_join_2 : decode cX5_join 2 = .ok (.iload_n 2, 1) := by decide +kernel
theorem dX5_join_3 : decode cX5_join 3 = .ok (.invokevirtual 107, 3) := by decide +kernel
theorem dX5_join_6 : decode cX5_join 6 = .ok (.istore_n 3, 1) := by decide +kernel
theorem dX5_join_7 : decode cX5_join 7 = .ok (.iload_n 3, 1) := by decide +kernel
theorem dX5_join_8 : decode cX5_join 8 = .ok (.ifCond .eq 5, 3) := by decide +kernel
theorem dX5_join_11 : decode cX5_join 11 = .ok (.iload_n 3, 1) := by decide +kernel
theorem dX5_join_12 : decode cX5_join 12 = .ok (.ireturn, 1) := by decide +kernel
theorem dX5_join_13 : decode cX5_join 13 = .ok (.iconst 4, 1) := by decide +kernel
theorem dX5_join_14 : decode cX5_join 14 = .ok (.iload_n 1, 1) := by decide +kernel
theorem dX5_join_15 : decode cX5_join 15 = .ok (.imul, 1) := by decide +kernel
theorem dX5_join_16 : decode cX5_join 16 = .ok (.iload_n 2, 1) := by decide +kernel
theorem dX5_join_17 : decode cX5_join 17 = .ok (.iadd, 1) := by decide +kernel
theorem dX5_join_18 : decode cX5_join 18 = .ok (.istore 4, 2) := by decide +kernel
theorem dX5_join_20 : decode cX5_join 20 = .ok (.aload_n 0, 1) := by decide +kernel
theorem dX5_join_21 : decode cX5_join 21 = .ok (.getfield 42, 3) := by decide +kernel
theorem dX5_join_24 : decode cX5_join 24 = .ok (.iload 4, 2) := by decide +kernel
theorem dX5_join_26 : decode cX5_join 26 = .ok (.iaload, 1) := by decide +kernel
theorem dX5_join_27 : decode cX5_join 27 = .ok (.invokestatic 111, 3) := by decide +kernel
theorem dX5_join_30 : decode cX5_join 30 = .ok (.ifCond .eq 5, 3) := by decide +kernel
theorem dX5_join_33 : decode cX5_join 33 = .ok (.iconst 0, 1) := by decide +kernel
theorem dX5_join_34 : decode cX5_join 34 = .ok (.ireturn, 1) := by decide +kernel
theorem dX5_join_35 : decode cX5_join 35 = .ok (.aload_n 0, 1) := by decide +kernel
theorem dX5_join_36 : decode cX5_join 36 = .ok (.getfield 42, 3) := by decide +kernel
theorem dX5_join_39 : decode cX5_join 39 = .ok (.iload 4, 2) := by decide +kernel
theorem dX5_join_41 : decode cX5_join 41 = .ok (.iconst 1, 1) := by decide +kernel
theorem dX5_join_42 : decode cX5_join 42 = .ok (.iastore, 1) := by decide +kernel
theorem dX5_join_43 : decode cX5_join 43 = .ok (.aload_n 0, 1) := by decide +kernel
theorem dX5_join_44 : decode cX5_join 44 = .ok (.getfield 45, 3) := by decide +kernel
theorem dX5_join_47 : decode cX5_join 47 = .ok (.iload 4, 2) := by decide +kernel
theorem dX5_join_49 : decode cX5_join 49 = .ok (.iconst 2, 1) := by decide +kernel
theorem dX5_join_50 : decode cX5_join 50 = .ok (.iastore, 1) := by decide +kernel
theorem dX5_join_51 : decode cX5_join 51 = .ok (.iconst 1, 1) := by decide +kernel
theorem dX5_join_52 : decode cX5_join 52 = .ok (.ireturn, 1) := by decide +kernel
set_option maxRecDepth 20000 in
theorem ggX5_leave_X5_refusedHost : GoodIn wsX5_leave wsX5_refusedHost := goodIn_r _ [6, 7, 8, 9, 5, 10, 11, 12, 13, 14, 15, 16, 17, 21, 22, 23, 24, 25, 26, 27, 28, 29, 30, 31, 32, 33, 34, 35, 36, 37, 38, 39, 40, 41, 42, 43] (by decide +kernel) (by decide +kernel)
set_option maxRecDepth 20000 in
theorem gX5_leave_X5_refusedHost : GoodIn wsX5_leave (wsV RX5 107 RX5 yX5_refusedHost wsX5_refusedHost) := goodIn_app (goodIn_of _ (by decide +kernel)) ggX5_leave_X5_refusedHost
set_option maxRecDepth 20000 in
theorem ggX5_leave_X5_declares : GoodIn wsX5_leave wsX5_declares := goodIn_r _ [20] (by decide +kernel) (by decide +kernel)
set_option maxRecDepth 20000 in
theorem gX5_leave_X5_declares : GoodIn wsX5_leave (va_wsS RX5 111 yX5_declares wsX5_declares) := goodIn_app (goodIn_of _ (by decide +kernel)) ggX5_leave_X5_declares
theorem dX5_leave_0 : decode cX5_leave 0 = .ok (.aload_n 0, 1) := by decide +kernel
theorem dX5_leave_1 : decode cX5_leave 1 = .ok (.iload_n 1, 1) := by decide +kernel
theorem dX5_leave_2 : decode cX5_leave 2 = .ok (.iload_n 2, 1) := by decide +kernel
theorem dX5_leave_3 : decode cX5_leave 3 = .ok (.invokevirtual 107, 3) := by decide +kernel
theorem dX5_leave_6 : decode cX5_leave 6 = .ok (.istore_n 3, 1) := by decide +kernel
theorem dX5_leave_7 : decode cX5_leave 7 = .ok (.iload_n 3, 1) := by decide +kernel
theorem dX5_leave_8 : decode cX5_leave 8 = .ok (.ifCond .eq 5, 3) := by decide +kernel
theorem dX5_leave_11 : decode cX5_leave 11 = .ok (.iload_n 3, 1) := by decide +kernel
theorem dX5_leave_12 : decode cX5_leave 12 = .ok (.ireturn, 1) := by decide +kernel
theorem dX5_leave_13 : decode cX5_leave 13 = .ok (.iconst 4, 1) := by decide +kernel
theorem dX5_leave_14 : decode cX5_leave 14 = .ok (.iload_n 1, 1) := by decide +kernel
theorem dX5_leave_15 : decode cX5_leave 15 = .ok (.imul, 1) := by decide +kernel
theorem dX5_leave_16 : decode cX5_leave 16 = .ok (.iload_n 2, 1) := by decide +kernel
theorem dX5_leave_17 : decode cX5_leave 17 = .ok (.iadd, 1) := by decide +kernel
theorem dX5_leave_18 : decode cX5_leave 18 = .ok (.istore 4, 2) := by decide +kernel
theorem dX5_leave_20 : decode cX5_leave 20 = .ok (.aload_n 0, 1) := by decide +kernel
theorem dX5_leave_21 : decode cX5_leave 21 = .ok (.getfield 42, 3) := by decide +kernel
theorem dX5_leave_24 : decode cX5_leave 24 = .ok (.iload 4, 2) := by decide +kernel
theorem dX5_leave_26 : decode cX5_leave 26 = .ok (.iaload, 1) := by decide +kernel
theorem dX5_leave_27 : decode cX5_leave 27 = .ok (.invokestatic 111, 3) := by decide +kernel
theorem dX5_leave_30 : decode cX5_leave 30 = .ok (.ifCond .ne 5, 3) := by decide +kernel
theorem dX5_leave_33 : decode cX5_leave 33 = .ok (.iconst 0, 1) := by decide +kernel
theorem dX5_leave_34 : decode cX5_leave 34 = .ok (.ireturn, 1) := by decide +kernel
theorem dX5_leave_35 : decode cX5_leave 35 = .ok (.aload_n 0, 1) := by decide +kernel
theorem dX5_leave_36 : decode cX5_leave 36 = .ok (.getfield 42, 3) := by decide +kernel
theorem dX5_leave_39 : decode cX5_leave 39 = .ok (.iload 4, 2) := by decide +kernel
theorem dX5_leave_41 : decode cX5_leave 41 = .ok (.iconst 3, 1) := by decide +kernel
theorem dX5_leave_42 : decode cX5_leave 42 = .ok (.iastore, 1) := by decide +kernel
theorem dX5_leave_43 : decode cX5_leave 43 = .ok (.iconst 1, 1) := by decide +kernel
theorem dX5_leave_44 : decode cX5_leave 44 = .ok (.ireturn, 1) := by decide +kernel
set_option maxRecDepth 20000 in
theorem ggX5_setSilent_X5_isHost : GoodIn wsX5_setSilent wsX5_isHost := goodIn_r _ [6, 7, 8, 9, 5, 10, 11, 12, 13, 14, 15, 16, 17, 18, 19, 20, 21, 22, 23, 24, 25, 26, 27, 28, 29, 30, 31, 32, 33] (by decide +kernel) (by decide +kernel)
set_option maxRecDepth 20000 in
theorem gX5_setSilent_X5_isHost : GoodIn wsX5_setSilent (wsV RX5 101 RX5 yX5_isHost wsX5_isHost) := goodIn_app (goodIn_of _ (by decide +kernel)) ggX5_setSilent_X5_isHost
theorem dX5_setSilent_0 : decode cX5_setSilent 0 = .ok (.aload_n 0, 1) := by decide +kernel
theorem dX5_setSilent_1 : decode cX5_setSilent 1 = .ok (.iload_n 1, 1) := by decide +kernel
theorem dX5_setSilent_2 : decode cX5_setSilent 2 = .ok (.invokevirtual 101, 3) := by decide +kernel
theorem dX5_setSilent_5 : decode cX5_setSilent 5 = .ok (.ifCond .ne 6, 3) := by decide +kernel
theorem dX5_setSilent_8 : decode cX5_setSilent 8 = .ok (.bipush (-2), 2) := by decide +kernel
theorem dX5_setSilent_10 : decode cX5_setSilent 10 = .ok (.ireturn, 1) := by decide +kernel
theorem dX5_setSilent_11 : decode cX5_setSilent 11 = .ok (.aload_n 0, 1) := by decide +kernel
theorem dX5_setSilent_12 : decode cX5_setSilent 12 = .ok (.getfield 16, 3) := by decide +kernel
theorem dX5_setSilent_15 : decode cX5_setSilent 15 = .ok (.iload_n 1, 1) := by decide +kernel
theorem dX5_setSilent_16 : decode cX5_setSilent 16 = .ok (.baload, 1) := by decide +kernel
theorem dX5_setSilent_17 : decode cX5_setSilent 17 = .ok (.iload_n 2, 1) := by decide +kernel
theorem dX5_setSilent_18 : decode cX5_setSilent 18 = .ok (.if_icmp .ne 7, 3) := by decide +kernel
theorem dX5_setSilent_21 : decode cX5_setSilent 21 = .ok (.iconst 0, 1) := by decide +kernel
theorem dX5_setSilent_22 : decode cX5_setSilent 22 = .ok (.goto 4, 3) := by decide +kernel
theorem dX5_setSilent_25 : decode cX5_setSilent 25 = .ok (.iconst 1, 1) := by decide +kernel
theorem dX5_setSilent_26 : decode cX5_setSilent 26 = .ok (.istore_n 3, 1) := by decide +kernel
theorem dX5_setSilent_27 : decode cX5_setSilent 27 = .ok (.aload_n 0, 1) := by decide +kernel
theorem dX5_setSilent_28 : decode cX5_setSilent 28 = .ok (.getfield 16, 3) := by decide +kernel
theorem dX5_setSilent_31 : decode cX5_setSilent 31 = .ok (.iload_n 1, 1) := by decide +kernel
theorem dX5_setSilent_32 : decode cX5_setSilent 32 = .ok (.iload_n 2, 1) := by decide +kernel
theorem dX5_setSilent_33 : decode cX5_setSilent 33 = .ok (.bastore, 1) := by decide +kernel
theorem dX5_setSilent_34 : decode cX5_setSilent 34 = .ok (.iload_n 3, 1) := by decide +kernel
theorem dX5_setSilent_35 : decode cX5_setSilent 35 = .ok (.ireturn, 1) := by decide +kernel
set_option maxRecDepth 20000 in
theorem ggX5_loseNext_X5_isPort : GoodIn wsX5_loseNext wsX5_isPort := goodIn_r _ [6, 7, 8, 9, 5, 10, 16, 17, 18, 19, 20, 21, 22, 23, 24, 25, 26, 27, 28, 29, 30, 31, 32, 33, 34, 35, 36, 37, 38] (by decide +kernel) (by decide +kernel)
set_option maxRecDepth 20000 in
theorem gX5_loseNext_X5_isPort : GoodIn wsX5_loseNext (wsV RX5 83 RX5 yX5_isPort wsX5_isPort) := goodIn_app (goodIn_of _ (by decide +kernel)) ggX5_loseNext_X5_isPort
set_option maxRecDepth 20000 in
theorem ggX5_loseNext_X5_isLinked : GoodIn wsX5_loseNext wsX5_isLinked := goodIn_r _ [14, 15, 8, 9, 5, 10, 16, 17, 18, 19, 20, 21, 22, 23, 24, 25, 26, 27, 28, 29, 30, 31, 32, 33, 34, 35, 36, 37, 38] (by decide +kernel) (by decide +kernel)
set_option maxRecDepth 20000 in
theorem gX5_loseNext_X5_isLinked : GoodIn wsX5_loseNext (wsV RX5 76 RX5 yX5_isLinked wsX5_isLinked) := goodIn_app (goodIn_of _ (by decide +kernel)) ggX5_loseNext_X5_isLinked
theorem dX5_loseNext_0 : decode cX5_loseNext 0 = .ok (.aload_n 0, 1) := by decide +kernel
theorem dX5_loseNext_1 : decode cX5_loseNext 1 = .ok (.iload_n 1, 1) := by decide +kernel
theorem dX5_loseNext_2 : decode cX5_loseNext 2 = .ok (.iload_n 2, 1) := by decide +kernel
theorem dX5_loseNext_3 : decode cX5_loseNext 3 = .ok (.invokevirtual 83, 3) := by decide +kernel
theorem dX5_loseNext_6 : decode cX5_loseNext 6 = .ok (.ifCond .ne 5, 3) := by decide +kernel
theorem dX5_loseNext_9 : decode cX5_loseNext 9 = .ok (.iconst (-1), 1) := by decide +kernel
theorem dX5_loseNext_10 : decode cX5_loseNext 10 = .ok (.ireturn, 1) := by decide +kernel
theorem dX5_loseNext_11 : decode cX5_loseNext 11 = .ok (.iconst 4, 1) := by decide +kernel
theorem dX5_loseNext_12 : decode cX5_loseNext 12 = .ok (.iload_n 1, 1) := by decide +kernel
theorem dX5_loseNext_13 : decode cX5_loseNext 13 = .ok (.imul, 1) := by decide +kernel
theorem dX5_loseNext_14 : decode cX5_loseNext 14 = .ok (.iload_n 2, 1) := by decide +kernel
theorem dX5_loseNext_15 : decode cX5_loseNext 15 = .ok (.iadd, 1) := by decide +kernel
theorem dX5_loseNext_16 : decode cX5_loseNext 16 = .ok (.istore_n 3, 1) := by decide +kernel
theorem dX5_loseNext_17 : decode cX5_loseNext 17 = .ok (.aload_n 0, 1) := by decide +kernel
theorem dX5_loseNext_18 : decode cX5_loseNext 18 = .ok (.iload_n 3, 1) := by decide +kernel
theorem dX5_loseNext_19 : decode cX5_loseNext 19 = .ok (.invokevirtual 76, 3) := by decide +kernel
theorem dX5_loseNext_22 : decode cX5_loseNext 22 = .ok (.ifCond .ne 6, 3) := by decide +kernel
theorem dX5_loseNext_25 : decode cX5_loseNext 25 = .ok (.bipush (-7), 2) := by decide +kernel
theorem dX5_loseNext_27 : decode cX5_loseNext 27 = .ok (.ireturn, 1) := by decide +kernel
theorem dX5_loseNext_28 : decode cX5_loseNext 28 = .ok (.aload_n 0, 1) := by decide +kernel
theorem dX5_loseNext_29 : decode cX5_loseNext 29 = .ok (.getfield 39, 3) := by decide +kernel
theorem dX5_loseNext_32 : decode cX5_loseNext 32 = .ok (.iload_n 3, 1) := by decide +kernel
theorem dX5_loseNext_33 : decode cX5_loseNext 33 = .ok (.baload, 1) := by decide +kernel
theorem dX5_loseNext_34 : decode cX5_loseNext 34 = .ok (.ifCond .eq 7, 3) := by decide +kernel
theorem dX5_loseNext_37 : decode cX5_loseNext 37 = .ok (.iconst 0, 1) := by decide +kernel
theorem dX5_loseNext_38 : decode cX5_loseNext 38 = .ok (.goto 4, 3) := by decide +kernel
theorem dX5_loseNext_41 : decode cX5_loseNext 41 = .ok (.iconst 1, 1) := by decide +kernel
theorem dX5_loseNext_42 : decode cX5_loseNext 42 = .ok (.istore 4, 2) := by decide +kernel
theorem dX5_loseNext_44 : decode cX5_loseNext 44 = .ok (.aload_n 0, 1) := by decide +kernel
theorem dX5_loseNext_45 : decode cX5_loseNext 45 = .ok (.getfield 39, 3) := by decide +kernel
theorem dX5_loseNext_48 : decode cX5_loseNext 48 = .ok (.iload_n 3, 1) := by decide +kernel
theorem dX5_loseNext_49 : decode cX5_loseNext 49 = .ok (.iconst 1, 1) := by decide +kernel
theorem dX5_loseNext_50 : decode cX5_loseNext 50 = .ok (.bastore, 1) := by decide +kernel
theorem dX5_loseNext_51 : decode cX5_loseNext 51 = .ok (.iload 4, 2) := by decide +kernel
theorem dX5_loseNext_53 : decode cX5_loseNext 53 = .ok (.ireturn, 1) := by decide +kernel
theorem dX5_ages_0 : decode cX5_ages 0 = .ok (.aload_n 0, 1) := by decide +kernel
theorem dX5_ages_1 : decode cX5_ages 1 = .ok (.getfield 48, 3) := by decide +kernel
theorem dX5_ages_4 : decode cX5_ages 4 = .ok (.iload_n 1, 1) := by decide +kernel
theorem dX5_ages_5 : decode cX5_ages 5 = .ok (.iconst 0, 1) := by decide +kernel
theorem dX5_ages_6 : decode cX5_ages 6 = .ok (.bastore, 1) := by decide +kernel
theorem dX5_ages_7 : decode cX5_ages 7 = .ok (.iconst 4, 1) := by decide +kernel
theorem dX5_ages_8 : decode cX5_ages 8 = .ok (.iload_n 1, 1) := by decide +kernel
theorem dX5_ages_9 : decode cX5_ages 9 = .ok (.imul, 1) := by decide +kernel
theorem dX5_ages_10 : decode cX5_ages 10 = .ok (.istore_n 2, 1) := by decide +kernel
theorem dX5_ages_11 : decode cX5_ages 11 = .ok (.iload_n 2, 1) := by decide +kernel
theorem dX5_ages_12 : decode cX5_ages 12 = .ok (.iconst 4, 1) := by decide +kernel
theorem dX5_ages_13 : decode cX5_ages 13 = .ok (.iload_n 1, 1) := by decide +kernel
theorem dX5_ages_14 : decode cX5_ages 14 = .ok (.imul, 1) := by decide +kernel
theorem dX5_ages_15 : decode cX5_ages 15 = .ok (.iconst 4, 1) := by decide +kernel
theorem dX5_ages_16 : decode cX5_ages 16 = .ok (.iadd, 1) := by decide +kernel
theorem dX5_ages_17 : decode cX5_ages 17 = .ok (.if_icmp .ge 49, 3) := by decide +kernel
theorem dX5_ages_20 : decode cX5_ages 20 = .ok (.aload_n 0, 1) := by decide +kernel
theorem dX5_ages_21 : decode cX5_ages 21 = .ok (.getfield 24, 3) := by decide +kernel
theorem dX5_ages_24 : decode cX5_ages 24 = .ok (.iload_n 2, 1) := by decide +kernel
theorem dX5_ages_25 : decode cX5_ages 25 = .ok (.iaload, 1) := by decide +kernel
theorem dX5_ages_26 : decode cX5_ages 26 = .ok (.iconst 2, 1) := by decide +kernel
theorem dX5_ages_27 : decode cX5_ages 27 = .ok (.if_icmp .ne 33, 3) := by decide +kernel
theorem dX5_ages_30 : decode cX5_ages 30 = .ok (.aload_n 0, 1) := by decide +kernel
theorem dX5_ages_31 : decode cX5_ages 31 = .ok (.getfield 27, 3) := by decide +kernel
theorem dX5_ages_34 : decode cX5_ages 34 = .ok (.iload_n 2, 1) := by decide +kernel
theorem dX5_ages_35 : decode cX5_ages 35 = .ok (.dup2, 1) := by decide +kernel
theorem dX5_ages_36 : decode cX5_ages 36 = .ok (.iaload, 1) := by decide +kernel
theorem dX5_ages_37 : decode cX5_ages 37 = .ok (.iconst 1, 1) := by decide +kernel
theorem dX5_ages_38 : decode cX5_ages 38 = .ok (.isub, 1) := by decide +kernel
theorem dX5_ages_39 : decode cX5_ages 39 = .ok (.iastore, 1) := by decide +kernel
theorem dX5_ages_40 : decode cX5_ages 40 = .ok (.aload_n 0, 1) := by decide +kernel
theorem dX5_ages_41 : decode cX5_ages 41 = .ok (.getfield 24, 3) := by decide +kernel
theorem dX5_ages_44 : decode cX5_ages 44 = .ok (.iload_n 2, 1) := by decide +kernel
theorem dX5_ages_45 : decode cX5_ages 45 = .ok (.aload_n 0, 1) := by decide +kernel
theorem dX5_ages_46 : decode cX5_ages 46 = .ok (.getfield 27, 3) := by decide +kernel
theorem dX5_ages_49 : decode cX5_ages 49 = .ok (.iload_n 2, 1) := by decide +kernel
theorem dX5_ages_50 : decode cX5_ages 50 = .ok (.iaload, 1) := by decide +kernel
theorem dX5_ages_51 : decode cX5_ages 51 = .ok (.ifCond .ne 7, 3) := by decide +kernel
theorem dX5_ages_54 : decode cX5_ages 54 = .ok (.iconst 0, 1) := by decide +kernel
theorem dX5_ages_55 : decode cX5_ages 55 = .ok (.goto 4, 3) := by decide +kernel
theorem dX5_ages_58 : decode cX5_ages 58 = .ok (.iconst 2, 1) := by decide +kernel
theorem dX5_ages_59 : decode cX5_ages 59 = .ok (.iastore, 1) := by decide +kernel
theorem dX5_ages_60 : decode cX5_ages 60 = .ok (.iinc 2 1, 3) := by decide +kernel
theorem dX5_ages_63 : decode cX5_ages 63 = .ok (.goto (-52), 3) := by decide +kernel
theorem dX5_ages_66 : decode cX5_ages 66 = .ok (.aload_n 0, 1) := by decide +kernel
theorem dX5_ages_67 : decode cX5_ages 67 = .ok (.getfield 36, 3) := by decide +kernel
theorem dX5_ages_70 : decode cX5_ages 70 = .ok (.iload_n 1, 1) := by decide +kernel
theorem dX5_ages_71 : decode cX5_ages 71 = .ok (.iaload, 1) := by decide +kernel
theorem dX5_ages_72 : decode cX5_ages 72 = .ok (.ifCond .le 39, 3) := by decide +kernel
theorem dX5_ages_75 : decode cX5_ages 75 = .ok (.aload_n 0, 1) := by decide +kernel
theorem dX5_ages_76 : decode cX5_ages 76 = .ok (.getfield 36, 3) := by decide +kernel
theorem dX5_ages_79 : decode cX5_ages 79 = .ok (.iload_n 1, 1) := by decide +kernel
theorem dX5_ages_80 : decode cX5_ages 80 = .ok (.dup2, 1) := by decide +kernel
theorem dX5_ages_81 : decode cX5_ages 81 = .ok (.iaload, 1) := by decide +kernel
theorem dX5_ages_82 : decode cX5_ages 82 = .ok (.iconst 1, 1) := by decide +kernel
theorem dX5_ages_83 : decode cX5_ages 83 = .ok (.isub, 1) := by decide +kernel
theorem dX5_ages_84 : decode cX5_ages 84 = .ok (.iastore, 1) := by decide +kernel
theorem dX5_ages_85 : decode cX5_ages 85 = .ok (.aload_n 0, 1) := by decide +kernel
theorem dX5_ages_86 : decode cX5_ages 86 = .ok (.getfield 36, 3) := by decide +kernel
theorem dX5_ages_89 : decode cX5_ages 89 = .ok (.iload_n 1, 1) := by decide +kernel
theorem dX5_ages_90 : decode cX5_ages 90 = .ok (.iaload, 1) := by decide +kernel
theorem dX5_ages_91 : decode cX5_ages 91 = .ok (.ifCond .ne 20, 3) := by decide +kernel
theorem dX5_ages_94 : decode cX5_ages 94 = .ok (.aload_n 0, 1) := by decide +kernel
theorem dX5_ages_95 : decode cX5_ages 95 = .ok (.getfield 48, 3) := by decide +kernel
theorem dX5_ages_98 : decode cX5_ages 98 = .ok (.iload_n 1, 1) := by decide +kernel
theorem dX5_ages_99 : decode cX5_ages 99 = .ok (.iconst 1, 1) := by decide +kernel
theorem dX5_ages_100 : decode cX5_ages 100 = .ok (.bastore, 1) := by decide +kernel
theorem dX5_ages_101 : decode cX5_ages 101 = .ok (.aload_n 0, 1) := by decide +kernel
theorem dX5_ages_102 : decode cX5_ages 102 = .ok (.getfield 36, 3) := by decide +kernel
theorem dX5_ages_105 : decode cX5_ages 105 = .ok (.iload_n 1, 1) := by decide +kernel
theorem dX5_ages_106 : decode cX5_ages 106 = .ok (.aload_n 0, 1) := by decide +kernel
theorem dX5_ages_107 : decode cX5_ages 107 = .ok (.getfield 80, 3) := by decide +kernel
theorem dX5_ages_110 : decode cX5_ages 110 = .ok (.iastore, 1) := by decide +kernel
theorem dX5_ages_111 : decode cX5_ages 111 = .ok (.return_, 1) := by decide +kernel
set_option maxRecDepth 20000 in
theorem ggX5_isWanted_X5_isConnected : GoodIn wsX5_isWanted wsX5_isConnected := goodIn_r _ [6, 7, 8, 9, 10, 11, 12, 13, 14, 15, 16, 17, 18, 19, 20, 21, 22, 23, 24, 25, 26, 27, 28, 29, 30] (by decide +kernel) (by decide +kernel)
set_option maxRecDepth 20000 in
theorem gX5_isWanted_X5_isConnected : GoodIn wsX5_isWanted (wsV RX5 87 RX5 yX5_isConnected wsX5_isConnected) := goodIn_app (goodIn_of _ (by decide +kernel)) ggX5_isWanted_X5_isConnected
theorem dX5_isWanted_0 : decode cX5_isWanted 0 = .ok (.iload_n 1, 1) := by decide +kernel
theorem dX5_isWanted_1 : decode cX5_isWanted 1 = .ok (.iconst 4, 1) := by decide +kernel
theorem dX5_isWanted_2 : decode cX5_isWanted 2 = .ok (.idiv, 1) := by decide +kernel
theorem dX5_isWanted_3 : decode cX5_isWanted 3 = .ok (.iconst 4, 1) := by decide +kernel
theorem dX5_isWanted_4 : decode cX5_isWanted 4 = .ok (.imul, 1) := by decide +kernel
theorem dX5_isWanted_5 : decode cX5_isWanted 5 = .ok (.istore_n 3, 1) := by decide +kernel
theorem dX5_isWanted_6 : decode cX5_isWanted 6 = .ok (.iload_n 3, 1) := by decide +kernel
theorem dX5_isWanted_7 : decode cX5_isWanted 7 = .ok (.iload_n 1, 1) := by decide +kernel
theorem dX5_isWanted_8 : decode cX5_isWanted 8 = .ok (.iconst 4, 1) := by decide +kernel
theorem dX5_isWanted_9 : decode cX5_isWanted 9 = .ok (.idiv, 1) := by decide +kernel
theorem dX5_isWanted_10 : decode cX5_isWanted 10 = .ok (.iconst 4, 1) := by decide +kernel
theorem dX5_isWanted_11 : decode cX5_isWanted 11 = .ok (.imul, 1) := by decide +kernel
theorem dX5_isWanted_12 : decode cX5_isWanted 12 = .ok (.iconst 4, 1) := by decide +kernel
theorem dX5_isWanted_13 : decode cX5_isWanted 13 = .ok (.iadd, 1) := by decide +kernel
theorem dX5_isWanted_14 : decode cX5_isWanted 14 = .ok (.if_icmp .ge 37, 3) := by decide +kernel
theorem dX5_isWanted_17 : decode cX5_isWanted 17 = .ok (.iload_n 3, 1) := by decide +kernel
theorem dX5_isWanted_18 : decode cX5_isWanted 18 = .ok (.iload_n 1, 1) := by decide +kernel
theorem dX5_isWanted_19 : decode cX5_isWanted 19 = .ok (.if_icmp .eq 26, 3) := by decide +kernel
theorem dX5_isWanted_22 : decode cX5_isWanted 22 = .ok (.aload_n 0, 1) := by decide +kernel
theorem dX5_isWanted_23 : decode cX5_isWanted 23 = .ok (.iload_n 3, 1) := by decide +kernel
theorem dX5_isWanted_24 : decode cX5_isWanted 24 = .ok (.invokevirtual 87, 3) := by decide +kernel
theorem dX5_isWanted_27 : decode cX5_isWanted 27 = .ok (.ifCond .eq 18, 3) := by decide +kernel
theorem dX5_isWanted_30 : decode cX5_isWanted 30 = .ok (.aload_n 0, 1) := by decide +kernel
theorem dX5_isWanted_31 : decode cX5_isWanted 31 = .ok (.getfield 24, 3) := by decide +kernel
theorem dX5_isWanted_34 : decode cX5_isWanted 34 = .ok (.iconst 4, 1) := by decide +kernel
theorem dX5_isWanted_35 : decode cX5_isWanted 35 = .ok (.iload_n 3, 1) := by decide +kernel
theorem dX5_isWanted_36 : decode cX5_isWanted 36 = .ok (.imul, 1) := by decide +kernel
theorem dX5_isWanted_37 : decode cX5_isWanted 37 = .ok (.iload_n 2, 1) := by decide +kernel
theorem dX5_isWanted_38 : decode cX5_isWanted 38 = .ok (.iadd, 1) := by decide +kernel
theorem dX5_isWanted_39 : decode cX5_isWanted 39 = .ok (.iaload, 1) := by decide +kernel
theorem dX5_isWanted_40 : decode cX5_isWanted 40 = .ok (.ifCond .eq 5, 3) := by decide +kernel
theorem dX5_isWanted_43 : decode cX5_isWanted 43 = .ok (.iconst 1, 1) := by decide +kernel
theorem dX5_isWanted_44 : decode cX5_isWanted 44 = .ok (.ireturn, 1) := by decide +kernel
theorem dX5_isWanted_45 : decode cX5_isWanted 45 = .ok (.iinc 3 1, 3) := by decide +kernel
theorem dX5_isWanted_48 : decode cX5_isWanted 48 = .ok (.goto (-42), 3) := by decide +kernel
theorem dX5_isWanted_51 : decode cX5_isWanted 51 = .ok (.iconst 0, 1) := by decide +kernel
theorem dX5_isWanted_52 : decode cX5_isWanted 52 = .ok (.ireturn, 1) := by decide +kernel
set_option maxRecDepth 20000 in
theorem ggX5_propagates_X5_isWanted : GoodIn wsX5_propagates wsX5_isWanted := goodIn_r _ [7, 8, 9, 10, 11, 6, 12, 13, 17, 18, 19, 20, 21, 22, 23, 24, 25, 26, 27, 28, 29, 30, 31, 32, 33, 34, 35, 36, 37, 38, 39] (by decide +kernel) (by decide +kernel)
set_option maxRecDepth 20000 in
theorem gX5_propagates_X5_isWanted : GoodIn wsX5_propagates (wsV RX5 114 RX5 yX5_isWanted wsX5_isWanted) := goodIn_app (goodIn_of _ (by decide +kernel)) ggX5_propagates_X5_isWanted
set_option maxRecDepth 20000 in
theorem ggX5_propagates_X5_declares : GoodIn wsX5_propagates wsX5_declares := goodIn_r _ [16] (by decide +kernel) (by decide +kernel)
set_option maxRecDepth 20000 in
theorem gX5_propagates_X5_declares : GoodIn wsX5_propagates (va_wsS RX5 111 yX5_declares wsX5_declares) := goodIn_app (goodIn_of _ (by decide +kernel)) ggX5_propagates_X5_declares
theorem dX5_propagates_0 : decode cX5_propagates 0 = .ok (.iconst 0, 1) := by decide +kernel
theorem dX5_propagates_1 : decode cX5_propagates 1 = .ok (.istore_n 2, 1) := by decide +kernel
theorem dX5_propagates_2 : decode cX5_propagates 2 = .ok (.iload_n 2, 1) := by decide +kernel
theorem dX5_propagates_3 : decode cX5_propagates 3 = .ok (.iconst 4, 1) := by decide +kernel
theorem dX5_propagates_4 : decode cX5_propagates 4 = .ok (.if_icmp .ge 81, 3) := by decide +kernel
theorem dX5_propagates_7 : decode cX5_propagates 7 = .ok (.iconst 4, 1) := by decide +kernel
theorem dX5_propagates_8 : decode cX5_propagates 8 = .ok (.iload_n 1, 1) := by decide +kernel
theorem dX5_propagates_9 : decode cX5_propagates 9 = .ok (.imul, 1) := by decide +kernel
theorem dX5_propagates_10 : decode cX5_propagates 10 = .ok (.iload_n 2, 1) := by decide +kernel
theorem dX5_propagates_11 : decode cX5_propagates 11 = .ok (.iadd, 1) := by decide +kernel
theorem dX5_propagates_12 : decode cX5_propagates 12 = .ok (.istore_n 3, 1) := by decide +kernel
theorem dX5_propagates_13 : decode cX5_propagates 13 = .ok (.aload_n 0, 1) := by decide +kernel
theorem dX5_propagates_14 : decode cX5_propagates 14 = .ok (.iload_n 1, 1) := by decide +kernel
theorem dX5_propagates_15 : decode cX5_propagates 15 = .ok (.iload_n 2, 1) := by decide +kernel
theorem dX5_propagates_16 : decode cX5_propagates 16 = .ok (.invokevirtual 114, 3) := by decide +kernel
theorem dX5_propagates_19 : decode cX5_propagates 19 = .ok (.istore 4, 2) := by decide +kernel
theorem dX5_propagates_21 : decode cX5_propagates 21 = .ok (.iload 4, 2) := by decide +kernel
theorem dX5_propagates_23 : decode cX5_propagates 23 = .ok (.ifCond .eq 32, 3) := by decide +kernel
theorem dX5_propagates_26 : decode cX5_propagates 26 = .ok (.aload_n 0, 1) := by decide +kernel
theorem dX5_propagates_27 : decode cX5_propagates 27 = .ok (.getfield 30, 3) := by decide +kernel
theorem dX5_propagates_30 : decode cX5_propagates 30 = .ok (.iload_n 3, 1) := by decide +kernel
theorem dX5_propagates_31 : decode cX5_propagates 31 = .ok (.iaload, 1) := by decide +kernel
theorem dX5_propagates_32 : decode cX5_propagates 32 = .ok (.invokestatic 111, 3) := by decide +kernel
theorem dX5_propagates_35 : decode cX5_propagates 35 = .ok (.ifCond .ne 20, 3) := by decide +kernel
theorem dX5_propagates_38 : decode cX5_propagates 38 = .ok (.aload_n 0, 1) := by decide +kernel
theorem dX5_propagates_39 : decode cX5_propagates 39 = .ok (.getfield 30, 3) := by decide +kernel
theorem dX5_propagates_42 : decode cX5_propagates 42 = .ok (.iload_n 3, 1) := by decide +kernel
theorem dX5_propagates_43 : decode cX5_propagates 43 = .ok (.iconst 1, 1) := by decide +kernel
theorem dX5_propagates_44 : decode cX5_propagates 44 = .ok (.iastore, 1) := by decide +kernel
theorem dX5_propagates_45 : decode cX5_propagates 45 = .ok (.aload_n 0, 1) := by decide +kernel
theorem dX5_propagates_46 : decode cX5_propagates 46 = .ok (.getfield 33, 3) := by decide +kernel
theorem dX5_propagates_49 : decode cX5_propagates 49 = .ok (.iload_n 3, 1) := by decide +kernel
theorem dX5_propagates_50 : decode cX5_propagates 50 = .ok (.iconst 2, 1) := by decide +kernel
theorem dX5_propagates_51 : decode cX5_propagates 51 = .ok (.iastore, 1) := by decide +kernel
theorem dX5_propagates_52 : decode cX5_propagates 52 = .ok (.goto 27, 3) := by decide +kernel
theorem dX5_propagates_55 : decode cX5_propagates 55 = .ok (.iload 4, 2) := by decide +kernel
theorem dX5_propagates_57 : decode cX5_propagates 57 = .ok (.ifCond .ne 22, 3) := by decide +kernel
theorem dX5_propagates_60 : decode cX5_propagates 60 = .ok (.aload_n 0, 1) := by decide +kernel
theorem dX5_propagates_61 : decode cX5_propagates 61 = .ok (.getfield 30, 3) := by decide +kernel
theorem dX5_propagates_64 : decode cX5_propagates 64 = .ok (.iload_n 3, 1) := by decide +kernel
theorem dX5_propagates_65 : decode cX5_propagates 65 = .ok (.iaload, 1) := by decide +kernel
theorem dX5_propagates_66 : decode cX5_propagates 66 = .ok (.invokestatic 111, 3) := by decide +kernel
theorem dX5_propagates_69 : decode cX5_propagates 69 = .ok (.ifCond .eq 10, 3) := by decide +kernel
theorem dX5_propagates_72 : decode cX5_propagates 72 = .ok (.aload_n 0, 1) := by decide +kernel
theorem dX5_propagates_73 : decode cX5_propagates 73 = .ok (.getfield 30, 3) := by decide +kernel
theorem dX5_propagates_76 : decode cX5_propagates 76 = .ok (.iload_n 3, 1) := by decide +kernel
theorem dX5_propagates_77 : decode cX5_propagates 77 = .ok (.iconst 3, 1) := by decide +kernel
theorem dX5_propagates_78 : decode cX5_propagates 78 = .ok (.iastore, 1) := by decide +kernel
theorem dX5_propagates_79 : decode cX5_propagates 79 = .ok (.iinc 2 1, 3) := by decide +kernel
theorem dX5_propagates_82 : decode cX5_propagates 82 = .ok (.goto (-80), 3) := by decide +kernel
theorem dX5_propagates_85 : decode cX5_propagates 85 = .ok (.return_, 1) := by decide +kernel
theorem dX5_leavesAll_0 : decode cX5_leavesAll 0 = .ok (.iconst 4, 1) := by decide +kernel
theorem dX5_leavesAll_1 : decode cX5_leavesAll 1 = .ok (.iload_n 1, 1) := by decide +kernel
theorem dX5_leavesAll_2 : decode cX5_leavesAll 2 = .ok (.imul, 1) := by decide +kernel
theorem dX5_leavesAll_3 : decode cX5_leavesAll 3 = .ok (.istore_n 2, 1) := by decide +kernel
theorem dX5_leavesAll_4 : decode cX5_leavesAll 4 = .ok (.iload_n 2, 1) := by decide +kernel
theorem dX5_leavesAll_5 : decode cX5_leavesAll 5 = .ok (.iconst 4, 1) := by decide +kernel
theorem dX5_leavesAll_6 : decode cX5_leavesAll 6 = .ok (.iload_n 1, 1) := by decide +kernel
theorem dX5_leavesAll_7 : decode cX5_leavesAll 7 = .ok (.imul, 1) := by decide +kernel
theorem dX5_leavesAll_8 : decode cX5_leavesAll 8 = .ok (.iconst 4, 1) := by decide +kernel
theorem dX5_leavesAll_9 : decode cX5_leavesAll 9 = .ok (.iadd, 1) := by decide +kernel
theorem dX5_leavesAll_10 : decode cX5_leavesAll 10 = .ok (.if_icmp .ge 60, 3) := by decide +kernel
theorem dX5_leavesAll_13 : decode cX5_leavesAll 13 = .ok (.aload_n 0, 1) := by decide +kernel
theorem dX5_leavesAll_14 : decode cX5_leavesAll 14 = .ok (.getfield 24, 3) := by decide +kernel
theorem dX5_leavesAll_17 : decode cX5_leavesAll 17 = .ok (.iload_n 2, 1) := by decide +kernel
theorem dX5_leavesAll_18 : decode cX5_leavesAll 18 = .ok (.iaload, 1) := by decide +kernel
theorem dX5_leavesAll_19 : decode cX5_leavesAll 19 = .ok (.iconst 1, 1) := by decide +kernel
theorem dX5_leavesAll_20 : decode cX5_leavesAll 20 = .ok (.if_icmp .ne 20, 3) := by decide +kernel
theorem dX5_leavesAll_23 : decode cX5_leavesAll 23 = .ok (.aload_n 0, 1) := by decide +kernel
theorem dX5_leavesAll_24 : decode cX5_leavesAll 24 = .ok (.getfield 24, 3) := by decide +kernel
theorem dX5_leavesAll_27 : decode cX5_leavesAll 27 = .ok (.iload_n 2, 1) := by decide +kernel
theorem dX5_leavesAll_28 : decode cX5_leavesAll 28 = .ok (.iconst 2, 1) := by decide +kernel
theorem dX5_leavesAll_29 : decode cX5_leavesAll 29 = .ok (.iastore, 1) := by decide +kernel
theorem dX5_leavesAll_30 : decode cX5_leavesAll 30 = .ok (.aload_n 0, 1) := by decide +kernel
theorem dX5_leavesAll_31 : decode cX5_leavesAll 31 = .ok (.getfield 27, 3) := by decide +kernel
theorem dX5_leavesAll_34 : decode cX5_leavesAll 34 = .ok (.iload_n 2, 1) := by decide +kernel
theorem dX5_leavesAll_35 : decode cX5_leavesAll 35 = .ok (.aload_n 0, 1) := by decide +kernel
theorem dX5_leavesAll_36 : decode cX5_leavesAll 36 = .ok (.getfield 20, 3) := by decide +kernel
theorem dX5_leavesAll_39 : decode cX5_leavesAll 39 = .ok (.iastore, 1) := by decide +kernel
theorem dX5_leavesAll_40 : decode cX5_leavesAll 40 = .ok (.aload_n 0, 1) := by decide +kernel
theorem dX5_leavesAll_41 : decode cX5_leavesAll 41 = .ok (.getfield 30, 3) := by decide +kernel
theorem dX5_leavesAll_44 : decode cX5_leavesAll 44 = .ok (.iload_n 2, 1) := by decide +kernel
theorem dX5_leavesAll_45 : decode cX5_leavesAll 45 = .ok (.iaload, 1) := by decide +kernel
theorem dX5_leavesAll_46 : decode cX5_leavesAll 46 = .ok (.iconst 2, 1) := by decide +kernel
theorem dX5_leavesAll_47 : decode cX5_leavesAll 47 = .ok (.if_icmp .ne 17, 3) := by decide +kernel
theorem dX5_leavesAll_50 : decode cX5_leavesAll 50 = .ok (.aload_n 0, 1) := by decide +kernel
theorem dX5_leavesAll_51 : decode cX5_leavesAll 51 = .ok (.getfield 30, 3) := by decide +kernel
theorem dX5_leavesAll_54 : decode cX5_leavesAll 54 = .ok (.iload_n 2, 1) := by decide +kernel
theorem dX5_leavesAll_55 : decode cX5_leavesAll 55 = .ok (.iconst 1, 1) := by decide +kernel
theorem dX5_leavesAll_56 : decode cX5_leavesAll 56 = .ok (.iastore, 1) := by decide +kernel
theorem dX5_leavesAll_57 : decode cX5_leavesAll 57 = .ok (.aload_n 0, 1) := by decide +kernel
theorem dX5_leavesAll_58 : decode cX5_leavesAll 58 = .ok (.getfield 33, 3) := by decide +kernel
theorem dX5_leavesAll_61 : decode cX5_leavesAll 61 = .ok (.iload_n 2, 1) := by decide +kernel
theorem dX5_leavesAll_62 : decode cX5_leavesAll 62 = .ok (.iconst 1, 1) := by decide +kernel
theorem dX5_leavesAll_63 : decode cX5_leavesAll 63 = .ok (.iastore, 1) := by decide +kernel
theorem dX5_leavesAll_64 : decode cX5_leavesAll 64 = .ok (.iinc 2 1, 3) := by decide +kernel
theorem dX5_leavesAll_67 : decode cX5_leavesAll 67 = .ok (.goto (-63), 3) := by decide +kernel
theorem dX5_leavesAll_70 : decode cX5_leavesAll 70 = .ok (.return_, 1) := by decide +kernel
set_option maxRecDepth 20000 in
theorem ggX5_sendsOf_X5_leavesAll : GoodIn wsX5_sendsOf wsX5_leavesAll := goodIn_r _ [10, 11, 12, 13, 4, 5, 14, 15, 16, 17, 18, 19, 20, 21, 22, 23, 24, 25, 26, 27, 28, 29, 30, 31, 32, 33, 34, 35, 36] (by decide +kernel) (by decide +kernel)
set_option maxRecDepth 20000 in
theorem gX5_sendsOf_X5_leavesAll : GoodIn wsX5_sendsOf (wsV RX5 117 RX5 yX5_leavesAll wsX5_leavesAll) := goodIn_app (goodIn_of _ (by decide +kernel)) ggX5_sendsOf_X5_leavesAll
theorem dX5_sendsOf_0 : decode cX5_sendsOf 0 = .ok (.iconst 0, 1) := by decide +kernel
theorem dX5_sendsOf_1 : decode cX5_sendsOf 1 = .ok (.istore_n 2, 1) := by decide +kernel
theorem dX5_sendsOf_2 : decode cX5_sendsOf 2 = .ok (.aload_n 0, 1) := by decide +kernel
theorem dX5_sendsOf_3 : decode cX5_sendsOf 3 = .ok (.getfield 51, 3) := by decide +kernel
theorem dX5_sendsOf_6 : decode cX5_sendsOf 6 = .ok (.iload_n 1, 1) := by decide +kernel
theorem dX5_sendsOf_7 : decode cX5_sendsOf 7 = .ok (.aload_n 0, 1) := by decide +kernel
theorem dX5_sendsOf_8 : decode cX5_sendsOf 8 = .ok (.getfield 48, 3) := by decide +kernel
theorem dX5_sendsOf_11 : decode cX5_sendsOf 11 = .ok (.iload_n 1, 1) := by decide +kernel
theorem dX5_sendsOf_12 : decode cX5_sendsOf 12 = .ok (.baload, 1) := by decide +kernel
theorem dX5_sendsOf_13 : decode cX5_sendsOf 13 = .ok (.bastore, 1) := by decide +kernel
theorem dX5_sendsOf_14 : decode cX5_sendsOf 14 = .ok (.aload_n 0, 1) := by decide +kernel
theorem dX5_sendsOf_15 : decode cX5_sendsOf 15 = .ok (.getfield 48, 3) := by decide +kernel
theorem dX5_sendsOf_18 : decode cX5_sendsOf 18 = .ok (.iload_n 1, 1) := by decide +kernel
theorem dX5_sendsOf_19 : decode cX5_sendsOf 19 = .ok (.baload, 1) := by decide +kernel
theorem dX5_sendsOf_20 : decode cX5_sendsOf 20 = .ok (.ifCond .eq 11, 3) := by decide +kernel
theorem dX5_sendsOf_23 : decode cX5_sendsOf 23 = .ok (.aload_n 0, 1) := by decide +kernel
theorem dX5_sendsOf_24 : decode cX5_sendsOf 24 = .ok (.iload_n 1, 1) := by decide +kernel
theorem dX5_sendsOf_25 : decode cX5_sendsOf 25 = .ok (.invokevirtual 117, 3) := by decide +kernel
theorem dX5_sendsOf_28 : decode cX5_sendsOf 28 = .ok (.iinc 2 1, 3) := by decide +kernel
theorem dX5_sendsOf_31 : decode cX5_sendsOf 31 = .ok (.iconst 4, 1) := by decide +kernel
theorem dX5_sendsOf_32 : decode cX5_sendsOf 32 = .ok (.iload_n 1, 1) := by decide +kernel
theorem dX5_sendsOf_33 : decode cX5_sendsOf 33 = .ok (.imul, 1) := by decide +kernel
theorem dX5_sendsOf_34 : decode cX5_sendsOf 34 = .ok (.istore_n 3, 1) := by decide +kernel
theorem dX5_sendsOf_35 : decode cX5_sendsOf 35 = .ok (.iload_n 3, 1) := by decide +kernel
theorem dX5_sendsOf_36 : decode cX5_sendsOf 36 = .ok (.iconst 4, 1) := by decide +kernel
theorem dX5_sendsOf_37 : decode cX5_sendsOf 37 = .ok (.iload_n 1, 1) := by decide +kernel
theorem dX5_sendsOf_38 : decode cX5_sendsOf 38 = .ok (.imul, 1) := by decide +kernel
theorem dX5_sendsOf_39 : decode cX5_sendsOf 39 = .ok (.iconst 4, 1) := by decide +kernel
theorem dX5_sendsOf_40 : decode cX5_sendsOf 40 = .ok (.iadd, 1) := by decide +kernel
theorem dX5_sendsOf_41 : decode cX5_sendsOf 41 = .ok (.if_icmp .ge 121, 3) := by decide +kernel
theorem dX5_sendsOf_44 : decode cX5_sendsOf 44 = .ok (.aload_n 0, 1) := by decide +kernel
theorem dX5_sendsOf_45 : decode cX5_sendsOf 45 = .ok (.getfield 54, 3) := by decide +kernel
theorem dX5_sendsOf_48 : decode cX5_sendsOf 48 = .ok (.iload_n 3, 1) := by decide +kernel
theorem dX5_sendsOf_49 : decode cX5_sendsOf 49 = .ok (.aload_n 0, 1) := by decide +kernel
theorem dX5_sendsOf_50 : decode cX5_sendsOf 50 = .ok (.getfield 30, 3) := by decide +kernel
theorem dX5_sendsOf_53 : decode cX5_sendsOf 53 = .ok (.iload_n 3, 1) := by decide +kernel
theorem dX5_sendsOf_54 : decode cX5_sendsOf 54 = .ok (.iaload, 1) := by decide +kernel
theorem dX5_sendsOf_55 : decode cX5_sendsOf 55 = .ok (.iconst 1, 1) := by decide +kernel
theorem dX5_sendsOf_56 : decode cX5_sendsOf 56 = .ok (.if_icmp .ne 7, 3) := by decide +kernel
theorem dX5_sendsOf_59 : decode cX5_sendsOf 59 = .ok (.iconst 1, 1) := by decide +kernel
theorem dX5_sendsOf_60 : decode cX5_sendsOf 60 = .ok (.goto 18, 3) := by decide +kernel
theorem dX5_sendsOf_63 : decode cX5_sendsOf 63 = .ok (.aload_n 0, 1) := by decide +kernel
theorem dX5_sendsOf_64 : decode cX5_sendsOf 64 = .ok (.getfield 30, 3) := by decide +kernel
theorem dX5_sendsOf_67 : decode cX5_sendsOf 67 = .ok (.iload_n 3, 1) := by decide +kernel
theorem dX5_sendsOf_68 : decode cX5_sendsOf 68 = .ok (.iaload, 1) := by decide +kernel
theorem dX5_sendsOf_69 : decode cX5_sendsOf 69 = .ok (.iconst 3, 1) := by decide +kernel
theorem dX5_sendsOf_70 : decode cX5_sendsOf 70 = .ok (.if_icmp .ne 7, 3) := by decide +kernel
theorem dX5_sendsOf_73 : decode cX5_sendsOf 73 = .ok (.iconst 2, 1) := by decide +kernel
theorem dX5_sendsOf_74 : decode cX5_sendsOf 74 = .ok (.goto 4, 3) := by decide +kernel
theorem dX5_sendsOf_77 : decode cX5_sendsOf 77 = .ok (.iconst 0, 1) := by decide +kernel
theorem dX5_sendsOf_78 : decode cX5_sendsOf 78 = .ok (.iastore, 1) := by decide +kernel
theorem dX5_sendsOf_79 : decode cX5_sendsOf 79 = .ok (.iload_n 2, 1) := by decide +kernel
theorem dX5_sendsOf_80 : decode cX5_sendsOf 80 = .ok (.aload_n 0, 1) := by decide +kernel
theorem dX5_sendsOf_81 : decode cX5_sendsOf 81 = .ok (.getfield 54, 3) := by decide +kernel
theorem dX5_sendsOf_84 : decode cX5_sendsOf 84 = .ok (.iload_n 3, 1) := by decide +kernel
theorem dX5_sendsOf_85 : decode cX5_sendsOf 85 = .ok (.iaload, 1) := by decide +kernel
theorem dX5_sendsOf_86 : decode cX5_sendsOf 86 = .ok (.ifCond .ne 7, 3) := by decide +kernel
theorem dX5_sendsOf_89 : decode cX5_sendsOf 89 = .ok (.iconst 0, 1) := by decide +kernel
theorem dX5_sendsOf_90 : decode cX5_sendsOf 90 = .ok (.goto 4, 3) := by decide +kernel
theorem dX5_sendsOf_93 : decode cX5_sendsOf 93 = .ok (.iconst 1, 1) := by decide +kernel
theorem dX5_sendsOf_94 : decode cX5_sendsOf 94 = .ok (.iadd, 1) := by decide +kernel
theorem dX5_sendsOf_95 : decode cX5_sendsOf 95 = .ok (.istore_n 2, 1) := by decide +kernel
theorem dX5_sendsOf_96 : decode cX5_sendsOf 96 = .ok (.aload_n 0, 1) := by decide +kernel
theorem dX5_sendsOf_97 : decode cX5_sendsOf 97 = .ok (.getfield 54, 3) := by decide +kernel
theorem dX5_sendsOf_100 : decode cX5_sendsOf 100 = .ok (.iload_n 3, 1) := by decide +kernel
theorem dX5_sendsOf_101 : decode cX5_sendsOf 101 = .ok (.iaload, 1) := by decide +kernel
theorem dX5_sendsOf_102 : decode cX5_sendsOf 102 = .ok (.iconst 1, 1) := by decide +kernel
theorem dX5_sendsOf_103 : decode cX5_sendsOf 103 = .ok (.if_icmp .ne 36, 3) := by decide +kernel
theorem dX5_sendsOf_106 : decode cX5_sendsOf 106 = .ok (.aload_n 0, 1) := by decide +kernel
theorem dX5_sendsOf_107 : decode cX5_sendsOf 107 = .ok (.getfield 33, 3) := by decide +kernel
theorem dX5_sendsOf_110 : decode cX5_sendsOf 110 = .ok (.iload_n 3, 1) := by decide +kernel
theorem dX5_sendsOf_111 : decode cX5_sendsOf 111 = .ok (.dup2, 1) := by decide +kernel
theorem dX5_sendsOf_112 : decode cX5_sendsOf 112 = .ok (.iaload, 1) := by decide +kernel
theorem dX5_sendsOf_113 : decode cX5_sendsOf 113 = .ok (.iconst 1, 1) := by decide +kernel
theorem dX5_sendsOf_114 : decode cX5_sendsOf 114 = .ok (.isub, 1) := by decide +kernel
theorem dX5_sendsOf_115 : decode cX5_sendsOf 115 = .ok (.iastore, 1) := by decide +kernel
theorem dX5_sendsOf_116 : decode cX5_sendsOf 116 = .ok (.aload_n 0, 1) := by decide +kernel
theorem dX5_sendsOf_117 : decode cX5_sendsOf 117 = .ok (.getfield 30, 3) := by decide +kernel
theorem dX5_sendsOf_120 : decode cX5_sendsOf 120 = .ok (.iload_n 3, 1) := by decide +kernel
theorem dX5_sendsOf_121 : decode cX5_sendsOf 121 = .ok (.aload_n 0, 1) := by decide +kernel
theorem dX5_sendsOf_122 : decode cX5_sendsOf 122 = .ok (.getfield 33, 3) := by decide +kernel
theorem dX5_sendsOf_125 : decode cX5_sendsOf 125 = .ok (.iload_n 3, 1) := by decide +kernel
theorem dX5_sendsOf_126 : decode cX5_sendsOf 126 = .ok (.iaload, 1) := by decide +kernel
theorem dX5_sendsOf_127 : decode cX5_sendsOf 127 = .ok (.ifCond .ne 7, 3) := by decide +kernel
theorem dX5_sendsOf_130 : decode cX5_sendsOf 130 = .ok (.iconst 2, 1) := by decide +kernel
theorem dX5_sendsOf_131 : decode cX5_sendsOf 131 = .ok (.goto 4, 3) := by decide +kernel
theorem dX5_sendsOf_134 : decode cX5_sendsOf 134 = .ok (.iconst 1, 1) := by decide +kernel
theorem dX5_sendsOf_135 : decode cX5_sendsOf 135 = .ok (.iastore, 1) := by decide +kernel
theorem dX5_sendsOf_136 : decode cX5_sendsOf 136 = .ok (.goto 20, 3) := by decide +kernel
theorem dX5_sendsOf_139 : decode cX5_sendsOf 139 = .ok (.aload_n 0, 1) := by decide +kernel
theorem dX5_sendsOf_140 : decode cX5_sendsOf 140 = .ok (.getfield 54, 3) := by decide +kernel
theorem dX5_sendsOf_143 : decode cX5_sendsOf 143 = .ok (.iload_n 3, 1) := by decide +kernel
theorem dX5_sendsOf_144 : decode cX5_sendsOf 144 = .ok (.iaload, 1) := by decide +kernel
theorem dX5_sendsOf_145 : decode cX5_sendsOf 145 = .ok (.iconst 2, 1) := by decide +kernel
theorem dX5_sendsOf_146 : decode cX5_sendsOf 146 = .ok (.if_icmp .ne 10, 3) := by decide +kernel
theorem dX5_sendsOf_149 : decode cX5_sendsOf 149 = .ok (.aload_n 0, 1) := by decide +kernel
theorem dX5_sendsOf_150 : decode cX5_sendsOf 150 = .ok (.getfield 30, 3) := by decide +kernel
theorem dX5_sendsOf_153 : decode cX5_sendsOf 153 = .ok (.iload_n 3, 1) := by decide +kernel
theorem dX5_sendsOf_154 : decode cX5_sendsOf 154 = .ok (.iconst 0, 1) := by decide +kernel
theorem dX5_sendsOf_155 : decode cX5_sendsOf 155 = .ok (.iastore, 1) := by decide +kernel
theorem dX5_sendsOf_156 : decode cX5_sendsOf 156 = .ok (.iinc 3 1, 3) := by decide +kernel
theorem dX5_sendsOf_159 : decode cX5_sendsOf 159 = .ok (.goto (-124), 3) := by decide +kernel
theorem dX5_sendsOf_162 : decode cX5_sendsOf 162 = .ok (.iload_n 2, 1) := by decide +kernel
theorem dX5_sendsOf_163 : decode cX5_sendsOf 163 = .ok (.ireturn, 1) := by decide +kernel
theorem dX5_sendsOfHost_0 : decode cX5_sendsOfHost 0 = .ok (.iconst 0, 1) := by decide +kernel
theorem dX5_sendsOfHost_1 : decode cX5_sendsOfHost 1 = .ok (.istore_n 2, 1) := by decide +kernel
theorem dX5_sendsOfHost_2 : decode cX5_sendsOfHost 2 = .ok (.iconst 4, 1) := by decide +kernel
theorem dX5_sendsOfHost_3 : decode cX5_sendsOfHost 3 = .ok (.iload_n 1, 1) := by decide +kernel
theorem dX5_sendsOfHost_4 : decode cX5_sendsOfHost 4 = .ok (.imul, 1) := by decide +kernel
theorem dX5_sendsOfHost_5 : decode cX5_sendsOfHost 5 = .ok (.istore_n 3, 1) := by decide +kernel
theorem dX5_sendsOfHost_6 : decode cX5_sendsOfHost 6 = .ok (.iload_n 3, 1) := by decide +kernel
theorem dX5_sendsOfHost_7 : decode cX5_sendsOfHost 7 = .ok (.iconst 4, 1) := by decide +kernel
theorem dX5_sendsOfHost_8 : decode cX5_sendsOfHost 8 = .ok (.iload_n 1, 1) := by decide +kernel
theorem dX5_sendsOfHost_9 : decode cX5_sendsOfHost 9 = .ok (.imul, 1) := by decide +kernel
theorem dX5_sendsOfHost_10 : decode cX5_sendsOfHost 10 = .ok (.iconst 4, 1) := by decide +kernel
theorem dX5_sendsOfHost_11 : decode cX5_sendsOfHost 11 = .ok (.iadd, 1) := by decide +kernel
theorem dX5_sendsOfHost_12 : decode cX5_sendsOfHost 12 = .ok (.if_icmp .ge 134, 3) := by decide +kernel
theorem dX5_sendsOfHost_15 : decode cX5_sendsOfHost 15 = .ok (.aload_n 0, 1) := by decide +kernel
theorem dX5_sendsOfHost_16 : decode cX5_sendsOfHost 16 = .ok (.getfield 57, 3) := by decide +kernel
theorem dX5_sendsOfHost_19 : decode cX5_sendsOfHost 19 = .ok (.iload_n 3, 1) := by decide +kernel
theorem dX5_sendsOfHost_20 : decode cX5_sendsOfHost 20 = .ok (.aload_n 0, 1) := by decide +kernel
theorem dX5_sendsOfHost_21 : decode cX5_sendsOfHost 21 = .ok (.getfield 16, 3) := by decide +kernel
theorem dX5_sendsOfHost_24 : decode cX5_sendsOfHost 24 = .ok (.iload_n 1, 1) := by decide +kernel
theorem dX5_sendsOfHost_25 : decode cX5_sendsOfHost 25 = .ok (.baload, 1) := by decide +kernel
theorem dX5_sendsOfHost_26 : decode cX5_sendsOfHost 26 = .ok (.ifCond .eq 7, 3) := by decide +kernel
theorem dX5_sendsOfHost_29 : decode cX5_sendsOfHost 29 = .ok (.iconst 0, 1) := by decide +kernel
theorem dX5_sendsOfHost_30 : decode cX5_sendsOfHost 30 = .ok (.goto 32, 3) := by decide +kernel
theorem dX5_sendsOfHost_33 : decode cX5_sendsOfHost 33 = .ok (.aload_n 0, 1) := by decide +kernel
theorem dX5_sendsOfHost_34 : decode cX5_sendsOfHost 34 = .ok (.getfield 42, 3) := by decide +kernel
theorem dX5_sendsOfHost_37 : decode cX5_sendsOfHost 37 = .ok (.iload_n 3, 1) := by decide +kernel
theorem dX5_sendsOfHost_38 : decode cX5_sendsOfHost 38 = .ok (.iaload, 1) := by decide +kernel
theorem dX5_sendsOfHost_39 : decode cX5_sendsOfHost 39 = .ok (.iconst 1, 1) := by decide +kernel
theorem dX5_sendsOfHost_40 : decode cX5_sendsOfHost 40 = .ok (.if_icmp .ne 7, 3) := by decide +kernel
theorem dX5_sendsOfHost_43 : decode cX5_sendsOfHost 43 = .ok (.iconst 1, 1) := by decide +kernel
theorem dX5_sendsOfHost_44 : decode cX5_sendsOfHost 44 = .ok (.goto 18, 3) := by decide +kernel
theorem dX5_sendsOfHost_47 : decode cX5_sendsOfHost 47 = .ok (.aload_n 0, 1) := by decide +kernel
theorem dX5_sendsOfHost_48 : decode cX5_sendsOfHost 48 = .ok (.getfield 42, 3) := by decide +kernel
theorem dX5_sendsOfHost_51 : decode cX5_sendsOfHost 51 = .ok (.iload_n 3, 1) := by decide +kernel
theorem dX5_sendsOfHost_52 : decode cX5_sendsOfHost 52 = .ok (.iaload, 1) := by decide +kernel
theorem dX5_sendsOfHost_53 : decode cX5_sendsOfHost 53 = .ok (.iconst 3, 1) := by decide +kernel
theorem dX5_sendsOfHost_54 : decode cX5_sendsOfHost 54 = .ok (.if_icmp .ne 7, 3) := by decide +kernel
theorem dX5_sendsOfHost_57 : decode cX5_sendsOfHost 57 = .ok (.iconst 2, 1) := by decide +kernel
theorem dX5_sendsOfHost_58 : decode cX5_sendsOfHost 58 = .ok (.goto 4, 3) := by decide +kernel
theorem dX5_sendsOfHost_61 : decode cX5_sendsOfHost 61 = .ok (.iconst 0, 1) := by decide +kernel
theorem dX5_sendsOfHost_62 : decode cX5_sendsOfHost 62 = .ok (.iastore, 1) := by decide +kernel
theorem dX5_sendsOfHost_63 : decode cX5_sendsOfHost 63 = .ok (.iload_n 2, 1) := by decide +kernel
theorem dX5_sendsOfHost_64 : decode cX5_sendsOfHost 64 = .ok (.aload_n 0, 1) := by decide +kernel
theorem dX5_sendsOfHost_65 : decode cX5_sendsOfHost 65 = .ok (.getfield 57, 3) := by decide +kernel
theorem dX5_sendsOfHost_68 : decode cX5_sendsOfHost 68 = .ok (.iload_n 3, 1) := by decide +kernel
theorem dX5_sendsOfHost_69 : decode cX5_sendsOfHost 69 = .ok (.iaload, 1) := by decide +kernel
theorem dX5_sendsOfHost_70 : decode cX5_sendsOfHost 70 = .ok (.ifCond .ne 7, 3) := by decide +kernel
theorem dX5_sendsOfHost_73 : decode cX5_sendsOfHost 73 = .ok (.iconst 0, 1) := by decide +kernel
theorem dX5_sendsOfHost_74 : decode cX5_sendsOfHost 74 = .ok (.goto 4, 3) := by decide +kernel
theorem dX5_sendsOfHost_77 : decode cX5_sendsOfHost 77 = .ok (.iconst 1, 1) := by decide +kernel
theorem dX5_sendsOfHost_78 : decode cX5_sendsOfHost 78 = .ok (.iadd, 1) := by decide +kernel
theorem dX5_sendsOfHost_79 : decode cX5_sendsOfHost 79 = .ok (.istore_n 2, 1) := by decide +kernel
theorem dX5_sendsOfHost_80 : decode cX5_sendsOfHost 80 = .ok (.aload_n 0, 1) := by decide +kernel
theorem dX5_sendsOfHost_81 : decode cX5_sendsOfHost 81 = .ok (.getfield 57, 3) := by decide +kernel
theorem dX5_sendsOfHost_84 : decode cX5_sendsOfHost 84 = .ok (.iload_n 3, 1) := by decide +kernel
theorem dX5_sendsOfHost_85 : decode cX5_sendsOfHost 85 = .ok (.iaload, 1) := by decide +kernel
theorem dX5_sendsOfHost_86 : decode cX5_sendsOfHost 86 = .ok (.iconst 1, 1) := by decide +kernel
theorem dX5_sendsOfHost_87 : decode cX5_sendsOfHost 87 = .ok (.if_icmp .ne 36, 3) := by decide +kernel
theorem dX5_sendsOfHost_90 : decode cX5_sendsOfHost 90 = .ok (.aload_n 0, 1) := by decide +kernel
theorem dX5_sendsOfHost_91 : decode cX5_sendsOfHost 91 = .ok (.getfield 45, 3) := by decide +kernel
theorem dX5_sendsOfHost_94 : decode cX5_sendsOfHost 94 = .ok (.iload_n 3, 1) := by decide +kernel
theorem dX5_sendsOfHost_95 : decode cX5_sendsOfHost 95 = .ok (.dup2, 1) := by decide +kernel
theorem dX5_sendsOfHost_96 : decode cX5_sendsOfHost 96 = .ok (.iaload, 1) := by decide +kernel
theorem dX5_sendsOfHost_97 : decode cX5_sendsOfHost 97 = .ok (.iconst 1, 1) := by decide +kernel
theorem dX5_sendsOfHost_98 : decode cX5_sendsOfHost 98 = .ok (.isub, 1) := by decide +kernel
theorem dX5_sendsOfHost_99 : decode cX5_sendsOfHost 99 = .ok (.iastore, 1) := by decide +kernel
theorem dX5_sendsOfHost_100 : decode cX5_sendsOfHost 100 = .ok (.aload_n 0, 1) := by decide +kernel
theorem dX5_sendsOfHost_101 : decode cX5_sendsOfHost 101 = .ok (.getfield 42, 3) := by decide +kernel
theorem dX5_sendsOfHost_104 : decode cX5_sendsOfHost 104 = .ok (.iload_n 3, 1) := by decide +kernel
theorem dX5_sendsOfHost_105 : decode cX5_sendsOfHost 105 = .ok (.aload_n 0, 1) := by decide +kernel
theorem dX5_sendsOfHost_106 : decode cX5_sendsOfHost 106 = .ok (.getfield 45, 3) := by decide +kernel
theorem dX5_sendsOfHost_109 : decode cX5_sendsOfHost 109 = .ok (.iload_n 3, 1) := by decide +kernel
theorem dX5_sendsOfHost_110 : decode cX5_sendsOfHost 110 = .ok (.iaload, 1) := by decide +kernel
theorem dX5_sendsOfHost_111 : decode cX5_sendsOfHost 111 = .ok (.ifCond .ne 7, 3) := by decide +kernel
theorem dX5_sendsOfHost_114 : decode cX5_sendsOfHost 114 = .ok (.iconst 2, 1) := by decide +kernel
theorem dX5_sendsOfHost_115 : decode cX5_sendsOfHost 115 = .ok (.goto 4, 3) := by decide +kernel
theorem dX5_sendsOfHost_118 : decode cX5_sendsOfHost 118 = .ok (.iconst 1, 1) := by decide +kernel
theorem dX5_sendsOfHost_119 : decode cX5_sendsOfHost 119 = .ok (.iastore, 1) := by decide +kernel
theorem dX5_sendsOfHost_120 : decode cX5_sendsOfHost 120 = .ok (.goto 20, 3) := by decide +kernel
theorem dX5_sendsOfHost_123 : decode cX5_sendsOfHost 123 = .ok (.aload_n 0, 1) := by decide +kernel
theorem dX5_sendsOfHost_124 : decode cX5_sendsOfHost 124 = .ok (.getfield 57, 3) := by decide +kernel
theorem dX5_sendsOfHost_127 : decode cX5_sendsOfHost 127 = .ok (.iload_n 3, 1) := by decide +kernel
theorem dX5_sendsOfHost_128 : decode cX5_sendsOfHost 128 = .ok (.iaload, 1) := by decide +kernel
theorem dX5_sendsOfHost_129 : decode cX5_sendsOfHost 129 = .ok (.iconst 2, 1) := by decide +kernel
theorem dX5_sendsOfHost_130 : decode cX5_sendsOfHost 130 = .ok (.if_icmp .ne 10, 3) := by decide +kernel
theorem dX5_sendsOfHost_133 : decode cX5_sendsOfHost 133 = .ok (.aload_n 0, 1) := by decide +kernel
theorem dX5_sendsOfHost_134 : decode cX5_sendsOfHost 134 = .ok (.getfield 42, 3) := by decide +kernel
theorem dX5_sendsOfHost_137 : decode cX5_sendsOfHost 137 = .ok (.iload_n 3, 1) := by decide +kernel
theorem dX5_sendsOfHost_138 : decode cX5_sendsOfHost 138 = .ok (.iconst 0, 1) := by decide +kernel
theorem dX5_sendsOfHost_139 : decode cX5_sendsOfHost 139 = .ok (.iastore, 1) := by decide +kernel
theorem dX5_sendsOfHost_140 : decode cX5_sendsOfHost 140 = .ok (.iinc 3 1, 3) := by decide +kernel
theorem dX5_sendsOfHost_143 : decode cX5_sendsOfHost 143 = .ok (.goto (-137), 3) := by decide +kernel
theorem dX5_sendsOfHost_146 : decode cX5_sendsOfHost 146 = .ok (.iload_n 2, 1) := by decide +kernel
theorem dX5_sendsOfHost_147 : decode cX5_sendsOfHost 147 = .ok (.ireturn, 1) := by decide +kernel
theorem dX5_gets_0 : decode cX5_gets 0 = .ok (.iload_n 2, 1) := by decide +kernel
theorem dX5_gets_1 : decode cX5_gets 1 = .ok (.iconst 1, 1) := by decide +kernel
theorem dX5_gets_2 : decode cX5_gets 2 = .ok (.if_icmp .ne 20, 3) := by decide +kernel
theorem dX5_gets_5 : decode cX5_gets 5 = .ok (.aload_n 0, 1) := by decide +kernel
theorem dX5_gets_6 : decode cX5_gets 6 = .ok (.getfield 24, 3) := by decide +kernel
theorem dX5_gets_9 : decode cX5_gets 9 = .ok (.iload_n 1, 1) := by decide +kernel
theorem dX5_gets_10 : decode cX5_gets 10 = .ok (.iconst 1, 1) := by decide +kernel
theorem dX5_gets_11 : decode cX5_gets 11 = .ok (.iastore, 1) := by decide +kernel
theorem dX5_gets_12 : decode cX5_gets 12 = .ok (.aload_n 0, 1) := by decide +kernel
theorem dX5_gets_13 : decode cX5_gets 13 = .ok (.getfield 27, 3) := by decide +kernel
theorem dX5_gets_16 : decode cX5_gets 16 = .ok (.iload_n 1, 1) := by decide +kernel
theorem dX5_gets_17 : decode cX5_gets 17 = .ok (.iconst 0, 1) := by decide +kernel
theorem dX5_gets_18 : decode cX5_gets 18 = .ok (.iastore, 1) := by decide +kernel
theorem dX5_gets_19 : decode cX5_gets 19 = .ok (.goto 35, 3) := by decide +kernel
theorem dX5_gets_22 : decode cX5_gets 22 = .ok (.iload_n 2, 1) := by decide +kernel
theorem dX5_gets_23 : decode cX5_gets 23 = .ok (.iconst 2, 1) := by decide +kernel
theorem dX5_gets_24 : decode cX5_gets 24 = .ok (.if_icmp .ne 30, 3) := by decide +kernel
theorem dX5_gets_27 : decode cX5_gets 27 = .ok (.aload_n 0, 1) := by decide +kernel
theorem dX5_gets_28 : decode cX5_gets 28 = .ok (.getfield 24, 3) := by decide +kernel
theorem dX5_gets_31 : decode cX5_gets 31 = .ok (.iload_n 1, 1) := by decide +kernel
theorem dX5_gets_32 : decode cX5_gets 32 = .ok (.iaload, 1) := by decide +kernel
theorem dX5_gets_33 : decode cX5_gets 33 = .ok (.iconst 1, 1) := by decide +kernel
theorem dX5_gets_34 : decode cX5_gets 34 = .ok (.if_icmp .ne 20, 3) := by decide +kernel
theorem dX5_gets_37 : decode cX5_gets 37 = .ok (.aload_n 0, 1) := by decide +kernel
theorem dX5_gets_38 : decode cX5_gets 38 = .ok (.getfield 24, 3) := by decide +kernel
theorem dX5_gets_41 : decode cX5_gets 41 = .ok (.iload_n 1, 1) := by decide +kernel
theorem dX5_gets_42 : decode cX5_gets 42 = .ok (.iconst 2, 1) := by decide +kernel
theorem dX5_gets_43 : decode cX5_gets 43 = .ok (.iastore, 1) := by decide +kernel
theorem dX5_gets_44 : decode cX5_gets 44 = .ok (.aload_n 0, 1) := by decide +kernel
theorem dX5_gets_45 : decode cX5_gets 45 = .ok (.getfield 27, 3) := by decide +kernel
theorem dX5_gets_48 : decode cX5_gets 48 = .ok (.iload_n 1, 1) := by decide +kernel
theorem dX5_gets_49 : decode cX5_gets 49 = .ok (.aload_n 0, 1) := by decide +kernel
theorem dX5_gets_50 : decode cX5_gets 50 = .ok (.getfield 20, 3) := by decide +kernel
theorem dX5_gets_53 : decode cX5_gets 53 = .ok (.iastore, 1) := by decide +kernel
theorem dX5_gets_54 : decode cX5_gets 54 = .ok (.return_, 1) := by decide +kernel
theorem dX5_hostLeavesAll_0 : decode cX5_hostLeavesAll 0 = .ok (.iconst 4, 1) := by decide +kernel
theorem dX5_hostLeavesAll_1 : decode cX5_hostLeavesAll 1 = .ok (.iload_n 1, 1) := by decide +kernel
theorem dX5_hostLeavesAll_2 : decode cX5_hostLeavesAll 2 = .ok (.imul, 1) := by decide +kernel
theorem dX5_hostLeavesAll_3 : decode cX5_hostLeavesAll 3 = .ok (.istore_n 2, 1) := by decide +kernel
theorem dX5_hostLeavesAll_4 : decode cX5_hostLeavesAll 4 = .ok (.iload_n 2, 1) := by decide +kernel
theorem dX5_hostLeavesAll_5 : decode cX5_hostLeavesAll 5 = .ok (.iconst 4, 1) := by decide +kernel
theorem dX5_hostLeavesAll_6 : decode cX5_hostLeavesAll 6 = .ok (.iload_n 1, 1) := by decide +kernel
theorem dX5_hostLeavesAll_7 : decode cX5_hostLeavesAll 7 = .ok (.imul, 1) := by decide +kernel
theorem dX5_hostLeavesAll_8 : decode cX5_hostLeavesAll 8 = .ok (.iconst 4, 1) := by decide +kernel
theorem dX5_hostLeavesAll_9 : decode cX5_hostLeavesAll 9 = .ok (.iadd, 1) := by decide +kernel
theorem dX5_hostLeavesAll_10 : decode cX5_hostLeavesAll 10 = .ok (.if_icmp .ge 33, 3) := by decide +kernel
theorem dX5_hostLeavesAll_13 : decode cX5_hostLeavesAll 13 = .ok (.aload_n 0, 1) := by decide +kernel
theorem dX5_hostLeavesAll_14 : decode cX5_hostLeavesAll 14 = .ok (.getfield 42, 3) := by decide +kernel
theorem dX5_hostLeavesAll_17 : decode cX5_hostLeavesAll 17 = .ok (.iload_n 2, 1) := by decide +kernel
theorem dX5_hostLeavesAll_18 : decode cX5_hostLeavesAll 18 = .ok (.iaload, 1) := by decide +kernel
theorem dX5_hostLeavesAll_19 : decode cX5_hostLeavesAll 19 = .ok (.iconst 2, 1) := by decide +kernel
theorem dX5_hostLeavesAll_20 : decode cX5_hostLeavesAll 20 = .ok (.if_icmp .ne 17, 3) := by decide +kernel
theorem dX5_hostLeavesAll_23 : decode cX5_hostLeavesAll 23 = .ok (.aload_n 0, 1) := by decide +kernel
theorem dX5_hostLeavesAll_24 : decode cX5_hostLeavesAll 24 = .ok (.getfield 42, 3) := by decide +kernel
theorem dX5_hostLeavesAll_27 : decode cX5_hostLeavesAll 27 = .ok (.iload_n 2, 1) := by decide +kernel
theorem dX5_hostLeavesAll_28 : decode cX5_hostLeavesAll 28 = .ok (.iconst 1, 1) := by decide +kernel
theorem dX5_hostLeavesAll_29 : decode cX5_hostLeavesAll 29 = .ok (.iastore, 1) := by decide +kernel
theorem dX5_hostLeavesAll_30 : decode cX5_hostLeavesAll 30 = .ok (.aload_n 0, 1) := by decide +kernel
theorem dX5_hostLeavesAll_31 : decode cX5_hostLeavesAll 31 = .ok (.getfield 45, 3) := by decide +kernel
theorem dX5_hostLeavesAll_34 : decode cX5_hostLeavesAll 34 = .ok (.iload_n 2, 1) := by decide +kernel
theorem dX5_hostLeavesAll_35 : decode cX5_hostLeavesAll 35 = .ok (.iconst 1, 1) := by decide +kernel
theorem dX5_hostLeavesAll_36 : decode cX5_hostLeavesAll 36 = .ok (.iastore, 1) := by decide +kernel
theorem dX5_hostLeavesAll_37 : decode cX5_hostLeavesAll 37 = .ok (.iinc 2 1, 3) := by decide +kernel
theorem dX5_hostLeavesAll_40 : decode cX5_hostLeavesAll 40 = .ok (.goto (-36), 3) := by decide +kernel
theorem dX5_hostLeavesAll_43 : decode cX5_hostLeavesAll 43 = .ok (.return_, 1) := by decide +kernel
set_option maxRecDepth 20000 in
theorem ggX5_delivers_X5_isLinked : GoodIn wsX5_delivers wsX5_isLinked := goodIn_r _ [9, 2, 10, 11, 8, 12, 32, 33, 34, 35, 36, 37, 38, 39, 40, 41, 42, 43, 44, 45, 46, 47, 48, 49, 50, 51, 52, 53, 54] (by decide +kernel) (by decide +kernel)
set_option maxRecDepth 20000 in
theorem gX5_delivers_X5_isLinked : GoodIn wsX5_delivers (wsV RX5 76 RX5 yX5_isLinked wsX5_isLinked) := goodIn_app (goodIn_of _ (by decide +kernel)) ggX5_delivers_X5_isLinked
set_option maxRecDepth 20000 in
theorem ggX5_delivers_X5_hostLeavesAll : GoodIn wsX5_delivers wsX5_hostLeavesAll := goodIn_r _ [16, 17, 18, 32, 33, 34, 35, 36, 37, 38, 39, 40, 41, 42, 43, 44, 45, 46, 47, 48, 49, 50, 51, 52, 53, 54] (by decide +kernel) (by decide +kernel)
set_option maxRecDepth 20000 in
theorem gX5_delivers_X5_hostLeavesAll : GoodIn wsX5_delivers (wsV RX5 121 RX5 yX5_hostLeavesAll wsX5_hostLeavesAll) := goodIn_app (goodIn_of _ (by decide +kernel)) ggX5_delivers_X5_hostLeavesAll
set_option maxRecDepth 20000 in
theorem ggX5_delivers_X5_leavesAll : GoodIn wsX5_delivers wsX5_leavesAll := goodIn_r _ [22, 23, 24, 25, 26, 27, 32, 33, 34, 35, 36, 37, 38, 39, 40, 41, 42, 43, 44, 45, 46, 47, 48, 49, 50, 51, 52, 53, 54] (by decide +kernel) (by decide +kernel)
set_option maxRecDepth 20000 in
theorem gX5_delivers_X5_leavesAll : GoodIn wsX5_delivers (wsV RX5 117 RX5 yX5_leavesAll wsX5_leavesAll) := goodIn_app (goodIn_of _ (by decide +kernel)) ggX5_delivers_X5_leavesAll
set_option maxRecDepth 20000 in
theorem ggX5_delivers_X5_gets : GoodIn wsX5_delivers wsX5_gets := goodIn_r _ [31, 23, 24, 25, 32, 33, 34, 35, 36, 37, 38, 39, 40, 41, 42, 43, 44, 45, 46, 47, 48, 49, 50, 51, 52, 53, 54] (by decide +kernel) (by decide +kernel)
set_option maxRecDepth 20000 in
theorem gX5_delivers_X5_gets : GoodIn wsX5_delivers (wsV RX5 124 RX5 yX5_gets wsX5_gets) := goodIn_app (goodIn_of _ (by decide +kernel)) ggX5_delivers_X5_gets
theorem dX5_delivers_0 : decode cX5_delivers 0 = .ok (.aload_n 0, 1) := by decide +kernel
theorem dX5_delivers_1 : decode cX5_delivers 1 = .ok (.iload_n 1, 1) := by decide +kernel
theorem dX5_delivers_2 : decode cX5_delivers 2 = .ok (.invokevirtual 76, 3) := by decide +kernel
theorem dX5_delivers_5 : decode cX5_delivers 5 = .ok (.ifCond .ne 26, 3) := by decide +kernel
theorem dX5_delivers_8 : decode cX5_delivers 8 = .ok (.aload_n 0, 1) := by decide +kernel
theorem dX5_delivers_9 : decode cX5_delivers 9 = .ok (.getfield 51, 3) := by decide +kernel
theorem dX5_delivers_12 : decode cX5_delivers 12 = .ok (.iload_n 1, 1) := by decide +kernel
theorem dX5_delivers_13 : decode cX5_delivers 13 = .ok (.baload, 1) := by decide +kernel
theorem dX5_delivers_14 : decode cX5_delivers 14 = .ok (.ifCond .eq 16, 3) := by decide +kernel
theorem dX5_delivers_17 : decode cX5_delivers 17 = .ok (.aload_n 0, 1) := by decide +kernel
theorem dX5_delivers_18 : decode cX5_delivers 18 = .ok (.aload_n 0, 1) := by decide +kernel
theorem dX5_delivers_19 : decode cX5_delivers 19 = .ok (.getfield 7, 3) := by decide +kernel
theorem dX5_delivers_22 : decode cX5_delivers 22 = .ok (.iload_n 1, 1) := by decide +kernel
theorem dX5_delivers_23 : decode cX5_delivers 23 = .ok (.iaload, 1) := by decide +kernel
theorem dX5_delivers_24 : decode cX5_delivers 24 = .ok (.bipush 100, 2) := by decide +kernel
theorem dX5_delivers_26 : decode cX5_delivers 26 = .ok (.isub, 1) := by decide +kernel
theorem dX5_delivers_27 : decode cX5_delivers 27 = .ok (.invokevirtual 121, 3) := by decide +kernel
theorem dX5_delivers_30 : decode cX5_delivers 30 = .ok (.return_, 1) := by decide +kernel
theorem dX5_delivers_31 : decode cX5_delivers 31 = .ok (.aload_n 0, 1) := by decide +kernel
theorem dX5_delivers_32 : decode cX5_delivers 32 = .ok (.getfield 39, 3) := by decide +kernel
theorem dX5_delivers_35 : decode cX5_delivers 35 = .ok (.iload_n 1, 1) := by decide +kernel
theorem dX5_delivers_36 : decode cX5_delivers 36 = .ok (.baload, 1) := by decide +kernel
theorem dX5_delivers_37 : decode cX5_delivers 37 = .ok (.istore_n 2, 1) := by decide +kernel
theorem dX5_delivers_38 : decode cX5_delivers 38 = .ok (.aload_n 0, 1) := by decide +kernel
theorem dX5_delivers_39 : decode cX5_delivers 39 = .ok (.getfield 39, 3) := by decide +kernel
theorem dX5_delivers_42 : decode cX5_delivers 42 = .ok (.iload_n 1, 1) := by decide +kernel
theorem dX5_delivers_43 : decode cX5_delivers 43 = .ok (.iconst 0, 1) := by decide +kernel
theorem dX5_delivers_44 : decode cX5_delivers 44 = .ok (.bastore, 1) := by decide +kernel
theorem dX5_delivers_45 : decode cX5_delivers 45 = .ok (.iload_n 2, 1) := by decide +kernel
theorem dX5_delivers_46 : decode cX5_delivers 46 = .ok (.ifCond .eq 4, 3) := by decide +kernel
theorem dX5_delivers_49 : decode cX5_delivers 49 = .ok (.return_, 1) := by decide +kernel
theorem dX5_delivers_50 : decode cX5_delivers 50 = .ok (.aload_n 0, 1) := by decide +kernel
theorem dX5_delivers_51 : decode cX5_delivers 51 = .ok (.getfield 51, 3) := by decide +kernel
theorem dX5_delivers_54 : decode cX5_delivers 54 = .ok (.iload_n 1, 1) := by decide +kernel
theorem dX5_delivers_55 : decode cX5_delivers 55 = .ok (.baload, 1) := by decide +kernel
theorem dX5_delivers_56 : decode cX5_delivers 56 = .ok (.ifCond .eq 13, 3) := by decide +kernel
theorem dX5_delivers_59 : decode cX5_delivers 59 = .ok (.aload_n 0, 1) := by decide +kernel
theorem dX5_delivers_60 : decode cX5_delivers 60 = .ok (.aload_n 0, 1) := by decide +kernel
theorem dX5_delivers_61 : decode cX5_delivers 61 = .ok (.getfield 7, 3) := by decide +kernel
theorem dX5_delivers_64 : decode cX5_delivers 64 = .ok (.iload_n 1, 1) := by decide +kernel
theorem dX5_delivers_65 : decode cX5_delivers 65 = .ok (.iaload, 1) := by decide +kernel
theorem dX5_delivers_66 : decode cX5_delivers 66 = .ok (.invokevirtual 117, 3) := by decide +kernel
theorem dX5_delivers_69 : decode cX5_delivers 69 = .ok (.iconst 0, 1) := by decide +kernel
theorem dX5_delivers_70 : decode cX5_delivers 70 = .ok (.istore_n 3, 1) := by decide +kernel
theorem dX5_delivers_71 : decode cX5_delivers 71 = .ok (.iload_n 3, 1) := by decide +kernel
theorem dX5_delivers_72 : decode cX5_delivers 72 = .ok (.iconst 4, 1) := by decide +kernel
theorem dX5_delivers_73 : decode cX5_delivers 73 = .ok (.if_icmp .ge 33, 3) := by decide +kernel
theorem dX5_delivers_76 : decode cX5_delivers 76 = .ok (.aload_n 0, 1) := by decide +kernel
theorem dX5_delivers_77 : decode cX5_delivers 77 = .ok (.iconst 4, 1) := by decide +kernel
theorem dX5_delivers_78 : decode cX5_delivers 78 = .ok (.aload_n 0, 1) := by decide +kernel
theorem dX5_delivers_79 : decode cX5_delivers 79 = .ok (.getfield 7, 3) := by decide +kernel
theorem dX5_delivers_82 : decode cX5_delivers 82 = .ok (.iload_n 1, 1) := by decide +kernel
theorem dX5_delivers_83 : decode cX5_delivers 83 = .ok (.iaload, 1) := by decide +kernel
theorem dX5_delivers_84 : decode cX5_delivers 84 = .ok (.imul, 1) := by decide +kernel
theorem dX5_delivers_85 : decode cX5_delivers 85 = .ok (.iload_n 3, 1) := by decide +kernel
theorem dX5_delivers_86 : decode cX5_delivers 86 = .ok (.iadd, 1) := by decide +kernel
theorem dX5_delivers_87 : decode cX5_delivers 87 = .ok (.aload_n 0, 1) := by decide +kernel
theorem dX5_delivers_88 : decode cX5_delivers 88 = .ok (.getfield 54, 3) := by decide +kernel
theorem dX5_delivers_91 : decode cX5_delivers 91 = .ok (.iconst 4, 1) := by decide +kernel
theorem dX5_delivers_92 : decode cX5_delivers 92 = .ok (.iload_n 1, 1) := by decide +kernel
theorem dX5_delivers_93 : decode cX5_delivers 93 = .ok (.imul, 1) := by decide +kernel
theorem dX5_delivers_94 : decode cX5_delivers 94 = .ok (.iload_n 3, 1) := by decide +kernel
theorem dX5_delivers_95 : decode cX5_delivers 95 = .ok (.iadd, 1) := by decide +kernel
theorem dX5_delivers_96 : decode cX5_delivers 96 = .ok (.iaload, 1) := by decide +kernel
theorem dX5_delivers_97 : decode cX5_delivers 97 = .ok (.invokevirtual 124, 3) := by decide +kernel
theorem dX5_delivers_100 : decode cX5_delivers 100 = .ok (.iinc 3 1, 3) := by decide +kernel
theorem dX5_delivers_103 : decode cX5_delivers 103 = .ok (.goto (-32), 3) := by decide +kernel
theorem dX5_delivers_106 : decode cX5_delivers 106 = .ok (.return_, 1) := by decide +kernel
set_option maxRecDepth 20000 in
theorem ggX5_passes_X5_isConnected : GoodIn wsX5_passes wsX5_isConnected := goodIn_r _ [9, 10, 71, 72, 73, 74, 75, 76, 77, 78, 79, 80, 81, 82, 83, 84, 85, 86, 87, 88, 89, 90, 91, 92, 93] (by decide +kernel) (by decide +kernel)
set_option maxRecDepth 20000 in
theorem gX5_passes_X5_isConnected : GoodIn wsX5_passes (wsV RX5 87 RX5 yX5_isConnected wsX5_isConnected) := goodIn_app (goodIn_of _ (by decide +kernel)) ggX5_passes_X5_isConnected
set_option maxRecDepth 20000 in
theorem ggX5_passes_X5_ages : GoodIn wsX5_passes wsX5_ages := goodIn_r _ [14, 15, 16, 17, 18, 19, 71, 72, 73, 74, 75, 76, 77, 78, 79, 80, 81, 82, 83, 84, 85, 86, 87, 88, 89, 90, 91, 92, 93] (by decide +kernel) (by decide +kernel)
set_option maxRecDepth 20000 in
theorem gX5_passes_X5_ages : GoodIn wsX5_passes (wsV RX5 127 RX5 yX5_ages wsX5_ages) := goodIn_app (goodIn_of _ (by decide +kernel)) ggX5_passes_X5_ages
set_option maxRecDepth 20000 in
theorem ggX5_passes_X5_propagates : GoodIn wsX5_passes wsX5_propagates := goodIn_r _ [23, 24, 25, 26, 27, 28, 8, 29, 16, 5, 6, 7, 9, 10, 30, 31, 32, 71, 72, 73, 74, 75, 76, 77, 78, 79, 80, 81, 82, 83, 84, 85, 86, 87, 88, 89, 90, 91, 92, 93] (by decide +kernel) (by decide +kernel)
set_option maxRecDepth 20000 in
theorem gX5_passes_X5_propagates : GoodIn wsX5_passes (wsV RX5 130 RX5 yX5_propagates wsX5_propagates) := goodIn_app (goodIn_of _ (by decide +kernel)) ggX5_passes_X5_propagates
set_option maxRecDepth 20000 in
theorem ggX5_passes_X5_sendsOf : GoodIn wsX5_passes wsX5_sendsOf := goodIn_r _ [36, 37, 15, 38, 24, 25, 39, 40, 41, 8, 42, 16, 17, 43, 71, 72, 73, 74, 75, 76, 77, 78, 79, 80, 81, 82, 83, 84, 85, 86, 87, 88, 89, 90, 91, 92, 93] (by decide +kernel) (by decide +kernel)
set_option maxRecDepth 20000 in
theorem gX5_passes_X5_sendsOf : GoodIn wsX5_passes (wsV RX5 133 RX5 yX5_sendsOf wsX5_sendsOf) := goodIn_app (goodIn_of _ (by decide +kernel)) ggX5_passes_X5_sendsOf
set_option maxRecDepth 20000 in
theorem ggX5_passes_X5_sendsOfHost : GoodIn wsX5_passes wsX5_sendsOfHost := goodIn_r _ [47, 3, 48, 49, 50, 71, 72, 73, 74, 75, 76, 77, 78, 79, 80, 81, 82, 83, 84, 85, 86, 87, 88, 89, 90, 91, 92, 93] (by decide +kernel) (by decide +kernel)
set_option maxRecDepth 20000 in
theorem gX5_passes_X5_sendsOfHost : GoodIn wsX5_passes (wsV RX5 136 RX5 yX5_sendsOfHost wsX5_sendsOfHost) := goodIn_app (goodIn_of _ (by decide +kernel)) ggX5_passes_X5_sendsOfHost
set_option maxRecDepth 20000 in
theorem ggX5_passes_X5_delivers : GoodIn wsX5_passes wsX5_delivers := goodIn_r _ [54, 37, 10, 55, 38, 56, 57, 58, 8, 59, 60, 61, 62, 63, 64, 65, 66, 49, 50, 39, 40, 41, 42, 16, 17, 43, 24, 25, 67, 68, 69, 70, 71, 72, 73, 74, 75, 76, 77, 78, 79, 80, 81, 82, 83, 84, 85, 86, 87, 88, 89, 90, 91, 92, 93] (by decide +kernel) (by decide +kernel)
set_option maxRecDepth 20000 in
theorem gX5_passes_X5_delivers : GoodIn wsX5_passes (wsV RX5 139 RX5 yX5_delivers wsX5_delivers) := goodIn_app (goodIn_of _ (by decide +kernel)) ggX5_passes_X5_delivers
set_option maxRecDepth 20000 in
theorem ggX5_passes_X5_gets : GoodIn wsX5_passes wsX5_gets := goodIn_r _ [70, 16, 17, 43, 71, 72, 73, 74, 75, 76, 77, 78, 79, 80, 81, 82, 83, 84, 85, 86, 87, 88, 89, 90, 91, 92, 93] (by decide +kernel) (by decide +kernel)
set_option maxRecDepth 20000 in
theorem gX5_passes_X5_gets : GoodIn wsX5_passes (wsV RX5 124 RX5 yX5_gets wsX5_gets) := goodIn_app (goodIn_of _ (by decide +kernel)) ggX5_passes_X5_gets
theorem dX5_passes_0 : decode cX5_passes 0 = .ok (.iconst 0, 1) := by decide +kernel
theorem dX5_passes_1 : decode cX5_passes 1 = .ok (.istore_n 1, 1) := by decide +kernel
theorem dX5_passes_2 : decode cX5_passes 2 = .ok (.iconst 0, 1) := by decide +kernel
theorem dX5_passes_3 : decode cX5_passes 3 = .ok (.istore_n 2, 1) := by decide +kernel
theorem dX5_passes_4 : decode cX5_passes 4 = .ok (.iload_n 2, 1) := by decide +kernel
theorem dX5_passes_5 : decode cX5_passes 5 = .ok (.bipush 20, 2) := by decide +kernel
theorem dX5_passes_7 : decode cX5_passes 7 = .ok (.if_icmp .ge 22, 3) := by decide +kernel
theorem dX5_passes_10 : decode cX5_passes 10 = .ok (.aload_n 0, 1) := by decide +kernel
theorem dX5_passes_11 : decode cX5_passes 11 = .ok (.iload_n 2, 1) := by decide +kernel
theorem dX5_passes_12 : decode cX5_passes 12 = .ok (.invokevirtual 87, 3) := by decide +kernel
theorem dX5_passes_15 : decode cX5_passes 15 = .ok (.ifCond .eq 8, 3) := by decide +kernel
theorem dX5_passes_18 : decode cX5_passes 18 = .ok (.aload_n 0, 1) := by decide +kernel
theorem dX5_passes_19 : decode cX5_passes 19 = .ok (.iload_n 2, 1) := by decide +kernel
theorem dX5_passes_20 : decode cX5_passes 20 = .ok (.invokevirtual 127, 3) := by decide +kernel
theorem dX5_passes_23 : decode cX5_passes 23 = .ok (.iinc 2 1, 3) := by decide +kernel
theorem dX5_passes_26 : decode cX5_passes 26 = .ok (.goto (-22), 3) := by decide +kernel
theorem dX5_passes_29 : decode cX5_passes 29 = .ok (.iconst 0, 1) := by decide +kernel
theorem dX5_passes_30 : decode cX5_passes 30 = .ok (.istore_n 2, 1) := by decide +kernel
theorem dX5_passes_31 : decode cX5_passes 31 = .ok (.iload_n 2, 1) := by decide +kernel
theorem dX5_passes_32 : decode cX5_passes 32 = .ok (.bipush 20, 2) := by decide +kernel
theorem dX5_passes_34 : decode cX5_passes 34 = .ok (.if_icmp .ge 22, 3) := by decide +kernel
theorem dX5_passes_37 : decode cX5_passes 37 = .ok (.aload_n 0, 1) := by decide +kernel
theorem dX5_passes_38 : decode cX5_passes 38 = .ok (.iload_n 2, 1) := by decide +kernel
theorem dX5_passes_39 : decode cX5_passes 39 = .ok (.invokevirtual 87, 3) := by decide +kernel
theorem dX5_passes_42 : decode cX5_passes 42 = .ok (.ifCond .eq 8, 3) := by decide +kernel
theorem dX5_passes_45 : decode cX5_passes 45 = .ok (.aload_n 0, 1) := by decide +kernel
theorem dX5_passes_46 : decode cX5_passes 46 = .ok (.iload_n 2, 1) := by decide +kernel
theorem dX5_passes_47 : decode cX5_passes 47 = .ok (.invokevirtual 130, 3) := by decide +kernel
theorem dX5_passes_50 : decode cX5_passes 50 = .ok (.iinc 2 1, 3) := by decide +kernel
theorem dX5_passes_53 : decode cX5_passes 53 = .ok (.goto (-22), 3) := by decide +kernel
theorem dX5_passes_56 : decode cX5_passes 56 = .ok (.iconst 0, 1) := by decide +kernel
theorem dX5_passes_57 : decode cX5_passes 57 = .ok (.istore_n 2, 1) := by decide +kernel
theorem dX5_passes_58 : decode cX5_passes 58 = .ok (.iload_n 2, 1) := by decide +kernel
theorem dX5_passes_59 : decode cX5_passes 59 = .ok (.bipush 20, 2) := by decide +kernel
theorem dX5_passes_61 : decode cX5_passes 61 = .ok (.if_icmp .ge 29, 3) := by decide +kernel
theorem dX5_passes_64 : decode cX5_passes 64 = .ok (.iload_n 1, 1) := by decide +kernel
theorem dX5_passes_65 : decode cX5_passes 65 = .ok (.aload_n 0, 1) := by decide +kernel
theorem dX5_passes_66 : decode cX5_passes 66 = .ok (.iload_n 2, 1) := by decide +kernel
theorem dX5_passes_67 : decode cX5_passes 67 = .ok (.invokevirtual 87, 3) := by decide +kernel
theorem dX5_passes_70 : decode cX5_passes 70 = .ok (.ifCond .eq 11, 3) := by decide +kernel
theorem dX5_passes_73 : decode cX5_passes 73 = .ok (.aload_n 0, 1) := by decide +kernel
theorem dX5_passes_74 : decode cX5_passes 74 = .ok (.iload_n 2, 1) := by decide +kernel
theorem dX5_passes_75 : decode cX5_passes 75 = .ok (.invokevirtual 133, 3) := by decide +kernel
theorem dX5_passes_78 : decode cX5_passes 78 = .ok (.goto 4, 3) := by decide +kernel
theorem dX5_passes_81 : decode cX5_passes 81 = .ok (.iconst 0, 1) := by decide +kernel
theorem dX5_passes_82 : decode cX5_passes 82 = .ok (.iadd, 1) := by decide +kernel
theorem dX5_passes_83 : decode cX5_passes 83 = .ok (.istore_n 1, 1) := by decide +kernel
theorem dX5_passes_84 : decode cX5_passes 84 = .ok (.iinc 2 1, 3) := by decide +kernel
theorem dX5_passes_87 : decode cX5_passes 87 = .ok (.goto (-29), 3) := by decide +kernel
theorem dX5_passes_90 : decode cX5_passes 90 = .ok (.iconst 0, 1) := by decide +kernel
theorem dX5_passes_91 : decode cX5_passes 91 = .ok (.istore_n 2, 1) := by decide +kernel
theorem dX5_passes_92 : decode cX5_passes 92 = .ok (.iload_n 2, 1) := by decide +kernel
theorem dX5_passes_93 : decode cX5_passes 93 = .ok (.aload_n 0, 1) := by decide +kernel
theorem dX5_passes_94 : decode cX5_passes 94 = .ok (.getfield 73, 3) := by decide +kernel
theorem dX5_passes_97 : decode cX5_passes 97 = .ok (.if_icmp .ge 17, 3) := by decide +kernel
theorem dX5_passes_100 : decode cX5_passes 100 = .ok (.iload_n 1, 1) := by decide +kernel
theorem dX5_passes_101 : decode cX5_passes 101 = .ok (.aload_n 0, 1) := by decide +kernel
theorem dX5_passes_102 : decode cX5_passes 102 = .ok (.iload_n 2, 1) := by decide +kernel
theorem dX5_passes_103 : decode cX5_passes 103 = .ok (.invokevirtual 136, 3) := by decide +kernel
theorem dX5_passes_106 : decode cX5_passes 106 = .ok (.iadd, 1) := by decide +kernel
theorem dX5_passes_107 : decode cX5_passes 107 = .ok (.istore_n 1, 1) := by decide +kernel
theorem dX5_passes_108 : decode cX5_passes 108 = .ok (.iinc 2 1, 3) := by decide +kernel
theorem dX5_passes_111 : decode cX5_passes 111 = .ok (.goto (-19), 3) := by decide +kernel
theorem dX5_passes_114 : decode cX5_passes 114 = .ok (.iconst 0, 1) := by decide +kernel
theorem dX5_passes_115 : decode cX5_passes 115 = .ok (.istore_n 2, 1) := by decide +kernel
theorem dX5_passes_116 : decode cX5_passes 116 = .ok (.iload_n 2, 1) := by decide +kernel
theorem dX5_passes_117 : decode cX5_passes 117 = .ok (.bipush 20, 2) := by decide +kernel
theorem dX5_passes_119 : decode cX5_passes 119 = .ok (.if_icmp .ge 22, 3) := by decide +kernel
theorem dX5_passes_122 : decode cX5_passes 122 = .ok (.aload_n 0, 1) := by decide +kernel
theorem dX5_passes_123 : decode cX5_passes 123 = .ok (.iload_n 2, 1) := by decide +kernel
theorem dX5_passes_124 : decode cX5_passes 124 = .ok (.invokevirtual 87, 3) := by decide +kernel
theorem dX5_passes_127 : decode cX5_passes 127 = .ok (.ifCond .eq 8, 3) := by decide +kernel
theorem dX5_passes_130 : decode cX5_passes 130 = .ok (.aload_n 0, 1) := by decide +kernel
theorem dX5_passes_131 : decode cX5_passes 131 = .ok (.iload_n 2, 1) := by decide +kernel
theorem dX5_passes_132 : decode cX5_passes 132 = .ok (.invokevirtual 139, 3) := by decide +kernel
theorem dX5_passes_135 : decode cX5_passes 135 = .ok (.iinc 2 1, 3) := by decide +kernel
theorem dX5_passes_138 : decode cX5_passes 138 = .ok (.goto (-22), 3) := by decide +kernel
theorem dX5_passes_141 : decode cX5_passes 141 = .ok (.iconst 0, 1) := by decide +kernel
theorem dX5_passes_142 : decode cX5_passes 142 = .ok (.istore_n 2, 1) := by decide +kernel
theorem dX5_passes_143 : decode cX5_passes 143 = .ok (.iload_n 2, 1) := by decide +kernel
theorem dX5_passes_144 : decode cX5_passes 144 = .ok (.iconst 4, 1) := by decide +kernel
theorem dX5_passes_145 : decode cX5_passes 145 = .ok (.aload_n 0, 1) := by decide +kernel
theorem dX5_passes_146 : decode cX5_passes 146 = .ok (.getfield 73, 3) := by decide +kernel
theorem dX5_passes_149 : decode cX5_passes 149 = .ok (.imul, 1) := by decide +kernel
theorem dX5_passes_150 : decode cX5_passes 150 = .ok (.if_icmp .ge 33, 3) := by decide +kernel
theorem dX5_passes_153 : decode cX5_passes 153 = .ok (.aload_n 0, 1) := by decide +kernel
theorem dX5_passes_154 : decode cX5_passes 154 = .ok (.iconst 4, 1) := by decide +kernel
theorem dX5_passes_155 : decode cX5_passes 155 = .ok (.aload_n 0, 1) := by decide +kernel
theorem dX5_passes_156 : decode cX5_passes 156 = .ok (.getfield 13, 3) := by decide +kernel
theorem dX5_passes_159 : decode cX5_passes 159 = .ok (.iload_n 2, 1) := by decide +kernel
theorem dX5_passes_160 : decode cX5_passes 160 = .ok (.iconst 4, 1) := by decide +kernel
theorem dX5_passes_161 : decode cX5_passes 161 = .ok (.idiv, 1) := by decide +kernel
theorem dX5_passes_162 : decode cX5_passes 162 = .ok (.iaload, 1) := by decide +kernel
theorem dX5_passes_163 : decode cX5_passes 163 = .ok (.imul, 1) := by decide +kernel
theorem dX5_passes_164 : decode cX5_passes 164 = .ok (.iload_n 2, 1) := by decide +kernel
theorem dX5_passes_165 : decode cX5_passes 165 = .ok (.iconst 4, 1) := by decide +kernel
theorem dX5_passes_166 : decode cX5_passes 166 = .ok (.irem, 1) := by decide +kernel
theorem dX5_passes_167 : decode cX5_passes 167 = .ok (.iadd, 1) := by decide +kernel
theorem dX5_passes_168 : decode cX5_passes 168 = .ok (.aload_n 0, 1) := by decide +kernel
theorem dX5_passes_169 : decode cX5_passes 169 = .ok (.getfield 57, 3) := by decide +kernel
theorem dX5_passes_172 : decode cX5_passes 172 = .ok (.iload_n 2, 1) := by decide +kernel
theorem dX5_passes_173 : decode cX5_passes 173 = .ok (.iaload, 1) := by decide +kernel
theorem dX5_passes_174 : decode cX5_passes 174 = .ok (.invokevirtual 124, 3) := by decide +kernel
theorem dX5_passes_177 : decode cX5_passes 177 = .ok (.iinc 2 1, 3) := by decide +kernel
theorem dX5_passes_180 : decode cX5_passes 180 = .ok (.goto (-37), 3) := by decide +kernel
theorem dX5_passes_183 : decode cX5_passes 183 = .ok (.aload_n 0, 1) := by decide +kernel
theorem dX5_passes_184 : decode cX5_passes 184 = .ok (.dup, 1) := by decide +kernel
theorem dX5_passes_185 : decode cX5_passes 185 = .ok (.getfield 142, 3) := by decide +kernel
theorem dX5_passes_188 : decode cX5_passes 188 = .ok (.iconst 1, 1) := by decide +kernel
theorem dX5_passes_189 : decode cX5_passes 189 = .ok (.iadd, 1) := by decide +kernel
theorem dX5_passes_190 : decode cX5_passes 190 = .ok (.putfield 142, 3) := by decide +kernel
theorem dX5_passes_193 : decode cX5_passes 193 = .ok (.iload_n 1, 1) := by decide +kernel
theorem dX5_passes_194 : decode cX5_passes 194 = .ok (.ireturn, 1) := by decide +kernel
set_option maxRecDepth 20000 in
theorem ggX5_tick_X5_within : GoodIn wsX5_tick wsX5_within := goodIn_r _ [4] (by decide +kernel) (by decide +kernel)
set_option maxRecDepth 20000 in
theorem gX5_tick_X5_within : GoodIn wsX5_tick (va_wsS RX5 69 yX5_within wsX5_within) := goodIn_app (goodIn_of _ (by decide +kernel)) ggX5_tick_X5_within
set_option maxRecDepth 20000 in
theorem ggX5_tick_X5_passes : GoodIn wsX5_tick wsX5_passes := goodIn_r _ [8, 9, 10, 11, 12, 13, 14, 15, 3, 16, 17, 18, 19, 20, 21, 22, 23, 24, 25, 26, 27, 28, 29, 30, 31, 32, 33, 34, 35, 36, 37, 38, 39, 40, 41, 42, 43, 44, 45, 46, 47, 48, 49, 50, 51, 52, 53, 54, 55, 56, 57, 58, 59, 60, 61, 62, 63, 64, 65, 66, 1, 2, 4, 67, 68, 69, 70, 71, 72, 73, 74, 75, 76, 77, 78, 79, 80, 81, 82, 83, 84, 85, 86, 87, 88, 89, 90, 91, 92, 93, 94, 95, 96, 97] (by decide +kernel) (by decide +kernel)
set_option maxRecDepth 20000 in
theorem gX5_tick_X5_passes : GoodIn wsX5_tick (wsV RX5 145 RX5 yX5_passes wsX5_passes) := goodIn_app (goodIn_of _ (by decide +kernel)) ggX5_tick_X5_passes
theorem dX5_tick_0 : decode cX5_tick 0 = .ok (.iload_n 1, 1) := by decide +kernel
theorem dX5_tick_1 : decode cX5_tick 1 = .ok (.iconst 1, 1) := by decide +kernel
theorem dX5_tick_2 : decode cX5_tick 2 = .ok (.bipush 100, 2) := by decide +kernel
theorem dX5_tick_4 : decode cX5_tick 4 = .ok (.invokestatic 69, 3) := by decide +kernel
theorem dX5_tick_7 : decode cX5_tick 7 = .ok (.ifCond .ne 6, 3) := by decide +kernel
theorem dX5_tick_10 : decode cX5_tick 10 = .ok (.bipush (-4), 2) := by decide +kernel
theorem dX5_tick_12 : decode cX5_tick 12 = .ok (.ireturn, 1) := by decide +kernel
theorem dX5_tick_13 : decode cX5_tick 13 = .ok (.iconst 0, 1) := by decide +kernel
theorem dX5_tick_14 : decode cX5_tick 14 = .ok (.istore_n 2, 1) := by decide +kernel
theorem dX5_tick_15 : decode cX5_tick 15 = .ok (.iconst 0, 1) := by decide +kernel
theorem dX5_tick_16 : decode cX5_tick 16 = .ok (.istore_n 3, 1) := by decide +kernel
theorem dX5_tick_17 : decode cX5_tick 17 = .ok (.iload_n 3, 1) := by decide +kernel
theorem dX5_tick_18 : decode cX5_tick 18 = .ok (.iload_n 1, 1) := by decide +kernel
theorem dX5_tick_19 : decode cX5_tick 19 = .ok (.if_icmp .ge 16, 3) := by decide +kernel
theorem dX5_tick_22 : decode cX5_tick 22 = .ok (.iload_n 2, 1) := by decide +kernel
theorem dX5_tick_23 : decode cX5_tick 23 = .ok (.aload_n 0, 1) := by decide +kernel
theorem dX5_tick_24 : decode cX5_tick 24 = .ok (.invokevirtual 145, 3) := by decide +kernel
theorem dX5_tick_27 : decode cX5_tick 27 = .ok (.iadd, 1) := by decide +kernel
theorem dX5_tick_28 : decode cX5_tick 28 = .ok (.istore_n 2, 1) := by decide +kernel
theorem dX5_tick_29 : decode cX5_tick 29 = .ok (.iinc 3 1, 3) := by decide +kernel
theorem dX5_tick_32 : decode cX5_tick 32 = .ok (.goto (-15), 3) := by decide +kernel
theorem dX5_tick_35 : decode cX5_tick 35 = .ok (.iload_n 2, 1) := by decide +kernel
theorem dX5_tick_36 : decode cX5_tick 36 = .ok (.ireturn, 1) := by decide +kernel
theorem dX5_time_0 : decode cX5_time 0 = .ok (.aload_n 0, 1) := by decide +kernel
theorem dX5_time_1 : decode cX5_time 1 = .ok (.getfield 142, 3) := by decide +kernel
theorem dX5_time_4 : decode cX5_time 4 = .ok (.ireturn, 1) := by decide +kernel
set_option maxRecDepth 20000 in
theorem ggX5_refusedPort_X5_isPort : GoodIn wsX5_refusedPort wsX5_isPort := goodIn_r _ [5, 6, 7, 8, 4, 9, 13, 14, 15, 16, 17, 18, 19, 20, 21, 22, 23, 24, 25, 26, 27, 28, 29, 30, 31, 32, 33, 34, 35] (by decide +kernel) (by decide +kernel)
set_option maxRecDepth 20000 in
theorem gX5_refusedPort_X5_isPort : GoodIn wsX5_refusedPort (wsV RX5 83 RX5 yX5_isPort wsX5_isPort) := goodIn_app (goodIn_of _ (by decide +kernel)) ggX5_refusedPort_X5_isPort
set_option maxRecDepth 20000 in
theorem ggX5_refusedPort_X5_isGroup : GoodIn wsX5_refusedPort wsX5_isGroup := goodIn_r _ [12, 7, 8, 4, 9] (by decide +kernel) (by decide +kernel)
set_option maxRecDepth 20000 in
theorem gX5_refusedPort_X5_isGroup : GoodIn wsX5_refusedPort (va_wsS RX5 104 yX5_isGroup wsX5_isGroup) := goodIn_app (goodIn_of _ (by decide +kernel)) ggX5_refusedPort_X5_isGroup
theorem dX5_refusedPort_0 : decode cX5_refusedPort 0 = .ok (.aload_n 0, 1) := by decide +kernel
theorem dX5_refusedPort_1 : decode cX5_refusedPort 1 = .ok (.iload_n 1, 1) := by decide +kernel
theorem dX5_refusedPort_2 : decode cX5_refusedPort 2 = .ok (.iload_n 2, 1) := by decide +kernel
theorem dX5_refusedPort_3 : decode cX5_refusedPort 3 = .ok (.invokevirtual 83, 3) := by decide +kernel
theorem dX5_refusedPort_6 : decode cX5_refusedPort 6 = .ok (.ifCond .ne 7, 3) := by decide +kernel
theorem dX5_refusedPort_9 : decode cX5_refusedPort 9 = .ok (.iconst (-1), 1) := by decide +kernel
theorem dX5_refusedPort_10 : decode cX5_refusedPort 10 = .ok (.goto 16, 3) := by decide +kernel
theorem dX5_refusedPort_13 : decode cX5_refusedPort 13 = .ok (.iload_n 3, 1) := by decide +kernel
theorem dX5_refusedPort_14 : decode cX5_refusedPort 14 = .ok (.invokestatic 104, 3) := by decide +kernel
theorem dX5_refusedPort_17 : decode cX5_refusedPort 17 = .ok (.ifCond .ne 8, 3) := by decide +kernel
theorem dX5_refusedPort_20 : decode cX5_refusedPort 20 = .ok (.bipush (-3), 2) := by decide +kernel
theorem dX5_refusedPort_22 : decode cX5_refusedPort 22 = .ok (.goto 4, 3) := by decide +kernel
theorem dX5_refusedPort_25 : decode cX5_refusedPort 25 = .ok (.iconst 0, 1) := by decide +kernel
theorem dX5_refusedPort_26 : decode cX5_refusedPort 26 = .ok (.ireturn, 1) := by decide +kernel
set_option maxRecDepth 20000 in
theorem ggX5_registrar_X5_refusedPort : GoodIn wsX5_registrar wsX5_refusedPort := goodIn_r _ [6, 7, 8, 9, 5, 10, 11, 12, 13, 14, 15, 16, 17, 18, 19, 20, 21, 22, 23, 24, 25, 26, 27, 28, 29, 30, 31, 32, 33, 34, 35, 36, 37, 38, 39, 40] (by decide +kernel) (by decide +kernel)
set_option maxRecDepth 20000 in
theorem gX5_registrar_X5_refusedPort : GoodIn wsX5_registrar (wsV RX5 149 RX5 yX5_refusedPort wsX5_refusedPort) := goodIn_app (goodIn_of _ (by decide +kernel)) ggX5_registrar_X5_refusedPort
theorem dX5_registrar_0 : decode cX5_registrar 0 = .ok (.aload_n 0, 1) := by decide +kernel
theorem dX5_registrar_1 : decode cX5_registrar 1 = .ok (.iload_n 1, 1) := by decide +kernel
theorem dX5_registrar_2 : decode cX5_registrar 2 = .ok (.iload_n 2, 1) := by decide +kernel
theorem dX5_registrar_3 : decode cX5_registrar 3 = .ok (.iload_n 3, 1) := by decide +kernel
theorem dX5_registrar_4 : decode cX5_registrar 4 = .ok (.invokevirtual 149, 3) := by decide +kernel
theorem dX5_registrar_7 : decode cX5_registrar 7 = .ok (.istore 4, 2) := by decide +kernel
theorem dX5_registrar_9 : decode cX5_registrar 9 = .ok (.iload 4, 2) := by decide +kernel
theorem dX5_registrar_11 : decode cX5_registrar 11 = .ok (.ifCond .eq 8, 3) := by decide +kernel
theorem dX5_registrar_14 : decode cX5_registrar 14 = .ok (.iload 4, 2) := by decide +kernel
theorem dX5_registrar_16 : decode cX5_registrar 16 = .ok (.goto 18, 3) := by decide +kernel
theorem dX5_registrar_19 : decode cX5_registrar 19 = .ok (.aload_n 0, 1) := by decide +kernel
theorem dX5_registrar_20 : decode cX5_registrar 20 = .ok (.getfield 24, 3) := by decide +kernel
theorem dX5_registrar_23 : decode cX5_registrar 23 = .ok (.bipush 16, 2) := by decide +kernel
theorem dX5_registrar_25 : decode cX5_registrar 25 = .ok (.iload_n 1, 1) := by decide +kernel
theorem dX5_registrar_26 : decode cX5_registrar 26 = .ok (.imul, 1) := by decide +kernel
theorem dX5_registrar_27 : decode cX5_registrar 27 = .ok (.iconst 4, 1) := by decide +kernel
theorem dX5_registrar_28 : decode cX5_registrar 28 = .ok (.iload_n 2, 1) := by decide +kernel
theorem dX5_registrar_29 : decode cX5_registrar 29 = .ok (.imul, 1) := by decide +kernel
theorem dX5_registrar_30 : decode cX5_registrar 30 = .ok (.iadd, 1) := by decide +kernel
theorem dX5_registrar_31 : decode cX5_registrar 31 = .ok (.iload_n 3, 1) := by decide +kernel
theorem dX5_registrar_32 : decode cX5_registrar 32 = .ok (.iadd, 1) := by decide +kernel
theorem dX5_registrar_33 : decode cX5_registrar 33 = .ok (.iaload, 1) := by decide +kernel
theorem dX5_registrar_34 : decode cX5_registrar 34 = .ok (.ireturn, 1) := by decide +kernel
set_option maxRecDepth 20000 in
theorem ggX5_registrarTimer_X5_refusedPort : GoodIn wsX5_registrarTimer wsX5_refusedPort := goodIn_r _ [6, 7, 8, 9, 5, 10, 11, 12, 13, 14, 15, 16, 17, 18, 19, 20, 21, 22, 23, 24, 25, 26, 27, 28, 29, 30, 31, 32, 33, 34, 35, 36, 37, 38, 39, 40] (by decide +kernel) (by decide +kernel)
set_option maxRecDepth 20000 in
theorem gX5_registrarTimer_X5_refusedPort : GoodIn wsX5_registrarTimer (wsV RX5 149 RX5 yX5_refusedPort wsX5_refusedPort) := goodIn_app (goodIn_of _ (by decide +kernel)) ggX5_registrarTimer_X5_refusedPort
theorem dX5_registrarTimer_0 : decode cX5_registrarTimer 0 = .ok (.aload_n 0, 1) := by decide +kernel
theorem dX5_registrarTimer_1 : decode cX5_registrarTimer 1 = .ok (.iload_n 1, 1) := by decide +kernel
theorem dX5_registrarTimer_2 : decode cX5_registrarTimer 2 = .ok (.iload_n 2, 1) := by decide +kernel
theorem dX5_registrarTimer_3 : decode cX5_registrarTimer 3 = .ok (.iload_n 3, 1) := by decide +kernel
theorem dX5_registrarTimer_4 : decode cX5_registrarTimer 4 = .ok (.invokevirtual 149, 3) := by decide +kernel
theorem dX5_registrarTimer_7 : decode cX5_registrarTimer 7 = .ok (.istore 4, 2) := by decide +kernel
theorem dX5_registrarTimer_9 : decode cX5_registrarTimer 9 = .ok (.iload 4, 2) := by decide +kernel
theorem dX5_registrarTimer_11 : decode cX5_registrarTimer 11 = .ok (.ifCond .eq 8, 3) := by decide +kernel
theorem dX5_registrarTimer_14 : decode cX5_registrarTimer 14 = .ok (.iload 4, 2) := by decide +kernel
theorem dX5_registrarTimer_16 : decode cX5_registrarTimer 16 = .ok (.goto 18, 3) := by decide +kernel
theorem dX5_registrarTimer_19 : decode cX5_registrarTimer 19 = .ok (.aload_n 0, 1) := by decide +kernel
theorem dX5_registrarTimer_20 : decode cX5_registrarTimer 20 = .ok (.getfield 27, 3) := by decide +kernel
theorem dX5_registrarTimer_23 : decode cX5_registrarTimer 23 = .ok (.bipush 16, 2) := by decide +kernel
theorem dX5_registrarTimer_25 : decode cX5_registrarTimer 25 = .ok (.iload_n 1, 1) := by decide +kernel
theorem dX5_registrarTimer_26 : decode cX5_registrarTimer 26 = .ok (.imul, 1) := by decide +kernel
theorem dX5_registrarTimer_27 : decode cX5_registrarTimer 27 = .ok (.iconst 4, 1) := by decide +kernel
theorem dX5_registrarTimer_28 : decode cX5_registrarTimer 28 = .ok (.iload_n 2, 1) := by decide +kernel
theorem dX5_registrarTimer_29 : decode cX5_registrarTimer 29 = .ok (.imul, 1) := by decide +kernel
theorem dX5_registrarTimer_30 : decode cX5_registrarTimer 30 = .ok (.iadd, 1) := by decide +kernel
theorem dX5_registrarTimer_31 : decode cX5_registrarTimer 31 = .ok (.iload_n 3, 1) := by decide +kernel
theorem dX5_registrarTimer_32 : decode cX5_registrarTimer 32 = .ok (.iadd, 1) := by decide +kernel
theorem dX5_registrarTimer_33 : decode cX5_registrarTimer 33 = .ok (.iaload, 1) := by decide +kernel
theorem dX5_registrarTimer_34 : decode cX5_registrarTimer 34 = .ok (.ireturn, 1) := by decide +kernel
set_option maxRecDepth 20000 in
theorem ggX5_applicant_X5_refusedPort : GoodIn wsX5_applicant wsX5_refusedPort := goodIn_r _ [6, 7, 8, 9, 5, 10, 11, 12, 13, 14, 15, 16, 17, 18, 19, 20, 21, 22, 23, 24, 25, 26, 27, 28, 29, 30, 31, 32, 33, 34, 35, 36, 37, 38, 39, 40] (by decide +kernel) (by decide +kernel)
set_option maxRecDepth 20000 in
theorem gX5_applicant_X5_refusedPort : GoodIn wsX5_applicant (wsV RX5 149 RX5 yX5_refusedPort wsX5_refusedPort) := goodIn_app (goodIn_of _ (by decide +kernel)) ggX5_applicant_X5_refusedPort
theorem dX5_applicant_0 : decode cX5_applicant 0 = .ok (.aload_n 0, 1) := by decide +kernel
theorem dX5_applicant_1 : decode cX5_applicant 1 = .ok (.iload_n 1, 1) := by decide +kernel
theorem dX5_applicant_2 : decode cX5_applicant 2 = .ok (.iload_n 2, 1) := by decide +kernel
theorem dX5_applicant_3 : decode cX5_applicant 3 = .ok (.iload_n 3, 1) := by decide +kernel
theorem dX5_applicant_4 : decode cX5_applicant 4 = .ok (.invokevirtual 149, 3) := by decide +kernel
theorem dX5_applicant_7 : decode cX5_applicant 7 = .ok (.istore 4, 2) := by decide +kernel
theorem dX5_applicant_9 : decode cX5_applicant 9 = .ok (.iload 4, 2) := by decide +kernel
theorem dX5_applicant_11 : decode cX5_applicant 11 = .ok (.ifCond .eq 8, 3) := by decide +kernel
theorem dX5_applicant_14 : decode cX5_applicant 14 = .ok (.iload 4, 2) := by decide +kernel
theorem dX5_applicant_16 : decode cX5_applicant 16 = .ok (.goto 18, 3) := by decide +kernel
theorem dX5_applicant_19 : decode cX5_applicant 19 = .ok (.aload_n 0, 1) := by decide +kernel
theorem dX5_applicant_20 : decode cX5_applicant 20 = .ok (.getfield 30, 3) := by decide +kernel
theorem dX5_applicant_23 : decode cX5_applicant 23 = .ok (.bipush 16, 2) := by decide +kernel
theorem dX5_applicant_25 : decode cX5_applicant 25 = .ok (.iload_n 1, 1) := by decide +kernel
theorem dX5_applicant_26 : decode cX5_applicant 26 = .ok (.imul, 1) := by decide +kernel
theorem dX5_applicant_27 : decode cX5_applicant 27 = .ok (.iconst 4, 1) := by decide +kernel
theorem dX5_applicant_28 : decode cX5_applicant 28 = .ok (.iload_n 2, 1) := by decide +kernel
theorem dX5_applicant_29 : decode cX5_applicant 29 = .ok (.imul, 1) := by decide +kernel
theorem dX5_applicant_30 : decode cX5_applicant 30 = .ok (.iadd, 1) := by decide +kernel
theorem dX5_applicant_31 : decode cX5_applicant 31 = .ok (.iload_n 3, 1) := by decide +kernel
theorem dX5_applicant_32 : decode cX5_applicant 32 = .ok (.iadd, 1) := by decide +kernel
theorem dX5_applicant_33 : decode cX5_applicant 33 = .ok (.iaload, 1) := by decide +kernel
theorem dX5_applicant_34 : decode cX5_applicant 34 = .ok (.ireturn, 1) := by decide +kernel
set_option maxRecDepth 20000 in
theorem ggX5_hostApplicant_X5_refusedHost : GoodIn wsX5_hostApplicant wsX5_refusedHost := goodIn_r _ [6, 7, 8, 9, 5, 10, 11, 12, 13, 14, 15, 16, 17, 18, 19, 20, 21, 22, 23, 24, 25, 26, 27, 28, 29, 30, 31, 32, 33, 34, 35, 36, 37, 38, 39, 40] (by decide +kernel) (by decide +kernel)
set_option maxRecDepth 20000 in
theorem gX5_hostApplicant_X5_refusedHost : GoodIn wsX5_hostApplicant (wsV RX5 107 RX5 yX5_refusedHost wsX5_refusedHost) := goodIn_app (goodIn_of _ (by decide +kernel)) ggX5_hostApplicant_X5_refusedHost
theorem dX5_hostApplicant_0 : decode cX5_hostApplicant 0 = .ok (.aload_n 0, 1) := by decide +kernel
theorem dX5_hostApplicant_1 : decode cX5_hostApplicant 1 = .ok (.iload_n 1, 1) := by decide +kernel
theorem dX5_hostApplicant_2 : decode cX5_hostApplicant 2 = .ok (.iload_n 2, 1) := by decide +kernel
theorem dX5_hostApplicant_3 : decode cX5_hostApplicant 3 = .ok (.invokevirtual 107, 3) := by decide +kernel
theorem dX5_hostApplicant_6 : decode cX5_hostApplicant 6 = .ok (.istore_n 3, 1) := by decide +kernel
theorem dX5_hostApplicant_7 : decode cX5_hostApplicant 7 = .ok (.iload_n 3, 1) := by decide +kernel
theorem dX5_hostApplicant_8 : decode cX5_hostApplicant 8 = .ok (.ifCond .eq 7, 3) := by decide +kernel
theorem dX5_hostApplicant_11 : decode cX5_hostApplicant 11 = .ok (.iload_n 3, 1) := by decide +kernel
theorem dX5_hostApplicant_12 : decode cX5_hostApplicant 12 = .ok (.goto 13, 3) := by decide +kernel
theorem dX5_hostApplicant_15 : decode cX5_hostApplicant 15 = .ok (.aload_n 0, 1) := by decide +kernel
theorem dX5_hostApplicant_16 : decode cX5_hostApplicant 16 = .ok (.getfield 42, 3) := by decide +kernel
theorem dX5_hostApplicant_19 : decode cX5_hostApplicant 19 = .ok (.iconst 4, 1) := by decide +kernel
theorem dX5_hostApplicant_20 : decode cX5_hostApplicant 20 = .ok (.iload_n 1, 1) := by decide +kernel
theorem dX5_hostApplicant_21 : decode cX5_hostApplicant 21 = .ok (.imul, 1) := by decide +kernel
theorem dX5_hostApplicant_22 : decode cX5_hostApplicant 22 = .ok (.iload_n 2, 1) := by decide +kernel
theorem dX5_hostApplicant_23 : decode cX5_hostApplicant 23 = .ok (.iadd, 1) := by decide +kernel
theorem dX5_hostApplicant_24 : decode cX5_hostApplicant 24 = .ok (.iaload, 1) := by decide +kernel
theorem dX5_hostApplicant_25 : decode cX5_hostApplicant 25 = .ok (.ireturn, 1) := by decide +kernel
set_option maxRecDepth 20000 in
theorem ggX5_leaveAllTimer_X5_isPort : GoodIn wsX5_leaveAllTimer wsX5_isPort := goodIn_r _ [6, 7, 8, 9, 5, 10, 11, 12, 13, 14, 15, 16, 17, 18, 19, 20, 21, 22, 23, 24, 25, 26, 27, 28, 29, 30, 31, 32, 33] (by decide +kernel) (by decide +kernel)
set_option maxRecDepth 20000 in
theorem gX5_leaveAllTimer_X5_isPort : GoodIn wsX5_leaveAllTimer (wsV RX5 83 RX5 yX5_isPort wsX5_isPort) := goodIn_app (goodIn_of _ (by decide +kernel)) ggX5_leaveAllTimer_X5_isPort
theorem dX5_leaveAllTimer_0 : decode cX5_leaveAllTimer 0 = .ok (.aload_n 0, 1) := by decide +kernel
theorem dX5_leaveAllTimer_1 : decode cX5_leaveAllTimer 1 = .ok (.iload_n 1, 1) := by decide +kernel
theorem dX5_leaveAllTimer_2 : decode cX5_leaveAllTimer 2 = .ok (.iload_n 2, 1) := by decide +kernel
theorem dX5_leaveAllTimer_3 : decode cX5_leaveAllTimer 3 = .ok (.invokevirtual 83, 3) := by decide +kernel
theorem dX5_leaveAllTimer_6 : decode cX5_leaveAllTimer 6 = .ok (.ifCond .eq 16, 3) := by decide +kernel
theorem dX5_leaveAllTimer_9 : decode cX5_leaveAllTimer 9 = .ok (.aload_n 0, 1) := by decide +kernel
theorem dX5_leaveAllTimer_10 : decode cX5_leaveAllTimer 10 = .ok (.getfield 36, 3) := by decide +kernel
theorem dX5_leaveAllTimer_13 : decode cX5_leaveAllTimer 13 = .ok (.iconst 4, 1) := by decide +kernel
theorem dX5_leaveAllTimer_14 : decode cX5_leaveAllTimer 14 = .ok (.iload_n 1, 1) := by decide +kernel
theorem dX5_leaveAllTimer_15 : decode cX5_leaveAllTimer 15 = .ok (.imul, 1) := by decide +kernel
theorem dX5_leaveAllTimer_16 : decode cX5_leaveAllTimer 16 = .ok (.iload_n 2, 1) := by decide +kernel
theorem dX5_leaveAllTimer_17 : decode cX5_leaveAllTimer 17 = .ok (.iadd, 1) := by decide +kernel
theorem dX5_leaveAllTimer_18 : decode cX5_leaveAllTimer 18 = .ok (.iaload, 1) := by decide +kernel
theorem dX5_leaveAllTimer_19 : decode cX5_leaveAllTimer 19 = .ok (.goto 4, 3) := by decide +kernel
theorem dX5_leaveAllTimer_22 : decode cX5_leaveAllTimer 22 = .ok (.iconst (-1), 1) := by decide +kernel
theorem dX5_leaveAllTimer_23 : decode cX5_leaveAllTimer 23 = .ok (.ireturn, 1) := by decide +kernel
theorem dX5_isBusy_0 : decode cX5_isBusy 0 = .ok (.iload_n 0, 1) := by decide +kernel
theorem dX5_isBusy_1 : decode cX5_isBusy 1 = .ok (.iconst 1, 1) := by decide +kernel
theorem dX5_isBusy_2 : decode cX5_isBusy 2 = .ok (.if_icmp .eq 8, 3) := by decide +kernel
theorem dX5_isBusy_5 : decode cX5_isBusy 5 = .ok (.iload_n 0, 1) := by decide +kernel
theorem dX5_isBusy_6 : decode cX5_isBusy 6 = .ok (.iconst 3, 1) := by decide +kernel
theorem dX5_isBusy_7 : decode cX5_isBusy 7 = .ok (.if_icmp .ne 7, 3) := by decide +kernel
theorem dX5_isBusy_10 : decode cX5_isBusy 10 = .ok (.iconst 1, 1) := by decide +kernel
theorem dX5_isBusy_11 : decode cX5_isBusy 11 = .ok (.goto 4, 3) := by decide +kernel
theorem dX5_isBusy_14 : decode cX5_isBusy 14 = .ok (.iconst 0, 1) := by decide +kernel
theorem dX5_isBusy_15 : decode cX5_isBusy 15 = .ok (.ireturn, 1) := by decide +kernel
set_option maxRecDepth 20000 in
theorem ggX5_isPortSettled_X5_isBusy : GoodIn wsX5_isPortSettled wsX5_isBusy := goodIn_r _ [6] (by decide +kernel) (by decide +kernel)
set_option maxRecDepth 20000 in
theorem gX5_isPortSettled_X5_isBusy : GoodIn wsX5_isPortSettled (va_wsS RX5 153 yX5_isBusy wsX5_isBusy) := goodIn_app (goodIn_of _ (by decide +kernel)) ggX5_isPortSettled_X5_isBusy
set_option maxRecDepth 20000 in
theorem ggX5_isPortSettled_X5_isWanted : GoodIn wsX5_isPortSettled wsX5_isWanted := goodIn_r _ [10, 2, 11, 12, 13, 5, 14, 15, 16, 17, 18, 19, 20, 21, 22, 23, 24, 25, 26, 27, 28, 29, 30, 31, 32, 33, 34, 35, 36, 37, 38] (by decide +kernel) (by decide +kernel)
set_option maxRecDepth 20000 in
theorem gX5_isPortSettled_X5_isWanted : GoodIn wsX5_isPortSettled (wsV RX5 114 RX5 yX5_isWanted wsX5_isWanted) := goodIn_app (goodIn_of _ (by decide +kernel)) ggX5_isPortSettled_X5_isWanted
theorem dX5_isPortSettled_0 : decode cX5_isPortSettled 0 = .ok (.iconst 0, 1) := by decide +kernel
theorem dX5_isPortSettled_1 : decode cX5_isPortSettled 1 = .ok (.istore_n 2, 1) := by decide +kernel
theorem dX5_isPortSettled_2 : decode cX5_isPortSettled 2 = .ok (.iload_n 2, 1) := by decide +kernel
theorem dX5_isPortSettled_3 : decode cX5_isPortSettled 3 = .ok (.iconst 4, 1) := by decide +kernel
theorem dX5_isPortSettled_4 : decode cX5_isPortSettled 4 = .ok (.if_icmp .ge 63, 3) := by decide +kernel
theorem dX5_isPortSettled_7 : decode cX5_isPortSettled 7 = .ok (.iconst 4, 1) := by decide +kernel
theorem dX5_isPortSettled_8 : decode cX5_isPortSettled 8 = .ok (.iload_n 1, 1) := by decide +kernel
theorem dX5_isPortSettled_9 : decode cX5_isPortSettled 9 = .ok (.imul, 1) := by decide +kernel
theorem dX5_isPortSettled_10 : decode cX5_isPortSettled 10 = .ok (.iload_n 2, 1) := by decide +kernel
theorem dX5_isPortSettled_11 : decode cX5_isPortSettled 11 = .ok (.iadd, 1) := by decide +kernel
theorem dX5_isPortSettled_12 : decode cX5_isPortSettled 12 = .ok (.istore_n 3, 1) := by decide +kernel
theorem dX5_isPortSettled_13 : decode cX5_isPortSettled 13 = .ok (.aload_n 0, 1) := by decide +kernel
theorem dX5_isPortSettled_14 : decode cX5_isPortSettled 14 = .ok (.getfield 30, 3) := by decide +kernel
theorem dX5_isPortSettled_17 : decode cX5_isPortSettled 17 = .ok (.iload_n 3, 1) := by decide +kernel
theorem dX5_isPortSettled_18 : decode cX5_isPortSettled 18 = .ok (.iaload, 1) := by decide +kernel
theorem dX5_isPortSettled_19 : decode cX5_isPortSettled 19 = .ok (.invokestatic 153, 3) := by decide +kernel
theorem dX5_isPortSettled_22 : decode cX5_isPortSettled 22 = .ok (.ifCond .ne 37, 3) := by decide +kernel
theorem dX5_isPortSettled_25 : decode cX5_isPortSettled 25 = .ok (.aload_n 0, 1) := by decide +kernel
theorem dX5_isPortSettled_26 : decode cX5_isPortSettled 26 = .ok (.getfield 24, 3) := by decide +kernel
theorem dX5_isPortSettled_29 : decode cX5_isPortSettled 29 = .ok (.iload_n 3, 1) := by decide +kernel
theorem dX5_isPortSettled_30 : decode cX5_isPortSettled 30 = .ok (.iaload, 1) := by decide +kernel
theorem dX5_isPortSettled_31 : decode cX5_isPortSettled 31 = .ok (.iconst 2, 1) := by decide +kernel
theorem dX5_isPortSettled_32 : decode cX5_isPortSettled 32 = .ok (.if_icmp .eq 27, 3) := by decide +kernel
theorem dX5_isPortSettled_35 : decode cX5_isPortSettled 35 = .ok (.aload_n 0, 1) := by decide +kernel
theorem dX5_isPortSettled_36 : decode cX5_isPortSettled 36 = .ok (.getfield 30, 3) := by decide +kernel
theorem dX5_isPortSettled_39 : decode cX5_isPortSettled 39 = .ok (.iload_n 3, 1) := by decide +kernel
theorem dX5_isPortSettled_40 : decode cX5_isPortSettled 40 = .ok (.iaload, 1) := by decide +kernel
theorem dX5_isPortSettled_41 : decode cX5_isPortSettled 41 = .ok (.iconst 2, 1) := by decide +kernel
theorem dX5_isPortSettled_42 : decode cX5_isPortSettled 42 = .ok (.if_icmp .ne 7, 3) := by decide +kernel
theorem dX5_isPortSettled_45 : decode cX5_isPortSettled 45 = .ok (.iconst 1, 1) := by decide +kernel
theorem dX5_isPortSettled_46 : decode cX5_isPortSettled 46 = .ok (.goto 4, 3) := by decide +kernel
theorem dX5_isPortSettled_49 : decode cX5_isPortSettled 49 = .ok (.iconst 0, 1) := by decide +kernel
theorem dX5_isPortSettled_50 : decode cX5_isPortSettled 50 = .ok (.aload_n 0, 1) := by decide +kernel
theorem dX5_isPortSettled_51 : decode cX5_isPortSettled 51 = .ok (.iload_n 1, 1) := by decide +kernel
theorem dX5_isPortSettled_52 : decode cX5_isPortSettled 52 = .ok (.iload_n 2, 1) := by decide +kernel
theorem dX5_isPortSettled_53 : decode cX5_isPortSettled 53 = .ok (.invokevirtual 114, 3) := by decide +kernel
theorem dX5_isPortSettled_56 : decode cX5_isPortSettled 56 = .ok (.if_icmp .eq 5, 3) := by decide +kernel
theorem dX5_isPortSettled_59 : decode cX5_isPortSettled 59 = .ok (.iconst 0, 1) := by decide +kernel
theorem dX5_isPortSettled_60 : decode cX5_isPortSettled 60 = .ok (.ireturn, 1) := by decide +kernel
theorem dX5_isPortSettled_61 : decode cX5_isPortSettled 61 = .ok (.iinc 2 1, 3) := by decide +kernel
theorem dX5_isPortSettled_64 : decode cX5_isPortSettled 64 = .ok (.goto (-62), 3) := by decide +kernel
theorem dX5_isPortSettled_67 : decode cX5_isPortSettled 67 = .ok (.iconst 1, 1) := by decide +kernel
theorem dX5_isPortSettled_68 : decode cX5_isPortSettled 68 = .ok (.ireturn, 1) := by decide +kernel
set_option maxRecDepth 20000 in
theorem ggX5_isSettled_X5_isConnected : GoodIn wsX5_isSettled wsX5_isConnected := goodIn_r _ [8, 9, 23, 24, 25, 26, 27, 28, 29, 30, 31, 32, 33, 34, 35, 36, 37, 38, 39, 40, 41, 42, 43, 44, 45] (by decide +kernel) (by decide +kernel)
set_option maxRecDepth 20000 in
theorem gX5_isSettled_X5_isConnected : GoodIn wsX5_isSettled (wsV RX5 87 RX5 yX5_isConnected wsX5_isConnected) := goodIn_app (goodIn_of _ (by decide +kernel)) ggX5_isSettled_X5_isConnected
set_option maxRecDepth 20000 in
theorem ggX5_isSettled_X5_isPortSettled : GoodIn wsX5_isSettled wsX5_isPortSettled := goodIn_r _ [13, 14, 15, 16, 17, 7, 18, 19, 20, 21, 22, 4, 5, 6, 8, 9, 23, 24, 25, 26, 27, 28, 29, 30, 31, 32, 33, 34, 35, 36, 37, 38, 39, 40, 41, 42, 43, 44, 45] (by decide +kernel) (by decide +kernel)
set_option maxRecDepth 20000 in
theorem gX5_isSettled_X5_isPortSettled : GoodIn wsX5_isSettled (wsV RX5 156 RX5 yX5_isPortSettled wsX5_isPortSettled) := goodIn_app (goodIn_of _ (by decide +kernel)) ggX5_isSettled_X5_isPortSettled
set_option maxRecDepth 20000 in
theorem ggX5_isSettled_X5_isBusy : GoodIn wsX5_isSettled wsX5_isBusy := goodIn_r _ [18] (by decide +kernel) (by decide +kernel)
set_option maxRecDepth 20000 in
theorem gX5_isSettled_X5_isBusy : GoodIn wsX5_isSettled (va_wsS RX5 153 yX5_isBusy wsX5_isBusy) := goodIn_app (goodIn_of _ (by decide +kernel)) ggX5_isSettled_X5_isBusy
theorem dX5_isSettled_0 : decode cX5_isSettled 0 = .ok (.iconst 0, 1) := by decide +kernel
theorem dX5_isSettled_1 : decode cX5_isSettled 1 = .ok (.istore_n 1, 1) := by decide +kernel
theorem dX5_isSettled_2 : decode cX5_isSettled 2 = .ok (.iload_n 1, 1) := by decide +kernel
theorem dX5_isSettled_3 : decode cX5_isSettled 3 = .ok (.bipush 20, 2) := by decide +kernel
theorem dX5_isSettled_5 : decode cX5_isSettled 5 = .ok (.if_icmp .ge 27, 3) := by decide +kernel
theorem dX5_isSettled_8 : decode cX5_isSettled 8 = .ok (.aload_n 0, 1) := by decide +kernel
theorem dX5_isSettled_9 : decode cX5_isSettled 9 = .ok (.iload_n 1, 1) := by decide +kernel
theorem dX5_isSettled_10 : decode cX5_isSettled 10 = .ok (.invokevirtual 87, 3) := by decide +kernel
theorem dX5_isSettled_13 : decode cX5_isSettled 13 = .ok (.ifCond .eq 13, 3) := by decide +kernel
theorem dX5_isSettled_16 : decode cX5_isSettled 16 = .ok (.aload_n 0, 1) := by decide +kernel
theorem dX5_isSettled_17 : decode cX5_isSettled 17 = .ok (.iload_n 1, 1) := by decide +kernel
theorem dX5_isSettled_18 : decode cX5_isSettled 18 = .ok (.invokevirtual 156, 3) := by decide +kernel
theorem dX5_isSettled_21 : decode cX5_isSettled 21 = .ok (.ifCond .ne 5, 3) := by decide +kernel
theorem dX5_isSettled_24 : decode cX5_isSettled 24 = .ok (.iconst 0, 1) := by decide +kernel
theorem dX5_isSettled_25 : decode cX5_isSettled 25 = .ok (.ireturn, 1) := by decide +kernel
theorem dX5_isSettled_26 : decode cX5_isSettled 26 = .ok (.iinc 1 1, 3) := by decide +kernel
theorem dX5_isSettled_29 : decode cX5_isSettled 29 = .ok (.goto (-27), 3) := by decide +kernel
theorem dX5_isSettled_32 : decode cX5_isSettled 32 = .ok (.iconst 0, 1) := by decide +kernel
theorem dX5_isSettled_33 : decode cX5_isSettled 33 = .ok (.istore_n 1, 1) := by decide +kernel
theorem dX5_isSettled_34 : decode cX5_isSettled 34 = .ok (.iload_n 1, 1) := by decide +kernel
theorem dX5_isSettled_35 : decode cX5_isSettled 35 = .ok (.iconst 4, 1) := by decide +kernel
theorem dX5_isSettled_36 : decode cX5_isSettled 36 = .ok (.aload_n 0, 1) := by decide +kernel
theorem dX5_isSettled_37 : decode cX5_isSettled 37 = .ok (.getfield 73, 3) := by decide +kernel
theorem dX5_isSettled_40 : decode cX5_isSettled 40 = .ok (.imul, 1) := by decide +kernel
theorem dX5_isSettled_41 : decode cX5_isSettled 41 = .ok (.if_icmp .ge 34, 3) := by decide +kernel
theorem dX5_isSettled_44 : decode cX5_isSettled 44 = .ok (.aload_n 0, 1) := by decide +kernel
theorem dX5_isSettled_45 : decode cX5_isSettled 45 = .ok (.getfield 16, 3) := by decide +kernel
theorem dX5_isSettled_48 : decode cX5_isSettled 48 = .ok (.iload_n 1, 1) := by decide +kernel
theorem dX5_isSettled_49 : decode cX5_isSettled 49 = .ok (.iconst 4, 1) := by decide +kernel
theorem dX5_isSettled_50 : decode cX5_isSettled 50 = .ok (.idiv, 1) := by decide +kernel
theorem dX5_isSettled_51 : decode cX5_isSettled 51 = .ok (.baload, 1) := by decide +kernel
theorem dX5_isSettled_52 : decode cX5_isSettled 52 = .ok (.ifCond .ne 17, 3) := by decide +kernel
theorem dX5_isSettled_55 : decode cX5_isSettled 55 = .ok (.aload_n 0, 1) := by decide +kernel
theorem dX5_isSettled_56 : decode cX5_isSettled 56 = .ok (.getfield 42, 3) := by decide +kernel
theorem dX5_isSettled_59 : decode cX5_isSettled 59 = .ok (.iload_n 1, 1) := by decide +kernel
theorem dX5_isSettled_60 : decode cX5_isSettled 60 = .ok (.iaload, 1) := by decide +kernel
theorem dX5_isSettled_61 : decode cX5_isSettled 61 = .ok (.invokestatic 153, 3) := by decide +kernel
theorem dX5_isSettled_64 : decode cX5_isSettled 64 = .ok (.ifCond .eq 5, 3) := by decide +kernel
theorem dX5_isSettled_67 : decode cX5_isSettled 67 = .ok (.iconst 0, 1) := by decide +kernel
theorem dX5_isSettled_68 : decode cX5_isSettled 68 = .ok (.ireturn, 1) := by decide +kernel
theorem dX5_isSettled_69 : decode cX5_isSettled 69 = .ok (.iinc 1 1, 3) := by decide +kernel
theorem dX5_isSettled_72 : decode cX5_isSettled 72 = .ok (.goto (-38), 3) := by decide +kernel
theorem dX5_isSettled_75 : decode cX5_isSettled 75 = .ok (.iconst 1, 1) := by decide +kernel
theorem dX5_isSettled_76 : decode cX5_isSettled 76 = .ok (.ireturn, 1) := by decide +kernel
set_option maxRecDepth 20000 in
theorem ggX5_reached_X5_isConnected : GoodIn wsX5_reached wsX5_isConnected := goodIn_r _ [9, 4, 17, 18, 19, 20, 21, 22, 23, 24, 25, 26, 27, 28, 29, 30, 31, 32, 33, 34, 35, 36, 37, 38, 39] (by decide +kernel) (by decide +kernel)
set_option maxRecDepth 20000 in
theorem gX5_reached_X5_isConnected : GoodIn wsX5_reached (wsV RX5 87 RX5 yX5_isConnected wsX5_isConnected) := goodIn_app (goodIn_of _ (by decide +kernel)) ggX5_reached_X5_isConnected
set_option maxRecDepth 20000 in
theorem ggX5_reached_X5_isLinked : GoodIn wsX5_reached wsX5_isLinked := goodIn_r _ [13, 4, 14, 15, 8, 16, 17, 18, 19, 20, 21, 22, 23, 24, 25, 26, 27, 28, 29, 30, 31, 32, 33, 34, 35, 36, 37, 38, 39] (by decide +kernel) (by decide +kernel)
set_option maxRecDepth 20000 in
theorem gX5_reached_X5_isLinked : GoodIn wsX5_reached (wsV RX5 76 RX5 yX5_isLinked wsX5_isLinked) := goodIn_app (goodIn_of _ (by decide +kernel)) ggX5_reached_X5_isLinked
theorem dX5_reached_0 : decode cX5_reached 0 = .ok (.iconst 0, 1) := by decide +kernel
theorem dX5_reached_1 : decode cX5_reached 1 = .ok (.istore_n 3, 1) := by decide +kernel
theorem dX5_reached_2 : decode cX5_reached 2 = .ok (.iconst 1, 1) := by decide +kernel
theorem dX5_reached_3 : decode cX5_reached 3 = .ok (.istore 4, 2) := by decide +kernel
theorem dX5_reached_5 : decode cX5_reached 5 = .ok (.aload_n 0, 1) := by decide +kernel
theorem dX5_reached_6 : decode cX5_reached 6 = .ok (.getfield 60, 3) := by decide +kernel
theorem dX5_reached_9 : decode cX5_reached 9 = .ok (.iconst 0, 1) := by decide +kernel
theorem dX5_reached_10 : decode cX5_reached 10 = .ok (.aload_n 0, 1) := by decide +kernel
theorem dX5_reached_11 : decode cX5_reached 11 = .ok (.getfield 13, 3) := by decide +kernel
theorem dX5_reached_14 : decode cX5_reached 14 = .ok (.iload_n 1, 1) := by decide +kernel
theorem dX5_reached_15 : decode cX5_reached 15 = .ok (.iaload, 1) := by decide +kernel
theorem dX5_reached_16 : decode cX5_reached 16 = .ok (.iastore, 1) := by decide +kernel
theorem dX5_reached_17 : decode cX5_reached 17 = .ok (.iconst 0, 1) := by decide +kernel
theorem dX5_reached_18 : decode cX5_reached 18 = .ok (.istore 5, 2) := by decide +kernel
theorem dX5_reached_20 : decode cX5_reached 20 = .ok (.iload 5, 2) := by decide +kernel
theorem dX5_reached_22 : decode cX5_reached 22 = .ok (.iload 4, 2) := by decide +kernel
theorem dX5_reached_24 : decode cX5_reached 24 = .ok (.if_icmp .ge 125, 3) := by decide +kernel
theorem dX5_reached_27 : decode cX5_reached 27 = .ok (.aload_n 0, 1) := by decide +kernel
theorem dX5_reached_28 : decode cX5_reached 28 = .ok (.getfield 60, 3) := by decide +kernel
theorem dX5_reached_31 : decode cX5_reached 31 = .ok (.iload 5, 2) := by decide +kernel
theorem dX5_reached_33 : decode cX5_reached 33 = .ok (.iaload, 1) := by decide +kernel
theorem dX5_reached_34 : decode cX5_reached 34 = .ok (.iconst 4, 1) := by decide +kernel
theorem dX5_reached_35 : decode cX5_reached 35 = .ok (.idiv, 1) := by decide +kernel
theorem dX5_reached_36 : decode cX5_reached 36 = .ok (.istore 6, 2) := by decide +kernel
theorem dX5_reached_38 : decode cX5_reached 38 = .ok (.iconst 4, 1) := by decide +kernel
theorem dX5_reached_39 : decode cX5_reached 39 = .ok (.iload 6, 2) := by decide +kernel
theorem dX5_reached_41 : decode cX5_reached 41 = .ok (.imul, 1) := by decide +kernel
theorem dX5_reached_42 : decode cX5_reached 42 = .ok (.istore 7, 2) := by decide +kernel
theorem dX5_reached_44 : decode cX5_reached 44 = .ok (.iload 7, 2) := by decide +kernel
theorem dX5_reached_46 : decode cX5_reached 46 = .ok (.iconst 4, 1) := by decide +kernel
theorem dX5_reached_47 : decode cX5_reached 47 = .ok (.iload 6, 2) := by decide +kernel
theorem dX5_reached_49 : decode cX5_reached 49 = .ok (.imul, 1) := by decide +kernel
theorem dX5_reached_50 : decode cX5_reached 50 = .ok (.iconst 4, 1) := by decide +kernel
theorem dX5_reached_51 : decode cX5_reached 51 = .ok (.iadd, 1) := by decide +kernel
theorem dX5_reached_52 : decode cX5_reached 52 = .ok (.if_icmp .ge 91, 3) := by decide +kernel
theorem dX5_reached_55 : decode cX5_reached 55 = .ok (.iload 7, 2) := by decide +kernel
theorem dX5_reached_57 : decode cX5_reached 57 = .ok (.aload_n 0, 1) := by decide +kernel
theorem dX5_reached_58 : decode cX5_reached 58 = .ok (.getfield 60, 3) := by decide +kernel
theorem dX5_reached_61 : decode cX5_reached 61 = .ok (.iload 5, 2) := by decide +kernel
theorem dX5_reached_63 : decode cX5_reached 63 = .ok (.iaload, 1) := by decide +kernel
theorem dX5_reached_64 : decode cX5_reached 64 = .ok (.if_icmp .eq 73, 3) := by decide +kernel
theorem dX5_reached_67 : decode cX5_reached 67 = .ok (.aload_n 0, 1) := by decide +kernel
theorem dX5_reached_68 : decode cX5_reached 68 = .ok (.iload 7, 2) := by decide +kernel
theorem dX5_reached_70 : decode cX5_reached 70 = .ok (.invokevirtual 87, 3) := by decide +kernel
theorem dX5_reached_73 : decode cX5_reached 73 = .ok (.ifCond .eq 64, 3) := by decide +kernel
theorem dX5_reached_76 : decode cX5_reached 76 = .ok (.aload_n 0, 1) := by decide +kernel
theorem dX5_reached_77 : decode cX5_reached 77 = .ok (.getfield 24, 3) := by decide +kernel
theorem dX5_reached_80 : decode cX5_reached 80 = .ok (.iconst 4, 1) := by decide +kernel
theorem dX5_reached_81 : decode cX5_reached 81 = .ok (.iload 7, 2) := by decide +kernel
theorem dX5_reached_83 : decode cX5_reached 83 = .ok (.imul, 1) := by decide +kernel
theorem dX5_reached_84 : decode cX5_reached 84 = .ok (.iload_n 2, 1) := by decide +kernel
theorem dX5_reached_85 : decode cX5_reached 85 = .ok (.iadd, 1) := by decide +kernel
theorem dX5_reached_86 : decode cX5_reached 86 = .ok (.iaload, 1) := by decide +kernel
theorem dX5_reached_87 : decode cX5_reached 87 = .ok (.ifCond .ne 6, 3) := by decide +kernel
theorem dX5_reached_90 : decode cX5_reached 90 = .ok (.goto 47, 3) := by decide +kernel
theorem dX5_reached_93 : decode cX5_reached 93 = .ok (.aload_n 0, 1) := by decide +kernel
theorem dX5_reached_94 : decode cX5_reached 94 = .ok (.iload 7, 2) := by decide +kernel
theorem dX5_reached_96 : decode cX5_reached 96 = .ok (.invokevirtual 76, 3) := by decide +kernel
theorem dX5_reached_99 : decode cX5_reached 99 = .ok (.ifCond .eq 23, 3) := by decide +kernel
theorem dX5_reached_102 : decode cX5_reached 102 = .ok (.aload_n 0, 1) := by decide +kernel
theorem dX5_reached_103 : decode cX5_reached 103 = .ok (.getfield 60, 3) := by decide +kernel
theorem dX5_reached_106 : decode cX5_reached 106 = .ok (.iload 4, 2) := by decide +kernel
theorem dX5_reached_108 : decode cX5_reached 108 = .ok (.aload_n 0, 1) := by decide +kernel
theorem dX5_reached_109 : decode cX5_reached 109 = .ok (.getfield 7, 3) := by decide +kernel
theorem dX5_reached_112 : decode cX5_reached 112 = .ok (.iload 7, 2) := by decide +kernel
theorem dX5_reached_114 : decode cX5_reached 114 = .ok (.iaload, 1) := by decide +kernel
theorem dX5_reached_115 : decode cX5_reached 115 = .ok (.iastore, 1) := by decide +kernel
theorem dX5_reached_116 : decode cX5_reached 116 = .ok (.iinc 4 1, 3) := by decide +kernel
theorem dX5_reached_119 : decode cX5_reached 119 = .ok (.goto 18, 3) := by decide +kernel
theorem dX5_reached_122 : decode cX5_reached 122 = .ok (.iload_n 3, 1) := by decide +kernel
theorem dX5_reached_123 : decode cX5_reached 123 = .ok (.iconst 1, 1) := by decide +kernel
theorem dX5_reached_124 : decode cX5_reached 124 = .ok (.aload_n 0, 1) := by decide +kernel
theorem dX5_reached_125 : decode cX5_reached 125 = .ok (.getfield 7, 3) := by decide +kernel
theorem dX5_reached_128 : decode cX5_reached 128 = .ok (.iload 7, 2) := by decide +kernel
theorem dX5_reached_130 : decode cX5_reached 130 = .ok (.iaload, 1) := by decide +kernel
theorem dX5_reached_131 : decode cX5_reached 131 = .ok (.bipush 100, 2) := by decide +kernel
theorem dX5_reached_133 : decode cX5_reached 133 = .ok (.isub, 1) := by decide +kernel
theorem dX5_reached_134 : decode cX5_reached 134 = .ok (.ishl, 1) := by decide +kernel
theorem dX5_reached_135 : decode cX5_reached 135 = .ok (.ior, 1) := by decide +kernel
theorem dX5_reached_136 : decode cX5_reached 136 = .ok (.istore_n 3, 1) := by decide +kernel
theorem dX5_reached_137 : decode cX5_reached 137 = .ok (.iinc 7 1, 3) := by decide +kernel
theorem dX5_reached_140 : decode cX5_reached 140 = .ok (.goto (-96), 3) := by decide +kernel
theorem dX5_reached_143 : decode cX5_reached 143 = .ok (.iinc 5 1, 3) := by decide +kernel
theorem dX5_reached_146 : decode cX5_reached 146 = .ok (.goto (-126), 3) := by decide +kernel
theorem dX5_reached_149 : decode cX5_reached 149 = .ok (.iload_n 3, 1) := by decide +kernel
theorem dX5_reached_150 : decode cX5_reached 150 = .ok (.ireturn, 1) := by decide +kernel
set_option maxRecDepth 20000 in
theorem ggX5_receivers_X5_refusedHost : GoodIn wsX5_receivers wsX5_refusedHost := goodIn_r _ [5, 6, 7, 8, 4, 9, 10, 11, 12, 13, 14, 15, 16, 33, 34, 35, 36, 37, 38, 39, 40, 41, 42, 43, 44, 45, 46, 47, 48, 49, 50, 51, 52, 53, 54, 55] (by decide +kernel) (by decide +kernel)
set_option maxRecDepth 20000 in
theorem gX5_receivers_X5_refusedHost : GoodIn wsX5_receivers (wsV RX5 107 RX5 yX5_refusedHost wsX5_refusedHost) := goodIn_app (goodIn_of _ (by decide +kernel)) ggX5_receivers_X5_refusedHost
set_option maxRecDepth 20000 in
theorem ggX5_receivers_X5_reached : GoodIn wsX5_receivers wsX5_reached := goodIn_r _ [20, 21, 22, 23, 24, 25, 26, 27, 4, 28, 29, 30, 31, 32, 11, 12, 13, 33, 34, 35, 36, 37, 38, 39, 40, 41, 42, 43, 44, 45, 46, 47, 48, 49, 50, 51, 52, 53, 54, 55] (by decide +kernel) (by decide +kernel)
set_option maxRecDepth 20000 in
theorem gX5_receivers_X5_reached : GoodIn wsX5_receivers (wsV RX5 159 RX5 yX5_reached wsX5_reached) := goodIn_app (goodIn_of _ (by decide +kernel)) ggX5_receivers_X5_reached
theorem dX5_receivers_0 : decode cX5_receivers 0 = .ok (.aload_n 0, 1) := by decide +kernel
theorem dX5_receivers_1 : decode cX5_receivers 1 = .ok (.iload_n 1, 1) := by decide +kernel
theorem dX5_receivers_2 : decode cX5_receivers 2 = .ok (.iload_n 2, 1) := by decide +kernel
theorem dX5_receivers_3 : decode cX5_receivers 3 = .ok (.invokevirtual 107, 3) := by decide +kernel
theorem dX5_receivers_6 : decode cX5_receivers 6 = .ok (.istore_n 3, 1) := by decide +kernel
theorem dX5_receivers_7 : decode cX5_receivers 7 = .ok (.iload_n 3, 1) := by decide +kernel
theorem dX5_receivers_8 : decode cX5_receivers 8 = .ok (.ifCond .eq 7, 3) := by decide +kernel
theorem dX5_receivers_11 : decode cX5_receivers 11 = .ok (.iload_n 3, 1) := by decide +kernel
theorem dX5_receivers_12 : decode cX5_receivers 12 = .ok (.goto 9, 3) := by decide +kernel
theorem dX5_receivers_15 : decode cX5_receivers 15 = .ok (.aload_n 0, 1) := by decide +kernel
theorem dX5_receivers_16 : decode cX5_receivers 16 = .ok (.iload_n 1, 1) := by decide +kernel
theorem dX5_receivers_17 : decode cX5_receivers 17 = .ok (.iload_n 2, 1) := by decide +kernel
theorem dX5_receivers_18 : decode cX5_receivers 18 = .ok (.invokevirtual 159, 3) := by decide +kernel
theorem dX5_receivers_21 : decode cX5_receivers 21 = .ok (.ireturn, 1) := by decide +kernel
set_option maxRecDepth 20000 in
theorem ggX5_missedCount_X5_refusedHost : GoodIn wsX5_missedCount wsX5_refusedHost := goodIn_r _ [8, 9, 10, 11, 7, 12, 2, 13, 14, 15, 16, 17, 18, 41, 42, 43, 44, 45, 46, 47, 48, 49, 50, 51, 52, 53, 54, 55, 56, 57, 58, 59, 60, 61, 62, 63] (by decide +kernel) (by decide +kernel)
set_option maxRecDepth 20000 in
theorem gX5_missedCount_X5_refusedHost : GoodIn wsX5_missedCount (wsV RX5 107 RX5 yX5_refusedHost wsX5_refusedHost) := goodIn_app (goodIn_of _ (by decide +kernel)) ggX5_missedCount_X5_refusedHost
set_option maxRecDepth 20000 in
theorem ggX5_missedCount_X5_reached : GoodIn wsX5_missedCount wsX5_reached := goodIn_r _ [22, 23, 1, 24, 25, 26, 27, 28, 7, 29, 30, 31, 32, 33, 13, 14, 15, 41, 42, 43, 44, 45, 46, 47, 48, 49, 50, 51, 52, 53, 54, 55, 56, 57, 58, 59, 60, 61, 62, 63] (by decide +kernel) (by decide +kernel)
set_option maxRecDepth 20000 in
theorem gX5_missedCount_X5_reached : GoodIn wsX5_missedCount (wsV RX5 159 RX5 yX5_reached wsX5_reached) := goodIn_app (goodIn_of _ (by decide +kernel)) ggX5_missedCount_X5_reached
set_option maxRecDepth 20000 in
theorem ggX5_missedCount_X5_partOf : GoodIn wsX5_missedCount wsX5_partOf := goodIn_r _ [37, 25, 30, 31, 32, 7, 33, 13, 14, 15, 41, 42, 43, 44, 45, 46, 47, 48, 49, 50, 51, 52, 53, 54, 55, 56, 57, 58, 59, 60, 61, 62, 63] (by decide +kernel) (by decide +kernel)
set_option maxRecDepth 20000 in
theorem gX5_missedCount_X5_partOf : GoodIn wsX5_missedCount (wsV RX5 90 RX5 yX5_partOf wsX5_partOf) := goodIn_app (goodIn_of _ (by decide +kernel)) ggX5_missedCount_X5_partOf
set_option maxRecDepth 20000 in
theorem ggX5_missedCount_X5_declares : GoodIn wsX5_missedCount wsX5_declares := goodIn_r _ [40] (by decide +kernel) (by decide +kernel)
set_option maxRecDepth 20000 in
theorem gX5_missedCount_X5_declares : GoodIn wsX5_missedCount (va_wsS RX5 111 yX5_declares wsX5_declares) := goodIn_app (goodIn_of _ (by decide +kernel)) ggX5_missedCount_X5_declares
theorem dX5_missedCount_0 : decode cX5_missedCount 0 = .ok (.aload_n 0, 1) := by decide +kernel
theorem dX5_missedCount_1 : decode cX5_missedCount 1 = .ok (.iload_n 1, 1) := by decide +kernel
theorem dX5_missedCount_2 : decode cX5_missedCount 2 = .ok (.iload_n 2, 1) := by decide +kernel
theorem dX5_missedCount_3 : decode cX5_missedCount 3 = .ok (.invokevirtual 107, 3) := by decide +kernel
theorem dX5_missedCount_6 : decode cX5_missedCount 6 = .ok (.istore_n 3, 1) := by decide +kernel
theorem dX5_missedCount_7 : decode cX5_missedCount 7 = .ok (.iload_n 3, 1) := by decide +kernel
theorem dX5_missedCount_8 : decode cX5_missedCount 8 = .ok (.ifCond .eq 5, 3) := by decide +kernel
theorem dX5_missedCount_11 : decode cX5_missedCount 11 = .ok (.iload_n 3, 1) := by decide +kernel
theorem dX5_missedCount_12 : decode cX5_missedCount 12 = .ok (.ireturn, 1) := by decide +kernel
theorem dX5_missedCount_13 : decode cX5_missedCount 13 = .ok (.aload_n 0, 1) := by decide +kernel
theorem dX5_missedCount_14 : decode cX5_missedCount 14 = .ok (.iload_n 1, 1) := by decide +kernel
theorem dX5_missedCount_15 : decode cX5_missedCount 15 = .ok (.iload_n 2, 1) := by decide +kernel
theorem dX5_missedCount_16 : decode cX5_missedCount 16 = .ok (.invokevirtual 159, 3) := by decide +kernel
theorem dX5_missedCount_19 : decode cX5_missedCount 19 = .ok (.istore 4, 2) := by decide +kernel
theorem dX5_missedCount_21 : decode cX5_missedCount 21 = .ok (.aload_n 0, 1) := by decide +kernel
theorem dX5_missedCount_22 : decode cX5_missedCount 22 = .ok (.aload_n 0, 1) := by decide +kernel
theorem dX5_missedCount_23 : decode cX5_missedCount 23 = .ok (.getfield 13, 3) := by decide +kernel
theorem dX5_missedCount_26 : decode cX5_missedCount 26 = .ok (.iload_n 1, 1) := by decide +kernel
theorem dX5_missedCount_27 : decode cX5_missedCount 27 = .ok (.iaload, 1) := by decide +kernel
theorem dX5_missedCount_28 : decode cX5_missedCount 28 = .ok (.iconst 4, 1) := by decide +kernel
theorem dX5_missedCount_29 : decode cX5_missedCount 29 = .ok (.idiv, 1) := by decide +kernel
theorem dX5_missedCount_30 : decode cX5_missedCount 30 = .ok (.invokevirtual 90, 3) := by decide +kernel
theorem dX5_missedCount_33 : decode cX5_missedCount 33 = .ok (.istore 5, 2) := by decide +kernel
theorem dX5_missedCount_35 : decode cX5_missedCount 35 = .ok (.iconst 0, 1) := by decide +kernel
theorem dX5_missedCount_36 : decode cX5_missedCount 36 = .ok (.istore 6, 2) := by decide +kernel
theorem dX5_missedCount_38 : decode cX5_missedCount 38 = .ok (.iconst 0, 1) := by decide +kernel
theorem dX5_missedCount_39 : decode cX5_missedCount 39 = .ok (.istore 7, 2) := by decide +kernel
theorem dX5_missedCount_41 : decode cX5_missedCount 41 = .ok (.iload 7, 2) := by decide +kernel
theorem dX5_missedCount_43 : decode cX5_missedCount 43 = .ok (.aload_n 0, 1) := by decide +kernel
theorem dX5_missedCount_44 : decode cX5_missedCount 44 = .ok (.getfield 73, 3) := by decide +kernel
theorem dX5_missedCount_47 : decode cX5_missedCount 47 = .ok (.if_icmp .ge 82, 3) := by decide +kernel
theorem dX5_missedCount_50 : decode cX5_missedCount 50 = .ok (.iload 7, 2) := by decide +kernel
theorem dX5_missedCount_52 : decode cX5_missedCount 52 = .ok (.iload_n 1, 1) := by decide +kernel
theorem dX5_missedCount_53 : decode cX5_missedCount 53 = .ok (.if_icmp .eq 42, 3) := by decide +kernel
theorem dX5_missedCount_56 : decode cX5_missedCount 56 = .ok (.iload 5, 2) := by decide +kernel
theorem dX5_missedCount_58 : decode cX5_missedCount 58 = .ok (.aload_n 0, 1) := by decide +kernel
theorem dX5_missedCount_59 : decode cX5_missedCount 59 = .ok (.getfield 13, 3) := by decide +kernel
theorem dX5_missedCount_62 : decode cX5_missedCount 62 = .ok (.iload 7, 2) := by decide +kernel
theorem dX5_missedCount_64 : decode cX5_missedCount 64 = .ok (.iaload, 1) := by decide +kernel
theorem dX5_missedCount_65 : decode cX5_missedCount 65 = .ok (.iconst 4, 1) := by decide +kernel
theorem dX5_missedCount_66 : decode cX5_missedCount 66 = .ok (.idiv, 1) := by decide +kernel
theorem dX5_missedCount_67 : decode cX5_missedCount 67 = .ok (.ishr, 1) := by decide +kernel
theorem dX5_missedCount_68 : decode cX5_missedCount 68 = .ok (.iconst 1, 1) := by decide +kernel
theorem dX5_missedCount_69 : decode cX5_missedCount 69 = .ok (.iand, 1) := by decide +kernel
theorem dX5_missedCount_70 : decode cX5_missedCount 70 = .ok (.iconst 1, 1) := by decide +kernel
theorem dX5_missedCount_71 : decode cX5_missedCount 71 = .ok (.if_icmp .ne 24, 3) := by decide +kernel
theorem dX5_missedCount_74 : decode cX5_missedCount 74 = .ok (.aload_n 0, 1) := by decide +kernel
theorem dX5_missedCount_75 : decode cX5_missedCount 75 = .ok (.getfield 42, 3) := by decide +kernel
theorem dX5_missedCount_78 : decode cX5_missedCount 78 = .ok (.iconst 4, 1) := by decide +kernel
theorem dX5_missedCount_79 : decode cX5_missedCount 79 = .ok (.iload 7, 2) := by decide +kernel
theorem dX5_missedCount_81 : decode cX5_missedCount 81 = .ok (.imul, 1) := by decide +kernel
theorem dX5_missedCount_82 : decode cX5_missedCount 82 = .ok (.iload_n 2, 1) := by decide +kernel
theorem dX5_missedCount_83 : decode cX5_missedCount 83 = .ok (.iadd, 1) := by decide +kernel
theorem dX5_missedCount_84 : decode cX5_missedCount 84 = .ok (.iaload, 1) := by decide +kernel
theorem dX5_missedCount_85 : decode cX5_missedCount 85 = .ok (.invokestatic 111, 3) := by decide +kernel
theorem dX5_missedCount_88 : decode cX5_missedCount 88 = .ok (.ifCond .eq 7, 3) := by decide +kernel
theorem dX5_missedCount_91 : decode cX5_missedCount 91 = .ok (.iconst 1, 1) := by decide +kernel
theorem dX5_missedCount_92 : decode cX5_missedCount 92 = .ok (.goto 4, 3) := by decide +kernel
theorem dX5_missedCount_95 : decode cX5_missedCount 95 = .ok (.iconst 0, 1) := by decide +kernel
theorem dX5_missedCount_96 : decode cX5_missedCount 96 = .ok (.istore 8, 2) := by decide +kernel
theorem dX5_missedCount_98 : decode cX5_missedCount 98 = .ok (.iload 6, 2) := by decide +kernel
theorem dX5_missedCount_100 : decode cX5_missedCount 100 = .ok (.iload 8, 2) := by decide +kernel
theorem dX5_missedCount_102 : decode cX5_missedCount 102 = .ok (.ifCond .eq 17, 3) := by decide +kernel
theorem dX5_missedCount_105 : decode cX5_missedCount 105 = .ok (.iload 4, 2) := by decide +kernel
theorem dX5_missedCount_107 : decode cX5_missedCount 107 = .ok (.iload 7, 2) := by decide +kernel
theorem dX5_missedCount_109 : decode cX5_missedCount 109 = .ok (.ishr, 1) := by decide +kernel
theorem dX5_missedCount_110 : decode cX5_missedCount 110 = .ok (.iconst 1, 1) := by decide +kernel
theorem dX5_missedCount_111 : decode cX5_missedCount 111 = .ok (.iand, 1) := by decide +kernel
theorem dX5_missedCount_112 : decode cX5_missedCount 112 = .ok (.ifCond .ne 7, 3) := by decide +kernel
theorem dX5_missedCount_115 : decode cX5_missedCount 115 = .ok (.iconst 1, 1) := by decide +kernel
theorem dX5_missedCount_116 : decode cX5_missedCount 116 = .ok (.goto 4, 3) := by decide +kernel
theorem dX5_missedCount_119 : decode cX5_missedCount 119 = .ok (.iconst 0, 1) := by decide +kernel
theorem dX5_missedCount_120 : decode cX5_missedCount 120 = .ok (.iadd, 1) := by decide +kernel
theorem dX5_missedCount_121 : decode cX5_missedCount 121 = .ok (.istore 6, 2) := by decide +kernel
theorem dX5_missedCount_123 : decode cX5_missedCount 123 = .ok (.iinc 7 1, 3) := by decide +kernel
theorem dX5_missedCount_126 : decode cX5_missedCount 126 = .ok (.goto (-85), 3) := by decide +kernel
theorem dX5_missedCount_129 : decode cX5_missedCount 129 = .ok (.iload 6, 2) := by decide +kernel
theorem dX5_missedCount_131 : decode cX5_missedCount 131 = .ok (.ireturn, 1) := by decide +kernel
set_option maxRecDepth 20000 in
theorem ggX5_needlessCount_X5_refusedHost : GoodIn wsX5_needlessCount wsX5_refusedHost := goodIn_r _ [7, 8, 9, 10, 6, 11, 1, 12, 13, 14, 15, 16, 17, 37, 38, 39, 40, 41, 42, 43, 44, 45, 46, 47, 48, 49, 50, 51, 52, 53, 54, 55, 56, 57, 58, 59] (by decide +kernel) (by decide +kernel)
set_option maxRecDepth 20000 in
theorem gX5_needlessCount_X5_refusedHost : GoodIn wsX5_needlessCount (wsV RX5 107 RX5 yX5_refusedHost wsX5_refusedHost) := goodIn_app (goodIn_of _ (by decide +kernel)) ggX5_needlessCount_X5_refusedHost
set_option maxRecDepth 20000 in
theorem ggX5_needlessCount_X5_reached : GoodIn wsX5_needlessCount wsX5_reached := goodIn_r _ [21, 22, 23, 24, 25, 26, 27, 28, 6, 29, 30, 31, 32, 33, 12, 13, 14, 37, 38, 39, 40, 41, 42, 43, 44, 45, 46, 47, 48, 49, 50, 51, 52, 53, 54, 55, 56, 57, 58, 59] (by decide +kernel) (by decide +kernel)
set_option maxRecDepth 20000 in
theorem gX5_needlessCount_X5_reached : GoodIn wsX5_needlessCount (wsV RX5 159 RX5 yX5_reached wsX5_reached) := goodIn_app (goodIn_of _ (by decide +kernel)) ggX5_needlessCount_X5_reached
set_option maxRecDepth 20000 in
theorem ggX5_needlessCount_X5_declares : GoodIn wsX5_needlessCount wsX5_declares := goodIn_r _ [36] (by decide +kernel) (by decide +kernel)
set_option maxRecDepth 20000 in
theorem gX5_needlessCount_X5_declares : GoodIn wsX5_needlessCount (va_wsS RX5 111 yX5_declares wsX5_declares) := goodIn_app (goodIn_of _ (by decide +kernel)) ggX5_needlessCount_X5_declares
theorem dX5_needlessCount_0 : decode cX5_needlessCount 0 = .ok (.aload_n 0, 1) := by decide +kernel
theorem dX5_needlessCount_1 : decode cX5_needlessCount 1 = .ok (.iload_n 1, 1) := by decide +kernel
theorem dX5_needlessCount_2 : decode cX5_needlessCount 2 = .ok (.iload_n 2, 1) := by decide +kernel
theorem dX5_needlessCount_3 : decode cX5_needlessCount 3 = .ok (.invokevirtual 107, 3) := by decide +kernel
theorem dX5_needlessCount_6 : decode cX5_needlessCount 6 = .ok (.istore_n 3, 1) := by decide +kernel
theorem dX5_needlessCount_7 : decode cX5_needlessCount 7 = .ok (.iload_n 3, 1) := by decide +kernel
theorem dX5_needlessCount_8 : decode cX5_needlessCount 8 = .ok (.ifCond .eq 5, 3) := by decide +kernel
theorem dX5_needlessCount_11 : decode cX5_needlessCount 11 = .ok (.iload_n 3, 1) := by decide +kernel
theorem dX5_needlessCount_12 : decode cX5_needlessCount 12 = .ok (.ireturn, 1) := by decide +kernel
theorem dX5_needlessCount_13 : decode cX5_needlessCount 13 = .ok (.aload_n 0, 1) := by decide +kernel
theorem dX5_needlessCount_14 : decode cX5_needlessCount 14 = .ok (.iload_n 1, 1) := by decide +kernel
theorem dX5_needlessCount_15 : decode cX5_needlessCount 15 = .ok (.iload_n 2, 1) := by decide +kernel
theorem dX5_needlessCount_16 : decode cX5_needlessCount 16 = .ok (.invokevirtual 159, 3) := by decide +kernel
theorem dX5_needlessCount_19 : decode cX5_needlessCount 19 = .ok (.istore 4, 2) := by decide +kernel
theorem dX5_needlessCount_21 : decode cX5_needlessCount 21 = .ok (.iconst 0, 1) := by decide +kernel
theorem dX5_needlessCount_22 : decode cX5_needlessCount 22 = .ok (.istore 5, 2) := by decide +kernel
theorem dX5_needlessCount_24 : decode cX5_needlessCount 24 = .ok (.iconst 0, 1) := by decide +kernel
theorem dX5_needlessCount_25 : decode cX5_needlessCount 25 = .ok (.istore 6, 2) := by decide +kernel
theorem dX5_needlessCount_27 : decode cX5_needlessCount 27 = .ok (.iload 6, 2) := by decide +kernel
theorem dX5_needlessCount_29 : decode cX5_needlessCount 29 = .ok (.aload_n 0, 1) := by decide +kernel
theorem dX5_needlessCount_30 : decode cX5_needlessCount 30 = .ok (.getfield 73, 3) := by decide +kernel
theorem dX5_needlessCount_33 : decode cX5_needlessCount 33 = .ok (.if_icmp .ge 47, 3) := by decide +kernel
theorem dX5_needlessCount_36 : decode cX5_needlessCount 36 = .ok (.iload 5, 2) := by decide +kernel
theorem dX5_needlessCount_38 : decode cX5_needlessCount 38 = .ok (.iload 4, 2) := by decide +kernel
theorem dX5_needlessCount_40 : decode cX5_needlessCount 40 = .ok (.iload 6, 2) := by decide +kernel
theorem dX5_needlessCount_42 : decode cX5_needlessCount 42 = .ok (.ishr, 1) := by decide +kernel
theorem dX5_needlessCount_43 : decode cX5_needlessCount 43 = .ok (.iconst 1, 1) := by decide +kernel
theorem dX5_needlessCount_44 : decode cX5_needlessCount 44 = .ok (.iand, 1) := by decide +kernel
theorem dX5_needlessCount_45 : decode cX5_needlessCount 45 = .ok (.iconst 1, 1) := by decide +kernel
theorem dX5_needlessCount_46 : decode cX5_needlessCount 46 = .ok (.if_icmp .ne 24, 3) := by decide +kernel
theorem dX5_needlessCount_49 : decode cX5_needlessCount 49 = .ok (.aload_n 0, 1) := by decide +kernel
theorem dX5_needlessCount_50 : decode cX5_needlessCount 50 = .ok (.getfield 42, 3) := by decide +kernel
theorem dX5_needlessCount_53 : decode cX5_needlessCount 53 = .ok (.iconst 4, 1) := by decide +kernel
theorem dX5_needlessCount_54 : decode cX5_needlessCount 54 = .ok (.iload 6, 2) := by decide +kernel
theorem dX5_needlessCount_56 : decode cX5_needlessCount 56 = .ok (.imul, 1) := by decide +kernel
theorem dX5_needlessCount_57 : decode cX5_needlessCount 57 = .ok (.iload_n 2, 1) := by decide +kernel
theorem dX5_needlessCount_58 : decode cX5_needlessCount 58 = .ok (.iadd, 1) := by decide +kernel
theorem dX5_needlessCount_59 : decode cX5_needlessCount 59 = .ok (.iaload, 1) := by decide +kernel
theorem dX5_needlessCount_60 : decode cX5_needlessCount 60 = .ok (.invokestatic 111, 3) := by decide +kernel
theorem dX5_needlessCount_63 : decode cX5_needlessCount 63 = .ok (.ifCond .ne 7, 3) := by decide +kernel
theorem dX5_needlessCount_66 : decode cX5_needlessCount 66 = .ok (.iconst 1, 1) := by decide +kernel
theorem dX5_needlessCount_67 : decode cX5_needlessCount 67 = .ok (.goto 4, 3) := by decide +kernel
theorem dX5_needlessCount_70 : decode cX5_needlessCount 70 = .ok (.iconst 0, 1) := by decide +kernel
theorem dX5_needlessCount_71 : decode cX5_needlessCount 71 = .ok (.iadd, 1) := by decide +kernel
theorem dX5_needlessCount_72 : decode cX5_needlessCount 72 = .ok (.istore 5, 2) := by decide +kernel
theorem dX5_needlessCount_74 : decode cX5_needlessCount 74 = .ok (.iinc 6 1, 3) := by decide +kernel
theorem dX5_needlessCount_77 : decode cX5_needlessCount 77 = .ok (.goto (-50), 3) := by decide +kernel
theorem dX5_needlessCount_80 : decode cX5_needlessCount 80 = .ok (.iload 5, 2) := by decide +kernel
theorem dX5_needlessCount_82 : decode cX5_needlessCount 82 = .ok (.ireturn, 1) := by decide +kernel
set_option maxRecDepth 20000 in
theorem ggX5_distance_X5_isHost : GoodIn wsX5_distance wsX5_isHost := goodIn_r _ [8, 9, 10, 11, 7, 12, 17, 18, 19, 20, 21, 22, 23, 24, 25, 26, 27, 28, 29, 30, 31, 32, 33, 34, 35, 36, 37, 38, 39] (by decide +kernel) (by decide +kernel)
set_option maxRecDepth 20000 in
theorem gX5_distance_X5_isHost : GoodIn wsX5_distance (wsV RX5 101 RX5 yX5_isHost wsX5_isHost) := goodIn_app (goodIn_of _ (by decide +kernel)) ggX5_distance_X5_isHost
set_option maxRecDepth 20000 in
theorem ggX5_distance_X5_isLinked : GoodIn wsX5_distance wsX5_isLinked := goodIn_r _ [16, 3, 10, 11, 7, 12, 17, 18, 19, 20, 21, 22, 23, 24, 25, 26, 27, 28, 29, 30, 31, 32, 33, 34, 35, 36, 37, 38, 39] (by decide +kernel) (by decide +kernel)
set_option maxRecDepth 20000 in
theorem gX5_distance_X5_isLinked : GoodIn wsX5_distance (wsV RX5 76 RX5 yX5_isLinked wsX5_isLinked) := goodIn_app (goodIn_of _ (by decide +kernel)) ggX5_distance_X5_isLinked
theorem dX5_distance_0 : decode cX5_distance 0 = .ok (.aload_n 0, 1) := by decide +kernel
theorem dX5_distance_1 : decode cX5_distance 1 = .ok (.iload_n 1, 1) := by decide +kernel
theorem dX5_distance_2 : decode cX5_distance 2 = .ok (.invokevirtual 101, 3) := by decide +kernel
theorem dX5_distance_5 : decode cX5_distance 5 = .ok (.ifCond .eq 11, 3) := by decide +kernel
theorem dX5_distance_8 : decode cX5_distance 8 = .ok (.aload_n 0, 1) := by decide +kernel
theorem dX5_distance_9 : decode cX5_distance 9 = .ok (.iload_n 2, 1) := by decide +kernel
theorem dX5_distance_10 : decode cX5_distance 10 = .ok (.invokevirtual 101, 3) := by decide +kernel
theorem dX5_distance_13 : decode cX5_distance 13 = .ok (.ifCond .ne 6, 3) := by decide +kernel
theorem dX5_distance_16 : decode cX5_distance 16 = .ok (.bipush (-2), 2) := by decide +kernel
theorem dX5_distance_18 : decode cX5_distance 18 = .ok (.ireturn, 1) := by decide +kernel
theorem dX5_distance_19 : decode cX5_distance 19 = .ok (.iconst 0, 1) := by decide +kernel
theorem dX5_distance_20 : decode cX5_distance 20 = .ok (.istore_n 3, 1) := by decide +kernel
theorem dX5_distance_21 : decode cX5_distance 21 = .ok (.iload_n 3, 1) := by decide +kernel
theorem dX5_distance_22 : decode cX5_distance 22 = .ok (.iconst 5, 1) := by decide +kernel
theorem dX5_distance_23 : decode cX5_distance 23 = .ok (.if_icmp .ge 16, 3) := by decide +kernel
theorem dX5_distance_26 : decode cX5_distance 26 = .ok (.aload_n 0, 1) := by decide +kernel
theorem dX5_distance_27 : decode cX5_distance 27 = .ok (.getfield 63, 3) := by decide +kernel
theorem dX5_distance_30 : decode cX5_distance 30 = .ok (.iload_n 3, 1) := by decide +kernel
theorem dX5_distance_31 : decode cX5_distance 31 = .ok (.iconst 0, 1) := by decide +kernel
theorem dX5_distance_32 : decode cX5_distance 32 = .ok (.iastore, 1) := by decide +kernel
theorem dX5_distance_33 : decode cX5_distance 33 = .ok (.iinc 3 1, 3) := by decide +kernel
theorem dX5_distance_36 : decode cX5_distance 36 = .ok (.goto (-15), 3) := by decide +kernel
theorem dX5_distance_39 : decode cX5_distance 39 = .ok (.aload_n 0, 1) := by decide +kernel
theorem dX5_distance_40 : decode cX5_distance 40 = .ok (.getfield 63, 3) := by decide +kernel
theorem dX5_distance_43 : decode cX5_distance 43 = .ok (.aload_n 0, 1) := by decide +kernel
theorem dX5_distance_44 : decode cX5_distance 44 = .ok (.getfield 13, 3) := by decide +kernel
theorem dX5_distance_47 : decode cX5_distance 47 = .ok (.iload_n 1, 1) := by decide +kernel
theorem dX5_distance_48 : decode cX5_distance 48 = .ok (.iaload, 1) := by decide +kernel
theorem dX5_distance_49 : decode cX5_distance 49 = .ok (.iconst 4, 1) := by decide +kernel
theorem dX5_distance_50 : decode cX5_distance 50 = .ok (.idiv, 1) := by decide +kernel
theorem dX5_distance_51 : decode cX5_distance 51 = .ok (.iconst 1, 1) := by decide +kernel
theorem dX5_distance_52 : decode cX5_distance 52 = .ok (.iastore, 1) := by decide +kernel
theorem dX5_distance_53 : decode cX5_distance 53 = .ok (.iconst 0, 1) := by decide +kernel
theorem dX5_distance_54 : decode cX5_distance 54 = .ok (.istore_n 3, 1) := by decide +kernel
theorem dX5_distance_55 : decode cX5_distance 55 = .ok (.iload_n 3, 1) := by decide +kernel
theorem dX5_distance_56 : decode cX5_distance 56 = .ok (.iconst 5, 1) := by decide +kernel
theorem dX5_distance_57 : decode cX5_distance 57 = .ok (.if_icmp .ge 88, 3) := by decide +kernel
theorem dX5_distance_60 : decode cX5_distance 60 = .ok (.iconst 0, 1) := by decide +kernel
theorem dX5_distance_61 : decode cX5_distance 61 = .ok (.istore 4, 2) := by decide +kernel
theorem dX5_distance_63 : decode cX5_distance 63 = .ok (.iload 4, 2) := by decide +kernel
theorem dX5_distance_65 : decode cX5_distance 65 = .ok (.bipush 20, 2) := by decide +kernel
theorem dX5_distance_67 : decode cX5_distance 67 = .ok (.if_icmp .ge 72, 3) := by decide +kernel
theorem dX5_distance_70 : decode cX5_distance 70 = .ok (.aload_n 0, 1) := by decide +kernel
theorem dX5_distance_71 : decode cX5_distance 71 = .ok (.iload 4, 2) := by decide +kernel
theorem dX5_distance_73 : decode cX5_distance 73 = .ok (.invokevirtual 76, 3) := by decide +kernel
theorem dX5_distance_76 : decode cX5_distance 76 = .ok (.ifCond .eq 57, 3) := by decide +kernel
theorem dX5_distance_79 : decode cX5_distance 79 = .ok (.aload_n 0, 1) := by decide +kernel
theorem dX5_distance_80 : decode cX5_distance 80 = .ok (.getfield 63, 3) := by decide +kernel
theorem dX5_distance_83 : decode cX5_distance 83 = .ok (.iload 4, 2) := by decide +kernel
theorem dX5_distance_85 : decode cX5_distance 85 = .ok (.iconst 4, 1) := by decide +kernel
theorem dX5_distance_86 : decode cX5_distance 86 = .ok (.idiv, 1) := by decide +kernel
theorem dX5_distance_87 : decode cX5_distance 87 = .ok (.iaload, 1) := by decide +kernel
theorem dX5_distance_88 : decode cX5_distance 88 = .ok (.ifCond .le 45, 3) := by decide +kernel
theorem dX5_distance_91 : decode cX5_distance 91 = .ok (.aload_n 0, 1) := by decide +kernel
theorem dX5_distance_92 : decode cX5_distance 92 = .ok (.getfield 63, 3) := by decide +kernel
theorem dX5_distance_95 : decode cX5_distance 95 = .ok (.aload_n 0, 1) := by decide +kernel
theorem dX5_distance_96 : decode cX5_distance 96 = .ok (.getfield 7, 3) := by decide +kernel
theorem dX5_distance_99 : decode cX5_distance 99 = .ok (.iload 4, 2) := by decide +kernel
theorem dX5_distance_101 : decode cX5_distance 101 = .ok (.iaload, 1) := by decide +kernel
theorem dX5_distance_102 : decode cX5_distance 102 = .ok (.iconst 4, 1) := by decide +kernel
theorem dX5_distance_103 : decode cX5_distance 103 = .ok (.idiv, 1) := by decide +kernel
theorem dX5_distance_104 : decode cX5_distance 104 = .ok (.iaload, 1) := by decide +kernel
theorem dX5_distance_105 : decode cX5_distance 105 = .ok (.ifCond .ne 28, 3) := by decide +kernel
theorem dX5_distance_108 : decode cX5_distance 108 = .ok (.aload_n 0, 1) := by decide +kernel
theorem dX5_distance_109 : decode cX5_distance 109 = .ok (.getfield 63, 3) := by decide +kernel
theorem dX5_distance_112 : decode cX5_distance 112 = .ok (.aload_n 0, 1) := by decide +kernel
theorem dX5_distance_113 : decode cX5_distance 113 = .ok (.getfield 7, 3) := by decide +kernel
theorem dX5_distance_116 : decode cX5_distance 116 = .ok (.iload 4, 2) := by decide +kernel
theorem dX5_distance_118 : decode cX5_distance 118 = .ok (.iaload, 1) := by decide +kernel
theorem dX5_distance_119 : decode cX5_distance 119 = .ok (.iconst 4, 1) := by decide +kernel
theorem dX5_distance_120 : decode cX5_distance 120 = .ok (.idiv, 1) := by decide +kernel
theorem dX5_distance_121 : decode cX5_distance 121 = .ok (.aload_n 0, 1) := by decide +kernel
theorem dX5_distance_122 : decode cX5_distance 122 = .ok (.getfield 63, 3) := by decide +kernel
theorem dX5_distance_125 : decode cX5_distance 125 = .ok (.iload 4, 2) := by decide +kernel
theorem dX5_distance_127 : decode cX5_distance 127 = .ok (.iconst 4, 1) := by decide +kernel
theorem dX5_distance_128 : decode cX5_distance 128 = .ok (.idiv, 1) := by decide +kernel
theorem dX5_distance_129 : decode cX5_distance 129 = .ok (.iaload, 1) := by decide +kernel
theorem dX5_distance_130 : decode cX5_distance 130 = .ok (.iconst 1, 1) := by decide +kernel
theorem dX5_distance_131 : decode cX5_distance 131 = .ok (.iadd, 1) := by decide +kernel
theorem dX5_distance_132 : decode cX5_distance 132 = .ok (.iastore, 1) := by decide +kernel
theorem dX5_distance_133 : decode cX5_distance 133 = .ok (.iinc 4 1, 3) := by decide +kernel
theorem dX5_distance_136 : decode cX5_distance 136 = .ok (.goto (-73), 3) := by decide +kernel
theorem dX5_distance_139 : decode cX5_distance 139 = .ok (.iinc 3 1, 3) := by decide +kernel
theorem dX5_distance_142 : decode cX5_distance 142 = .ok (.goto (-87), 3) := by decide +kernel
theorem dX5_distance_145 : decode cX5_distance 145 = .ok (.aload_n 0, 1) := by decide +kernel
theorem dX5_distance_146 : decode cX5_distance 146 = .ok (.getfield 63, 3) := by decide +kernel
theorem dX5_distance_149 : decode cX5_distance 149 = .ok (.aload_n 0, 1) := by decide +kernel
theorem dX5_distance_150 : decode cX5_distance 150 = .ok (.getfield 13, 3) := by decide +kernel
theorem dX5_distance_153 : decode cX5_distance 153 = .ok (.iload_n 2, 1) := by decide +kernel
theorem dX5_distance_154 : decode cX5_distance 154 = .ok (.iaload, 1) := by decide +kernel
theorem dX5_distance_155 : decode cX5_distance 155 = .ok (.iconst 4, 1) := by decide +kernel
theorem dX5_distance_156 : decode cX5_distance 156 = .ok (.idiv, 1) := by decide +kernel
theorem dX5_distance_157 : decode cX5_distance 157 = .ok (.iaload, 1) := by decide +kernel
theorem dX5_distance_158 : decode cX5_distance 158 = .ok (.ireturn, 1) := by decide +kernel
theorem dJ7_fill_53178_0 : decode cJ7_fill_53178 0 = .ok (.iconst 0, 1) := by decide +kernel
theorem dJ7_fill_53178_1 : decode cJ7_fill_53178 1 = .ok (.istore_n 2, 1) := by decide +kernel
theorem dJ7_fill_53178_2 : decode cJ7_fill_53178 2 = .ok (.aload_n 0, 1) := by decide +kernel
theorem dJ7_fill_53178_3 : decode cJ7_fill_53178 3 = .ok (.arraylength, 1) := by decide +kernel
theorem dJ7_fill_53178_4 : decode cJ7_fill_53178 4 = .ok (.istore_n 3, 1) := by decide +kernel
theorem dJ7_fill_53178_5 : decode cJ7_fill_53178 5 = .ok (.iload_n 2, 1) := by decide +kernel
theorem dJ7_fill_53178_6 : decode cJ7_fill_53178 6 = .ok (.iload_n 3, 1) := by decide +kernel
theorem dJ7_fill_53178_7 : decode cJ7_fill_53178 7 = .ok (.if_icmp .ge 13, 3) := by decide +kernel
theorem dJ7_fill_53178_10 : decode cJ7_fill_53178 10 = .ok (.aload_n 0, 1) := by decide +kernel
theorem dJ7_fill_53178_11 : decode cJ7_fill_53178 11 = .ok (.iload_n 2, 1) := by decide +kernel
theorem dJ7_fill_53178_12 : decode cJ7_fill_53178 12 = .ok (.iload_n 1, 1) := by decide +kernel
theorem dJ7_fill_53178_13 : decode cJ7_fill_53178 13 = .ok (.iastore, 1) := by decide +kernel
theorem dJ7_fill_53178_14 : decode cJ7_fill_53178 14 = .ok (.iinc 2 1, 3) := by decide +kernel
theorem dJ7_fill_53178_17 : decode cJ7_fill_53178 17 = .ok (.goto (-12), 3) := by decide +kernel
theorem dJ7_fill_53178_20 : decode cJ7_fill_53178 20 = .ok (.return_, 1) := by decide +kernel
end
section
set_option maxRecDepth 20000 in
theorem ggL_law_X4_init : GoodIn wsL_law wsX4_init := goodIn_r _ [8, 9, 10, 11, 12, 13, 14, 15, 16, 17, 18, 19, 20, 21, 22, 23, 24, 25, 26, 27, 28, 29, 30, 31, 32, 33, 34, 35, 36, 37, 38, 39, 40, 41, 42, 43, 44, 45, 46, 47, 48, 49, 50, 51, 52, 53, 54, 55, 56, 57, 58, 59, 60, 61, 62, 63, 64, 551, 552, 553, 554, 517, 518, 519, 520, 521, 522, 523, 524, 525, 526, 527, 555, 556, 557, 558, 559, 560] (by decide +kernel) (by decide +kernel)
set_option maxRecDepth 20000 in
theorem gL_law_X4_init : GoodIn wsL_law (wsX4_init) := ggL_law_X4_init
set_option maxRecDepth 20000 in
theorem ggL_law_X5_init : GoodIn wsL_law wsX5_init := goodIn_r _ [67, 68, 10, 11, 28, 69, 70, 30, 71, 72, 73, 74, 75, 76, 77, 78, 79, 80, 81, 82, 83, 84, 85, 86, 528, 529, 530, 531, 532, 533, 534, 535, 536, 537, 538, 539, 540, 541, 542, 543, 544, 545, 546, 547, 548, 549, 550] (by decide +kernel) (by decide +kernel)
set_option maxRecDepth 20000 in
theorem gL_law_X5_init : GoodIn wsL_law (wsX5_init) := ggL_law_X5_init
set_option maxRecDepth 20000 in
theorem ggL_law_X4_addBridge : GoodIn wsL_law wsX4_addBridge := goodIn_r _ [90, 15, 517, 518, 519, 520, 521, 522, 523, 524, 525, 526, 527, 551, 552, 553, 554] (by decide +kernel) (by decide +kernel)
set_option maxRecDepth 20000 in
theorem gL_law_X4_addBridge : GoodIn wsL_law (wsV RL 13 RX4 yX4_addBridge wsX4_addBridge) := goodIn_app (goodIn_of _ (by decide +kernel)) ggL_law_X4_addBridge
set_option maxRecDepth 20000 in
theorem ggL_law_X5_addBridge : GoodIn wsL_law wsX5_addBridge := goodIn_r _ [94, 95, 528, 529, 530, 531, 532, 533, 534, 535, 536, 537, 538, 539, 540, 541, 542, 543, 544, 545, 546, 547, 548, 549, 550] (by decide +kernel) (by decide +kernel)
set_option maxRecDepth 20000 in
theorem gL_law_X5_addBridge : GoodIn wsL_law (wsV RL 17 RX5 yX5_addBridge wsX5_addBridge) := goodIn_app (goodIn_of _ (by decide +kernel)) ggL_law_X5_addBridge
set_option maxRecDepth 20000 in
theorem ggL_law_X4_connect : GoodIn wsL_law wsX4_connect := goodIn_r _ [99, 15, 100, 14, 101, 102, 41, 103, 104, 105, 40, 106, 2, 107, 108, 109, 110, 111, 112, 113, 114, 115, 116, 117, 118, 119, 120, 121, 122, 123, 124, 125, 126, 127, 29, 35, 517, 518, 519, 520, 521, 522, 523, 524, 525, 526, 527, 551, 552, 553, 554] (by decide +kernel) (by decide +kernel)
set_option maxRecDepth 20000 in
theorem gL_law_X4_connect : GoodIn wsL_law (wsV RL 18 RX4 yX4_connect wsX4_connect) := goodIn_app (goodIn_of _ (by decide +kernel)) ggL_law_X4_connect
set_option maxRecDepth 20000 in
theorem ggL_law_X5_connect : GoodIn wsL_law wsX5_connect := goodIn_r _ [131, 132, 133, 134, 135, 5, 136, 95, 137, 138, 139, 140, 141, 142, 143, 69, 144, 145, 146, 147, 148, 149, 150, 151, 152, 153, 154, 155, 78, 77, 156, 73, 74, 75, 76, 528, 529, 530, 531, 532, 533, 534, 535, 536, 537, 538, 539, 540, 541, 542, 543, 544, 545, 546, 547, 548, 549, 550] (by decide +kernel) (by decide +kernel)
set_option maxRecDepth 20000 in
theorem gL_law_X5_connect : GoodIn wsL_law (wsV RL 22 RX5 yX5_connect wsX5_connect) := goodIn_app (goodIn_of _ (by decide +kernel)) ggL_law_X5_connect
set_option maxRecDepth 20000 in
theorem ggL_law_X4_cut : GoodIn wsL_law wsX4_cut := goodIn_r _ [160, 15, 100, 14, 101, 102, 41, 161, 119, 2, 120, 162, 163, 164, 40, 165, 166, 167, 168, 19, 23, 29, 32, 169, 170, 171, 172, 18, 173, 174, 51, 52, 175, 22, 176, 177, 57, 58, 517, 518, 519, 520, 521, 522, 523, 524, 525, 526, 527, 551, 552, 553, 554, 555, 556, 557, 558] (by decide +kernel) (by decide +kernel)
set_option maxRecDepth 20000 in
theorem gL_law_X4_cut : GoodIn wsL_law (wsV RL 23 RX4 yX4_cut wsX4_cut) := goodIn_app (goodIn_of _ (by decide +kernel)) ggL_law_X4_cut
set_option maxRecDepth 20000 in
theorem ggL_law_X5_cut : GoodIn wsL_law wsX5_cut := goodIn_r _ [181, 69, 132, 133, 134, 135, 5, 136, 95, 137, 138, 139, 148, 149, 150, 151, 152, 153, 154, 155, 78, 77, 156, 73, 74, 75, 76, 528, 529, 530, 531, 532, 533, 534, 535, 536, 537, 538, 539, 540, 541, 542, 543, 544, 545, 546, 547, 548, 549, 550] (by decide +kernel) (by decide +kernel)
set_option maxRecDepth 20000 in
theorem gL_law_X5_cut : GoodIn wsL_law (wsV RL 27 RX5 yX5_cut wsX5_cut) := goodIn_app (goodIn_of _ (by decide +kernel)) ggL_law_X5_cut
set_option maxRecDepth 20000 in
theorem ggL_law_X4_addHost : GoodIn wsL_law wsX4_addHost := goodIn_r _ [185, 15, 100, 14, 101, 102, 41, 103, 104, 105, 40, 106, 2, 107, 121, 122, 123, 124, 125, 126, 127, 29, 35, 517, 518, 519, 520, 521, 522, 523, 524, 525, 526, 527, 551, 552, 553, 554] (by decide +kernel) (by decide +kernel)
set_option maxRecDepth 20000 in
theorem gL_law_X4_addHost : GoodIn wsL_law (wsV RL 28 RX4 yX4_addHost wsX4_addHost) := goodIn_app (goodIn_of _ (by decide +kernel)) ggL_law_X4_addHost
set_option maxRecDepth 20000 in
theorem ggL_law_X5_addHost : GoodIn wsL_law wsX5_addHost := goodIn_r _ [189, 190, 70, 133, 134, 135, 5, 136, 95, 137, 138, 139, 140, 141, 142, 143, 69, 152, 153, 154, 155, 78, 77, 156, 73, 74, 75, 76, 528, 529, 530, 531, 532, 533, 534, 535, 536, 537, 538, 539, 540, 541, 542, 543, 544, 545, 546, 547, 548, 549, 550] (by decide +kernel) (by decide +kernel)
set_option maxRecDepth 20000 in
theorem gL_law_X5_addHost : GoodIn wsL_law (wsV RL 31 RX5 yX5_addHost wsX5_addHost) := goodIn_app (goodIn_of _ (by decide +kernel)) ggL_law_X5_addHost
set_option maxRecDepth 20000 in
theorem ggL_law_X4_setTimes : GoodIn wsL_law wsX4_setTimes := goodIn_r _ [194, 34, 35, 15, 103, 14, 104, 105, 40, 106, 2, 107, 124, 125, 126, 127, 29, 517, 518, 519, 520, 521, 522, 523, 524, 525, 526, 527, 551, 552, 553, 554] (by decide +kernel) (by decide +kernel)
set_option maxRecDepth 20000 in
theorem gL_law_X4_setTimes : GoodIn wsL_law (wsV RL 32 RX4 yX4_setTimes wsX4_setTimes) := goodIn_app (goodIn_of _ (by decide +kernel)) ggL_law_X4_setTimes
set_option maxRecDepth 20000 in
theorem ggL_law_X5_setTimes : GoodIn wsL_law wsX5_setTimes := goodIn_r _ [198, 72, 156, 77, 137, 138, 5, 139, 140, 141, 142, 143, 69, 528, 529, 530, 531, 532, 533, 534, 535, 536, 537, 538, 539, 540, 541, 542, 543, 544, 545, 546, 547, 548, 549, 550] (by decide +kernel) (by decide +kernel)
set_option maxRecDepth 20000 in
theorem gL_law_X5_setTimes : GoodIn wsL_law (wsV RL 35 RX5 yX5_setTimes wsX5_setTimes) := goodIn_app (goodIn_of _ (by decide +kernel)) ggL_law_X5_setTimes
set_option maxRecDepth 20000 in
theorem ggL_law_X4_join : GoodIn wsL_law wsX4_join := goodIn_r _ [202, 23, 203, 204, 205, 2, 206, 15, 207, 14, 208, 209, 42, 210, 211, 212, 169, 170, 171, 213, 22, 214, 215, 216, 217, 218, 219, 57, 220, 175, 176, 177, 58, 517, 518, 519, 520, 521, 522, 523, 524, 525, 526, 527, 551, 552, 553, 554, 557, 558] (by decide +kernel) (by decide +kernel)
set_option maxRecDepth 20000 in
theorem gL_law_X4_join : GoodIn wsL_law (wsV RL 36 RX4 yX4_join wsX4_join) := goodIn_app (goodIn_of _ (by decide +kernel)) ggL_law_X4_join
set_option maxRecDepth 20000 in
theorem ggL_law_X5_join : GoodIn wsL_law wsX5_join := goodIn_r _ [224, 79, 80, 225, 226, 227, 5, 228, 229, 230, 231, 232, 190, 137, 138, 139, 233, 234, 235, 236, 237, 238, 528, 529, 530, 531, 532, 533, 534, 535, 536, 537, 538, 539, 540, 541, 542, 543, 544, 545, 546, 547, 548, 549, 550] (by decide +kernel) (by decide +kernel)
set_option maxRecDepth 20000 in
theorem gL_law_X5_join : GoodIn wsL_law (wsV RL 39 RX5 yX5_join wsX5_join) := goodIn_app (goodIn_of _ (by decide +kernel)) ggL_law_X5_join
set_option maxRecDepth 20000 in
theorem ggL_law_X4_leave : GoodIn wsL_law wsX4_leave := goodIn_r _ [242, 23, 203, 204, 205, 2, 206, 15, 207, 14, 208, 209, 42, 210, 211, 212, 169, 170, 171, 243, 22, 244, 245, 216, 217, 218, 219, 57, 220, 175, 176, 177, 58, 517, 518, 519, 520, 521, 522, 523, 524, 525, 526, 527, 551, 552, 553, 554, 557, 558] (by decide +kernel) (by decide +kernel)
set_option maxRecDepth 20000 in
theorem gL_law_X4_leave : GoodIn wsL_law (wsV RL 40 RX4 yX4_leave wsX4_leave) := goodIn_app (goodIn_of _ (by decide +kernel)) ggL_law_X4_leave
set_option maxRecDepth 20000 in
theorem ggL_law_X5_leave : GoodIn wsL_law wsX5_leave := goodIn_r _ [249, 79, 225, 226, 227, 5, 228, 229, 230, 231, 232, 190, 137, 138, 139, 233, 234, 235, 236, 237, 238, 528, 529, 530, 531, 532, 533, 534, 535, 536, 537, 538, 539, 540, 541, 542, 543, 544, 545, 546, 547, 548, 549, 550] (by decide +kernel) (by decide +kernel)
set_option maxRecDepth 20000 in
theorem gL_law_X5_leave : GoodIn wsL_law (wsV RL 43 RX5 yX5_leave wsX5_leave) := goodIn_app (goodIn_of _ (by decide +kernel)) ggL_law_X5_leave
set_option maxRecDepth 20000 in
theorem ggL_law_X4_setSilent : GoodIn wsL_law wsX4_setSilent := goodIn_r _ [253, 15, 33, 207, 14, 208, 209, 42, 517, 518, 519, 520, 521, 522, 523, 524, 525, 526, 527, 551, 552, 553, 554] (by decide +kernel) (by decide +kernel)
set_option maxRecDepth 20000 in
theorem gL_law_X4_setSilent : GoodIn wsL_law (wsV RL 44 RX4 yX4_setSilent wsX4_setSilent) := goodIn_app (goodIn_of _ (by decide +kernel)) ggL_law_X4_setSilent
set_option maxRecDepth 20000 in
theorem ggL_law_X5_setSilent : GoodIn wsL_law wsX5_setSilent := goodIn_r _ [257, 71, 229, 230, 231, 5, 232, 190, 137, 138, 139, 528, 529, 530, 531, 532, 533, 534, 535, 536, 537, 538, 539, 540, 541, 542, 543, 544, 545, 546, 547, 548, 549, 550] (by decide +kernel) (by decide +kernel)
set_option maxRecDepth 20000 in
theorem gL_law_X5_setSilent : GoodIn wsL_law (wsV RL 48 RX5 yX5_setSilent wsX5_setSilent) := goodIn_app (goodIn_of _ (by decide +kernel)) ggL_law_X5_setSilent
set_option maxRecDepth 20000 in
theorem ggL_law_X4_loseNext : GoodIn wsL_law wsX4_loseNext := goodIn_r _ [261, 15, 32, 100, 14, 101, 102, 41, 161, 119, 2, 120, 517, 518, 519, 520, 521, 522, 523, 524, 525, 526, 527, 551, 552, 553, 554] (by decide +kernel) (by decide +kernel)
set_option maxRecDepth 20000 in
theorem gL_law_X4_loseNext : GoodIn wsL_law (wsV RL 49 RX4 yX4_loseNext wsX4_loseNext) := goodIn_app (goodIn_of _ (by decide +kernel)) ggL_law_X4_loseNext
set_option maxRecDepth 20000 in
theorem ggL_law_X5_loseNext : GoodIn wsL_law wsX5_loseNext := goodIn_r _ [265, 78, 133, 134, 135, 5, 136, 95, 137, 138, 139, 148, 149, 150, 151, 69, 528, 529, 530, 531, 532, 533, 534, 535, 536, 537, 538, 539, 540, 541, 542, 543, 544, 545, 546, 547, 548, 549, 550] (by decide +kernel) (by decide +kernel)
set_option maxRecDepth 20000 in
theorem gL_law_X5_loseNext : GoodIn wsL_law (wsV RL 52 RX5 yX5_loseNext wsX5_loseNext) := goodIn_app (goodIn_of _ (by decide +kernel)) ggL_law_X5_loseNext
set_option maxRecDepth 20000 in
theorem ggL_law_X4_tick : GoodIn wsL_law wsX4_tick := goodIn_r _ [269, 36, 270, 271, 272, 2, 273, 31, 15, 103, 14, 104, 105, 40, 106, 107, 274, 275, 276, 277, 19, 169, 170, 171, 278, 18, 279, 280, 51, 52, 281, 282, 283, 284, 29, 35, 285, 286, 287, 288, 289, 290, 291, 292, 23, 293, 294, 295, 296, 297, 117, 118, 298, 299, 300, 301, 213, 22, 214, 215, 216, 217, 218, 219, 57, 220, 175, 176, 177, 58, 243, 244, 245, 302, 303, 304, 305, 27, 33, 306, 26, 307, 308, 63, 64, 309, 45, 46, 47, 310, 311, 312, 313, 161, 119, 120, 314, 315, 316, 317, 34, 318, 319, 320, 321, 172, 173, 174, 322, 323, 324, 325, 326, 327, 328, 329, 330, 331, 32, 332, 333, 334, 335, 336, 337, 338, 339, 340, 517, 518, 519, 520, 521, 522, 523, 524, 525, 526, 527, 551, 552, 553, 554, 555, 556, 557, 558, 559, 560] (by decide +kernel) (by decide +kernel)
set_option maxRecDepth 20000 in
theorem gL_law_X4_tick : GoodIn wsL_law (wsV RL 53 RX4 yX4_tick wsX4_tick) := goodIn_app (goodIn_of _ (by decide +kernel)) ggL_law_X4_tick
set_option maxRecDepth 20000 in
theorem ggL_law_X5_tick : GoodIn wsL_law wsX5_tick := goodIn_r _ [344, 137, 138, 5, 139, 345, 346, 347, 348, 190, 70, 84, 349, 140, 141, 142, 143, 69, 350, 351, 352, 353, 81, 73, 74, 77, 156, 354, 355, 356, 357, 75, 76, 358, 359, 360, 361, 236, 237, 238, 362, 363, 364, 365, 82, 83, 366, 367, 368, 369, 72, 370, 371, 372, 373, 71, 79, 80, 374, 375, 376, 377, 78, 148, 149, 150, 151, 378, 379, 380, 381, 382, 383, 384, 385, 528, 529, 530, 531, 532, 533, 534, 535, 536, 537, 538, 539, 540, 541, 542, 543, 544, 545, 546, 547, 548, 549, 550] (by decide +kernel) (by decide +kernel)
set_option maxRecDepth 20000 in
theorem gL_law_X5_tick : GoodIn wsL_law (wsV RL 57 RX5 yX5_tick wsX5_tick) := goodIn_app (goodIn_of _ (by decide +kernel)) ggL_law_X5_tick
set_option maxRecDepth 20000 in
theorem ggL_law_X4_time : GoodIn wsL_law wsX4_time := goodIn_r _ [389, 36, 517, 518, 519, 520, 521, 522, 523, 524, 525, 526, 527] (by decide +kernel) (by decide +kernel)
set_option maxRecDepth 20000 in
theorem gL_law_X4_time : GoodIn wsL_law (wsV RL 58 RX4 yX4_time wsX4_time) := goodIn_app (goodIn_of _ (by decide +kernel)) ggL_law_X4_time
set_option maxRecDepth 20000 in
theorem ggL_law_X5_time : GoodIn wsL_law wsX5_time := goodIn_r _ [393, 349, 528, 529, 530, 531, 532, 533, 534, 535, 536, 537, 538, 539, 540, 541, 542, 543, 544, 545, 546, 547, 548, 549, 550] (by decide +kernel) (by decide +kernel)
set_option maxRecDepth 20000 in
theorem gL_law_X5_time : GoodIn wsL_law (wsV RL 61 RX5 yX5_time wsX5_time) := goodIn_app (goodIn_of _ (by decide +kernel)) ggL_law_X5_time
set_option maxRecDepth 20000 in
theorem ggL_law_X4_registrar : GoodIn wsL_law wsX4_registrar := goodIn_r _ [397, 19, 398, 399, 400, 2, 401, 15, 100, 14, 101, 102, 41, 210, 211, 212, 169, 170, 171, 517, 518, 519, 520, 521, 522, 523, 524, 525, 526, 527, 555, 556, 551, 552, 553, 554] (by decide +kernel) (by decide +kernel)
set_option maxRecDepth 20000 in
theorem gL_law_X4_registrar : GoodIn wsL_law (wsV RL 62 RX4 yX4_registrar wsX4_registrar) := goodIn_app (goodIn_of _ (by decide +kernel)) ggL_law_X4_registrar
set_option maxRecDepth 20000 in
theorem ggL_law_X5_registrar : GoodIn wsL_law wsX5_registrar := goodIn_r _ [405, 73, 406, 407, 408, 5, 409, 133, 134, 135, 136, 95, 137, 138, 139, 233, 234, 235, 528, 529, 530, 531, 532, 533, 534, 535, 536, 537, 538, 539, 540, 541, 542, 543, 544, 545, 546, 547, 548, 549, 550] (by decide +kernel) (by decide +kernel)
set_option maxRecDepth 20000 in
theorem gL_law_X5_registrar : GoodIn wsL_law (wsV RL 66 RX5 yX5_registrar wsX5_registrar) := goodIn_app (goodIn_of _ (by decide +kernel)) ggL_law_X5_registrar
set_option maxRecDepth 20000 in
theorem ggL_law_X4_registrarTimer : GoodIn wsL_law wsX4_registrarTimer := goodIn_r _ [413, 19, 398, 399, 400, 2, 401, 15, 100, 14, 101, 102, 41, 210, 211, 212, 169, 170, 171, 517, 518, 519, 520, 521, 522, 523, 524, 525, 526, 527, 555, 556, 551, 552, 553, 554] (by decide +kernel) (by decide +kernel)
set_option maxRecDepth 20000 in
theorem gL_law_X4_registrarTimer : GoodIn wsL_law (wsV RL 67 RX4 yX4_registrarTimer wsX4_registrarTimer) := goodIn_app (goodIn_of _ (by decide +kernel)) ggL_law_X4_registrarTimer
set_option maxRecDepth 20000 in
theorem ggL_law_X5_registrarTimer : GoodIn wsL_law wsX5_registrarTimer := goodIn_r _ [417, 74, 406, 407, 408, 5, 409, 133, 134, 135, 136, 95, 137, 138, 139, 233, 234, 235, 528, 529, 530, 531, 532, 533, 534, 535, 536, 537, 538, 539, 540, 541, 542, 543, 544, 545, 546, 547, 548, 549, 550] (by decide +kernel) (by decide +kernel)
set_option maxRecDepth 20000 in
theorem gL_law_X5_registrarTimer : GoodIn wsL_law (wsV RL 70 RX5 yX5_registrarTimer wsX5_registrarTimer) := goodIn_app (goodIn_of _ (by decide +kernel)) ggL_law_X5_registrarTimer
set_option maxRecDepth 20000 in
theorem ggL_law_X4_applicant : GoodIn wsL_law wsX4_applicant := goodIn_r _ [421, 23, 398, 399, 400, 2, 401, 15, 100, 14, 101, 102, 41, 210, 211, 212, 169, 170, 171, 517, 518, 519, 520, 521, 522, 523, 524, 525, 526, 527, 557, 558, 551, 552, 553, 554] (by decide +kernel) (by decide +kernel)
set_option maxRecDepth 20000 in
theorem gL_law_X4_applicant : GoodIn wsL_law (wsV RL 71 RX4 yX4_applicant wsX4_applicant) := goodIn_app (goodIn_of _ (by decide +kernel)) ggL_law_X4_applicant
set_option maxRecDepth 20000 in
theorem ggL_law_X5_applicant : GoodIn wsL_law wsX5_applicant := goodIn_r _ [425, 75, 406, 407, 408, 5, 409, 133, 134, 135, 136, 95, 137, 138, 139, 233, 234, 235, 528, 529, 530, 531, 532, 533, 534, 535, 536, 537, 538, 539, 540, 541, 542, 543, 544, 545, 546, 547, 548, 549, 550] (by decide +kernel) (by decide +kernel)
set_option maxRecDepth 20000 in
theorem gL_law_X5_applicant : GoodIn wsL_law (wsV RL 74 RX5 yX5_applicant wsX5_applicant) := goodIn_app (goodIn_of _ (by decide +kernel)) ggL_law_X5_applicant
set_option maxRecDepth 20000 in
theorem ggL_law_X4_hostApplicant : GoodIn wsL_law wsX4_hostApplicant := goodIn_r _ [429, 23, 203, 204, 205, 2, 206, 15, 207, 14, 208, 209, 42, 210, 211, 212, 169, 170, 171, 517, 518, 519, 520, 521, 522, 523, 524, 525, 526, 527, 557, 558, 551, 552, 553, 554] (by decide +kernel) (by decide +kernel)
set_option maxRecDepth 20000 in
theorem gL_law_X4_hostApplicant : GoodIn wsL_law (wsV RL 75 RX4 yX4_hostApplicant wsX4_hostApplicant) := goodIn_app (goodIn_of _ (by decide +kernel)) ggL_law_X4_hostApplicant
set_option maxRecDepth 20000 in
theorem ggL_law_X5_hostApplicant : GoodIn wsL_law wsX5_hostApplicant := goodIn_r _ [433, 79, 225, 226, 227, 5, 228, 229, 230, 231, 232, 190, 137, 138, 139, 233, 234, 235, 528, 529, 530, 531, 532, 533, 534, 535, 536, 537, 538, 539, 540, 541, 542, 543, 544, 545, 546, 547, 548, 549, 550] (by decide +kernel) (by decide +kernel)
set_option maxRecDepth 20000 in
theorem gL_law_X5_hostApplicant : GoodIn wsL_law (wsV RL 78 RX5 yX5_hostApplicant wsX5_hostApplicant) := goodIn_app (goodIn_of _ (by decide +kernel)) ggL_law_X5_hostApplicant
set_option maxRecDepth 20000 in
theorem ggL_law_X4_leaveAllTimer : GoodIn wsL_law wsX4_leaveAllTimer := goodIn_r _ [437, 15, 29, 100, 14, 101, 102, 41, 517, 518, 519, 520, 521, 522, 523, 524, 525, 526, 527, 551, 552, 553, 554] (by decide +kernel) (by decide +kernel)
set_option maxRecDepth 20000 in
theorem gL_law_X4_leaveAllTimer : GoodIn wsL_law (wsV RL 79 RX4 yX4_leaveAllTimer wsX4_leaveAllTimer) := goodIn_app (goodIn_of _ (by decide +kernel)) ggL_law_X4_leaveAllTimer
set_option maxRecDepth 20000 in
theorem ggL_law_X5_leaveAllTimer : GoodIn wsL_law wsX5_leaveAllTimer := goodIn_r _ [441, 77, 133, 134, 135, 5, 136, 95, 137, 138, 139, 528, 529, 530, 531, 532, 533, 534, 535, 536, 537, 538, 539, 540, 541, 542, 543, 544, 545, 546, 547, 548, 549, 550] (by decide +kernel) (by decide +kernel)
set_option maxRecDepth 20000 in
theorem gL_law_X5_leaveAllTimer : GoodIn wsL_law (wsV RL 82 RX5 yX5_leaveAllTimer wsX5_leaveAllTimer) := goodIn_app (goodIn_of _ (by decide +kernel)) ggL_law_X5_leaveAllTimer
set_option maxRecDepth 20000 in
theorem ggL_law_X4_isSettled : GoodIn wsL_law wsX4_isSettled := goodIn_r _ [445, 33, 15, 446, 447, 448, 2, 449, 23, 169, 170, 171, 103, 14, 104, 105, 40, 106, 107, 450, 451, 452, 453, 19, 293, 294, 295, 296, 297, 117, 118, 298, 299, 300, 301, 517, 518, 519, 520, 521, 522, 523, 524, 525, 526, 527, 557, 558, 551, 552, 553, 554, 555, 556] (by decide +kernel) (by decide +kernel)
set_option maxRecDepth 20000 in
theorem gL_law_X4_isSettled : GoodIn wsL_law (wsV RL 83 RX4 yX4_isSettled wsX4_isSettled) := goodIn_app (goodIn_of _ (by decide +kernel)) ggL_law_X4_isSettled
set_option maxRecDepth 20000 in
theorem ggL_law_X5_isSettled : GoodIn wsL_law wsX5_isSettled := goodIn_r _ [457, 190, 71, 79, 140, 141, 142, 5, 143, 69, 458, 459, 460, 461, 75, 73, 462, 463, 464, 358, 359, 360, 361, 528, 529, 530, 531, 532, 533, 534, 535, 536, 537, 538, 539, 540, 541, 542, 543, 544, 545, 546, 547, 548, 549, 550] (by decide +kernel) (by decide +kernel)
set_option maxRecDepth 20000 in
theorem gL_law_X5_isSettled : GoodIn wsL_law (wsV RL 86 RX5 yX5_isSettled wsX5_isSettled) := goodIn_app (goodIn_of _ (by decide +kernel)) ggL_law_X5_isSettled
set_option maxRecDepth 20000 in
theorem ggL_law_X4_receivers : GoodIn wsL_law wsX4_receivers := goodIn_r _ [468, 203, 204, 205, 2, 206, 15, 207, 14, 208, 209, 42, 210, 211, 212, 169, 170, 171, 469, 470, 471, 472, 161, 119, 120, 473, 474, 475, 476, 298, 299, 300, 301, 19, 103, 104, 105, 40, 106, 107, 477, 478, 479, 297, 117, 118, 480, 111, 112, 517, 518, 519, 520, 521, 522, 523, 524, 525, 526, 527, 551, 552, 553, 554, 555, 556] (by decide +kernel) (by decide +kernel)
set_option maxRecDepth 20000 in
theorem gL_law_X4_receivers : GoodIn wsL_law (wsV RL 87 RX4 yX4_receivers wsX4_receivers) := goodIn_app (goodIn_of _ (by decide +kernel)) ggL_law_X4_receivers
set_option maxRecDepth 20000 in
theorem ggL_law_X5_receivers : GoodIn wsL_law wsX5_receivers := goodIn_r _ [484, 225, 226, 227, 5, 228, 229, 230, 231, 232, 190, 137, 138, 139, 233, 234, 235, 485, 486, 487, 488, 85, 70, 73, 69, 140, 141, 142, 143, 148, 149, 150, 151, 528, 529, 530, 531, 532, 533, 534, 535, 536, 537, 538, 539, 540, 541, 542, 543, 544, 545, 546, 547, 548, 549, 550] (by decide +kernel) (by decide +kernel)
set_option maxRecDepth 20000 in
theorem gL_law_X5_receivers : GoodIn wsL_law (wsV RL 90 RX5 yX5_receivers wsX5_receivers) := goodIn_app (goodIn_of _ (by decide +kernel)) ggL_law_X5_receivers
set_option maxRecDepth 20000 in
theorem ggL_law_X4_missedCount : GoodIn wsL_law wsX4_missedCount := goodIn_r _ [492, 15, 23, 203, 204, 205, 2, 206, 207, 14, 208, 209, 42, 210, 211, 212, 169, 170, 171, 469, 470, 471, 472, 161, 119, 120, 473, 474, 475, 476, 298, 299, 300, 301, 19, 103, 104, 105, 40, 106, 107, 477, 478, 479, 297, 117, 118, 480, 111, 112, 493, 494, 495, 496, 108, 109, 110, 113, 114, 115, 116, 217, 22, 218, 219, 57, 517, 518, 519, 520, 521, 522, 523, 524, 525, 526, 527, 551, 552, 553, 554, 555, 556, 557, 558] (by decide +kernel) (by decide +kernel)
set_option maxRecDepth 20000 in
theorem gL_law_X4_missedCount : GoodIn wsL_law (wsV RL 91 RX4 yX4_missedCount wsX4_missedCount) := goodIn_app (goodIn_of _ (by decide +kernel)) ggL_law_X4_missedCount
set_option maxRecDepth 20000 in
theorem ggL_law_X5_missedCount : GoodIn wsL_law wsX5_missedCount := goodIn_r _ [500, 70, 190, 79, 225, 226, 227, 5, 228, 229, 230, 231, 232, 137, 138, 139, 233, 234, 235, 485, 486, 487, 488, 85, 73, 69, 140, 141, 142, 143, 148, 149, 150, 151, 144, 145, 146, 147, 236, 237, 238, 528, 529, 530, 531, 532, 533, 534, 535, 536, 537, 538, 539, 540, 541, 542, 543, 544, 545, 546, 547, 548, 549, 550] (by decide +kernel) (by decide +kernel)
set_option maxRecDepth 20000 in
theorem gL_law_X5_missedCount : GoodIn wsL_law (wsV RL 94 RX5 yX5_missedCount wsX5_missedCount) := goodIn_app (goodIn_of _ (by decide +kernel)) ggL_law_X5_missedCount
set_option maxRecDepth 20000 in
theorem ggL_law_X4_needlessCount : GoodIn wsL_law wsX4_needlessCount := goodIn_r _ [504, 15, 23, 203, 204, 205, 2, 206, 207, 14, 208, 209, 42, 210, 211, 212, 169, 170, 171, 469, 470, 471, 472, 161, 119, 120, 473, 474, 475, 476, 298, 299, 300, 301, 19, 103, 104, 105, 40, 106, 107, 477, 478, 479, 297, 117, 118, 480, 111, 112, 217, 22, 218, 219, 57, 517, 518, 519, 520, 521, 522, 523, 524, 525, 526, 527, 551, 552, 553, 554, 555, 556, 557, 558] (by decide +kernel) (by decide +kernel)
set_option maxRecDepth 20000 in
theorem gL_law_X4_needlessCount : GoodIn wsL_law (wsV RL 95 RX4 yX4_needlessCount wsX4_needlessCount) := goodIn_app (goodIn_of _ (by decide +kernel)) ggL_law_X4_needlessCount
set_option maxRecDepth 20000 in
theorem ggL_law_X5_needlessCount : GoodIn wsL_law wsX5_needlessCount := goodIn_r _ [508, 190, 79, 225, 226, 227, 5, 228, 229, 230, 231, 232, 137, 138, 139, 233, 234, 235, 485, 486, 487, 488, 85, 70, 73, 69, 140, 141, 142, 143, 148, 149, 150, 151, 236, 237, 238, 528, 529, 530, 531, 532, 533, 534, 535, 536, 537, 538, 539, 540, 541, 542, 543, 544, 545, 546, 547, 548, 549, 550] (by decide +kernel) (by decide +kernel)
set_option maxRecDepth 20000 in
theorem gL_law_X5_needlessCount : GoodIn wsL_law (wsV RL 98 RX5 yX5_needlessCount wsX5_needlessCount) := goodIn_app (goodIn_of _ (by decide +kernel)) ggL_law_X5_needlessCount
set_option maxRecDepth 20000 in
theorem ggL_law_X4_distance : GoodIn wsL_law wsX4_distance := goodIn_r _ [512, 15, 207, 14, 208, 209, 42, 493, 494, 495, 2, 496, 161, 119, 120, 297, 117, 118, 108, 109, 110, 111, 112, 113, 114, 115, 116, 40, 517, 518, 519, 520, 521, 522, 523, 524, 525, 526, 527, 551, 552, 553, 554] (by decide +kernel) (by decide +kernel)
set_option maxRecDepth 20000 in
theorem gL_law_X4_distance : GoodIn wsL_law (wsV RL 99 RX4 yX4_distance wsX4_distance) := goodIn_app (goodIn_of _ (by decide +kernel)) ggL_law_X4_distance
set_option maxRecDepth 20000 in
theorem ggL_law_X5_distance : GoodIn wsL_law wsX5_distance := goodIn_r _ [516, 86, 70, 69, 229, 230, 231, 5, 232, 190, 137, 138, 139, 148, 149, 150, 151, 528, 529, 530, 531, 532, 533, 534, 535, 536, 537, 538, 539, 540, 541, 542, 543, 544, 545, 546, 547, 548, 549, 550] (by decide +kernel) (by decide +kernel)
set_option maxRecDepth 20000 in
theorem gL_law_X5_distance : GoodIn wsL_law (wsV RL 102 RX5 yX5_distance wsX5_distance) := goodIn_app (goodIn_of _ (by decide +kernel)) ggL_law_X5_distance
theorem dL_law_0 : decode cL_law 0 = .ok (.new 7, 3) := by decide +kernel
theorem dL_law_3 : decode cL_law 3 = .ok (.dup, 1) := by decide +kernel
theorem dL_law_4 : decode cL_law 4 = .ok (.invokespecial 9, 3) := by decide +kernel
theorem dL_law_7 : decode cL_law 7 = .ok (.astore_n 1, 1) := by decide +kernel
theorem dL_law_8 : decode cL_law 8 = .ok (.new 10, 3) := by decide +kernel
theorem dL_law_11 : decode cL_law 11 = .ok (.dup, 1) := by decide +kernel
theorem dL_law_12 : decode cL_law 12 = .ok (.invokespecial 12, 3) := by decide +kernel
theorem dL_law_15 : decode cL_law 15 = .ok (.astore_n 2, 1) := by decide +kernel
theorem dL_law_16 : decode cL_law 16 = .ok (.iconst 0, 1) := by decide +kernel
theorem dL_law_17 : decode cL_law 17 = .ok (.istore_n 3, 1) := by decide +kernel
theorem dL_law_18 : decode cL_law 18 = .ok (.iload_n 3, 1) := by decide +kernel
theorem dL_law_19 : decode cL_law 19 = .ok (.aload_n 0, 1) := by decide +kernel
theorem dL_law_20 : decode cL_law 20 = .ok (.arraylength, 1) := by decide +kernel
theorem dL_law_21 : decode cL_law 21 = .ok (.iconst 5, 1) := by decide +kernel
theorem dL_law_22 : decode cL_law 22 = .ok (.isub, 1) := by decide +kernel
theorem dL_law_23 : decode cL_law 23 = .ok (.if_icmp .gt 804, 3) := by decide +kernel
theorem dL_law_26 : decode cL_law 26 = .ok (.aload_n 0, 1) := by decide +kernel
theorem dL_law_27 : decode cL_law 27 = .ok (.iload_n 3, 1) := by decide +kernel
theorem dL_law_28 : decode cL_law 28 = .ok (.iaload, 1) := by decide +kernel
theorem dL_law_29 : decode cL_law 29 = .ok (.bipush 31, 2) := by decide +kernel
theorem dL_law_31 : decode cL_law 31 = .ok (.iand, 1) := by decide +kernel
theorem dL_law_32 : decode cL_law 32 = .ok (.tableswitch 789 0 20 #[100, 113, 166, 199, 232, 265, 298, 331, 380, 413, 436, 449, 492, 535, 578, 611, 644, 657, 690, 723, 756], 100) := by decide +kernel
theorem dL_law_132 : decode cL_law 132 = .ok (.aload_n 1, 1) := by decide +kernel
theorem dL_law_133 : decode cL_law 133 = .ok (.invokevirtual 13, 3) := by decide +kernel
theorem dL_law_136 : decode cL_law 136 = .ok (.aload_n 2, 1) := by decide +kernel
theorem dL_law_137 : decode cL_law 137 = .ok (.invokevirtual 17, 3) := by decide +kernel
theorem dL_law_140 : decode cL_law 140 = .ok (.if_icmp .eq 681, 3) := by decide +kernel
theorem dL_law_143 : decode cL_law 143 = .ok (.iconst 0, 1) := by decide +kernel
theorem dL_law_144 : decode cL_law 144 = .ok (.ireturn, 1) := by decide +kernel
theorem dL_law_145 : decode cL_law 145 = .ok (.aload_n 1, 1) := by decide +kernel
theorem dL_law_146 : decode cL_law 146 = .ok (.aload_n 0, 1) := by decide +kernel
theorem dL_law_147 : decode cL_law 147 = .ok (.iload_n 3, 1) := by decide +kernel
theorem dL_law_148 : decode cL_law 148 = .ok (.iconst 1, 1) := by decide +kernel
theorem dL_law_149 : decode cL_law 149 = .ok (.iadd, 1) := by decide +kernel
theorem dL_law_150 : decode cL_law 150 = .ok (.iaload, 1) := by decide +kernel
theorem dL_law_151 : decode cL_law 151 = .ok (.aload_n 0, 1) := by decide +kernel
theorem dL_law_152 : decode cL_law 152 = .ok (.iload_n 3, 1) := by decide +kernel
theorem dL_law_153 : decode cL_law 153 = .ok (.iconst 2, 1) := by decide +kernel
theorem dL_law_154 : decode cL_law 154 = .ok (.iadd, 1) := by decide +kernel
theorem dL_law_155 : decode cL_law 155 = .ok (.iaload, 1) := by decide +kernel
theorem dL_law_156 : decode cL_law 156 = .ok (.aload_n 0, 1) := by decide +kernel
theorem dL_law_157 : decode cL_law 157 = .ok (.iload_n 3, 1) := by decide +kernel
theorem dL_law_158 : decode cL_law 158 = .ok (.iconst 3, 1) := by decide +kernel
theorem dL_law_159 : decode cL_law 159 = .ok (.iadd, 1) := by decide +kernel
theorem dL_law_160 : decode cL_law 160 = .ok (.iaload, 1) := by decide +kernel
theorem dL_law_161 : decode cL_law 161 = .ok (.aload_n 0, 1) := by decide +kernel
theorem dL_law_162 : decode cL_law 162 = .ok (.iload_n 3, 1) := by decide +kernel
theorem dL_law_163 : decode cL_law 163 = .ok (.iconst 4, 1) := by decide +kernel
theorem dL_law_164 : decode cL_law 164 = .ok (.iadd, 1) := by decide +kernel
theorem dL_law_165 : decode cL_law 165 = .ok (.iaload, 1) := by decide +kernel
theorem dL_law_166 : decode cL_law 166 = .ok (.invokevirtual 18, 3) := by decide +kernel
theorem dL_law_169 : decode cL_law 169 = .ok (.aload_n 2, 1) := by decide +kernel
theorem dL_law_170 : decode cL_law 170 = .ok (.aload_n 0, 1) := by decide +kernel
theorem dL_law_171 : decode cL_law 171 = .ok (.iload_n 3, 1) := by decide +kernel
theorem dL_law_172 : decode cL_law 172 = .ok (.iconst 1, 1) := by decide +kernel
theorem dL_law_173 : decode cL_law 173 = .ok (.iadd, 1) := by decide +kernel
theorem dL_law_174 : decode cL_law 174 = .ok (.iaload, 1) := by decide +kernel
theorem dL_law_175 : decode cL_law 175 = .ok (.aload_n 0, 1) := by decide +kernel
theorem dL_law_176 : decode cL_law 176 = .ok (.iload_n 3, 1) := by decide +kernel
theorem dL_law_177 : decode cL_law 177 = .ok (.iconst 2, 1) := by decide +kernel
theorem dL_law_178 : decode cL_law 178 = .ok (.iadd, 1) := by decide +kernel
theorem dL_law_179 : decode cL_law 179 = .ok (.iaload, 1) := by decide +kernel
theorem dL_law_180 : decode cL_law 180 = .ok (.aload_n 0, 1) := by decide +kernel
theorem dL_law_181 : decode cL_law 181 = .ok (.iload_n 3, 1) := by decide +kernel
theorem dL_law_182 : decode cL_law 182 = .ok (.iconst 3, 1) := by decide +kernel
theorem dL_law_183 : decode cL_law 183 = .ok (.iadd, 1) := by decide +kernel
theorem dL_law_184 : decode cL_law 184 = .ok (.iaload, 1) := by decide +kernel
theorem dL_law_185 : decode cL_law 185 = .ok (.aload_n 0, 1) := by decide +kernel
theorem dL_law_186 : decode cL_law 186 = .ok (.iload_n 3, 1) := by decide +kernel
theorem dL_law_187 : decode cL_law 187 = .ok (.iconst 4, 1) := by decide +kernel
theorem dL_law_188 : decode cL_law 188 = .ok (.iadd, 1) := by decide +kernel
theorem dL_law_189 : decode cL_law 189 = .ok (.iaload, 1) := by decide +kernel
theorem dL_law_190 : decode cL_law 190 = .ok (.invokevirtual 22, 3) := by decide +kernel
theorem dL_law_193 : decode cL_law 193 = .ok (.if_icmp .eq 628, 3) := by decide +kernel
theorem dL_law_196 : decode cL_law 196 = .ok (.iconst 0, 1) := by decide +kernel
theorem dL_law_197 : decode cL_law 197 = .ok (.ireturn, 1) := by decide +kernel
theorem dL_law_198 : decode cL_law 198 = .ok (.aload_n 1, 1) := by decide +kernel
theorem dL_law_199 : decode cL_law 199 = .ok (.aload_n 0, 1) := by decide +kernel
theorem dL_law_200 : decode cL_law 200 = .ok (.iload_n 3, 1) := by decide +kernel
theorem dL_law_201 : decode cL_law 201 = .ok (.iconst 1, 1) := by decide +kernel
theorem dL_law_202 : decode cL_law 202 = .ok (.iadd, 1) := by decide +kernel
theorem dL_law_203 : decode cL_law 203 = .ok (.iaload, 1) := by decide +kernel
theorem dL_law_204 : decode cL_law 204 = .ok (.aload_n 0, 1) := by decide +kernel
theorem dL_law_205 : decode cL_law 205 = .ok (.iload_n 3, 1) := by decide +kernel
theorem dL_law_206 : decode cL_law 206 = .ok (.iconst 2, 1) := by decide +kernel
theorem dL_law_207 : decode cL_law 207 = .ok (.iadd, 1) := by decide +kernel
theorem dL_law_208 : decode cL_law 208 = .ok (.iaload, 1) := by decide +kernel
theorem dL_law_209 : decode cL_law 209 = .ok (.invokevirtual 23, 3) := by decide +kernel
theorem dL_law_212 : decode cL_law 212 = .ok (.aload_n 2, 1) := by decide +kernel
theorem dL_law_213 : decode cL_law 213 = .ok (.aload_n 0, 1) := by decide +kernel
theorem dL_law_214 : decode cL_law 214 = .ok (.iload_n 3, 1) := by decide +kernel
theorem dL_law_215 : decode cL_law 215 = .ok (.iconst 1, 1) := by decide +kernel
theorem dL_law_216 : decode cL_law 216 = .ok (.iadd, 1) := by decide +kernel
theorem dL_law_217 : decode cL_law 217 = .ok (.iaload, 1) := by decide +kernel
theorem dL_law_218 : decode cL_law 218 = .ok (.aload_n 0, 1) := by decide +kernel
theorem dL_law_219 : decode cL_law 219 = .ok (.iload_n 3, 1) := by decide +kernel
theorem dL_law_220 : decode cL_law 220 = .ok (.iconst 2, 1) := by decide +kernel
theorem dL_law_221 : decode cL_law 221 = .ok (.iadd, 1) := by decide +kernel
theorem dL_law_222 : decode cL_law 222 = .ok (.iaload, 1) := by decide +kernel
theorem dL_law_223 : decode cL_law 223 = .ok (.invokevirtual 27, 3) := by decide +kernel
theorem dL_law_226 : decode cL_law 226 = .ok (.if_icmp .eq 595, 3) := by decide +kernel
theorem dL_law_229 : decode cL_law 229 = .ok (.iconst 0, 1) := by decide +kernel
theorem dL_law_230 : decode cL_law 230 = .ok (.ireturn, 1) := by decide +kernel
theorem dL_law_231 : decode cL_law 231 = .ok (.aload_n 1, 1) := by decide +kernel
theorem dL_law_232 : decode cL_law 232 = .ok (.aload_n 0, 1) := by decide +kernel
theorem dL_law_233 : decode cL_law 233 = .ok (.iload_n 3, 1) := by decide +kernel
theorem dL_law_234 : decode cL_law 234 = .ok (.iconst 1, 1) := by decide +kernel
theorem dL_law_235 : decode cL_law 235 = .ok (.iadd, 1) := by decide +kernel
theorem dL_law_236 : decode cL_law 236 = .ok (.iaload, 1) := by decide +kernel
theorem dL_law_237 : decode cL_law 237 = .ok (.aload_n 0, 1) := by decide +kernel
theorem dL_law_238 : decode cL_law 238 = .ok (.iload_n 3, 1) := by decide +kernel
theorem dL_law_239 : decode cL_law 239 = .ok (.iconst 2, 1) := by decide +kernel
theorem dL_law_240 : decode cL_law 240 = .ok (.iadd, 1) := by decide +kernel
theorem dL_law_241 : decode cL_law 241 = .ok (.iaload, 1) := by decide +kernel
theorem dL_law_242 : decode cL_law 242 = .ok (.invokevirtual 28, 3) := by decide +kernel
theorem dL_law_245 : decode cL_law 245 = .ok (.aload_n 2, 1) := by decide +kernel
theorem dL_law_246 : decode cL_law 246 = .ok (.aload_n 0, 1) := by decide +kernel
theorem dL_law_247 : decode cL_law 247 = .ok (.iload_n 3, 1) := by decide +kernel
theorem dL_law_248 : decode cL_law 248 = .ok (.iconst 1, 1) := by decide +kernel
theorem dL_law_249 : decode cL_law 249 = .ok (.iadd, 1) := by decide +kernel
theorem dL_law_250 : decode cL_law 250 = .ok (.iaload, 1) := by decide +kernel
theorem dL_law_251 : decode cL_law 251 = .ok (.aload_n 0, 1) := by decide +kernel
theorem dL_law_252 : decode cL_law 252 = .ok (.iload_n 3, 1) := by decide +kernel
theorem dL_law_253 : decode cL_law 253 = .ok (.iconst 2, 1) := by decide +kernel
theorem dL_law_254 : decode cL_law 254 = .ok (.iadd, 1) := by decide +kernel
theorem dL_law_255 : decode cL_law 255 = .ok (.iaload, 1) := by decide +kernel
theorem dL_law_256 : decode cL_law 256 = .ok (.invokevirtual 31, 3) := by decide +kernel
theorem dL_law_259 : decode cL_law 259 = .ok (.if_icmp .eq 562, 3) := by decide +kernel
theorem dL_law_262 : decode cL_law 262 = .ok (.iconst 0, 1) := by decide +kernel
theorem dL_law_263 : decode cL_law 263 = .ok (.ireturn, 1) := by decide +kernel
theorem dL_law_264 : decode cL_law 264 = .ok (.aload_n 1, 1) := by decide +kernel
theorem dL_law_265 : decode cL_law 265 = .ok (.aload_n 0, 1) := by decide +kernel
theorem dL_law_266 : decode cL_law 266 = .ok (.iload_n 3, 1) := by decide +kernel
theorem dL_law_267 : decode cL_law 267 = .ok (.iconst 1, 1) := by decide +kernel
theorem dL_law_268 : decode cL_law 268 = .ok (.iadd, 1) := by decide +kernel
theorem dL_law_269 : decode cL_law 269 = .ok (.iaload, 1) := by decide +kernel
theorem dL_law_270 : decode cL_law 270 = .ok (.aload_n 0, 1) := by decide +kernel
theorem dL_law_271 : decode cL_law 271 = .ok (.iload_n 3, 1) := by decide +kernel
theorem dL_law_272 : decode cL_law 272 = .ok (.iconst 2, 1) := by decide +kernel
theorem dL_law_273 : decode cL_law 273 = .ok (.iadd, 1) := by decide +kernel
theorem dL_law_274 : decode cL_law 274 = .ok (.iaload, 1) := by decide +kernel
theorem dL_law_275 : decode cL_law 275 = .ok (.invokevirtual 32, 3) := by decide +kernel
theorem dL_law_278 : decode cL_law 278 = .ok (.aload_n 2, 1) := by decide +kernel
theorem dL_law_279 : decode cL_law 279 = .ok (.aload_n 0, 1) := by decide +kernel
theorem dL_law_280 : decode cL_law 280 = .ok (.iload_n 3, 1) := by decide +kernel
theorem dL_law_281 : decode cL_law 281 = .ok (.iconst 1, 1) := by decide +kernel
theorem dL_law_282 : decode cL_law 282 = .ok (.iadd, 1) := by decide +kernel
theorem dL_law_283 : decode cL_law 283 = .ok (.iaload, 1) := by decide +kernel
theorem dL_law_284 : decode cL_law 284 = .ok (.aload_n 0, 1) := by decide +kernel
theorem dL_law_285 : decode cL_law 285 = .ok (.iload_n 3, 1) := by decide +kernel
theorem dL_law_286 : decode cL_law 286 = .ok (.iconst 2, 1) := by decide +kernel
theorem dL_law_287 : decode cL_law 287 = .ok (.iadd, 1) := by decide +kernel
theorem dL_law_288 : decode cL_law 288 = .ok (.iaload, 1) := by decide +kernel
theorem dL_law_289 : decode cL_law 289 = .ok (.invokevirtual 35, 3) := by decide +kernel
theorem dL_law_292 : decode cL_law 292 = .ok (.if_icmp .eq 529, 3) := by decide +kernel
theorem dL_law_295 : decode cL_law 295 = .ok (.iconst 0, 1) := by decide +kernel
theorem dL_law_296 : decode cL_law 296 = .ok (.ireturn, 1) := by decide +kernel
theorem dL_law_297 : decode cL_law 297 = .ok (.aload_n 1, 1) := by decide +kernel
theorem dL_law_298 : decode cL_law 298 = .ok (.aload_n 0, 1) := by decide +kernel
theorem dL_law_299 : decode cL_law 299 = .ok (.iload_n 3, 1) := by decide +kernel
theorem dL_law_300 : decode cL_law 300 = .ok (.iconst 1, 1) := by decide +kernel
theorem dL_law_301 : decode cL_law 301 = .ok (.iadd, 1) := by decide +kernel
theorem dL_law_302 : decode cL_law 302 = .ok (.iaload, 1) := by decide +kernel
theorem dL_law_303 : decode cL_law 303 = .ok (.aload_n 0, 1) := by decide +kernel
theorem dL_law_304 : decode cL_law 304 = .ok (.iload_n 3, 1) := by decide +kernel
theorem dL_law_305 : decode cL_law 305 = .ok (.iconst 2, 1) := by decide +kernel
theorem dL_law_306 : decode cL_law 306 = .ok (.iadd, 1) := by decide +kernel
theorem dL_law_307 : decode cL_law 307 = .ok (.iaload, 1) := by decide +kernel
theorem dL_law_308 : decode cL_law 308 = .ok (.invokevirtual 36, 3) := by decide +kernel
theorem dL_law_311 : decode cL_law 311 = .ok (.aload_n 2, 1) := by decide +kernel
theorem dL_law_312 : decode cL_law 312 = .ok (.aload_n 0, 1) := by decide +kernel
theorem dL_law_313 : decode cL_law 313 = .ok (.iload_n 3, 1) := by decide +kernel
theorem dL_law_314 : decode cL_law 314 = .ok (.iconst 1, 1) := by decide +kernel
theorem dL_law_315 : decode cL_law 315 = .ok (.iadd, 1) := by decide +kernel
theorem dL_law_316 : decode cL_law 316 = .ok (.iaload, 1) := by decide +kernel
theorem dL_law_317 : decode cL_law 317 = .ok (.aload_n 0, 1) := by decide +kernel
theorem dL_law_318 : decode cL_law 318 = .ok (.iload_n 3, 1) := by decide +kernel
theorem dL_law_319 : decode cL_law 319 = .ok (.iconst 2, 1) := by decide +kernel
theorem dL_law_320 : decode cL_law 320 = .ok (.iadd, 1) := by decide +kernel
theorem dL_law_321 : decode cL_law 321 = .ok (.iaload, 1) := by decide +kernel
theorem dL_law_322 : decode cL_law 322 = .ok (.invokevirtual 39, 3) := by decide +kernel
theorem dL_law_325 : decode cL_law 325 = .ok (.if_icmp .eq 496, 3) := by decide +kernel
theorem dL_law_328 : decode cL_law 328 = .ok (.iconst 0, 1) := by decide +kernel
theorem dL_law_329 : decode cL_law 329 = .ok (.ireturn, 1) := by decide +kernel
theorem dL_law_330 : decode cL_law 330 = .ok (.aload_n 1, 1) := by decide +kernel
theorem dL_law_331 : decode cL_law 331 = .ok (.aload_n 0, 1) := by decide +kernel
theorem dL_law_332 : decode cL_law 332 = .ok (.iload_n 3, 1) := by decide +kernel
theorem dL_law_333 : decode cL_law 333 = .ok (.iconst 1, 1) := by decide +kernel
theorem dL_law_334 : decode cL_law 334 = .ok (.iadd, 1) := by decide +kernel
theorem dL_law_335 : decode cL_law 335 = .ok (.iaload, 1) := by decide +kernel
theorem dL_law_336 : decode cL_law 336 = .ok (.aload_n 0, 1) := by decide +kernel
theorem dL_law_337 : decode cL_law 337 = .ok (.iload_n 3, 1) := by decide +kernel
theorem dL_law_338 : decode cL_law 338 = .ok (.iconst 2, 1) := by decide +kernel
theorem dL_law_339 : decode cL_law 339 = .ok (.iadd, 1) := by decide +kernel
theorem dL_law_340 : decode cL_law 340 = .ok (.iaload, 1) := by decide +kernel
theorem dL_law_341 : decode cL_law 341 = .ok (.invokevirtual 40, 3) := by decide +kernel
theorem dL_law_344 : decode cL_law 344 = .ok (.aload_n 2, 1) := by decide +kernel
theorem dL_law_345 : decode cL_law 345 = .ok (.aload_n 0, 1) := by decide +kernel
theorem dL_law_346 : decode cL_law 346 = .ok (.iload_n 3, 1) := by decide +kernel
theorem dL_law_347 : decode cL_law 347 = .ok (.iconst 1, 1) := by decide +kernel
theorem dL_law_348 : decode cL_law 348 = .ok (.iadd, 1) := by decide +kernel
theorem dL_law_349 : decode cL_law 349 = .ok (.iaload, 1) := by decide +kernel
theorem dL_law_350 : decode cL_law 350 = .ok (.aload_n 0, 1) := by decide +kernel
theorem dL_law_351 : decode cL_law 351 = .ok (.iload_n 3, 1) := by decide +kernel
theorem dL_law_352 : decode cL_law 352 = .ok (.iconst 2, 1) := by decide +kernel
theorem dL_law_353 : decode cL_law 353 = .ok (.iadd, 1) := by decide +kernel
theorem dL_law_354 : decode cL_law 354 = .ok (.iaload, 1) := by decide +kernel
theorem dL_law_355 : decode cL_law 355 = .ok (.invokevirtual 43, 3) := by decide +kernel
theorem dL_law_358 : decode cL_law 358 = .ok (.if_icmp .eq 463, 3) := by decide +kernel
theorem dL_law_361 : decode cL_law 361 = .ok (.iconst 0, 1) := by decide +kernel
theorem dL_law_362 : decode cL_law 362 = .ok (.ireturn, 1) := by decide +kernel
theorem dL_law_363 : decode cL_law 363 = .ok (.aload_n 1, 1) := by decide +kernel
theorem dL_law_364 : decode cL_law 364 = .ok (.aload_n 0, 1) := by decide +kernel
theorem dL_law_365 : decode cL_law 365 = .ok (.iload_n 3, 1) := by decide +kernel
theorem dL_law_366 : decode cL_law 366 = .ok (.iconst 1, 1) := by decide +kernel
theorem dL_law_367 : decode cL_law 367 = .ok (.iadd, 1) := by decide +kernel
theorem dL_law_368 : decode cL_law 368 = .ok (.iaload, 1) := by decide +kernel
theorem dL_law_369 : decode cL_law 369 = .ok (.aload_n 0, 1) := by decide +kernel
theorem dL_law_370 : decode cL_law 370 = .ok (.iload_n 3, 1) := by decide +kernel
theorem dL_law_371 : decode cL_law 371 = .ok (.iconst 2, 1) := by decide +kernel
theorem dL_law_372 : decode cL_law 372 = .ok (.iadd, 1) := by decide +kernel
theorem dL_law_373 : decode cL_law 373 = .ok (.iaload, 1) := by decide +kernel
theorem dL_law_374 : decode cL_law 374 = .ok (.ifCond .eq 7, 3) := by decide +kernel
theorem dL_law_377 : decode cL_law 377 = .ok (.iconst 1, 1) := by decide +kernel
theorem dL_law_378 : decode cL_law 378 = .ok (.goto 4, 3) := by decide +kernel
theorem dL_law_381 : decode cL_law 381 = .ok (.iconst 0, 1) := by decide +kernel
theorem dL_law_382 : decode cL_law 382 = .ok (.invokevirtual 44, 3) := by decide +kernel
theorem dL_law_385 : decode cL_law 385 = .ok (.aload_n 2, 1) := by decide +kernel
theorem dL_law_386 : decode cL_law 386 = .ok (.aload_n 0, 1) := by decide +kernel
theorem dL_law_387 : decode cL_law 387 = .ok (.iload_n 3, 1) := by decide +kernel
theorem dL_law_388 : decode cL_law 388 = .ok (.iconst 1, 1) := by decide +kernel
theorem dL_law_389 : decode cL_law 389 = .ok (.iadd, 1) := by decide +kernel
theorem dL_law_390 : decode cL_law 390 = .ok (.iaload, 1) := by decide +kernel
theorem dL_law_391 : decode cL_law 391 = .ok (.aload_n 0, 1) := by decide +kernel
theorem dL_law_392 : decode cL_law 392 = .ok (.iload_n 3, 1) := by decide +kernel
theorem dL_law_393 : decode cL_law 393 = .ok (.iconst 2, 1) := by decide +kernel
theorem dL_law_394 : decode cL_law 394 = .ok (.iadd, 1) := by decide +kernel
theorem dL_law_395 : decode cL_law 395 = .ok (.iaload, 1) := by decide +kernel
theorem dL_law_396 : decode cL_law 396 = .ok (.ifCond .eq 7, 3) := by decide +kernel
theorem dL_law_399 : decode cL_law 399 = .ok (.iconst 1, 1) := by decide +kernel
theorem dL_law_400 : decode cL_law 400 = .ok (.goto 4, 3) := by decide +kernel
theorem dL_law_403 : decode cL_law 403 = .ok (.iconst 0, 1) := by decide +kernel
theorem dL_law_404 : decode cL_law 404 = .ok (.invokevirtual 48, 3) := by decide +kernel
theorem dL_law_407 : decode cL_law 407 = .ok (.if_icmp .eq 414, 3) := by decide +kernel
theorem dL_law_410 : decode cL_law 410 = .ok (.iconst 0, 1) := by decide +kernel
theorem dL_law_411 : decode cL_law 411 = .ok (.ireturn, 1) := by decide +kernel
theorem dL_law_412 : decode cL_law 412 = .ok (.aload_n 1, 1) := by decide +kernel
theorem dL_law_413 : decode cL_law 413 = .ok (.aload_n 0, 1) := by decide +kernel
theorem dL_law_414 : decode cL_law 414 = .ok (.iload_n 3, 1) := by decide +kernel
theorem dL_law_415 : decode cL_law 415 = .ok (.iconst 1, 1) := by decide +kernel
theorem dL_law_416 : decode cL_law 416 = .ok (.iadd, 1) := by decide +kernel
theorem dL_law_417 : decode cL_law 417 = .ok (.iaload, 1) := by decide +kernel
theorem dL_law_418 : decode cL_law 418 = .ok (.aload_n 0, 1) := by decide +kernel
theorem dL_law_419 : decode cL_law 419 = .ok (.iload_n 3, 1) := by decide +kernel
theorem dL_law_420 : decode cL_law 420 = .ok (.iconst 2, 1) := by decide +kernel
theorem dL_law_421 : decode cL_law 421 = .ok (.iadd, 1) := by decide +kernel
theorem dL_law_422 : decode cL_law 422 = .ok (.iaload, 1) := by decide +kernel
theorem dL_law_423 : decode cL_law 423 = .ok (.invokevirtual 49, 3) := by decide +kernel
theorem dL_law_426 : decode cL_law 426 = .ok (.aload_n 2, 1) := by decide +kernel
theorem dL_law_427 : decode cL_law 427 = .ok (.aload_n 0, 1) := by decide +kernel
theorem dL_law_428 : decode cL_law 428 = .ok (.iload_n 3, 1) := by decide +kernel
theorem dL_law_429 : decode cL_law 429 = .ok (.iconst 1, 1) := by decide +kernel
theorem dL_law_430 : decode cL_law 430 = .ok (.iadd, 1) := by decide +kernel
theorem dL_law_431 : decode cL_law 431 = .ok (.iaload, 1) := by decide +kernel
theorem dL_law_432 : decode cL_law 432 = .ok (.aload_n 0, 1) := by decide +kernel
theorem dL_law_433 : decode cL_law 433 = .ok (.iload_n 3, 1) := by decide +kernel
theorem dL_law_434 : decode cL_law 434 = .ok (.iconst 2, 1) := by decide +kernel
theorem dL_law_435 : decode cL_law 435 = .ok (.iadd, 1) := by decide +kernel
theorem dL_law_436 : decode cL_law 436 = .ok (.iaload, 1) := by decide +kernel
theorem dL_law_437 : decode cL_law 437 = .ok (.invokevirtual 52, 3) := by decide +kernel
theorem dL_law_440 : decode cL_law 440 = .ok (.if_icmp .eq 381, 3) := by decide +kernel
theorem dL_law_443 : decode cL_law 443 = .ok (.iconst 0, 1) := by decide +kernel
theorem dL_law_444 : decode cL_law 444 = .ok (.ireturn, 1) := by decide +kernel
theorem dL_law_445 : decode cL_law 445 = .ok (.aload_n 1, 1) := by decide +kernel
theorem dL_law_446 : decode cL_law 446 = .ok (.aload_n 0, 1) := by decide +kernel
theorem dL_law_447 : decode cL_law 447 = .ok (.iload_n 3, 1) := by decide +kernel
theorem dL_law_448 : decode cL_law 448 = .ok (.iconst 1, 1) := by decide +kernel
theorem dL_law_449 : decode cL_law 449 = .ok (.iadd, 1) := by decide +kernel
theorem dL_law_450 : decode cL_law 450 = .ok (.iaload, 1) := by decide +kernel
theorem dL_law_451 : decode cL_law 451 = .ok (.invokevirtual 53, 3) := by decide +kernel
theorem dL_law_454 : decode cL_law 454 = .ok (.aload_n 2, 1) := by decide +kernel
theorem dL_law_455 : decode cL_law 455 = .ok (.aload_n 0, 1) := by decide +kernel
theorem dL_law_456 : decode cL_law 456 = .ok (.iload_n 3, 1) := by decide +kernel
theorem dL_law_457 : decode cL_law 457 = .ok (.iconst 1, 1) := by decide +kernel
theorem dL_law_458 : decode cL_law 458 = .ok (.iadd, 1) := by decide +kernel
theorem dL_law_459 : decode cL_law 459 = .ok (.iaload, 1) := by decide +kernel
theorem dL_law_460 : decode cL_law 460 = .ok (.invokevirtual 57, 3) := by decide +kernel
theorem dL_law_463 : decode cL_law 463 = .ok (.if_icmp .eq 358, 3) := by decide +kernel
theorem dL_law_466 : decode cL_law 466 = .ok (.iconst 0, 1) := by decide +kernel
theorem dL_law_467 : decode cL_law 467 = .ok (.ireturn, 1) := by decide +kernel
theorem dL_law_468 : decode cL_law 468 = .ok (.aload_n 1, 1) := by decide +kernel
theorem dL_law_469 : decode cL_law 469 = .ok (.invokevirtual 58, 3) := by decide +kernel
theorem dL_law_472 : decode cL_law 472 = .ok (.aload_n 2, 1) := by decide +kernel
theorem dL_law_473 : decode cL_law 473 = .ok (.invokevirtual 61, 3) := by decide +kernel
theorem dL_law_476 : decode cL_law 476 = .ok (.if_icmp .eq 345, 3) := by decide +kernel
theorem dL_law_479 : decode cL_law 479 = .ok (.iconst 0, 1) := by decide +kernel
theorem dL_law_480 : decode cL_law 480 = .ok (.ireturn, 1) := by decide +kernel
theorem dL_law_481 : decode cL_law 481 = .ok (.aload_n 1, 1) := by decide +kernel
theorem dL_law_482 : decode cL_law 482 = .ok (.aload_n 0, 1) := by decide +kernel
theorem dL_law_483 : decode cL_law 483 = .ok (.iload_n 3, 1) := by decide +kernel
theorem dL_law_484 : decode cL_law 484 = .ok (.iconst 1, 1) := by decide +kernel
theorem dL_law_485 : decode cL_law 485 = .ok (.iadd, 1) := by decide +kernel
theorem dL_law_486 : decode cL_law 486 = .ok (.iaload, 1) := by decide +kernel
theorem dL_law_487 : decode cL_law 487 = .ok (.aload_n 0, 1) := by decide +kernel
theorem dL_law_488 : decode cL_law 488 = .ok (.iload_n 3, 1) := by decide +kernel
theorem dL_law_489 : decode cL_law 489 = .ok (.iconst 2, 1) := by decide +kernel
theorem dL_law_490 : decode cL_law 490 = .ok (.iadd, 1) := by decide +kernel
theorem dL_law_491 : decode cL_law 491 = .ok (.iaload, 1) := by decide +kernel
theorem dL_law_492 : decode cL_law 492 = .ok (.aload_n 0, 1) := by decide +kernel
theorem dL_law_493 : decode cL_law 493 = .ok (.iload_n 3, 1) := by decide +kernel
theorem dL_law_494 : decode cL_law 494 = .ok (.iconst 3, 1) := by decide +kernel
theorem dL_law_495 : decode cL_law 495 = .ok (.iadd, 1) := by decide +kernel
theorem dL_law_496 : decode cL_law 496 = .ok (.iaload, 1) := by decide +kernel
theorem dL_law_497 : decode cL_law 497 = .ok (.invokevirtual 62, 3) := by decide +kernel
theorem dL_law_500 : decode cL_law 500 = .ok (.aload_n 2, 1) := by decide +kernel
theorem dL_law_501 : decode cL_law 501 = .ok (.aload_n 0, 1) := by decide +kernel
theorem dL_law_502 : decode cL_law 502 = .ok (.iload_n 3, 1) := by decide +kernel
theorem dL_law_503 : decode cL_law 503 = .ok (.iconst 1, 1) := by decide +kernel
theorem dL_law_504 : decode cL_law 504 = .ok (.iadd, 1) := by decide +kernel
theorem dL_law_505 : decode cL_law 505 = .ok (.iaload, 1) := by decide +kernel
theorem dL_law_506 : decode cL_law 506 = .ok (.aload_n 0, 1) := by decide +kernel
theorem dL_law_507 : decode cL_law 507 = .ok (.iload_n 3, 1) := by decide +kernel
theorem dL_law_508 : decode cL_law 508 = .ok (.iconst 2, 1) := by decide +kernel
theorem dL_law_509 : decode cL_law 509 = .ok (.iadd, 1) := by decide +kernel
theorem dL_law_510 : decode cL_law 510 = .ok (.iaload, 1) := by decide +kernel
theorem dL_law_511 : decode cL_law 511 = .ok (.aload_n 0, 1) := by decide +kernel
theorem dL_law_512 : decode cL_law 512 = .ok (.iload_n 3, 1) := by decide +kernel
theorem dL_law_513 : decode cL_law 513 = .ok (.iconst 3, 1) := by decide +kernel
theorem dL_law_514 : decode cL_law 514 = .ok (.iadd, 1) := by decide +kernel
theorem dL_law_515 : decode cL_law 515 = .ok (.iaload, 1) := by decide +kernel
theorem dL_law_516 : decode cL_law 516 = .ok (.invokevirtual 66, 3) := by decide +kernel
theorem dL_law_519 : decode cL_law 519 = .ok (.if_icmp .eq 302, 3) := by decide +kernel
theorem dL_law_522 : decode cL_law 522 = .ok (.iconst 0, 1) := by decide +kernel
theorem dL_law_523 : decode cL_law 523 = .ok (.ireturn, 1) := by decide +kernel
theorem dL_law_524 : decode cL_law 524 = .ok (.aload_n 1, 1) := by decide +kernel
theorem dL_law_525 : decode cL_law 525 = .ok (.aload_n 0, 1) := by decide +kernel
theorem dL_law_526 : decode cL_law 526 = .ok (.iload_n 3, 1) := by decide +kernel
theorem dL_law_527 : decode cL_law 527 = .ok (.iconst 1, 1) := by decide +kernel
theorem dL_law_528 : decode cL_law 528 = .ok (.iadd, 1) := by decide +kernel
theorem dL_law_529 : decode cL_law 529 = .ok (.iaload, 1) := by decide +kernel
theorem dL_law_530 : decode cL_law 530 = .ok (.aload_n 0, 1) := by decide +kernel
theorem dL_law_531 : decode cL_law 531 = .ok (.iload_n 3, 1) := by decide +kernel
theorem dL_law_532 : decode cL_law 532 = .ok (.iconst 2, 1) := by decide +kernel
theorem dL_law_533 : decode cL_law 533 = .ok (.iadd, 1) := by decide +kernel
theorem dL_law_534 : decode cL_law 534 = .ok (.iaload, 1) := by decide +kernel
theorem dL_law_535 : decode cL_law 535 = .ok (.aload_n 0, 1) := by decide +kernel
theorem dL_law_536 : decode cL_law 536 = .ok (.iload_n 3, 1) := by decide +kernel
theorem dL_law_537 : decode cL_law 537 = .ok (.iconst 3, 1) := by decide +kernel
theorem dL_law_538 : decode cL_law 538 = .ok (.iadd, 1) := by decide +kernel
theorem dL_law_539 : decode cL_law 539 = .ok (.iaload, 1) := by decide +kernel
theorem dL_law_540 : decode cL_law 540 = .ok (.invokevirtual 67, 3) := by decide +kernel
theorem dL_law_543 : decode cL_law 543 = .ok (.aload_n 2, 1) := by decide +kernel
theorem dL_law_544 : decode cL_law 544 = .ok (.aload_n 0, 1) := by decide +kernel
theorem dL_law_545 : decode cL_law 545 = .ok (.iload_n 3, 1) := by decide +kernel
theorem dL_law_546 : decode cL_law 546 = .ok (.iconst 1, 1) := by decide +kernel
theorem dL_law_547 : decode cL_law 547 = .ok (.iadd, 1) := by decide +kernel
theorem dL_law_548 : decode cL_law 548 = .ok (.iaload, 1) := by decide +kernel
theorem dL_law_549 : decode cL_law 549 = .ok (.aload_n 0, 1) := by decide +kernel
theorem dL_law_550 : decode cL_law 550 = .ok (.iload_n 3, 1) := by decide +kernel
theorem dL_law_551 : decode cL_law 551 = .ok (.iconst 2, 1) := by decide +kernel
theorem dL_law_552 : decode cL_law 552 = .ok (.iadd, 1) := by decide +kernel
theorem dL_law_553 : decode cL_law 553 = .ok (.iaload, 1) := by decide +kernel
theorem dL_law_554 : decode cL_law 554 = .ok (.aload_n 0, 1) := by decide +kernel
theorem dL_law_555 : decode cL_law 555 = .ok (.iload_n 3, 1) := by decide +kernel
theorem dL_law_556 : decode cL_law 556 = .ok (.iconst 3, 1) := by decide +kernel
theorem dL_law_557 : decode cL_law 557 = .ok (.iadd, 1) := by decide +kernel
theorem dL_law_558 : decode cL_law 558 = .ok (.iaload, 1) := by decide +kernel
theorem dL_law_559 : decode cL_law 559 = .ok (.invokevirtual 70, 3) := by decide +kernel
theorem dL_law_562 : decode cL_law 562 = .ok (.if_icmp .eq 259, 3) := by decide +kernel
theorem dL_law_565 : decode cL_law 565 = .ok (.iconst 0, 1) := by decide +kernel
theorem dL_law_566 : decode cL_law 566 = .ok (.ireturn, 1) := by decide +kernel
theorem dL_law_567 : decode cL_law 567 = .ok (.aload_n 1, 1) := by decide +kernel
theorem dL_law_568 : decode cL_law 568 = .ok (.aload_n 0, 1) := by decide +kernel
theorem dL_law_569 : decode cL_law 569 = .ok (.iload_n 3, 1) := by decide +kernel
theorem dL_law_570 : decode cL_law 570 = .ok (.iconst 1, 1) := by decide +kernel
theorem dL_law_571 : decode cL_law 571 = .ok (.iadd, 1) := by decide +kernel
theorem dL_law_572 : decode cL_law 572 = .ok (.iaload, 1) := by decide +kernel
theorem dL_law_573 : decode cL_law 573 = .ok (.aload_n 0, 1) := by decide +kernel
theorem dL_law_574 : decode cL_law 574 = .ok (.iload_n 3, 1) := by decide +kernel
theorem dL_law_575 : decode cL_law 575 = .ok (.iconst 2, 1) := by decide +kernel
theorem dL_law_576 : decode cL_law 576 = .ok (.iadd, 1) := by decide +kernel
theorem dL_law_577 : decode cL_law 577 = .ok (.iaload, 1) := by decide +kernel
theorem dL_law_578 : decode cL_law 578 = .ok (.aload_n 0, 1) := by decide +kernel
theorem dL_law_579 : decode cL_law 579 = .ok (.iload_n 3, 1) := by decide +kernel
theorem dL_law_580 : decode cL_law 580 = .ok (.iconst 3, 1) := by decide +kernel
theorem dL_law_581 : decode cL_law 581 = .ok (.iadd, 1) := by decide +kernel
theorem dL_law_582 : decode cL_law 582 = .ok (.iaload, 1) := by decide +kernel
theorem dL_law_583 : decode cL_law 583 = .ok (.invokevirtual 71, 3) := by decide +kernel
theorem dL_law_586 : decode cL_law 586 = .ok (.aload_n 2, 1) := by decide +kernel
theorem dL_law_587 : decode cL_law 587 = .ok (.aload_n 0, 1) := by decide +kernel
theorem dL_law_588 : decode cL_law 588 = .ok (.iload_n 3, 1) := by decide +kernel
theorem dL_law_589 : decode cL_law 589 = .ok (.iconst 1, 1) := by decide +kernel
theorem dL_law_590 : decode cL_law 590 = .ok (.iadd, 1) := by decide +kernel
theorem dL_law_591 : decode cL_law 591 = .ok (.iaload, 1) := by decide +kernel
theorem dL_law_592 : decode cL_law 592 = .ok (.aload_n 0, 1) := by decide +kernel
theorem dL_law_593 : decode cL_law 593 = .ok (.iload_n 3, 1) := by decide +kernel
theorem dL_law_594 : decode cL_law 594 = .ok (.iconst 2, 1) := by decide +kernel
theorem dL_law_595 : decode cL_law 595 = .ok (.iadd, 1) := by decide +kernel
theorem dL_law_596 : decode cL_law 596 = .ok (.iaload, 1) := by decide +kernel
theorem dL_law_597 : decode cL_law 597 = .ok (.aload_n 0, 1) := by decide +kernel
theorem dL_law_598 : decode cL_law 598 = .ok (.iload_n 3, 1) := by decide +kernel
theorem dL_law_599 : decode cL_law 599 = .ok (.iconst 3, 1) := by decide +kernel
theorem dL_law_600 : decode cL_law 600 = .ok (.iadd, 1) := by decide +kernel
theorem dL_law_601 : decode cL_law 601 = .ok (.iaload, 1) := by decide +kernel
theorem dL_law_602 : decode cL_law 602 = .ok (.invokevirtual 74, 3) := by decide +kernel
theorem dL_law_605 : decode cL_law 605 = .ok (.if_icmp .eq 216, 3) := by decide +kernel
theorem dL_law_608 : decode cL_law 608 = .ok (.iconst 0, 1) := by decide +kernel
theorem dL_law_609 : decode cL_law 609 = .ok (.ireturn, 1) := by decide +kernel
theorem dL_law_610 : decode cL_law 610 = .ok (.aload_n 1, 1) := by decide +kernel
theorem dL_law_611 : decode cL_law 611 = .ok (.aload_n 0, 1) := by decide +kernel
theorem dL_law_612 : decode cL_law 612 = .ok (.iload_n 3, 1) := by decide +kernel
theorem dL_law_613 : decode cL_law 613 = .ok (.iconst 1, 1) := by decide +kernel
theorem dL_law_614 : decode cL_law 614 = .ok (.iadd, 1) := by decide +kernel
theorem dL_law_615 : decode cL_law 615 = .ok (.iaload, 1) := by decide +kernel
theorem dL_law_616 : decode cL_law 616 = .ok (.aload_n 0, 1) := by decide +kernel
theorem dL_law_617 : decode cL_law 617 = .ok (.iload_n 3, 1) := by decide +kernel
theorem dL_law_618 : decode cL_law 618 = .ok (.iconst 2, 1) := by decide +kernel
theorem dL_law_619 : decode cL_law 619 = .ok (.iadd, 1) := by decide +kernel
theorem dL_law_620 : decode cL_law 620 = .ok (.iaload, 1) := by decide +kernel
theorem dL_law_621 : decode cL_law 621 = .ok (.invokevirtual 75, 3) := by decide +kernel
theorem dL_law_624 : decode cL_law 624 = .ok (.aload_n 2, 1) := by decide +kernel
theorem dL_law_625 : decode cL_law 625 = .ok (.aload_n 0, 1) := by decide +kernel
theorem dL_law_626 : decode cL_law 626 = .ok (.iload_n 3, 1) := by decide +kernel
theorem dL_law_627 : decode cL_law 627 = .ok (.iconst 1, 1) := by decide +kernel
theorem dL_law_628 : decode cL_law 628 = .ok (.iadd, 1) := by decide +kernel
theorem dL_law_629 : decode cL_law 629 = .ok (.iaload, 1) := by decide +kernel
theorem dL_law_630 : decode cL_law 630 = .ok (.aload_n 0, 1) := by decide +kernel
theorem dL_law_631 : decode cL_law 631 = .ok (.iload_n 3, 1) := by decide +kernel
theorem dL_law_632 : decode cL_law 632 = .ok (.iconst 2, 1) := by decide +kernel
theorem dL_law_633 : decode cL_law 633 = .ok (.iadd, 1) := by decide +kernel
theorem dL_law_634 : decode cL_law 634 = .ok (.iaload, 1) := by decide +kernel
theorem dL_law_635 : decode cL_law 635 = .ok (.invokevirtual 78, 3) := by decide +kernel
theorem dL_law_638 : decode cL_law 638 = .ok (.if_icmp .eq 183, 3) := by decide +kernel
theorem dL_law_641 : decode cL_law 641 = .ok (.iconst 0, 1) := by decide +kernel
theorem dL_law_642 : decode cL_law 642 = .ok (.ireturn, 1) := by decide +kernel
theorem dL_law_643 : decode cL_law 643 = .ok (.aload_n 1, 1) := by decide +kernel
theorem dL_law_644 : decode cL_law 644 = .ok (.aload_n 0, 1) := by decide +kernel
theorem dL_law_645 : decode cL_law 645 = .ok (.iload_n 3, 1) := by decide +kernel
theorem dL_law_646 : decode cL_law 646 = .ok (.iconst 1, 1) := by decide +kernel
theorem dL_law_647 : decode cL_law 647 = .ok (.iadd, 1) := by decide +kernel
theorem dL_law_648 : decode cL_law 648 = .ok (.iaload, 1) := by decide +kernel
theorem dL_law_649 : decode cL_law 649 = .ok (.aload_n 0, 1) := by decide +kernel
theorem dL_law_650 : decode cL_law 650 = .ok (.iload_n 3, 1) := by decide +kernel
theorem dL_law_651 : decode cL_law 651 = .ok (.iconst 2, 1) := by decide +kernel
theorem dL_law_652 : decode cL_law 652 = .ok (.iadd, 1) := by decide +kernel
theorem dL_law_653 : decode cL_law 653 = .ok (.iaload, 1) := by decide +kernel
theorem dL_law_654 : decode cL_law 654 = .ok (.invokevirtual 79, 3) := by decide +kernel
theorem dL_law_657 : decode cL_law 657 = .ok (.aload_n 2, 1) := by decide +kernel
theorem dL_law_658 : decode cL_law 658 = .ok (.aload_n 0, 1) := by decide +kernel
theorem dL_law_659 : decode cL_law 659 = .ok (.iload_n 3, 1) := by decide +kernel
theorem dL_law_660 : decode cL_law 660 = .ok (.iconst 1, 1) := by decide +kernel
theorem dL_law_661 : decode cL_law 661 = .ok (.iadd, 1) := by decide +kernel
theorem dL_law_662 : decode cL_law 662 = .ok (.iaload, 1) := by decide +kernel
theorem dL_law_663 : decode cL_law 663 = .ok (.aload_n 0, 1) := by decide +kernel
theorem dL_law_664 : decode cL_law 664 = .ok (.iload_n 3, 1) := by decide +kernel
theorem dL_law_665 : decode cL_law 665 = .ok (.iconst 2, 1) := by decide +kernel
theorem dL_law_666 : decode cL_law 666 = .ok (.iadd, 1) := by decide +kernel
theorem dL_law_667 : decode cL_law 667 = .ok (.iaload, 1) := by decide +kernel
theorem dL_law_668 : decode cL_law 668 = .ok (.invokevirtual 82, 3) := by decide +kernel
theorem dL_law_671 : decode cL_law 671 = .ok (.if_icmp .eq 150, 3) := by decide +kernel
theorem dL_law_674 : decode cL_law 674 = .ok (.iconst 0, 1) := by decide +kernel
theorem dL_law_675 : decode cL_law 675 = .ok (.ireturn, 1) := by decide +kernel
theorem dL_law_676 : decode cL_law 676 = .ok (.aload_n 1, 1) := by decide +kernel
theorem dL_law_677 : decode cL_law 677 = .ok (.invokevirtual 83, 3) := by decide +kernel
theorem dL_law_680 : decode cL_law 680 = .ok (.aload_n 2, 1) := by decide +kernel
theorem dL_law_681 : decode cL_law 681 = .ok (.invokevirtual 86, 3) := by decide +kernel
theorem dL_law_684 : decode cL_law 684 = .ok (.if_icmp .eq 137, 3) := by decide +kernel
theorem dL_law_687 : decode cL_law 687 = .ok (.iconst 0, 1) := by decide +kernel
theorem dL_law_688 : decode cL_law 688 = .ok (.ireturn, 1) := by decide +kernel
theorem dL_law_689 : decode cL_law 689 = .ok (.aload_n 1, 1) := by decide +kernel
theorem dL_law_690 : decode cL_law 690 = .ok (.aload_n 0, 1) := by decide +kernel
theorem dL_law_691 : decode cL_law 691 = .ok (.iload_n 3, 1) := by decide +kernel
theorem dL_law_692 : decode cL_law 692 = .ok (.iconst 1, 1) := by decide +kernel
theorem dL_law_693 : decode cL_law 693 = .ok (.iadd, 1) := by decide +kernel
theorem dL_law_694 : decode cL_law 694 = .ok (.iaload, 1) := by decide +kernel
theorem dL_law_695 : decode cL_law 695 = .ok (.aload_n 0, 1) := by decide +kernel
theorem dL_law_696 : decode cL_law 696 = .ok (.iload_n 3, 1) := by decide +kernel
theorem dL_law_697 : decode cL_law 697 = .ok (.iconst 2, 1) := by decide +kernel
theorem dL_law_698 : decode cL_law 698 = .ok (.iadd, 1) := by decide +kernel
theorem dL_law_699 : decode cL_law 699 = .ok (.iaload, 1) := by decide +kernel
theorem dL_law_700 : decode cL_law 700 = .ok (.invokevirtual 87, 3) := by decide +kernel
theorem dL_law_703 : decode cL_law 703 = .ok (.aload_n 2, 1) := by decide +kernel
theorem dL_law_704 : decode cL_law 704 = .ok (.aload_n 0, 1) := by decide +kernel
theorem dL_law_705 : decode cL_law 705 = .ok (.iload_n 3, 1) := by decide +kernel
theorem dL_law_706 : decode cL_law 706 = .ok (.iconst 1, 1) := by decide +kernel
theorem dL_law_707 : decode cL_law 707 = .ok (.iadd, 1) := by decide +kernel
theorem dL_law_708 : decode cL_law 708 = .ok (.iaload, 1) := by decide +kernel
theorem dL_law_709 : decode cL_law 709 = .ok (.aload_n 0, 1) := by decide +kernel
theorem dL_law_710 : decode cL_law 710 = .ok (.iload_n 3, 1) := by decide +kernel
theorem dL_law_711 : decode cL_law 711 = .ok (.iconst 2, 1) := by decide +kernel
theorem dL_law_712 : decode cL_law 712 = .ok (.iadd, 1) := by decide +kernel
theorem dL_law_713 : decode cL_law 713 = .ok (.iaload, 1) := by decide +kernel
theorem dL_law_714 : decode cL_law 714 = .ok (.invokevirtual 90, 3) := by decide +kernel
theorem dL_law_717 : decode cL_law 717 = .ok (.if_icmp .eq 104, 3) := by decide +kernel
theorem dL_law_720 : decode cL_law 720 = .ok (.iconst 0, 1) := by decide +kernel
theorem dL_law_721 : decode cL_law 721 = .ok (.ireturn, 1) := by decide +kernel
theorem dL_law_722 : decode cL_law 722 = .ok (.aload_n 1, 1) := by decide +kernel
theorem dL_law_723 : decode cL_law 723 = .ok (.aload_n 0, 1) := by decide +kernel
theorem dL_law_724 : decode cL_law 724 = .ok (.iload_n 3, 1) := by decide +kernel
theorem dL_law_725 : decode cL_law 725 = .ok (.iconst 1, 1) := by decide +kernel
theorem dL_law_726 : decode cL_law 726 = .ok (.iadd, 1) := by decide +kernel
theorem dL_law_727 : decode cL_law 727 = .ok (.iaload, 1) := by decide +kernel
theorem dL_law_728 : decode cL_law 728 = .ok (.aload_n 0, 1) := by decide +kernel
theorem dL_law_729 : decode cL_law 729 = .ok (.iload_n 3, 1) := by decide +kernel
theorem dL_law_730 : decode cL_law 730 = .ok (.iconst 2, 1) := by decide +kernel
theorem dL_law_731 : decode cL_law 731 = .ok (.iadd, 1) := by decide +kernel
theorem dL_law_732 : decode cL_law 732 = .ok (.iaload, 1) := by decide +kernel
theorem dL_law_733 : decode cL_law 733 = .ok (.invokevirtual 91, 3) := by decide +kernel
theorem dL_law_736 : decode cL_law 736 = .ok (.aload_n 2, 1) := by decide +kernel
theorem dL_law_737 : decode cL_law 737 = .ok (.aload_n 0, 1) := by decide +kernel
theorem dL_law_738 : decode cL_law 738 = .ok (.iload_n 3, 1) := by decide +kernel
theorem dL_law_739 : decode cL_law 739 = .ok (.iconst 1, 1) := by decide +kernel
theorem dL_law_740 : decode cL_law 740 = .ok (.iadd, 1) := by decide +kernel
theorem dL_law_741 : decode cL_law 741 = .ok (.iaload, 1) := by decide +kernel
theorem dL_law_742 : decode cL_law 742 = .ok (.aload_n 0, 1) := by decide +kernel
theorem dL_law_743 : decode cL_law 743 = .ok (.iload_n 3, 1) := by decide +kernel
theorem dL_law_744 : decode cL_law 744 = .ok (.iconst 2, 1) := by decide +kernel
theorem dL_law_745 : decode cL_law 745 = .ok (.iadd, 1) := by decide +kernel
theorem dL_law_746 : decode cL_law 746 = .ok (.iaload, 1) := by decide +kernel
theorem dL_law_747 : decode cL_law 747 = .ok (.invokevirtual 94, 3) := by decide +kernel
theorem dL_law_750 : decode cL_law 750 = .ok (.if_icmp .eq 71, 3) := by decide +kernel
theorem dL_law_753 : decode cL_law 753 = .ok (.iconst 0, 1) := by decide +kernel
theorem dL_law_754 : decode cL_law 754 = .ok (.ireturn, 1) := by decide +kernel
theorem dL_law_755 : decode cL_law 755 = .ok (.aload_n 1, 1) := by decide +kernel
theorem dL_law_756 : decode cL_law 756 = .ok (.aload_n 0, 1) := by decide +kernel
theorem dL_law_757 : decode cL_law 757 = .ok (.iload_n 3, 1) := by decide +kernel
theorem dL_law_758 : decode cL_law 758 = .ok (.iconst 1, 1) := by decide +kernel
theorem dL_law_759 : decode cL_law 759 = .ok (.iadd, 1) := by decide +kernel
theorem dL_law_760 : decode cL_law 760 = .ok (.iaload, 1) := by decide +kernel
theorem dL_law_761 : decode cL_law 761 = .ok (.aload_n 0, 1) := by decide +kernel
theorem dL_law_762 : decode cL_law 762 = .ok (.iload_n 3, 1) := by decide +kernel
theorem dL_law_763 : decode cL_law 763 = .ok (.iconst 2, 1) := by decide +kernel
theorem dL_law_764 : decode cL_law 764 = .ok (.iadd, 1) := by decide +kernel
theorem dL_law_765 : decode cL_law 765 = .ok (.iaload, 1) := by decide +kernel
theorem dL_law_766 : decode cL_law 766 = .ok (.invokevirtual 95, 3) := by decide +kernel
theorem dL_law_769 : decode cL_law 769 = .ok (.aload_n 2, 1) := by decide +kernel
theorem dL_law_770 : decode cL_law 770 = .ok (.aload_n 0, 1) := by decide +kernel
theorem dL_law_771 : decode cL_law 771 = .ok (.iload_n 3, 1) := by decide +kernel
theorem dL_law_772 : decode cL_law 772 = .ok (.iconst 1, 1) := by decide +kernel
theorem dL_law_773 : decode cL_law 773 = .ok (.iadd, 1) := by decide +kernel
theorem dL_law_774 : decode cL_law 774 = .ok (.iaload, 1) := by decide +kernel
theorem dL_law_775 : decode cL_law 775 = .ok (.aload_n 0, 1) := by decide +kernel
theorem dL_law_776 : decode cL_law 776 = .ok (.iload_n 3, 1) := by decide +kernel
theorem dL_law_777 : decode cL_law 777 = .ok (.iconst 2, 1) := by decide +kernel
theorem dL_law_778 : decode cL_law 778 = .ok (.iadd, 1) := by decide +kernel
theorem dL_law_779 : decode cL_law 779 = .ok (.iaload, 1) := by decide +kernel
theorem dL_law_780 : decode cL_law 780 = .ok (.invokevirtual 98, 3) := by decide +kernel
theorem dL_law_783 : decode cL_law 783 = .ok (.if_icmp .eq 38, 3) := by decide +kernel
theorem dL_law_786 : decode cL_law 786 = .ok (.iconst 0, 1) := by decide +kernel
theorem dL_law_787 : decode cL_law 787 = .ok (.ireturn, 1) := by decide +kernel
theorem dL_law_788 : decode cL_law 788 = .ok (.aload_n 1, 1) := by decide +kernel
theorem dL_law_789 : decode cL_law 789 = .ok (.aload_n 0, 1) := by decide +kernel
theorem dL_law_790 : decode cL_law 790 = .ok (.iload_n 3, 1) := by decide +kernel
theorem dL_law_791 : decode cL_law 791 = .ok (.iconst 1, 1) := by decide +kernel
theorem dL_law_792 : decode cL_law 792 = .ok (.iadd, 1) := by decide +kernel
theorem dL_law_793 : decode cL_law 793 = .ok (.iaload, 1) := by decide +kernel
theorem dL_law_794 : decode cL_law 794 = .ok (.aload_n 0, 1) := by decide +kernel
theorem dL_law_795 : decode cL_law 795 = .ok (.iload_n 3, 1) := by decide +kernel
theorem dL_law_796 : decode cL_law 796 = .ok (.iconst 2, 1) := by decide +kernel
theorem dL_law_797 : decode cL_law 797 = .ok (.iadd, 1) := by decide +kernel
theorem dL_law_798 : decode cL_law 798 = .ok (.iaload, 1) := by decide +kernel
theorem dL_law_799 : decode cL_law 799 = .ok (.invokevirtual 99, 3) := by decide +kernel
theorem dL_law_802 : decode cL_law 802 = .ok (.aload_n 2, 1) := by decide +kernel
theorem dL_law_803 : decode cL_law 803 = .ok (.aload_n 0, 1) := by decide +kernel
theorem dL_law_804 : decode cL_law 804 = .ok (.iload_n 3, 1) := by decide +kernel
theorem dL_law_805 : decode cL_law 805 = .ok (.iconst 1, 1) := by decide +kernel
theorem dL_law_806 : decode cL_law 806 = .ok (.iadd, 1) := by decide +kernel
theorem dL_law_807 : decode cL_law 807 = .ok (.iaload, 1) := by decide +kernel
theorem dL_law_808 : decode cL_law 808 = .ok (.aload_n 0, 1) := by decide +kernel
theorem dL_law_809 : decode cL_law 809 = .ok (.iload_n 3, 1) := by decide +kernel
theorem dL_law_810 : decode cL_law 810 = .ok (.iconst 2, 1) := by decide +kernel
theorem dL_law_811 : decode cL_law 811 = .ok (.iadd, 1) := by decide +kernel
theorem dL_law_812 : decode cL_law 812 = .ok (.iaload, 1) := by decide +kernel
theorem dL_law_813 : decode cL_law 813 = .ok (.invokevirtual 102, 3) := by decide +kernel
theorem dL_law_816 : decode cL_law 816 = .ok (.if_icmp .eq 5, 3) := by decide +kernel
theorem dL_law_819 : decode cL_law 819 = .ok (.iconst 0, 1) := by decide +kernel
theorem dL_law_820 : decode cL_law 820 = .ok (.ireturn, 1) := by decide +kernel
theorem dL_law_821 : decode cL_law 821 = .ok (.iinc 3 5, 3) := by decide +kernel
theorem dL_law_824 : decode cL_law 824 = .ok (.goto (-806), 3) := by decide +kernel
theorem dL_law_827 : decode cL_law 827 = .ok (.iconst 1, 1) := by decide +kernel
theorem dL_law_828 : decode cL_law 828 = .ok (.ireturn, 1) := by decide +kernel
end
