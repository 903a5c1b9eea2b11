-- ===== PART A: goes FIRST, ahead of the names: the tables' words, and 'selects' of the private methods out of them =====
/-- a private method of a class that the tables say can be made, by its rows of tables_1 -/
def lw_okq (q : MethodName × Nat) : Prop := (q.1.cls ≠ "java/lang/invoke/MethodHandle" ∧ q.1.cls ≠ "java/lang/invoke/VarHandle") ∧ Cond.instantiable q.1.cls q.2 ∈ tables_1 ∧ Cond.privateMethod q.1 ∈ tables_1 ∧ Cond.instanceMethod q.1 ∈ tables_1
theorem lw_p0 : lw_okq (⟨"SerialPort", "powerOn", "()V"⟩, 18) := ⟨⟨by decide +kernel, by decide +kernel⟩, List.mem_of_getElem? (i := 18) (by decide +kernel), List.mem_of_getElem? (i := 155) (by decide +kernel), List.mem_of_getElem? (i := 156) (by decide +kernel)⟩
theorem lw_p1 : lw_okq (⟨"SerialPort$Receiver", "begin", "(I)V"⟩, 7) := ⟨⟨by decide +kernel, by decide +kernel⟩, List.mem_of_getElem? (i := 78) (by decide +kernel), List.mem_of_getElem? (i := 175) (by decide +kernel), List.mem_of_getElem? (i := 176) (by decide +kernel)⟩
theorem lw_p2 : lw_okq (⟨"SerialPort", "beat", "()V"⟩, 18) := ⟨⟨by decide +kernel, by decide +kernel⟩, List.mem_of_getElem? (i := 18) (by decide +kernel), List.mem_of_getElem? (i := 257) (by decide +kernel), List.mem_of_getElem? (i := 258) (by decide +kernel)⟩
theorem lw_p3 : lw_okq (⟨"SerialPort", "stepSender", "()Z"⟩, 18) := ⟨⟨by decide +kernel, by decide +kernel⟩, List.mem_of_getElem? (i := 18) (by decide +kernel), List.mem_of_getElem? (i := 261) (by decide +kernel), List.mem_of_getElem? (i := 262) (by decide +kernel)⟩
theorem lw_p4 : lw_okq (⟨"SerialPort$Ring", "cellOf", "(I)I"⟩, 3) := ⟨⟨by decide +kernel, by decide +kernel⟩, List.mem_of_getElem? (i := 39) (by decide +kernel), List.mem_of_getElem? (i := 281) (by decide +kernel), List.mem_of_getElem? (i := 282) (by decide +kernel)⟩
theorem lw_p5 : lw_okq (⟨"SerialPort$LineOut", "fromEnd", "(I)I"⟩, 2) := ⟨⟨by decide +kernel, by decide +kernel⟩, List.mem_of_getElem? (i := 140) (by decide +kernel), List.mem_of_getElem? (i := 337) (by decide +kernel), List.mem_of_getElem? (i := 338) (by decide +kernel)⟩
theorem lw_p6 : lw_okq (⟨"SerialPort$Receiver", "listen", "(ZI)V"⟩, 7) := ⟨⟨by decide +kernel, by decide +kernel⟩, List.mem_of_getElem? (i := 78) (by decide +kernel), List.mem_of_getElem? (i := 375) (by decide +kernel), List.mem_of_getElem? (i := 376) (by decide +kernel)⟩
theorem lw_p7 : lw_okq (⟨"SerialPort$Receiver", "seeStart", "(Z)I"⟩, 7) := ⟨⟨by decide +kernel, by decide +kernel⟩, List.mem_of_getElem? (i := 78) (by decide +kernel), List.mem_of_getElem? (i := 379) (by decide +kernel), List.mem_of_getElem? (i := 380) (by decide +kernel)⟩
theorem lw_p8 : lw_okq (⟨"SerialPort$Receiver", "becomeIdle", "(Z)V"⟩, 7) := ⟨⟨by decide +kernel, by decide +kernel⟩, List.mem_of_getElem? (i := 78) (by decide +kernel), List.mem_of_getElem? (i := 383) (by decide +kernel), List.mem_of_getElem? (i := 384) (by decide +kernel)⟩
theorem lw_p9 : lw_okq (⟨"SerialPort$Receiver", "see", "(Z)I"⟩, 7) := ⟨⟨by decide +kernel, by decide +kernel⟩, List.mem_of_getElem? (i := 78) (by decide +kernel), List.mem_of_getElem? (i := 387) (by decide +kernel), List.mem_of_getElem? (i := 388) (by decide +kernel)⟩
theorem lw_p10 : lw_okq (⟨"SerialPort$Receiver", "faults", "(Z)I"⟩, 7) := ⟨⟨by decide +kernel, by decide +kernel⟩, List.mem_of_getElem? (i := 78) (by decide +kernel), List.mem_of_getElem? (i := 393) (by decide +kernel), List.mem_of_getElem? (i := 394) (by decide +kernel)⟩
theorem lw_p11 : lw_okq (⟨"SerialPort", "addReceived", "(I)V"⟩, 18) := ⟨⟨by decide +kernel, by decide +kernel⟩, List.mem_of_getElem? (i := 18) (by decide +kernel), List.mem_of_getElem? (i := 398) (by decide +kernel), List.mem_of_getElem? (i := 399) (by decide +kernel)⟩
theorem lw_p12 : lw_okq (⟨"SerialPort", "rowRoom", "()I"⟩, 18) := ⟨⟨by decide +kernel, by decide +kernel⟩, List.mem_of_getElem? (i := 18) (by decide +kernel), List.mem_of_getElem? (i := 403) (by decide +kernel), List.mem_of_getElem? (i := 404) (by decide +kernel)⟩
theorem lw_p13 : lw_okq (⟨"SerialPort", "stepLate", "()V"⟩, 18) := ⟨⟨by decide +kernel, by decide +kernel⟩, List.mem_of_getElem? (i := 18) (by decide +kernel), List.mem_of_getElem? (i := 409) (by decide +kernel), List.mem_of_getElem? (i := 410) (by decide +kernel)⟩
theorem lw_p14 : lw_okq (⟨"SerialPort$Modem", "follow", "()V"⟩, 4) := ⟨⟨by decide +kernel, by decide +kernel⟩, List.mem_of_getElem? (i := 106) (by decide +kernel), List.mem_of_getElem? (i := 450) (by decide +kernel), List.mem_of_getElem? (i := 451) (by decide +kernel)⟩
theorem lw_p15 : lw_okq (⟨"SerialPort$Modem", "looped", "()I"⟩, 4) := ⟨⟨by decide +kernel, by decide +kernel⟩, List.mem_of_getElem? (i := 106) (by decide +kernel), List.mem_of_getElem? (i := 455) (by decide +kernel), List.mem_of_getElem? (i := 456) (by decide +kernel)⟩
def lw_privs_1 : List (MethodName × Nat) := [(⟨"SerialPort", "powerOn", "()V"⟩, 18), (⟨"SerialPort$Receiver", "begin", "(I)V"⟩, 7), (⟨"SerialPort", "beat", "()V"⟩, 18), (⟨"SerialPort", "stepSender", "()Z"⟩, 18), (⟨"SerialPort$Ring", "cellOf", "(I)I"⟩, 3), (⟨"SerialPort$LineOut", "fromEnd", "(I)I"⟩, 2), (⟨"SerialPort$Receiver", "listen", "(ZI)V"⟩, 7), (⟨"SerialPort$Receiver", "seeStart", "(Z)I"⟩, 7), (⟨"SerialPort$Receiver", "becomeIdle", "(Z)V"⟩, 7), (⟨"SerialPort$Receiver", "see", "(Z)I"⟩, 7), (⟨"SerialPort$Receiver", "faults", "(Z)I"⟩, 7), (⟨"SerialPort", "addReceived", "(I)V"⟩, 18), (⟨"SerialPort", "rowRoom", "()I"⟩, 18), (⟨"SerialPort", "stepLate", "()V"⟩, 18), (⟨"SerialPort$Modem", "follow", "()V"⟩, 4), (⟨"SerialPort$Modem", "looped", "()I"⟩, 4)]
theorem lw_r1 : ∀ q ∈ lw_privs_1, lw_okq q := List.forall_mem_cons.mpr ⟨lw_p0, List.forall_mem_cons.mpr ⟨lw_p1, List.forall_mem_cons.mpr ⟨lw_p2, List.forall_mem_cons.mpr ⟨lw_p3, List.forall_mem_cons.mpr ⟨lw_p4, List.forall_mem_cons.mpr ⟨lw_p5, List.forall_mem_cons.mpr ⟨lw_p6, List.forall_mem_cons.mpr ⟨lw_p7, List.forall_mem_cons.mpr ⟨lw_p8, List.forall_mem_cons.mpr ⟨lw_p9, List.forall_mem_cons.mpr ⟨lw_p10, List.forall_mem_cons.mpr ⟨lw_p11, List.forall_mem_cons.mpr ⟨lw_p12, List.forall_mem_cons.mpr ⟨lw_p13, List.forall_mem_cons.mpr ⟨lw_p14, List.forall_mem_cons.mpr ⟨lw_p15, fun _ h => absurd h List.not_mem_nil⟩⟩⟩⟩⟩⟩⟩⟩⟩⟩⟩⟩⟩⟩⟩⟩
theorem lw_p16 : lw_okq (⟨"SerialPort", "reason", "()I"⟩, 18) := ⟨⟨by decide +kernel, by decide +kernel⟩, List.mem_of_getElem? (i := 18) (by decide +kernel), List.mem_of_getElem? (i := 467) (by decide +kernel), List.mem_of_getElem? (i := 468) (by decide +kernel)⟩
theorem lw_p17 : lw_okq (⟨"SerialPort", "wants", "(I)Z"⟩, 18) := ⟨⟨by decide +kernel, by decide +kernel⟩, List.mem_of_getElem? (i := 18) (by decide +kernel), List.mem_of_getElem? (i := 471) (by decide +kernel), List.mem_of_getElem? (i := 472) (by decide +kernel)⟩
theorem lw_p18 : lw_okq (⟨"SerialPort", "firstFaults", "()I"⟩, 18) := ⟨⟨by decide +kernel, by decide +kernel⟩, List.mem_of_getElem? (i := 18) (by decide +kernel), List.mem_of_getElem? (i := 475) (by decide +kernel), List.mem_of_getElem? (i := 476) (by decide +kernel)⟩
theorem lw_p19 : lw_okq (⟨"java/lang/Throwable", "fillInStackTrace", "(I)Ljava/lang/Throwable;"⟩, 6) := ⟨⟨by decide +kernel, by decide +kernel⟩, List.mem_of_getElem? (i := 552) (by decide +kernel), List.mem_of_getElem? (i := 550) (by decide +kernel), List.mem_of_getElem? (i := 551) (by decide +kernel)⟩
theorem lw_p20 : lw_okq (⟨"SerialPort", "putRegister", "(II)V"⟩, 18) := ⟨⟨by decide +kernel, by decide +kernel⟩, List.mem_of_getElem? (i := 18) (by decide +kernel), List.mem_of_getElem? (i := 587) (by decide +kernel), List.mem_of_getElem? (i := 588) (by decide +kernel)⟩
theorem lw_p21 : lw_okq (⟨"SerialPort", "putCharacter", "(I)V"⟩, 18) := ⟨⟨by decide +kernel, by decide +kernel⟩, List.mem_of_getElem? (i := 18) (by decide +kernel), List.mem_of_getElem? (i := 591) (by decide +kernel), List.mem_of_getElem? (i := 592) (by decide +kernel)⟩
theorem lw_p22 : lw_okq (⟨"SerialPort", "putWanted", "(I)V"⟩, 18) := ⟨⟨by decide +kernel, by decide +kernel⟩, List.mem_of_getElem? (i := 18) (by decide +kernel), List.mem_of_getElem? (i := 595) (by decide +kernel), List.mem_of_getElem? (i := 596) (by decide +kernel)⟩
theorem lw_p23 : lw_okq (⟨"SerialPort", "putRowControl", "(I)V"⟩, 18) := ⟨⟨by decide +kernel, by decide +kernel⟩, List.mem_of_getElem? (i := 18) (by decide +kernel), List.mem_of_getElem? (i := 599) (by decide +kernel), List.mem_of_getElem? (i := 600) (by decide +kernel)⟩
theorem lw_p24 : lw_okq (⟨"SerialPort", "tellRegister", "(I)I"⟩, 18) := ⟨⟨by decide +kernel, by decide +kernel⟩, List.mem_of_getElem? (i := 18) (by decide +kernel), List.mem_of_getElem? (i := 621) (by decide +kernel), List.mem_of_getElem? (i := 622) (by decide +kernel)⟩
theorem lw_p25 : lw_okq (⟨"SerialPort", "takeCharacter", "()I"⟩, 18) := ⟨⟨by decide +kernel, by decide +kernel⟩, List.mem_of_getElem? (i := 18) (by decide +kernel), List.mem_of_getElem? (i := 625) (by decide +kernel), List.mem_of_getElem? (i := 626) (by decide +kernel)⟩
theorem lw_p26 : lw_okq (⟨"SerialPort", "tellReason", "()I"⟩, 18) := ⟨⟨by decide +kernel, by decide +kernel⟩, List.mem_of_getElem? (i := 18) (by decide +kernel), List.mem_of_getElem? (i := 629) (by decide +kernel), List.mem_of_getElem? (i := 630) (by decide +kernel)⟩
theorem lw_p27 : lw_okq (⟨"SerialPort", "tellLineState", "()I"⟩, 18) := ⟨⟨by decide +kernel, by decide +kernel⟩, List.mem_of_getElem? (i := 18) (by decide +kernel), List.mem_of_getElem? (i := 637) (by decide +kernel), List.mem_of_getElem? (i := 638) (by decide +kernel)⟩
theorem lw_p28 : lw_okq (⟨"SerialPort", "someFault", "()Z"⟩, 18) := ⟨⟨by decide +kernel, by decide +kernel⟩, List.mem_of_getElem? (i := 18) (by decide +kernel), List.mem_of_getElem? (i := 641) (by decide +kernel), List.mem_of_getElem? (i := 642) (by decide +kernel)⟩
theorem lw_p29 : lw_okq (⟨"SerialPortModel", "lines", "()I"⟩, 40) := ⟨⟨by decide +kernel, by decide +kernel⟩, List.mem_of_getElem? (i := 650) (by decide +kernel), List.mem_of_getElem? (i := 791) (by decide +kernel), List.mem_of_getElem? (i := 792) (by decide +kernel)⟩
theorem lw_p30 : lw_okq (⟨"SerialPortModel", "loops", "()Z"⟩, 40) := ⟨⟨by decide +kernel, by decide +kernel⟩, List.mem_of_getElem? (i := 650) (by decide +kernel), List.mem_of_getElem? (i := 795) (by decide +kernel), List.mem_of_getElem? (i := 796) (by decide +kernel)⟩
theorem lw_p31 : lw_okq (⟨"SerialPortModel", "notice", "(I)V"⟩, 40) := ⟨⟨by decide +kernel, by decide +kernel⟩, List.mem_of_getElem? (i := 650) (by decide +kernel), List.mem_of_getElem? (i := 799) (by decide +kernel), List.mem_of_getElem? (i := 800) (by decide +kernel)⟩
def lw_privs_2 : List (MethodName × Nat) := [(⟨"SerialPort", "reason", "()I"⟩, 18), (⟨"SerialPort", "wants", "(I)Z"⟩, 18), (⟨"SerialPort", "firstFaults", "()I"⟩, 18), (⟨"java/lang/Throwable", "fillInStackTrace", "(I)Ljava/lang/Throwable;"⟩, 6), (⟨"SerialPort", "putRegister", "(II)V"⟩, 18), (⟨"SerialPort", "putCharacter", "(I)V"⟩, 18), (⟨"SerialPort", "putWanted", "(I)V"⟩, 18), (⟨"SerialPort", "putRowControl", "(I)V"⟩, 18), (⟨"SerialPort", "tellRegister", "(I)I"⟩, 18), (⟨"SerialPort", "takeCharacter", "()I"⟩, 18), (⟨"SerialPort", "tellReason", "()I"⟩, 18), (⟨"SerialPort", "tellLineState", "()I"⟩, 18), (⟨"SerialPort", "someFault", "()Z"⟩, 18), (⟨"SerialPortModel", "lines", "()I"⟩, 40), (⟨"SerialPortModel", "loops", "()Z"⟩, 40), (⟨"SerialPortModel", "notice", "(I)V"⟩, 40)]
theorem lw_r2 : ∀ q ∈ lw_privs_2, lw_okq q := List.forall_mem_cons.mpr ⟨lw_p16, List.forall_mem_cons.mpr ⟨lw_p17, List.forall_mem_cons.mpr ⟨lw_p18, List.forall_mem_cons.mpr ⟨lw_p19, List.forall_mem_cons.mpr ⟨lw_p20, List.forall_mem_cons.mpr ⟨lw_p21, List.forall_mem_cons.mpr ⟨lw_p22, List.forall_mem_cons.mpr ⟨lw_p23, List.forall_mem_cons.mpr ⟨lw_p24, List.forall_mem_cons.mpr ⟨lw_p25, List.forall_mem_cons.mpr ⟨lw_p26, List.forall_mem_cons.mpr ⟨lw_p27, List.forall_mem_cons.mpr ⟨lw_p28, List.forall_mem_cons.mpr ⟨lw_p29, List.forall_mem_cons.mpr ⟨lw_p30, List.forall_mem_cons.mpr ⟨lw_p31, fun _ h => absurd h List.not_mem_nil⟩⟩⟩⟩⟩⟩⟩⟩⟩⟩⟩⟩⟩⟩⟩⟩
theorem lw_p32 : lw_okq (⟨"SerialPortModel", "dlab", "()Z"⟩, 40) := ⟨⟨by decide +kernel, by decide +kernel⟩, List.mem_of_getElem? (i := 650) (by decide +kernel), List.mem_of_getElem? (i := 807) (by decide +kernel), List.mem_of_getElem? (i := 808) (by decide +kernel)⟩
theorem lw_p33 : lw_okq (⟨"SerialPortModel", "room", "()I"⟩, 40) := ⟨⟨by decide +kernel, by decide +kernel⟩, List.mem_of_getElem? (i := 650) (by decide +kernel), List.mem_of_getElem? (i := 812) (by decide +kernel), List.mem_of_getElem? (i := 813) (by decide +kernel)⟩
theorem lw_p34 : lw_okq (⟨"SerialPortModel", "clearReceived", "()V"⟩, 40) := ⟨⟨by decide +kernel, by decide +kernel⟩, List.mem_of_getElem? (i := 650) (by decide +kernel), List.mem_of_getElem? (i := 816) (by decide +kernel), List.mem_of_getElem? (i := 817) (by decide +kernel)⟩
theorem lw_p35 : lw_okq (⟨"SerialPortModel", "take", "()I"⟩, 40) := ⟨⟨by decide +kernel, by decide +kernel⟩, List.mem_of_getElem? (i := 650) (by decide +kernel), List.mem_of_getElem? (i := 824) (by decide +kernel), List.mem_of_getElem? (i := 825) (by decide +kernel)⟩
theorem lw_p36 : lw_okq (⟨"SerialPortModel", "reason", "()I"⟩, 40) := ⟨⟨by decide +kernel, by decide +kernel⟩, List.mem_of_getElem? (i := 650) (by decide +kernel), List.mem_of_getElem? (i := 828) (by decide +kernel), List.mem_of_getElem? (i := 829) (by decide +kernel)⟩
theorem lw_p37 : lw_okq (⟨"SerialPortModel", "isMarked", "()Z"⟩, 40) := ⟨⟨by decide +kernel, by decide +kernel⟩, List.mem_of_getElem? (i := 650) (by decide +kernel), List.mem_of_getElem? (i := 832) (by decide +kernel), List.mem_of_getElem? (i := 833) (by decide +kernel)⟩
theorem lw_p38 : lw_okq (⟨"SerialPortModel", "line", "()I"⟩, 40) := ⟨⟨by decide +kernel, by decide +kernel⟩, List.mem_of_getElem? (i := 650) (by decide +kernel), List.mem_of_getElem? (i := 836) (by decide +kernel), List.mem_of_getElem? (i := 837) (by decide +kernel)⟩
theorem lw_p39 : lw_okq (⟨"SerialPortModel", "beat", "()V"⟩, 40) := ⟨⟨by decide +kernel, by decide +kernel⟩, List.mem_of_getElem? (i := 650) (by decide +kernel), List.mem_of_getElem? (i := 845) (by decide +kernel), List.mem_of_getElem? (i := 846) (by decide +kernel)⟩
theorem lw_p40 : lw_okq (⟨"SerialPortModel", "send", "()V"⟩, 40) := ⟨⟨by decide +kernel, by decide +kernel⟩, List.mem_of_getElem? (i := 650) (by decide +kernel), List.mem_of_getElem? (i := 849) (by decide +kernel), List.mem_of_getElem? (i := 850) (by decide +kernel)⟩
theorem lw_p41 : lw_okq (⟨"SerialPortModel", "say", "(Z)V"⟩, 40) := ⟨⟨by decide +kernel, by decide +kernel⟩, List.mem_of_getElem? (i := 650) (by decide +kernel), List.mem_of_getElem? (i := 872) (by decide +kernel), List.mem_of_getElem? (i := 873) (by decide +kernel)⟩
theorem lw_p42 : lw_okq (⟨"SerialPortModel", "come", "()V"⟩, 40) := ⟨⟨by decide +kernel, by decide +kernel⟩, List.mem_of_getElem? (i := 650) (by decide +kernel), List.mem_of_getElem? (i := 876) (by decide +kernel), List.mem_of_getElem? (i := 877) (by decide +kernel)⟩
theorem lw_p43 : lw_okq (⟨"SerialPortModel", "receive", "()V"⟩, 40) := ⟨⟨by decide +kernel, by decide +kernel⟩, List.mem_of_getElem? (i := 650) (by decide +kernel), List.mem_of_getElem? (i := 880) (by decide +kernel), List.mem_of_getElem? (i := 881) (by decide +kernel)⟩
theorem lw_p44 : lw_okq (⟨"SerialPortModel", "put", "(II)V"⟩, 40) := ⟨⟨by decide +kernel, by decide +kernel⟩, List.mem_of_getElem? (i := 650) (by decide +kernel), List.mem_of_getElem? (i := 884) (by decide +kernel), List.mem_of_getElem? (i := 885) (by decide +kernel)⟩
def lw_privs_3 : List (MethodName × Nat) := [(⟨"SerialPortModel", "dlab", "()Z"⟩, 40), (⟨"SerialPortModel", "room", "()I"⟩, 40), (⟨"SerialPortModel", "clearReceived", "()V"⟩, 40), (⟨"SerialPortModel", "take", "()I"⟩, 40), (⟨"SerialPortModel", "reason", "()I"⟩, 40), (⟨"SerialPortModel", "isMarked", "()Z"⟩, 40), (⟨"SerialPortModel", "line", "()I"⟩, 40), (⟨"SerialPortModel", "beat", "()V"⟩, 40), (⟨"SerialPortModel", "send", "()V"⟩, 40), (⟨"SerialPortModel", "say", "(Z)V"⟩, 40), (⟨"SerialPortModel", "come", "()V"⟩, 40), (⟨"SerialPortModel", "receive", "()V"⟩, 40), (⟨"SerialPortModel", "put", "(II)V"⟩, 40)]
theorem lw_r3 : ∀ q ∈ lw_privs_3, lw_okq q := List.forall_mem_cons.mpr ⟨lw_p32, List.forall_mem_cons.mpr ⟨lw_p33, List.forall_mem_cons.mpr ⟨lw_p34, List.forall_mem_cons.mpr ⟨lw_p35, List.forall_mem_cons.mpr ⟨lw_p36, List.forall_mem_cons.mpr ⟨lw_p37, List.forall_mem_cons.mpr ⟨lw_p38, List.forall_mem_cons.mpr ⟨lw_p39, List.forall_mem_cons.mpr ⟨lw_p40, List.forall_mem_cons.mpr ⟨lw_p41, List.forall_mem_cons.mpr ⟨lw_p42, List.forall_mem_cons.mpr ⟨lw_p43, List.forall_mem_cons.mpr ⟨lw_p44, fun _ h => absurd h List.not_mem_nil⟩⟩⟩⟩⟩⟩⟩⟩⟩⟩⟩⟩⟩
def lw_privs : List (MethodName × Nat) := lw_privs_1 ++ (lw_privs_2 ++ (lw_privs_3))
def lw_tbl : List Cond := k2_sels lw_privs ++ tables_1
theorem lw_privs_ok : ∀ q ∈ lw_privs, lw_okq q := by
  show ∀ q ∈ lw_privs_1 ++ (lw_privs_2 ++ (lw_privs_3)), lw_okq q
  exact List.forall_mem_append.mpr ⟨lw_r1, List.forall_mem_append.mpr ⟨lw_r2, lw_r3⟩⟩
-- ===== end of PART A; then your names; then what follows =====
/-! ===== BEGIN words of one list among another's, by their places ===== -/
theorem goodIn_r {big : List Cond} (ws : List Cond) (ps : List Nat) (hp : ws = ps.filterMap (fun i => big[i]?)) (h : ws.all goodWord = true) : GoodIn big ws := by
  intro w hw
  have h1 := List.all_eq_true.mp h w hw
  rw [hp] at hw
  obtain ⟨i, -, hi⟩ := List.mem_filterMap.mp hw
  have hm : w ∈ big := by first | exact List.mem_of_getElem? hi | exact List.getElem?_mem hi
  exact ⟨hm, good_of_word h1⟩
theorem goodIn_app {big a b : List Cond} (ha : GoodIn big a) (hb : GoodIn big b) : GoodIn big (a ++ b) := fun w h => (List.mem_append.mp h).elim (ha w) (hb w)
theorem goodIn_ca {big a b : List Cond} {c : Cond} (ha : GoodIn big (c :: a)) (hb : GoodIn big b) : GoodIn big (c :: (a ++ b)) := fun w h => (List.mem_cons.mp h).elim (fun e => ha w (List.mem_cons.mpr (Or.inl e))) (fun h => (List.mem_append.mp h).elim (fun h => ha w (List.mem_cons.mpr (Or.inr h))) (hb w))
theorem goodIn_sub {big ws : List Cond} (hm : ∀ w ∈ ws, w ∈ big) (h : ws.all goodWord = true) : GoodIn big ws := fun w hw => ⟨hm w hw, good_of_word (List.all_eq_true.mp h w hw)⟩
/-! ===== END ===== -/

/-! ===== BEGIN exceptions that leave a method, and their catching by the caller (launches without stack traces) ===== -/
section VXA
/-! The laws vx_back, vx_callV, vx_callS, vx_callSW, vx_throw0, vx_throwS follow proofs of the library, with one case more: JvmDerived/Free/Laws.lean (Back.of_free), Shelf42/LK1.lean (callV, callS), Shelf/KitTraced.lean (throwNew0V, throwNewS). -/
/-- where a method has thrown q: the class by its name, the cell, what was written, the world -/
def vx_T (XC : String → State → State → Prop) (st : State) (q : Addr) (t : State) (mc ms : Nat) (free : Addr → Prop) : Prop :=
  ∃ (E : String) (ce : Cell) (L : List Loc), XC E st t ∧ t.heap[q]? = some ce ∧ ce.vm = .none ∧ st.vm.findClass E = some ce.cls ∧ st.WarmedH t.vm ∧ st.sameButNew ({ t with vm := st.vm } : State) L mc ms ∧ ∀ z ∈ L, free z.base
def vx_Q (Qc : Array Value → State → Outcome → State → Prop) (XC : String → State → State → Prop) (mc ms : Nat) (free : Addr → Prop) : Array Value → State → Outcome → State → Prop := fun a st o t =>
  (Qc a st o t ∧ ∃ L, FrameEnd st o t L mc ms ∧ ∀ q ∈ L, free q.base) ∨ ∃ q, o = .threw q ∧ vx_T XC st q t mc ms free
/-- a callee that returns or throws -/
def vx_Met (l : Launch) (y : MethodName) (ws : List Cond) (rm : Room) (Pc : Array Value → State → Prop) (Qc : Array Value → State → Outcome → State → Prop) (XC : String → State → State → Prop) (mc ms : Nat) (free : Addr → Prop) : Prop :=
  MetFree l y (headSpec ws rm) Pc (fun _ _ _ _ _ => True) (vx_Q Qc XC mc ms free)
def vx_Post (XC : String → State → State → Prop) (mc ms : Nat) (free : Addr → Prop) : Pt → Array Value → Addr → Pt → Prop := fun A a q B =>
  ∃ (g : JFrame) (mk : MethodId) (t : State) (L : List Loc) (E : String) (ce : Cell), B.U.heap = t.heap ∧ B.U.vm = t.vm ∧ XC E (A.U.calling g mk a) t ∧ t.heap[q]? = some ce ∧ ce.vm = .none ∧ A.U.vm.findClass E = some ce.cls ∧ B.locs = A.locs ++ L ∧ (∀ z ∈ L, free z.base) ∧ B.cells = A.cells + mc ∧ B.slots = A.slots + ms
def vx_Back (l : Launch) (R : Room) (p : Program) (e : Env) (below : List Frame) (s : State) (sargs : Array Value) (y : MethodName) (len W9 : Nat)
    (Pre : Pt → Array Value → Prop) (Post : Pt → Array Value → Option Value → Pt → Prop) (PostX : Pt → Array Value → Addr → Pt → Prop) : Prop :=
  ∀ (m : MethodId) (meth : Method) (c : Code) (A : Pt) (g : JFrame) (ig : Instr) (mk : MethodId) (a : Array Value),
    Stand p l e R s m sargs below meth c A.U A.locs A.cells A.slots → g.method = m → g.locals.size = c.maxLocals → decode c.code g.pc = .ok (ig, len) →
    2 * g.monitorRoom + (g.stack.map fun v => v.category).sum ≤ W9 → A.U.methodNamed? y = some mk → Pre A a →
    (∃ (v : Option Value) (B : Pt), Stand p l e R s m sargs below meth c B.U B.locs B.cells B.slots ∧ Post A a v B ∧
      Steps p.tables e below (doInvoke e (A.U.setTop g) [] mk a).1 (B.U.setTop { g with pc := g.pc + len, stack := v.toList ++ g.stack })) ∨
    (∃ (q : Addr) (B : Pt), Stand p l e R s m sargs below meth c B.U B.locs B.cells B.slots ∧ PostX A a q B ∧
      Steps p.tables e below (doInvoke e (A.U.setTop g) [] mk a).1 ((B.U.setTop g).pushFrame (.throwing q)))
section Payer
variable {l : Launch} {R : Room} {p : Program} {e : Env} {below : List Frame} {s : State} {sargs : Array Value} {y : MethodName} {len W9 : Nat}
theorem vx_back {ws : List Cond} {rm : Room} {Pc : Array Value → State → Prop} {Qc : Array Value → State → Outcome → State → Prop} {XC : String → State → State → Prop} {mc ms : Nat} {free : Addr → Prop} {bytes : ByteArray} {maxL : Nat} {ret : Option FieldType}
    (hM : vx_Met l y ws rm Pc Qc XC mc ms free) (hblind : FrameBlind Pc) (hrc : rm.cells = mc) (hrs : rm.slots = ms)
    (hframes : rm.frames + 1 ≤ R.frames) (hlocals : W9 + (maxL + 11) + rm.locals ≤ R.locals)
    (hws : ∀ w ∈ ws, ∀ a' U, s.WarmedH U.vm → w.before a' U = true) (hcode : Cond.code y bytes maxL ret ∈ ws) (hinit : ∀ a' U, s.WarmedH U.vm → (Cond.initialized y.cls).before a' U = true) :
    vx_Back l R p e below s sargs y len W9 (PreOf R mc ms Pc) (PostOf Qc mc ms free) (vx_Post XC mc ms free) := by
  intro m meth c A g ig mk a X hg hsize hdg hW hn hp
  have h1 : (headSpec ws rm).pre.before a A.U = true := atoms_intro fun w hw => hws w hw _ _ X.warmed
  have h2 : (Cond.code y bytes maxL ret).before a A.U = true := hws _ hcode _ _ X.warmed
  have h3 : (Cond.initialized y.cls).before a A.U = true := hinit _ _ X.warmed
  have h4 : A.cells + (headSpec ws rm).room.cells ≤ R.cells := by rw [show (headSpec ws rm).room.cells = mc from hrc]; exact hp.1
  have h5 : A.slots + (headSpec ws rm).room.slots ≤ R.slots := by rw [show (headSpec ws rm).room.slots = ms from hrs]; exact hp.2.1
  have hPc : Pc a (A.U.calling g mk a) := hblind _ _ _ _ hp.2.2
  obtain ⟨U, Ls, c0, s0⟩ := A
  dsimp only [Pt.U, Pt.locs, Pt.cells, Pt.slots] at h1 h2 h3 h4 h5 X hn hPc ⊢
  obtain ⟨methY, cY, hmY, hcY, -, hlY, -, -, -, -⟩ := Cond.code_spec hn h2
  obtain ⟨kY, hkY, -⟩ := className_of_methodNamed hn
  have hinitY : kY.init = .initialized := Cond.initialized_spec (findClass_of_methodNamed hn) hkY h3
  have h : At U g.method c below := by rw [hg]; exact X.here
  have hlocals9 : W9 + (maxL + 11) + (headSpec ws rm).room.locals ≤ R.locals := hlocals
  have happ : (headSpec ws rm).appliesLoose y e.platform (U.calling g mk a) = true :=
    Spec.appliesLoose_calling (g := g) h hdg hn hkY hinitY
      (X.room_calling (g := g) (R' := (headSpec ws rm).room) hsize hmY hcY hframes (by rw [hlY]; omega) h4 h5) h1
  obtain ⟨mid, hmid⟩ := h.above
  have hfr : (U.setTop g).frames = (.java g :: mid) ++ below := by rw [State.frames_setTop' g h.top, hmid]; rfl
  obtain ⟨o, s₂, hsteps, -, hend, hq⟩ := Steps.callFree hM p X.admits X.cas X.clock (acts := []) hfr happ hPc trivial
  have hq' : vx_Q Qc XC mc ms free a (U.calling g mk a) o s₂ := hq
  rw [State.frames_setTop' g h.top] at hend
  obtain ⟨g₀, hg0⟩ := Option.isSome_iff_exists.mp h.top
  obtain ⟨r, hr⟩ := State.topJava?_eq_some.mp hg0
  have hr' : (({ U with heap := s₂.heap, slotsUsed := s₂.slotsUsed } : State).setVm s₂.vm).frames = .java g₀ :: r := hr
  rcases hq' with ⟨hqc, L, hfe, hL⟩ | ⟨q, rfl, E, ce, L, hx, hce, hcv, hcl, hW₂, hsm, hL⟩
  · obtain ⟨⟨v, rfl⟩, hW₂, e2, q2, q3, q4, q5, q6⟩ := id hfe
    have e3 : s₂ = ({ (U.calling g mk a).setFrames s₂.frames with heap := s₂.heap, slotsUsed := s₂.slotsUsed } : State).setVm s₂.vm := by
      have : s₂ = ({ s₂ with vm := (U.calling g mk a).vm } : State).setVm s₂.vm := rfl
      rw [e2] at this
      exact this
    obtain ⟨c₂, i₂, len₂, hc₂, hd₂, hf₂⟩ := hend
    have hW' : U.WarmedH s₂.vm := hW₂
    have hcc : c₂ = c := by
      have h1 : s₂.code? g.method = U.code? g.method := by
        rw [State.code?_eq, State.code?_eq, hW'.alike.method?]
      exact Option.some.inj (hc₂.symm.trans (h1.trans h.code))
    subst hcc
    have hlen : len₂ = len := by rw [hdg] at hd₂; cases hd₂; rfl
    subst hlen
    have hs₂ : s₂ = (({ U with heap := s₂.heap, slotsUsed := s₂.slotsUsed } : State).setVm s₂.vm).setTop { g with pc := g.pc + len₂, stack := v.toList ++ g.stack } := by
      refine e3.trans ?_
      rw [hf₂, State.calling_eq h.top, State.setFrames_setFrames, State.setTop_of_frames _ hr', hr]
      rfl
    have hsame : U.sameButNew ({ U with heap := s₂.heap, slotsUsed := s₂.slotsUsed } : State) L mc ms := by
      refine ⟨?_, q2, q3, q4, q5, q6⟩
      obtain ⟨t, ht, -⟩ := State.frames_cons hr
      show ({ U with heap := s₂.heap, slotsUsed := s₂.slotsUsed } : State) = { U.setFrames U.frames with heap := s₂.heap, slotsUsed := s₂.slotsUsed }
      rw [State.setFrames_self ht]
    subst hg
    refine Or.inl ⟨v, ⟨(({ U with heap := s₂.heap, slotsUsed := s₂.slotsUsed } : State).setVm s₂.vm), Ls ++ L, c0 + mc, s0 + ms⟩,
      ⟨X.admits, X.cas, X.clock, X.frames, X.room, X.hears, X.method, X.code, (X.here.setHeapUsed s₂.heap s₂.slotsUsed).setVm hW'.alike, X.tail, State.WarmedH.trans X.warmed hW', X.limits, X.bytes, X.same.trans (hsame.setVm s.vm)⟩,
      ⟨g, mk, s₂, L, rfl, rfl, hqc, rfl, hL, rfl, rfl⟩, ?_⟩
    show Steps p.tables e below _ ((({ U with heap := s₂.heap, slotsUsed := s₂.slotsUsed } : State).setVm s₂.vm).setTop { g with pc := g.pc + len₂, stack := v.toList ++ g.stack })
    rw [← hs₂]
    exact hsteps
  · obtain ⟨e2, q2, q3, q4, q5, q6⟩ := id hsm
    have e3 : s₂ = ({ (U.calling g mk a).setFrames s₂.frames with heap := s₂.heap, slotsUsed := s₂.slotsUsed } : State).setVm s₂.vm := by
      have : s₂ = ({ s₂ with vm := (U.calling g mk a).vm } : State).setVm s₂.vm := rfl
      rw [e2] at this
      exact this
    have hf₂ : s₂.frames = .throwing q :: .java g :: U.frames.tail := hend
    have hW' : U.WarmedH s₂.vm := hW₂
    have hs₂ : s₂ = ((({ U with heap := s₂.heap, slotsUsed := s₂.slotsUsed } : State).setVm s₂.vm).setTop g).pushFrame (.throwing q) := by
      refine e3.trans ?_
      rw [hf₂, State.calling_eq h.top, State.setFrames_setFrames, State.pushFrame, State.frames_setTop _ hr', State.setTop_of_frames _ hr', State.setFrames_setFrames, hr]
      rfl
    have hsame : U.sameButNew ({ U with heap := s₂.heap, slotsUsed := s₂.slotsUsed } : State) L mc ms := by
      refine ⟨?_, q2, q3, q4, q5, q6⟩
      obtain ⟨t, ht, -⟩ := State.frames_cons hr
      show ({ U with heap := s₂.heap, slotsUsed := s₂.slotsUsed } : State) = { U.setFrames U.frames with heap := s₂.heap, slotsUsed := s₂.slotsUsed }
      rw [State.setFrames_self ht]
    subst hg
    refine Or.inr ⟨q, ⟨(({ U with heap := s₂.heap, slotsUsed := s₂.slotsUsed } : State).setVm s₂.vm), Ls ++ L, c0 + mc, s0 + ms⟩,
      ⟨X.admits, X.cas, X.clock, X.frames, X.room, X.hears, X.method, X.code, (X.here.setHeapUsed s₂.heap s₂.slotsUsed).setVm hW'.alike, X.tail, State.WarmedH.trans X.warmed hW', X.limits, X.bytes, X.same.trans (hsame.setVm s.vm)⟩,
      ⟨g, mk, s₂, L, E, ce, rfl, rfl, hx, hce, hcv, hcl, rfl, hL, rfl, rfl⟩, ?_⟩
    show Steps p.tables e below _ (((({ U with heap := s₂.heap, slotsUsed := s₂.slotsUsed } : State).setVm s₂.vm).setTop g).pushFrame (.throwing q))
    rw [← hs₂]
    exact hsteps
end Payer
section Calls
variable {p : Program} {l : Launch} {e : Env} {R : Room} {s : State} {m : MethodId} {args : Array Value} {below : List Frame} {meth : Method} {c : Code} {T : State} {locs : List Loc} {cells slots : Nat}
theorem vx_callV (X : Stand p l e R s m args below meth c T locs cells slots) (hexec : p.tables.exec = Jvm.exec) {own C : String} {index : Nat} {y : MethodName} {bytes : ByteArray} {maxL : Nat} {ret : Option FieldType}
    (hown : s.vm.findClass own = some m.cls) (hlink : (Cond.methodLink own index y).before args s = true) (hinst : (Cond.instanceMethod y).before args s = true) (hsel : (Cond.selects C y y).before args s = true)
    (hcode : (Cond.code y bytes maxL ret).before args s = true) (hy : y.cls ≠ "java/lang/invoke/MethodHandle" ∧ y.cls ≠ "java/lang/invoke/VarHandle")
    {W9 : Nat} {Pre : Pt → Array Value → Prop} {Post : Pt → Array Value → Option Value → Pt → Prop} {PostX : Pt → Array Value → Addr → Pt → Prop} (hK : vx_Back l R p e below s args y 3 W9 Pre Post PostX)
    {b : Addr} {cellB : Cell} (hcell : T.heap[b]? = some cellB) (hobj : cellB.vm.isStatics = false) (hcls : s.vm.findClass C = some cellB.cls)
    {g : JFrame} (hg : g.method = m) (hsize : g.locals.size = c.maxLocals) {argsL rest : List Value} (hlen : ∀ sig, parseMethodDescriptor y.desc = some sig → argsL.length = sig.parameters.length)
    (hstack : g.stack = argsL.reverse ++ .ref b :: rest) (hW : 2 * g.monitorRoom + (rest.map fun v => v.category).sum ≤ W9) (hdg : decode c.code g.pc = .ok (.invokevirtual index, 3))
    (hpre : ∀ vm₁, s.WarmedH vm₁ → Pre ⟨T.setVm vm₁, locs, cells, slots⟩ (Value.ref b :: argsL).toArray) :
    (∃ (v : Option Value) (vm₁ : Vm) (B : Pt), s.WarmedH vm₁ ∧ Stand p l e R s m args below meth c B.U B.locs B.cells B.slots ∧ Post ⟨T.setVm vm₁, locs, cells, slots⟩ (Value.ref b :: argsL).toArray v B ∧
      ∀ target, Steps p.tables e below (B.U.setTop { g with pc := g.pc + 3, stack := v.toList ++ rest }) target → Steps p.tables e below (T.setTop g) target) ∨
    (∃ (q : Addr) (vm₁ : Vm) (B : Pt), s.WarmedH vm₁ ∧ Stand p l e R s m args below meth c B.U B.locs B.cells B.slots ∧ PostX ⟨T.setVm vm₁, locs, cells, slots⟩ (Value.ref b :: argsL).toArray q B ∧
      Steps p.tables e below (T.setTop g) ((B.U.setTop { g with stack := rest }).pushFrame (.throwing q))) := by
  obtain ⟨mk, methM, hnamed, hmethM, hstM, habM⟩ := Cond.instanceMethod_spec hinst
  obtain ⟨methM', cM, hmethM', -, -, -, -, -, -, hsigM⟩ := Cond.code_spec hnamed hcode
  cases hmethM.symm.trans hmethM'
  obtain ⟨c2, r2, m2, q1, q2, q3, q4, kP, hkP, hkPi⟩ := Cond.selects_spec hsel
  cases hcls.symm.trans q1
  cases (State.methodFound?_of_named hnamed hy).symm.trans q2
  cases hnamed.symm.trans q3
  have hselP : selectMethod e.platform s.vm cellB.cls mk = .method mk := by rw [Launch.admits_selectMethod X.admits]; exact q4
  obtain ⟨vm₁, X₁, hstep₁⟩ := X.invokevirtual hexec hown hlink hnamed hmethM hstM hkP hkPi hy (a := b) (cell := cellB) hcell
    (fun z h => by rw [h] at hobj; cases hobj) hselP hmethM habM hkP hkPi (g := g) hg (argsL := argsL) (rest := rest) (hlen _ hsigM) hstack hdg
  rcases hK m meth c ⟨T.setVm vm₁, locs, cells, slots⟩ { g with stack := rest } (.invokevirtual index) mk (Value.ref b :: argsL).toArray X₁ hg hsize hdg hW (X₁.named hnamed) (hpre vm₁ X₁.warmed) with ⟨v, B, X', hpost, hsteps⟩ | ⟨q, B, X', hpost, hsteps⟩
  · exact Or.inl ⟨v, vm₁, B, X₁.warmed, X', hpost, fun target h => hstep₁ _ fun acts => by rw [doInvoke_state]; exact hsteps.trans h⟩
  · exact Or.inr ⟨q, vm₁, B, X₁.warmed, X', hpost, hstep₁ _ fun acts => by rw [doInvoke_state]; exact hsteps⟩
theorem vx_callS (X : Stand p l e R s m args below meth c T locs cells slots) (hexec : p.tables.exec = Jvm.exec) {own : String} {index : Nat} {y : MethodName} {bytes : ByteArray} {maxL : Nat} {ret : Option FieldType}
    (hown : s.vm.findClass own = some m.cls) (hlink : (Cond.methodLink own index y).before args s = true) (hstat : (Cond.static y).before args s = true) (hinit : (Cond.initialized y.cls).before args s = true)
    (hcode : (Cond.code y bytes maxL ret).before args s = true) (hy : y.cls ≠ "java/lang/invoke/MethodHandle" ∧ y.cls ≠ "java/lang/invoke/VarHandle")
    {W9 : Nat} {Pre : Pt → Array Value → Prop} {Post : Pt → Array Value → Option Value → Pt → Prop} {PostX : Pt → Array Value → Addr → Pt → Prop} (hK : vx_Back l R p e below s args y 3 W9 Pre Post PostX)
    {g : JFrame} (hg : g.method = m) (hsize : g.locals.size = c.maxLocals) {argsL rest : List Value} (hlen : ∀ sig, parseMethodDescriptor y.desc = some sig → argsL.length = sig.parameters.length)
    (hstack : g.stack = argsL.reverse ++ rest) (hW : 2 * g.monitorRoom + (rest.map fun v => v.category).sum ≤ W9) (hdg : decode c.code g.pc = .ok (.invokestatic index, 3))
    (hpre : ∀ vm₁, s.WarmedH vm₁ → Pre ⟨T.setVm vm₁, locs, cells, slots⟩ argsL.toArray) :
    (∃ (v : Option Value) (vm₁ : Vm) (B : Pt), s.WarmedH vm₁ ∧ Stand p l e R s m args below meth c B.U B.locs B.cells B.slots ∧ Post ⟨T.setVm vm₁, locs, cells, slots⟩ argsL.toArray v B ∧
      ∀ target, Steps p.tables e below (B.U.setTop { g with pc := g.pc + 3, stack := v.toList ++ rest }) target → Steps p.tables e below (T.setTop g) target) ∨
    (∃ (q : Addr) (vm₁ : Vm) (B : Pt), s.WarmedH vm₁ ∧ Stand p l e R s m args below meth c B.U B.locs B.cells B.slots ∧ PostX ⟨T.setVm vm₁, locs, cells, slots⟩ argsL.toArray q B ∧
      Steps p.tables e below (T.setTop g) ((B.U.setTop { g with stack := rest }).pushFrame (.throwing q))) := by
  obtain ⟨mk, hnamed⟩ := Cond.code_named hcode
  obtain ⟨methM, cM, hmethM, -, -, -, -, -, -, hsigM⟩ := Cond.code_spec hnamed hcode
  have hstatic : methM.isStatic = true := Cond.static_spec hnamed hmethM hstat
  obtain ⟨kP, hkP, -⟩ := className_of_methodNamed hnamed
  have hinitP : kP.init = .initialized := Cond.initialized_spec (findClass_of_methodNamed hnamed) hkP hinit
  obtain ⟨vm₁, X₁, hstep₁⟩ := X.invokestatic hexec hown hlink hnamed hmethM hstatic hkP hinitP hy (g := g) hg (argsL := argsL) (rest := rest) (hlen _ hsigM) hstack hdg
  rcases hK m meth c ⟨T.setVm vm₁, locs, cells, slots⟩ { g with stack := rest } (.invokestatic index) mk argsL.toArray X₁ hg hsize hdg hW (X₁.named hnamed) (hpre vm₁ X₁.warmed) with ⟨v, B, X', hpost, hsteps⟩ | ⟨q, B, X', hpost, hsteps⟩
  · exact Or.inl ⟨v, vm₁, B, X₁.warmed, X', hpost, fun target h => hstep₁ _ fun acts => by rw [doInvoke_state]; exact hsteps.trans h⟩
  · exact Or.inr ⟨q, vm₁, B, X₁.warmed, X', hpost, hstep₁ _ fun acts => by rw [doInvoke_state]; exact hsteps⟩
end Calls
theorem vx_cls {s : State} {T : State} {vm₁ : Vm} {E : String} {k : ClassId} (hW : s.WarmedH vm₁) (h : (T.setVm vm₁).vm.findClass E = some k) : s.vm.findClass E = some k := by
  have h1 : vm₁.findClass E = some k := h
  rw [hW.alike.findClass] at h1
  exact h1
/-- the method's frame g, with q thrown over it -/
def vx_W (p : Program) (l : Launch) (e : Env) (R : Room) (s : State) (m : MethodId) (args : Array Value) (below : List Frame) (meth : Method) (c : Code) (H : Heap) (locs : List Loc) (cells slots : Nat) (Q : State → Prop) (g : JFrame) (q : Addr) : Prop :=
  ∀ T : State, T.heap = H → Stand p l e R s m args below meth c T locs cells slots → ∃ t, Steps p.tables e below ((T.setTop g).pushFrame (.throwing q)) t ∧ Q t
def vx_Run (p : Program) (l : Launch) (e : Env) (R : Room) (s : State) (m : MethodId) (args : Array Value) (below : List Frame) (meth : Method) (c : Code) (H : Heap) (locs : List Loc) (cells slots mc ms : Nat) (g : JFrame) (rest : List Value) (Qa : State → Outcome → State → Prop) (XC : String → State → State → Prop) (free : Addr → Prop) : Prop :=
  ∀ T : State, T.heap = H → Stand p l e R s m args below meth c T locs cells slots →
    (∃ (v : Option Value) (st₀ t T' : State) (L : List Loc), st₀.heap = H ∧ Stand p l e R s m args below meth c T' (locs ++ L) (cells + mc) (slots + ms) ∧ (∀ q ∈ L, free q.base) ∧ T'.heap = t.heap ∧ T'.vm = t.vm ∧ Qa st₀ (.returned v) t ∧
      Goes p e below T g T' { g with pc := g.pc + 3, stack := v.toList ++ rest }) ∨
    (∃ (q : Addr) (st₀ t T' : State) (L : List Loc) (E : String) (ce : Cell), st₀.heap = H ∧ Stand p l e R s m args below meth c T' (locs ++ L) (cells + mc) (slots + ms) ∧ (∀ z ∈ L, free z.base) ∧ T'.heap = t.heap ∧ T'.vm = t.vm ∧ XC E st₀ t ∧ t.heap[q]? = some ce ∧ ce.vm = .none ∧ s.vm.findClass E = some ce.cls ∧
      Steps p.tables e below (T.setTop g) ((T'.setTop { g with stack := rest }).pushFrame (.throwing q)))
def vx_X {S : Type} (px : S → Prop) (B : String → S → State → Prop) (A : Nat → Prop) : String → State → State → Prop := fun E st t => ∃ u : S, px u ∧ B E u t ∧ va_F A st t
section Runs
variable {p : Program} {l : Launch} {e : Env} {R : Room} {s : State} {m : MethodId} {args : Array Value} {below : List Frame} {meth : Method} {c : Code} {H : Heap} {locs : List Loc} {cells slots : Nat}
variable {y : MethodName} {bytes cc : ByteArray} {maxL nL mc ms n index : Nat} {ret : Option FieldType} {ws : List Cond} {rm : Room} {Pc : Array Value → State → Prop} {Qc : Array Value → State → Outcome → State → Prop} {XC : String → State → State → Prop} {free : Addr → Prop} {Ts : List Cond} {own C : String} {b : Addr} {As rest : List Value} {g : JFrame}
theorem vx_callBack (cb : CallB R s args own index y bytes maxL ret ws rm mc ms n) (hM : vx_Met l y ws rm Pc Qc XC mc ms free) (hbl : FrameBlind Pc) : vx_Back l R p e below s args y 3 8 (PreOf R mc ms Pc) (PostOf Qc mc ms free) (vx_Post XC mc ms free) := by
  obtain ⟨hrc, hrs, hfr, hlo, hws, hcw, -, hini, -⟩ := cb
  exact vx_back (bytes := bytes) (maxL := maxL) (ret := ret) hM hbl hrc hrs hfr hlo hws hcw (fun a' U hW => word_at hW (Or.inl (by first | rfl | simp [Cond.onTables, Cond.keeps, Cond.steady])) hini)
theorem vx_runV (S : CallFix p m c cc nL s args Ts own) (hM : vx_Met l y ws rm Pc Qc XC mc ms free) (cw : CallW R s args own C index y bytes maxL ret ws rm mc ms n) (hp : PreV s H C b Pc As)
    (hg : g.method = m) (hn : As.length = n) (hsize : g.locals.size = nL) (hstack : g.stack = As.reverse ++ .ref b :: rest) (hW : 2 * g.monitorRoom + (rest.map fun v => v.category).sum ≤ 8) (hdg : decode cc g.pc = .ok (.invokevirtual index, 3)) (hf : cells + mc ≤ R.cells ∧ slots + ms ≤ R.slots) :
    vx_Run p l e R s m args below meth c H locs cells slots mc ms g rest (Qc (Value.ref b :: As).toArray) XC free := by
  have hK : vx_Back l R p e below s args y 3 8 (PreOf R mc ms Pc) (PostOf Qc mc ms free) (vx_Post XC mc ms free) := vx_callBack cw.1 hM hp.1
  obtain ⟨⟨-, -, -, -, -, -, hcode, -, hy, hlen, hl⟩, hin, hse⟩ := cw
  obtain ⟨hx, hb, hml, ho, -⟩ := S
  obtain ⟨-, ⟨cellB, hcB, hoB, hclB⟩, hPc⟩ := hp
  intro T hT X
  rcases vx_callV X hx (C := C) (bytes := bytes) (maxL := maxL) (ret := ret) ho hl hin hse hcode hy hK (by rw [hT]; exact hcB) hoB hclB hg (hsize.trans hml.symm) (argsL := As) (rest := rest) (fun sig h => hn.trans (hlen sig h)) hstack hW (by rw [hb]; exact hdg)
    (fun vm₁ hW₁ => ⟨hf.1, hf.2, hPc (T.setVm vm₁) hT hW₁⟩) with ⟨v, vm₁, ⟨U', l2, c2, s2⟩, hW₁, X', ⟨g', mk, t, L, e1, e2, hq, h1, hL, h2, h3⟩, st⟩ | ⟨q, vm₁, ⟨U', l2, c2, s2⟩, hW₁, X', ⟨g', mk, t, L, E, ce, e1, e2, hq, hce, hcv, hcl, h1, hL, h2, h3⟩, st⟩
  · dsimp only [Pt.U, Pt.locs, Pt.cells, Pt.slots] at X' e1 e2 h1 h2 h3 st
    subst h1; subst h2; subst h3
    exact Or.inl ⟨v, (T.setVm vm₁).calling g' mk (Value.ref b :: As).toArray, t, U', L, hT, X', hL, e1, e2, hq, st⟩
  · dsimp only [Pt.U, Pt.locs, Pt.cells, Pt.slots] at X' e1 e2 h1 h2 h3 st hcl
    subst h1; subst h2; subst h3
    exact Or.inr ⟨q, (T.setVm vm₁).calling g' mk (Value.ref b :: As).toArray, t, U', L, E, ce, hT, X', hL, e1, e2, hq, hce, hcv, vx_cls hW₁ hcl, st⟩
theorem vx_runS (S : CallFix p m c cc nL s args Ts own) (hM : vx_Met l y ws rm Pc Qc XC mc ms free) (cw : CallB R s args own index y bytes maxL ret ws rm mc ms n ∧ (Cond.static y).before args s = true) (hp : PreS s H Pc As)
    (hg : g.method = m) (hn : As.length = n) (hsize : g.locals.size = nL) (hstack : g.stack = As.reverse ++ rest) (hW : 2 * g.monitorRoom + (rest.map fun v => v.category).sum ≤ 8) (hdg : decode cc g.pc = .ok (.invokestatic index, 3)) (hf : cells + mc ≤ R.cells ∧ slots + ms ≤ R.slots) :
    vx_Run p l e R s m args below meth c H locs cells slots mc ms g rest (Qc As.toArray) XC free := by
  have hK : vx_Back l R p e below s args y 3 8 (PreOf R mc ms Pc) (PostOf Qc mc ms free) (vx_Post XC mc ms free) := vx_callBack cw.1 hM hp.1
  obtain ⟨⟨-, -, -, -, -, -, hcode, hini, hy, hlen, hl⟩, hstt⟩ := cw
  obtain ⟨hx, hb, hml, ho, -⟩ := S
  intro T hT X
  rcases vx_callS X hx (bytes := bytes) (maxL := maxL) (ret := ret) ho hl hstt hini hcode hy hK hg (hsize.trans hml.symm) (argsL := As) (rest := rest) (fun sig h => hn.trans (hlen sig h)) hstack hW (by rw [hb]; exact hdg)
    (fun vm₁ hW₁ => ⟨hf.1, hf.2, hp.2 (T.setVm vm₁) hT hW₁⟩) with ⟨v, vm₁, ⟨U', l2, c2, s2⟩, hW₁, X', ⟨g', mk, t, L, e1, e2, hq, h1, hL, h2, h3⟩, st⟩ | ⟨q, vm₁, ⟨U', l2, c2, s2⟩, hW₁, X', ⟨g', mk, t, L, E, ce, e1, e2, hq, hce, hcv, hcl, h1, hL, h2, h3⟩, st⟩
  · dsimp only [Pt.U, Pt.locs, Pt.cells, Pt.slots] at X' e1 e2 h1 h2 h3 st
    subst h1; subst h2; subst h3
    exact Or.inl ⟨v, (T.setVm vm₁).calling g' mk As.toArray, t, U', L, hT, X', hL, e1, e2, hq, st⟩
  · dsimp only [Pt.U, Pt.locs, Pt.cells, Pt.slots] at X' e1 e2 h1 h2 h3 st hcl
    subst h1; subst h2; subst h3
    exact Or.inr ⟨q, (T.setVm vm₁).calling g' mk As.toArray, t, U', L, E, ce, hT, X', hL, e1, e2, hq, hce, hcv, vx_cls hW₁ hcl, st⟩
end Runs
section Rows
variable {p : Program} {l : Launch} {e : Env} {R : Room} {s : State} {m : MethodId} {args : Array Value} {below : List Frame} {meth : Method} {c : Code} {H : Heap} {locs : List Loc} {cells slots : Nat} {Q : State → Prop}
variable {mc ms : Nat} {free : Addr → Prop} {A0 A1 : Nat → Prop} {H0 : Heap} {a : Array Value} {pc : Nat} {ls : Array Slot} {st0 rest : List Value}
theorem vx_keep {st₀ t T' : State} {L : List Loc} (h0 : st₀.heap = H) (e1 : T'.heap = t.heap) (hS : va_S A0 H0 H locs) (hA : ∀ q, q < H.size → A1 q → A0 q) (hf : ∀ q, free q → A0 q) (hL : ∀ q ∈ L, free q.base) (hF : va_F A1 st₀ t) :
    H.size ≤ T'.heap.size ∧ (∀ q : Nat, q < H.size → ¬ A1 q → T'.heap[q]? = H[q]?) ∧ va_S A0 H0 T'.heap (locs ++ L) := by
  obtain ⟨hz, hk⟩ := hF
  rw [h0] at hz hk
  exact ⟨by rw [e1]; exact hz, fun q h1 h2 => by rw [e1]; exact hk q h1 h2,
    ⟨Nat.le_trans hS.1 (by rw [e1]; exact hz), fun q h1 h2 => by rw [e1, hk q (Nat.lt_of_lt_of_le h1 hS.1) (fun z => h2 (hA q (Nat.lt_of_lt_of_le h1 hS.1) z))]; exact hS.2.1 q h1 h2, fun q hq => by
      rcases List.mem_append.mp hq with h | h
      · exact hS.2.2 q h
      · exact hf _ (hL q h)⟩⟩
theorem vx_calli {S SX : Type} {post : Int32 → S → Prop} {px : SX → Prop} {B : S → State → Prop} {BX : String → SX → State → Prop} {AX : Nat → Prop} (hr : vx_Run p l e R s m args below meth c H locs cells slots mc ms (F0 m pc ls st0) rest (va_Qi post B A1 a) (vx_X px BX AX) free) (hS : va_S A0 H0 H locs) (hA : ∀ q, q < H.size → A1 q → A0 q) (hf : ∀ q, free q → A0 q) (hAX : ∀ q, q < H.size → AX q → A0 q)
    (kx : ∀ (E : String) (ce : Cell) (q9 : Addr) (u : SX) (t : State) (H1 : Heap) (locs1 : List Loc), t.heap = H1 → s.vm.Alike t.vm → px u → BX E u t → H.size ≤ H1.size → (∀ q : Nat, q < H.size → ¬ AX q → H1[q]? = H[q]?) → va_S A0 H0 H1 locs1 → H1[q9]? = some ce → ce.vm = .none → s.vm.findClass E = some ce.cls → vx_W p l e R s m args below meth c H1 locs1 (cells + mc) (slots + ms) Q (F0 m pc ls rest) q9)
    (kk : ∀ (r : Int32) (u : S) (t : State) (H1 : Heap) (locs1 : List Loc), t.heap = H1 → s.vm.Alike t.vm → post r u → B u t → H.size ≤ H1.size → (∀ q : Nat, q < H.size → ¬ A1 q → H1[q]? = H[q]?) → va_S A0 H0 H1 locs1 → W p l e R s m args below meth c H1 locs1 (cells + mc) (slots + ms) Q (F0 m (pc + 3) ls (.int r :: rest))) : W p l e R s m args below meth c H locs cells slots Q (F0 m pc ls st0) := by
  intro T hT X
  rcases hr T hT X with ⟨v, st₀, t, T', L, h0, X', hL, e1, e2, ⟨⟨r, u, hv, hp, hb⟩, hF⟩, st⟩ | ⟨q, st₀, t, T', L, E, ce, h0, X', hL, e1, e2, ⟨u, hp, hb, hF⟩, hce, hcv, hcl, st⟩
  · cases hv
    obtain ⟨k1, k2, k3⟩ := vx_keep h0 e1 hS hA hf hL hF
    obtain ⟨t2, a1, b1⟩ := kk r u t T'.heap (locs ++ L) e1.symm (by rw [← e2]; exact X'.warmed.alike) hp hb k1 k2 k3 T' rfl X'
    exact ⟨t2, st t2 a1, b1⟩
  · obtain ⟨k1, k2, k3⟩ := vx_keep h0 e1 hS hAX hf hL hF
    obtain ⟨t2, a1, b1⟩ := kx E ce q u t T'.heap (locs ++ L) e1.symm (by rw [← e2]; exact X'.warmed.alike) hp hb k1 k2 k3 (by rw [e1]; exact hce) hcv hcl T' rfl X'
    exact ⟨t2, st.trans a1, b1⟩
theorem vx_calll {S SX : Type} {post : Int64 → S → Prop} {px : SX → Prop} {B : S → State → Prop} {BX : String → SX → State → Prop} {AX : Nat → Prop} (hr : vx_Run p l e R s m args below meth c H locs cells slots mc ms (F0 m pc ls st0) rest (va_Ql post B A1 a) (vx_X px BX AX) free) (hS : va_S A0 H0 H locs) (hA : ∀ q, q < H.size → A1 q → A0 q) (hf : ∀ q, free q → A0 q) (hAX : ∀ q, q < H.size → AX q → A0 q)
    (kx : ∀ (E : String) (ce : Cell) (q9 : Addr) (u : SX) (t : State) (H1 : Heap) (locs1 : List Loc), t.heap = H1 → s.vm.Alike t.vm → px u → BX E u t → H.size ≤ H1.size → (∀ q : Nat, q < H.size → ¬ AX q → H1[q]? = H[q]?) → va_S A0 H0 H1 locs1 → H1[q9]? = some ce → ce.vm = .none → s.vm.findClass E = some ce.cls → vx_W p l e R s m args below meth c H1 locs1 (cells + mc) (slots + ms) Q (F0 m pc ls rest) q9)
    (kk : ∀ (r : Int64) (u : S) (t : State) (H1 : Heap) (locs1 : List Loc), t.heap = H1 → s.vm.Alike t.vm → post r u → B u t → H.size ≤ H1.size → (∀ q : Nat, q < H.size → ¬ A1 q → H1[q]? = H[q]?) → va_S A0 H0 H1 locs1 → W p l e R s m args below meth c H1 locs1 (cells + mc) (slots + ms) Q (F0 m (pc + 3) ls (.long r :: rest))) : W p l e R s m args below meth c H locs cells slots Q (F0 m pc ls st0) := by
  intro T hT X
  rcases hr T hT X with ⟨v, st₀, t, T', L, h0, X', hL, e1, e2, ⟨⟨r, u, hv, hp, hb⟩, hF⟩, st⟩ | ⟨q, st₀, t, T', L, E, ce, h0, X', hL, e1, e2, ⟨u, hp, hb, hF⟩, hce, hcv, hcl, st⟩
  · cases hv
    obtain ⟨k1, k2, k3⟩ := vx_keep h0 e1 hS hA hf hL hF
    obtain ⟨t2, a1, b1⟩ := kk r u t T'.heap (locs ++ L) e1.symm (by rw [← e2]; exact X'.warmed.alike) hp hb k1 k2 k3 T' rfl X'
    exact ⟨t2, st t2 a1, b1⟩
  · obtain ⟨k1, k2, k3⟩ := vx_keep h0 e1 hS hAX hf hL hF
    obtain ⟨t2, a1, b1⟩ := kx E ce q u t T'.heap (locs ++ L) e1.symm (by rw [← e2]; exact X'.warmed.alike) hp hb k1 k2 k3 (by rw [e1]; exact hce) hcv hcl T' rfl X'
    exact ⟨t2, st.trans a1, b1⟩
theorem vx_callf {S SX : Type} {post : UInt32 → S → Prop} {px : SX → Prop} {B : S → State → Prop} {BX : String → SX → State → Prop} {AX : Nat → Prop} (hr : vx_Run p l e R s m args below meth c H locs cells slots mc ms (F0 m pc ls st0) rest (va_Qf post B A1 a) (vx_X px BX AX) free) (hS : va_S A0 H0 H locs) (hA : ∀ q, q < H.size → A1 q → A0 q) (hf : ∀ q, free q → A0 q) (hAX : ∀ q, q < H.size → AX q → A0 q)
    (kx : ∀ (E : String) (ce : Cell) (q9 : Addr) (u : SX) (t : State) (H1 : Heap) (locs1 : List Loc), t.heap = H1 → s.vm.Alike t.vm → px u → BX E u t → H.size ≤ H1.size → (∀ q : Nat, q < H.size → ¬ AX q → H1[q]? = H[q]?) → va_S A0 H0 H1 locs1 → H1[q9]? = some ce → ce.vm = .none → s.vm.findClass E = some ce.cls → vx_W p l e R s m args below meth c H1 locs1 (cells + mc) (slots + ms) Q (F0 m pc ls rest) q9)
    (kk : ∀ (r : UInt32) (u : S) (t : State) (H1 : Heap) (locs1 : List Loc), t.heap = H1 → s.vm.Alike t.vm → post r u → B u t → H.size ≤ H1.size → (∀ q : Nat, q < H.size → ¬ A1 q → H1[q]? = H[q]?) → va_S A0 H0 H1 locs1 → W p l e R s m args below meth c H1 locs1 (cells + mc) (slots + ms) Q (F0 m (pc + 3) ls (.float r :: rest))) : W p l e R s m args below meth c H locs cells slots Q (F0 m pc ls st0) := by
  intro T hT X
  rcases hr T hT X with ⟨v, st₀, t, T', L, h0, X', hL, e1, e2, ⟨⟨r, u, hv, hp, hb⟩, hF⟩, st⟩ | ⟨q, st₀, t, T', L, E, ce, h0, X', hL, e1, e2, ⟨u, hp, hb, hF⟩, hce, hcv, hcl, st⟩
  · cases hv
    obtain ⟨k1, k2, k3⟩ := vx_keep h0 e1 hS hA hf hL hF
    obtain ⟨t2, a1, b1⟩ := kk r u t T'.heap (locs ++ L) e1.symm (by rw [← e2]; exact X'.warmed.alike) hp hb k1 k2 k3 T' rfl X'
    exact ⟨t2, st t2 a1, b1⟩
  · obtain ⟨k1, k2, k3⟩ := vx_keep h0 e1 hS hAX hf hL hF
    obtain ⟨t2, a1, b1⟩ := kx E ce q u t T'.heap (locs ++ L) e1.symm (by rw [← e2]; exact X'.warmed.alike) hp hb k1 k2 k3 (by rw [e1]; exact hce) hcv hcl T' rfl X'
    exact ⟨t2, st.trans a1, b1⟩
theorem vx_calld {S SX : Type} {post : UInt64 → S → Prop} {px : SX → Prop} {B : S → State → Prop} {BX : String → SX → State → Prop} {AX : Nat → Prop} (hr : vx_Run p l e R s m args below meth c H locs cells slots mc ms (F0 m pc ls st0) rest (va_Qd post B A1 a) (vx_X px BX AX) free) (hS : va_S A0 H0 H locs) (hA : ∀ q, q < H.size → A1 q → A0 q) (hf : ∀ q, free q → A0 q) (hAX : ∀ q, q < H.size → AX q → A0 q)
    (kx : ∀ (E : String) (ce : Cell) (q9 : Addr) (u : SX) (t : State) (H1 : Heap) (locs1 : List Loc), t.heap = H1 → s.vm.Alike t.vm → px u → BX E u t → H.size ≤ H1.size → (∀ q : Nat, q < H.size → ¬ AX q → H1[q]? = H[q]?) → va_S A0 H0 H1 locs1 → H1[q9]? = some ce → ce.vm = .none → s.vm.findClass E = some ce.cls → vx_W p l e R s m args below meth c H1 locs1 (cells + mc) (slots + ms) Q (F0 m pc ls rest) q9)
    (kk : ∀ (r : UInt64) (u : S) (t : State) (H1 : Heap) (locs1 : List Loc), t.heap = H1 → s.vm.Alike t.vm → post r u → B u t → H.size ≤ H1.size → (∀ q : Nat, q < H.size → ¬ A1 q → H1[q]? = H[q]?) → va_S A0 H0 H1 locs1 → W p l e R s m args below meth c H1 locs1 (cells + mc) (slots + ms) Q (F0 m (pc + 3) ls (.double r :: rest))) : W p l e R s m args below meth c H locs cells slots Q (F0 m pc ls st0) := by
  intro T hT X
  rcases hr T hT X with ⟨v, st₀, t, T', L, h0, X', hL, e1, e2, ⟨⟨r, u, hv, hp, hb⟩, hF⟩, st⟩ | ⟨q, st₀, t, T', L, E, ce, h0, X', hL, e1, e2, ⟨u, hp, hb, hF⟩, hce, hcv, hcl, st⟩
  · cases hv
    obtain ⟨k1, k2, k3⟩ := vx_keep h0 e1 hS hA hf hL hF
    obtain ⟨t2, a1, b1⟩ := kk r u t T'.heap (locs ++ L) e1.symm (by rw [← e2]; exact X'.warmed.alike) hp hb k1 k2 k3 T' rfl X'
    exact ⟨t2, st t2 a1, b1⟩
  · obtain ⟨k1, k2, k3⟩ := vx_keep h0 e1 hS hAX hf hL hF
    obtain ⟨t2, a1, b1⟩ := kx E ce q u t T'.heap (locs ++ L) e1.symm (by rw [← e2]; exact X'.warmed.alike) hp hb k1 k2 k3 (by rw [e1]; exact hce) hcv hcl T' rfl X'
    exact ⟨t2, st.trans a1, b1⟩
theorem vx_callv {S SX : Type} {post : S → Prop} {px : SX → Prop} {B : S → State → Prop} {BX : String → SX → State → Prop} {AX : Nat → Prop} (hr : vx_Run p l e R s m args below meth c H locs cells slots mc ms (F0 m pc ls st0) rest (va_Qv post B A1 a) (vx_X px BX AX) free) (hS : va_S A0 H0 H locs) (hA : ∀ q, q < H.size → A1 q → A0 q) (hf : ∀ q, free q → A0 q) (hAX : ∀ q, q < H.size → AX q → A0 q)
    (kx : ∀ (E : String) (ce : Cell) (q9 : Addr) (u : SX) (t : State) (H1 : Heap) (locs1 : List Loc), t.heap = H1 → s.vm.Alike t.vm → px u → BX E u t → H.size ≤ H1.size → (∀ q : Nat, q < H.size → ¬ AX q → H1[q]? = H[q]?) → va_S A0 H0 H1 locs1 → H1[q9]? = some ce → ce.vm = .none → s.vm.findClass E = some ce.cls → vx_W p l e R s m args below meth c H1 locs1 (cells + mc) (slots + ms) Q (F0 m pc ls rest) q9)
    (kk : ∀ (u : S) (t : State) (H1 : Heap) (locs1 : List Loc), t.heap = H1 → s.vm.Alike t.vm → post u → B u t → H.size ≤ H1.size → (∀ q : Nat, q < H.size → ¬ A1 q → H1[q]? = H[q]?) → va_S A0 H0 H1 locs1 → W p l e R s m args below meth c H1 locs1 (cells + mc) (slots + ms) Q (F0 m (pc + 3) ls (rest))) : W p l e R s m args below meth c H locs cells slots Q (F0 m pc ls st0) := by
  intro T hT X
  rcases hr T hT X with ⟨v, st₀, t, T', L, h0, X', hL, e1, e2, ⟨⟨u, hv, hp, hb⟩, hF⟩, st⟩ | ⟨q, st₀, t, T', L, E, ce, h0, X', hL, e1, e2, ⟨u, hp, hb, hF⟩, hce, hcv, hcl, st⟩
  · cases hv
    obtain ⟨k1, k2, k3⟩ := vx_keep h0 e1 hS hA hf hL hF
    obtain ⟨t2, a1, b1⟩ := kk u t T'.heap (locs ++ L) e1.symm (by rw [← e2]; exact X'.warmed.alike) hp hb k1 k2 k3 T' rfl X'
    exact ⟨t2, st t2 a1, b1⟩
  · obtain ⟨k1, k2, k3⟩ := vx_keep h0 e1 hS hAX hf hL hF
    obtain ⟨t2, a1, b1⟩ := kx E ce q u t T'.heap (locs ++ L) e1.symm (by rw [← e2]; exact X'.warmed.alike) hp hb k1 k2 k3 (by rw [e1]; exact hce) hcv hcl T' rfl X'
    exact ⟨t2, st.trans a1, b1⟩
/-- caught by the row x of this method's table; the rows ahead don't take it -/
theorem vx_catch {own name : String} {E : String} {ce : Cell} {q : Addr} (hown : s.vm.findClass own = some m.cls) (pre : List ExceptionTableEntry) (x : ExceptionTableEntry) (suf : List ExceptionTableEntry) (hsplit : c.exceptionTable.toList = pre ++ x :: suf)
    (hpass : ∀ z ∈ pre, covers z pc = false ∨ (z.catchType ≠ 0 ∧ ∃ nm : String, (Cond.classLink own z.catchType nm).before args s = true ∧ va_Nc E nm s)) (hx : covers x pc = true) (h0 : x.catchType ≠ 0)
    (hlink : (Cond.classLink own x.catchType name).before args s = true) (hcast : (Cond.castable E name).before args s = true) (hcell : H[q]? = some ce) (hv : ce.vm = .none) (hcl : s.vm.findClass E = some ce.cls)
    (kk : W p l e R s m args below meth c H locs cells slots Q (F0 m x.handlerPc ls [.ref q])) : vx_W p l e R s m args below meth c H locs cells slots Q (F0 m pc ls rest) q := by
  intro T hT X
  have hpl : e.platform.magicAccessors = ({} : Platform).magicAccessors := by rw [X.admits.platform]
  obtain ⟨c3, c4, hc3, hc4, hasg⟩ := Cond.castable_spec hcast
  cases Option.some.inj (hc3.symm.trans hcl)
  obtain ⟨c5, hc5, hcl5⟩ := Cond.classLink_spec hown hlink e.platform hpl
  cases Option.some.inj (hc4.symm.trans hc5)
  obtain ⟨vm', X', st⟩ := X.thenCaughtThrough q (g := F0 m pc ls rest) rfl (Steps.refl _) (by rw [hT]; exact hcell) (by rw [hv]; rfl) (by obtain ⟨k9, h9, -⟩ := Vm.findClass_spec hcl; exact ⟨k9, h9⟩) pre x suf hsplit
    (fun z hz => by
      rcases hpass z hz with h | ⟨hz0, nm, hl1, hn1⟩
      · exact Or.inl h
      · obtain ⟨c6, hc6, hcl6⟩ := Cond.classLink_spec hown hl1 e.platform hpl
        obtain ⟨a8, b8, h1, h2, h3⟩ := hn1
        cases Option.some.inj (h1.symm.trans hcl)
        cases Option.some.inj (h2.symm.trans hc6)
        exact Or.inr ⟨hz0, _, hcl6, h3⟩) hx (Or.inr ⟨h0, c4, hcl5, hasg⟩)
  obtain ⟨t, a1, b1⟩ := kk (T.setVm vm') hT X'
  exact ⟨t, st.trans a1, b1⟩
end Rows
section Ends
variable {p : Program} {l : Launch} {e : Env} {R : Room} {s : State} {m : MethodId} {args : Array Value} {below : List Frame} {meth : Method} {c : Code} {H : Heap} {locs : List Loc} {cells slots : Nat} {Q : State → Prop}
variable {mc ms : Nat} {free : Addr → Prop} {A0 A1 : Nat → Prop} {H0 : Heap} {a : Array Value} {ls : Array Slot} {st0 rest : List Value}
variable {Qc : Array Value → State → Outcome → State → Prop} {XC : String → State → State → Prop}
/-- what a body that may throw owes at its end -/
def vx_MQ (below : List Frame) (Qc : Array Value → State → Outcome → State → Prop) (XC : String → State → State → Prop) (a : Array Value) (s : State) (mc ms : Nat) (free : Addr → Prop) : State → Prop := fun t =>
  ∃ o, t.status = .running ∧ Ended t below o ∧ vx_Q Qc XC mc ms free a s o t
theorem vx_ret {g : JFrame} {mc ms : Nat} (k : W p l e R s m args below meth c H locs cells slots (MQ below Qc args s mc ms free) g) : W p l e R s m args below meth c H locs cells slots (vx_MQ below Qc XC args s mc ms free) g := by
  intro T hT X
  obtain ⟨t, a1, o, b1, b2, b3, b4⟩ := k T hT X
  exact ⟨t, a1, o, b1, b2, Or.inl ⟨b3, b4⟩⟩
/-- not caught here: it goes on to the caller -/
theorem vx_widen {g : JFrame} {q : Addr} {k n : Nat} (h1 : cells ≤ k) (h2 : slots ≤ n) (kk : vx_W p l e R s m args below meth c H locs k n Q g q) : vx_W p l e R s m args below meth c H locs cells slots Q g q := fun T hT X => kk T hT (stand_widen X h1 h2)
theorem vx_out {pc : Nat} {E : String} {ce : Cell} {q : Addr} {mc ms : Nat} (hout : ∀ x ∈ c.exceptionTable.toList, covers x pc = false) (hlocks : meth.locks = false) (hcell : H[q]? = some ce) (hv : ce.vm = .none) (hcl : s.vm.findClass E = some ce.cls)
    (hx : ∀ t : State, t.heap = H → s.vm.Alike t.vm → XC E s t) (hf : ∀ z ∈ locs, free z.base) (hc : cells ≤ mc) (hs : slots ≤ ms) :
    vx_W p l e R s m args below meth c H locs cells slots (vx_MQ below Qc XC args s mc ms free) (F0 m pc ls rest) q := by
  intro T hT X
  obtain ⟨st1, hrun, hend, hW, hsm⟩ := X.leaveThrown q (g := F0 m pc ls rest) rfl rfl rfl hout hlocks
  have hcell9 : (T.setFrames (.throwing q :: below)).heap[q]? = some ce := by
    show T.heap[q]? = some ce
    rw [hT]; exact hcell
  exact ⟨_, st1, .threw q, hrun, hend, Or.inr ⟨q, rfl, E, ce, locs, hx _ hT hW.alike, hcell9, hv, hcl, hW, hsm.mono hc hs, hf⟩⟩
theorem vx_frame {U : State} {k n : Nat} (h : s.sameButNew ({ U with vm := s.vm } : State) locs k n) : s.heap.size ≤ U.heap.size ∧ ∀ q : Nat, q < s.heap.size → (∀ z ∈ locs, z.base ≠ q) → U.heap[q]? = s.heap[q]? := by
  obtain ⟨-, h2, -, -, -, h6⟩ := h
  refine ⟨h2, fun q hq hz => ?_⟩
  obtain ⟨c9, e1, e2, e3, e4⟩ := h6 q _ (Array.getElem?_eq_getElem hq)
  have hs : c9.slots = (s.heap[q]).slots := Array.ext_getElem? fun i => e4 i fun hm => hz _ hm rfl
  have h9 : c9 = s.heap[q] := by
    rw [hs] at e2
    exact e2
  have e5 : U.heap[q]? = some c9 := e1
  rw [e5, h9, Array.getElem?_eq_getElem hq]
/-- the words of a throw but the four that speak of the heap -/
def vx_no (w : Cond) : Bool := decide (w ≠ .isRef (.static Bundle.tN "UNASSIGNED_STACK" Bundle.steD)) && decide (w ≠ .isRef (.static Bundle.tN "SUPPRESSED_SENTINEL" Bundle.listD)) && decide (w ≠ .laysStatic Bundle.tN "UNASSIGNED_STACK" Bundle.steD) && decide (w ≠ .laysStatic Bundle.tN "SUPPRESSED_SENTINEL" Bundle.listD)
def vx_at0 (own : String) (ic : Nat) (X : String) (names : List String) : List Cond := (Bundle.ownAtoms0 own ic X names).filter vx_no
def vx_atS (own : String) (ic : Nat) (X : String) (names : List String) : List Cond := (Bundle.ownAtoms own ic X names).filter vx_no
/-- a word that the tables alone decide, or a good one -/
def vx_ot (w : Cond) : Bool := w.onTables || goodWord w
theorem vx_ot_at {args a' : Array Value} {s U : State} {w : Cond} (hW : s.WarmedH U.vm) (hvm : s.vm = U.vm) (hg : vx_ot w = true) (h : w.before args s = true) : w.before a' U = true := by
  simp only [vx_ot, Bool.or_eq_true] at hg
  rcases hg with hg | hg
  · exact va_tabs hg hvm h
  · exact word_at hW (good_of_word hg) h
/-- a list's words: the good ones out of the method's own list, the others by premises of their own -/
theorem vx_hat {args : Array Value} {s : State} {L B : List Cond} (h1 : ∀ w ∈ L.filter goodWord, w.before args s = true) (h2 : ∀ w ∈ L.filter (fun w => !goodWord w), w ∈ B) (h3 : ∀ w ∈ B, w.before args s = true) : ∀ w ∈ L, w.before args s = true := by
  intro w hw
  by_cases g : goodWord w = true
  · exact h1 w (List.mem_filter.mpr ⟨hw, g⟩)
  · refine h3 w (h2 w (List.mem_filter.mpr ⟨hw, ?_⟩))
    show (!goodWord w) = true
    cases hgw : goodWord w
    · rfl
    · exact absurd hgw g
theorem vx_c {args : Array Value} {s : State} {w : Cond} {B : List Cond} (h : w.before args s = true) (t : ∀ w ∈ B, w.before args s = true) : ∀ w' ∈ w :: B, w'.before args s = true := fun w' h' => (List.mem_cons.mp h').elim (fun e => by rw [e]; exact h) (t w')
theorem vx_n {args : Array Value} {s : State} : ∀ w ∈ ([] : List Cond), w.before args s = true := fun _ h => nomatch h
theorem vx_own {args : Array Value} {s : State} {L : List Cond} (h1 : ∀ w ∈ L.filter vx_no, w.before args s = true)
    (hU : (Cond.isRef (.static Bundle.tN "UNASSIGNED_STACK" Bundle.steD)).before args s = true) (hN : (Cond.isRef (.static Bundle.tN "SUPPRESSED_SENTINEL" Bundle.listD)).before args s = true)
    (lU : (Cond.laysStatic Bundle.tN "UNASSIGNED_STACK" Bundle.steD).before args s = true) (lN : (Cond.laysStatic Bundle.tN "SUPPRESSED_SENTINEL" Bundle.listD).before args s = true) : ∀ w ∈ L, w.before args s = true := by
  intro w hw
  by_cases e1 : w = .isRef (.static Bundle.tN "UNASSIGNED_STACK" Bundle.steD)
  · rw [e1]; exact hU
  · by_cases e2 : w = .isRef (.static Bundle.tN "SUPPRESSED_SENTINEL" Bundle.listD)
    · rw [e2]; exact hN
    · by_cases e3 : w = .laysStatic Bundle.tN "UNASSIGNED_STACK" Bundle.steD
      · rw [e3]; exact lU
      · by_cases e4 : w = .laysStatic Bundle.tN "SUPPRESSED_SENTINEL" Bundle.listD
        · rw [e4]; exact lN
        · exact h1 w (List.mem_filter.mpr ⟨hw, by unfold vx_no; rw [decide_eq_true e1, decide_eq_true e2, decide_eq_true e3, decide_eq_true e4]; rfl⟩)
/-- where a static field lies, its class's statics cell in H -/
def vx_L (C n d : String) (A : Nat → Prop) (U : State) (H : Heap) : Prop := ∃ (c : ClassId) (k : Class) (i : Nat) (f : Field) (a : Nat) (cell : Cell), U.vm.findClass C = some c ∧ U.fieldFound? C n d = some (c, k, i, f) ∧ f.isStatic = true ∧ k.statics = some a ∧ H[a]? = some cell ∧ cell.vm.isStatics = true ∧ cell.cls = c ∧ f.slot < cell.slots.size ∧ k.staticTypes[f.slot]? = some f.type ∧ ¬ A a
theorem vx_L.moved {C n d : String} {A : Nat → Prop} {u U : State} {H : Heap} (hvm : u.vm.Alike U.vm) (h : vx_L C n d A u H) : vx_L C n d A U H := by
  obtain ⟨c, k, i, f, a, cell, h1, h2, h3, h4, h5, h6, h7, h8, h9, h10⟩ := h
  obtain ⟨k', hi', he⟩ := State.fieldFound?_setVm hvm h2
  exact ⟨c, k', i, f, a, cell, by rw [hvm.findClass]; exact h1, hi', h3, by rw [he]; exact h4, h5, h6, h7, h8, by rw [he]; exact h9, h10⟩
theorem vx_L.kept {C n d : String} {A : Nat → Prop} {U : State} {H H1 : Heap} (h : vx_L C n d A U H) (hq : ∀ a : Nat, a < H.size → ¬ A a → H1[a]? = H[a]?) : vx_L C n d A U H1 := by
  obtain ⟨c, k, i, f, a, cell, h1, h2, h3, h4, h5, h6, h7, h8, h9, h10⟩ := h
  exact ⟨c, k, i, f, a, cell, h1, h2, h3, h4, by rw [hq a (Array.getElem?_eq_some_iff.mp h5).1 h10]; exact h5, h6, h7, h8, h9, h10⟩
theorem vx_L.narrow {C n d : String} {A B : Nat → Prop} {U : State} {H : Heap} (h : vx_L C n d A U H) (hAB : ∀ q, B q → A q) : vx_L C n d B U H := by
  obtain ⟨c, k, i, f, a, cell, h1, h2, h3, h4, h5, h6, h7, h8, h9, h10⟩ := h
  exact ⟨c, k, i, f, a, cell, h1, h2, h3, h4, h5, h6, h7, h8, h9, fun z => h10 (hAB _ z)⟩
theorem vx_L.word {C n d : String} {A : Nat → Prop} {s : State} {args : Array Value} (h : vx_L C n d A s s.heap) : (Cond.laysStatic C n d).before args s = true := by
  obtain ⟨c, k, i, f, a, cell, h1, h2, h3, h4, h5, h6, h7, h8, h9, -⟩ := h
  show (Cond.laysStatic C n d).holds args s none s [] = true
  exact Cond.laysStatic_of h1 h2 h3 h4 h5 h6 h7 h8 h9
/-- .. and what it holds: null or some reference -/
def vx_Zq (C n d : String) (A : Nat → Prop) (U : State) (H : Heap) : Prop := va_Zq C n d A U H ∧ vx_L C n d A U H
theorem vx_Zq.moved {C n d : String} {A : Nat → Prop} {u U : State} {H : Heap} (hvm : u.vm.Alike U.vm) (h : vx_Zq C n d A u H) : vx_Zq C n d A U H := ⟨va_Zq.moved hvm h.1, vx_L.moved hvm h.2⟩
theorem vx_Zq.kept {C n d : String} {A : Nat → Prop} {U : State} {H H1 : Heap} (h : vx_Zq C n d A U H) (hq : ∀ a : Nat, a < H.size → ¬ A a → H1[a]? = H[a]?) : vx_Zq C n d A U H1 := ⟨va_Zq.kept h.1 hq, vx_L.kept h.2 hq⟩
theorem vx_Zq.narrow {C n d : String} {A B : Nat → Prop} {U : State} {H : Heap} (h : vx_Zq C n d A U H) (hAB : ∀ q, B q → A q) : vx_Zq C n d B U H := ⟨va_Zq.narrow h.1 hAB, vx_L.narrow h.2 hAB⟩
theorem vx_Zqof {args : Array Value} {s : State} {C n d : String} {A : Nat → Prop} (hl : (Cond.laysStatic C n d).before args s = true) (hini : (Cond.initialized C).before args s = true) (h : (Cond.isRef (.static C n d)).before args s = true) (hA : ∀ a : Nat, a < s.heap.size → ¬ A a) : vx_Zq C n d A s s.heap := by
  refine ⟨va_Zqof hl hini h hA, ?_⟩
  obtain ⟨c, k, i, f, a, cell, h1, h2, h3, h4, h5, h6, h7, h8, h9⟩ := Cond.laysStatic_spec hl
  exact ⟨c, k, i, f, a, cell, h1, h2, h3, h4, h5, h6, h7, h8, h9, hA a (Array.getElem?_eq_some_iff.mp h5).1⟩
theorem vx_isRef {C n d : String} {v : Value} {A : Nat → Prop} {s : State} {args : Array Value} (h : va_Z C n d v A s s.heap) (hv : v.isRef = true) : (Cond.isRef (.static C n d)).before args s = true := by
  obtain ⟨cf, kf, fi, f, a, cell, h1, h2, h3, h4, h5, h6, h7, -⟩ := h
  have he : (Term.static C n d).eval args s none [] s = some v := by
    simp [Term.eval, State.fieldNamed?, h1, h2, h4, h5, h6, h7]
  simp only [Cond.before, Cond.holds, Cond.value, he]
  cases v <;> simp_all [Value.isRef]
theorem vx_isRefq {C n d : String} {A : Nat → Prop} {s : State} {args : Array Value} (h : va_Zq C n d A s s.heap) : (Cond.isRef (.static C n d)).before args s = true := by
  rcases h with h | ⟨t, h⟩
  · exact vx_isRef h rfl
  · exact vx_isRef h rfl
/-- the same frame, seen from here: as if the method were called anew in this heap -/
theorem vx_rebase {T : State} (X : Stand p l e R s m args below meth c T locs cells slots) {R' : Room} (hf : R'.frames ≤ R.frames) (hl : R'.locals ≤ R.locals) (hc : cells + R'.cells ≤ R.cells) (hs : slots + R'.slots ≤ R.slots) :
    Stand p l e R' ((T.setVm s.vm).setFrames (.invoking m args :: below)) m args below meth c T [] 0 0 := by
  have htop : (T.setVm s.vm).topJava?.isSome := X.here.top
  have hF : ((T.setVm s.vm).setFrames (.invoking m args :: below)).frames = .invoking m args :: below := State.frames_setFrames _ (State.cur_lt_of_top htop)
  obtain ⟨g₀, hg0⟩ := Option.isSome_iff_exists.mp htop
  obtain ⟨r, hr⟩ := State.topJava?_eq_some.mp hg0
  have hl9 : e.platform.stackLimits (T.setVm s.vm).me = e.platform.stackLimits s.me := X.limits
  have hb9 : (T.setVm s.vm).me.stackBytes = s.me.stackBytes := X.bytes
  refine ⟨X.admits, X.cas, X.clock, hF, ?_, X.hears, X.method, X.code, X.here, X.tail, X.warmed, ?_, ?_, ?_⟩
  · have h := X.room
    have hU : ((T.setVm s.vm).setFrames (.invoking m args :: below)).localsInUse = s.localsInUse := by
      rw [State.localsInUse_invoking hF (meth := meth) (c := c) X.method X.code, State.localsInUse_invoking X.frames X.method X.code]
    simp only [State.hasRoom, Bool.and_eq_true, decide_eq_true_eq] at h ⊢
    obtain ⟨⟨⟨⟨h1, h2, h3, h4, h5, h6⟩, h7⟩, h8⟩, h9⟩ := h
    rw [X.frames, List.length_cons] at h2 h3
    have q1 := X.heapSize
    have q2 := X.used
    simp only [hF, hU, List.length_cons, State.stackLimits_setFrames, State.stackBytes_setFrames, hl9, hb9]
    refine ⟨⟨⟨⟨by omega, by omega, by omega, by omega, by omega, h6⟩, ?_⟩, ?_⟩, X.book⟩
    · show T.heap.size + R'.cells ≤ e.platform.maxCells
      omega
    · show T.slotsUsed + R'.slots ≤ e.platform.maxSlots
      omega
  · rw [State.stackLimits_setFrames]; rfl
  · rw [State.stackBytes_setFrames]; rfl
  · refine ⟨?_, Nat.le_refl _, Nat.le_refl _, ?_, ?_, fun a c9 h9 => ⟨c9, h9, rfl, rfl, fun _ _ => rfl⟩⟩
    · obtain ⟨t, ht, -⟩ := State.frames_cons hr
      show T.setVm s.vm = { ((T.setVm s.vm).setFrames (.invoking m args :: below)).setFrames (T.setVm s.vm).frames with heap := T.heap, slotsUsed := T.slotsUsed }
      rw [State.setFrames_setFrames, State.setFrames_self ht]
      rfl
    · show T.slotsUsed = T.slotsUsed + ((T.heap.toList.drop T.heap.size).map (·.slots.size)).sum
      rw [List.drop_eq_nil_of_le (Nat.le_of_eq Array.length_toList)]
      rfl
    · show ((T.heap.toList.drop T.heap.size).map (·.slots.size)).sum ≤ 0
      rw [List.drop_eq_nil_of_le (Nat.le_of_eq Array.length_toList)]
      exact Nat.le_refl _
/-- 'throw new E()': new; dup; invokespecial; athrow -/
theorem vx_throw0 {cc : ByteArray} {pc : Nat} (hexec : p.tables.exec = Jvm.exec) (hb : c.code = cc) (hl : l.stackTraces = false) {own cls : String} {names : List String} {ik ic mc ms : Nat} {A : Nat → Prop}
    (hown : s.vm.findClass own = some m.cls) (hcls : Bundle.fit cls = true) (hnames : ∀ n ∈ names, Bundle.fit n = true)
    (hk : (Cond.classLink own ik cls).before args s = true) (hini : (Cond.initialized cls).before args s = true) (hat : ∀ w ∈ vx_at0 own ic cls names, w.before args s = true)
    (hgood : ∀ w ∈ Cond.classLink own ik cls :: Cond.initialized cls :: vx_at0 own ic cls names, vx_ot w = true)
    (hU : vx_Zq Bundle.tN "UNASSIGNED_STACK" Bundle.steD A s s.heap) (hN : vx_Zq Bundle.tN "SUPPRESSED_SENTINEL" Bundle.listD A s s.heap) (hS : va_S A s.heap H locs) (hsize : ls.size = c.maxLocals)
    (d0 : decode cc pc = .ok (.new ik, 3)) (d3 : decode cc (pc + 3) = .ok (.dup, 1)) (d4 : decode cc (pc + 4) = .ok (.invokespecial ic, 3)) (d7 : decode cc (pc + 7) = .ok (.athrow, 1))
    (hout : ∀ x ∈ c.exceptionTable.toList, covers x (pc + 7) = false)
    (hRframes : names.length + 3 < R.frames) (hRlocals : (rest.map fun v => v.category).sum + (13 * (names.length + 1) + 42) ≤ R.locals) (hRcells : cells + 1 ≤ R.cells) (hRslots : slots + 6 ≤ R.slots) (hlocks : meth.locks = false)
    (hx : ∀ t : State, s.vm.Alike t.vm → H.size ≤ t.heap.size → (∀ q : Nat, q < H.size → t.heap[q]? = H[q]?) → XC cls s t)
    (hf : ∀ z ∈ locs, free z.base) (hc : cells + 1 ≤ mc) (hs : slots + 6 ≤ ms) :
    W p l e R s m args below meth c H locs cells slots (vx_MQ below Qc XC args s mc ms free) (F0 m pc ls rest) := by
  intro T hT X
  have htr : e.platform.stackTraces = false := (show e.platform.stackTraces = l.stackTraces by rw [X.admits.platform]).trans hl
  have Y := vx_rebase X (R' := { frames := R.frames, locals := R.locals, cells := 1, slots := 6 }) (Nat.le_refl _) (Nat.le_refl _) hRcells hRslots
  obtain ⟨s', hA⟩ : ∃ z, z = (T.setVm s.vm).setFrames (.invoking m args :: below) := ⟨_, rfl⟩
  rw [← hA] at Y
  have hvm : s'.vm = s.vm := by rw [hA]; rfl
  have hhp : s'.heap = H := by rw [hA]; exact hT
  have hW0 : s.WarmedH s'.vm := by rw [hvm]; exact State.WarmedH.refl s
  have hat' : ∀ w ∈ vx_at0 own ic cls names, w.before args s' = true := fun w hw => vx_ot_at hW0 hvm.symm (hgood w (List.mem_cons_of_mem _ (List.mem_cons_of_mem _ hw))) (hat w hw)
  have hk' : (Cond.classLink own ik cls).before args s' = true := vx_ot_at hW0 hvm.symm (hgood _ List.mem_cons_self) hk
  have hini' : (Cond.initialized cls).before args s' = true := vx_ot_at hW0 hvm.symm (hgood _ (List.mem_cons_of_mem _ List.mem_cons_self)) hini
  have hU' : vx_Zq Bundle.tN "UNASSIGNED_STACK" Bundle.steD A s' s'.heap := by rw [hhp]; exact vx_Zq.moved hW0.alike (hU.kept hS.2.1)
  have hN' : vx_Zq Bundle.tN "SUPPRESSED_SENTINEL" Bundle.listD A s' s'.heap := by rw [hhp]; exact vx_Zq.moved hW0.alike (hN.kept hS.2.1)
  have h : ∀ w ∈ Bundle.ownAtoms0 own ic cls names, w.before args s' = true := vx_own hat' (vx_isRefq hU'.1) (vx_isRefq hN'.1) hU'.2.word hN'.2.word
  have hown' : s'.vm.findClass own = some m.cls := by rw [hvm]; exact hown
  have hins : (Cond.instantiable cls 6).before args s' = true := h _ (by simp [Bundle.ownAtoms0])
  obtain ⟨vm₁, cX, kX, hfX, hkX, -, -, X₁, st1⟩ := Y.newCold hexec (own := own) (C := cls) (index := ik) (n := 6) hown' hk' hins hini'
    (g := F0 m pc ls rest) rfl (by rw [hb]; exact d0) (Nat.le_refl _) (Nat.le_refl _)
  generalize hT1 : (T.setVm vm₁).pushCell { cls := cX, slots := kX.instanceTypes.map defaultValue, vm := .none } = T1 at X₁ st1
  have hcat : (Value.ref T.heap.size).category = 1 := rfl
  have hcellA : T1.heap[T.heap.size]? = some (freshCell cX kX) := by rw [← hT1]; exact State.heap_pushCell_size _ _
  have d3' : decode c.code (pc + 3) = .ok (.dup, 1) := by rw [hb]; exact d3
  obtain ⟨U, hsteps, hrun, hend, hW, hsame, ce, hce, hO⟩ := X₁.ctorThrow0 hexec htr (own := own) (cls := cls) (names := names) (ic := ic) hown' hcls hnames h (fun x hx => nomatch hx) hfX hkX hcellA (by rw [hhp, hT]; exact Nat.le_refl _)
    (g := { method := m, pc := pc + 4, locals := ls, stack := .ref T.heap.size :: .ref T.heap.size :: rest, locked := none }) rfl hsize rfl rfl (rest := rest) rfl
    (by rw [hb]; exact d4) (by rw [hb]; exact d7) hout hRframes (by simp only [List.map_cons, List.sum_cons, hcat]; omega) hlocks
  obtain ⟨f1, f2⟩ := vx_frame hsame
  rw [hhp] at f1 f2
  have hWs : s.WarmedH U.vm := State.WarmedH.trans hW0 hW
  have hcl : s.vm.findClass cls = some ce.cls := by
    have h9 := hO.cls
    rw [hvm] at h9
    exact h9
  have hall : s.sameButNew ({ U with vm := s.vm } : State) locs mc ms := by
    subst hA
    obtain ⟨e1, e2⟩ := hsame
    rw [State.setFrames_setFrames] at e1
    have h2 : (T.setVm s.vm).sameButNew ({ U with vm := s.vm } : State) [] (0 + 1) (0 + 6) := ⟨e1, e2⟩
    have h3 := X.same.trans h2
    rw [List.append_nil] at h3
    exact h3.mono hc hs
  refine ⟨U, ?_, .threw T.heap.size, hrun, hend, Or.inr ⟨T.heap.size, rfl, cls, ce, locs, hx U hWs.alike f1 (fun q hq => f2 q hq (fun z hz => nomatch hz)), hce, hO.vm, hcl, hWs, hall, hf⟩⟩
  refine st1 _ ?_
  show Steps p.tables e below (T1.setTop { method := m, pc := pc + 3, locals := ls, stack := .ref T.heap.size :: rest, locked := none }) _
  jvm_step X₁.here [X₁.here.top, hexec, d3', Value.category]
  exact hsteps
/-- 'throw new E("text")': new; dup; ldc; invokespecial; athrow -/
theorem vx_throwS {cc : ByteArray} {pc : Nat} (hexec : p.tables.exec = Jvm.exec) (hb : c.code = cc) (hl : l.stackTraces = false) {own cls text : String} {names : List String} {ik is ic mc ms sa : Nat} {A : Nat → Prop}
    (hown : s.vm.findClass own = some m.cls) (hcls : Bundle.fit cls = true) (hnames : ∀ n ∈ names, Bundle.fit n = true)
    (hk : (Cond.classLink own ik cls).before args s = true) (hini : (Cond.initialized cls).before args s = true) (hstr : vk_R own is text sa s) (hat : ∀ w ∈ vx_atS own ic cls names, w.before args s = true)
    (hgood : ∀ w ∈ Cond.classLink own ik cls :: Cond.initialized cls :: vx_atS own ic cls names, vx_ot w = true)
    (hU : vx_Zq Bundle.tN "UNASSIGNED_STACK" Bundle.steD A s s.heap) (hN : vx_Zq Bundle.tN "SUPPRESSED_SENTINEL" Bundle.listD A s s.heap) (hS : va_S A s.heap H locs) (hsize : ls.size = c.maxLocals)
    (d0 : decode cc pc = .ok (.new ik, 3)) (d3 : decode cc (pc + 3) = .ok (.dup, 1)) (d4 : decode cc (pc + 4) = .ok (.ldc is, 2)) (d6 : decode cc (pc + 6) = .ok (.invokespecial ic, 3)) (d9 : decode cc (pc + 9) = .ok (.athrow, 1))
    (hout : ∀ x ∈ c.exceptionTable.toList, covers x (pc + 9) = false)
    (hRframes : names.length + 3 < R.frames) (hRlocals : (rest.map fun v => v.category).sum + (13 * (names.length + 1) + 43) ≤ R.locals) (hRcells : cells + 1 ≤ R.cells) (hRslots : slots + 6 ≤ R.slots) (hlocks : meth.locks = false)
    (hx : ∀ t : State, s.vm.Alike t.vm → H.size ≤ t.heap.size → (∀ q : Nat, q < H.size → t.heap[q]? = H[q]?) → XC cls s t)
    (hf : ∀ z ∈ locs, free z.base) (hc : cells + 1 ≤ mc) (hs : slots + 6 ≤ ms) :
    W p l e R s m args below meth c H locs cells slots (vx_MQ below Qc XC args s mc ms free) (F0 m pc ls rest) := by
  intro T hT X
  have htr : e.platform.stackTraces = false := (show e.platform.stackTraces = l.stackTraces by rw [X.admits.platform]).trans hl
  have Y := vx_rebase X (R' := { frames := R.frames, locals := R.locals, cells := 1, slots := 6 }) (Nat.le_refl _) (Nat.le_refl _) hRcells hRslots
  obtain ⟨s', hA⟩ : ∃ z, z = (T.setVm s.vm).setFrames (.invoking m args :: below) := ⟨_, rfl⟩
  rw [← hA] at Y
  have hvm : s'.vm = s.vm := by rw [hA]; rfl
  have hhp : s'.heap = H := by rw [hA]; exact hT
  have hW0 : s.WarmedH s'.vm := by rw [hvm]; exact State.WarmedH.refl s
  have hat' : ∀ w ∈ vx_atS own ic cls names, w.before args s' = true := fun w hw => vx_ot_at hW0 hvm.symm (hgood w (List.mem_cons_of_mem _ (List.mem_cons_of_mem _ hw))) (hat w hw)
  have hk' : (Cond.classLink own ik cls).before args s' = true := vx_ot_at hW0 hvm.symm (hgood _ List.mem_cons_self) hk
  have hini' : (Cond.initialized cls).before args s' = true := vx_ot_at hW0 hvm.symm (hgood _ (List.mem_cons_of_mem _ List.mem_cons_self)) hini
  have hU' : vx_Zq Bundle.tN "UNASSIGNED_STACK" Bundle.steD A s' s'.heap := by rw [hhp]; exact vx_Zq.moved hW0.alike (hU.kept hS.2.1)
  have hN' : vx_Zq Bundle.tN "SUPPRESSED_SENTINEL" Bundle.listD A s' s'.heap := by rw [hhp]; exact vx_Zq.moved hW0.alike (hN.kept hS.2.1)
  have h : ∀ w ∈ Bundle.ownAtoms own ic cls names, w.before args s' = true := vx_own hat' (vx_isRefq hU'.1) (vx_isRefq hN'.1) hU'.2.word hN'.2.word
  have hown' : s'.vm.findClass own = some m.cls := by rw [hvm]; exact hown
  have hins : (Cond.instantiable cls 6).before args s' = true := h _ (by simp [Bundle.ownAtoms])
  obtain ⟨vm₁, cX, kX, hfX, hkX, -, -, X₁, st1⟩ := Y.newCold hexec (own := own) (C := cls) (index := ik) (n := 6) hown' hk' hins hini'
    (g := F0 m pc ls rest) rfl (by rw [hb]; exact d0) (Nat.le_refl _) (Nat.le_refl _)
  generalize hT1 : (T.setVm vm₁).pushCell { cls := cX, slots := kX.instanceTypes.map defaultValue, vm := .none } = T1 at X₁ st1
  have hcat : (Value.ref T.heap.size).category = 1 := rfl
  have hcellA : T1.heap[T.heap.size]? = some (freshCell cX kX) := by rw [← hT1]; exact State.heap_pushCell_size _ _
  have d3' : decode c.code (pc + 3) = .ok (.dup, 1) := by rw [hb]; exact d3
  have d4' : decode c.code (pc + 4) = .ok (.ldc is, 2) := by rw [hb]; exact d4
  have hstr' : vk_R own is text sa s' := vk_R.warm hW0 hstr
  obtain ⟨U, hsteps, hrun, hend, hW, hsame, ce, hce, hO⟩ := X₁.ctorThrowS hexec htr (own := own) (cls := cls) (names := names) (ic := ic) hown' hcls hnames h (fun x hx => nomatch hx) hfX hkX hcellA (by rw [hhp, hT]; exact Nat.le_refl _) (msg := .ref sa) rfl
    (g := { method := m, pc := pc + 6, locals := ls, stack := .ref sa :: .ref T.heap.size :: .ref T.heap.size :: rest, locked := none }) rfl hsize rfl rfl (rest := rest) rfl
    (by rw [hb]; exact d6) (by rw [hb]; exact d9) hout hRframes (by simp only [List.map_cons, List.sum_cons, hcat]; omega) hlocks
  obtain ⟨f1, f2⟩ := vx_frame hsame
  rw [hhp] at f1 f2
  have hWs : s.WarmedH U.vm := State.WarmedH.trans hW0 hW
  have hcl : s.vm.findClass cls = some ce.cls := by
    have h9 := hO.cls
    rw [hvm] at h9
    exact h9
  have hall : s.sameButNew ({ U with vm := s.vm } : State) locs mc ms := by
    subst hA
    obtain ⟨e1, e2⟩ := hsame
    rw [State.setFrames_setFrames] at e1
    have h2 : (T.setVm s.vm).sameButNew ({ U with vm := s.vm } : State) [] (0 + 1) (0 + 6) := ⟨e1, e2⟩
    have h3 := X.same.trans h2
    rw [List.append_nil] at h3
    exact h3.mono hc hs
  refine ⟨U, ?_, .threw T.heap.size, hrun, hend, Or.inr ⟨T.heap.size, rfl, cls, ce, locs, hx U hWs.alike f1 (fun q hq => f2 q hq (fun z hz => nomatch hz)), hce, hO.vm, hcl, hWs, hall, hf⟩⟩
  refine st1 _ ?_
  show Steps p.tables e below (T1.setTop { method := m, pc := pc + 3, locals := ls, stack := .ref T.heap.size :: rest, locked := none }) _
  jvm_step X₁.here [X₁.here.top, hexec, d3', Value.category]
  exact X₁.ldcString hexec (own := own) (text := text) (index := is) (a := sa) hown' hstr'.1 hstr'.2
    (g := { method := m, pc := pc + 4, locals := ls, stack := .ref T.heap.size :: .ref T.heap.size :: rest, locked := none }) rfl d4' _ hsteps
/-- 'throw new E("text")', the text by a wide index -/
theorem vx_throwSW {cc : ByteArray} {pc : Nat} (hexec : p.tables.exec = Jvm.exec) (hb : c.code = cc) (hl : l.stackTraces = false) {own cls text : String} {names : List String} {ik is ic mc ms sa : Nat} {A : Nat → Prop}
    (hown : s.vm.findClass own = some m.cls) (hcls : Bundle.fit cls = true) (hnames : ∀ n ∈ names, Bundle.fit n = true)
    (hk : (Cond.classLink own ik cls).before args s = true) (hini : (Cond.initialized cls).before args s = true) (hstr : vk_R own is text sa s) (hat : ∀ w ∈ vx_atS own ic cls names, w.before args s = true)
    (hgood : ∀ w ∈ Cond.classLink own ik cls :: Cond.initialized cls :: vx_atS own ic cls names, vx_ot w = true)
    (hU : vx_Zq Bundle.tN "UNASSIGNED_STACK" Bundle.steD A s s.heap) (hN : vx_Zq Bundle.tN "SUPPRESSED_SENTINEL" Bundle.listD A s s.heap) (hS : va_S A s.heap H locs) (hsize : ls.size = c.maxLocals)
    (d0 : decode cc pc = .ok (.new ik, 3)) (d3 : decode cc (pc + 3) = .ok (.dup, 1)) (d4 : decode cc (pc + 4) = .ok (.ldc_w is, 3)) (d7 : decode cc (pc + 7) = .ok (.invokespecial ic, 3)) (d10 : decode cc (pc + 10) = .ok (.athrow, 1))
    (hout : ∀ x ∈ c.exceptionTable.toList, covers x (pc + 10) = false)
    (hRframes : names.length + 3 < R.frames) (hRlocals : (rest.map fun v => v.category).sum + (13 * (names.length + 1) + 43) ≤ R.locals) (hRcells : cells + 1 ≤ R.cells) (hRslots : slots + 6 ≤ R.slots) (hlocks : meth.locks = false)
    (hx : ∀ t : State, s.vm.Alike t.vm → H.size ≤ t.heap.size → (∀ q : Nat, q < H.size → t.heap[q]? = H[q]?) → XC cls s t)
    (hf : ∀ z ∈ locs, free z.base) (hc : cells + 1 ≤ mc) (hs : slots + 6 ≤ ms) :
    W p l e R s m args below meth c H locs cells slots (vx_MQ below Qc XC args s mc ms free) (F0 m pc ls rest) := by
  intro T hT X
  have htr : e.platform.stackTraces = false := (show e.platform.stackTraces = l.stackTraces by rw [X.admits.platform]).trans hl
  have Y := vx_rebase X (R' := { frames := R.frames, locals := R.locals, cells := 1, slots := 6 }) (Nat.le_refl _) (Nat.le_refl _) hRcells hRslots
  obtain ⟨s', hA⟩ : ∃ z, z = (T.setVm s.vm).setFrames (.invoking m args :: below) := ⟨_, rfl⟩
  rw [← hA] at Y
  have hvm : s'.vm = s.vm := by rw [hA]; rfl
  have hhp : s'.heap = H := by rw [hA]; exact hT
  have hW0 : s.WarmedH s'.vm := by rw [hvm]; exact State.WarmedH.refl s
  have hat' : ∀ w ∈ vx_atS own ic cls names, w.before args s' = true := fun w hw => vx_ot_at hW0 hvm.symm (hgood w (List.mem_cons_of_mem _ (List.mem_cons_of_mem _ hw))) (hat w hw)
  have hk' : (Cond.classLink own ik cls).before args s' = true := vx_ot_at hW0 hvm.symm (hgood _ List.mem_cons_self) hk
  have hini' : (Cond.initialized cls).before args s' = true := vx_ot_at hW0 hvm.symm (hgood _ (List.mem_cons_of_mem _ List.mem_cons_self)) hini
  have hU' : vx_Zq Bundle.tN "UNASSIGNED_STACK" Bundle.steD A s' s'.heap := by rw [hhp]; exact vx_Zq.moved hW0.alike (hU.kept hS.2.1)
  have hN' : vx_Zq Bundle.tN "SUPPRESSED_SENTINEL" Bundle.listD A s' s'.heap := by rw [hhp]; exact vx_Zq.moved hW0.alike (hN.kept hS.2.1)
  have h : ∀ w ∈ Bundle.ownAtoms own ic cls names, w.before args s' = true := vx_own hat' (vx_isRefq hU'.1) (vx_isRefq hN'.1) hU'.2.word hN'.2.word
  have hown' : s'.vm.findClass own = some m.cls := by rw [hvm]; exact hown
  have hins : (Cond.instantiable cls 6).before args s' = true := h _ (by simp [Bundle.ownAtoms])
  obtain ⟨vm₁, cX, kX, hfX, hkX, -, -, X₁, st1⟩ := Y.newCold hexec (own := own) (C := cls) (index := ik) (n := 6) hown' hk' hins hini'
    (g := F0 m pc ls rest) rfl (by rw [hb]; exact d0) (Nat.le_refl _) (Nat.le_refl _)
  generalize hT1 : (T.setVm vm₁).pushCell { cls := cX, slots := kX.instanceTypes.map defaultValue, vm := .none } = T1 at X₁ st1
  have hcat : (Value.ref T.heap.size).category = 1 := rfl
  have hcellA : T1.heap[T.heap.size]? = some (freshCell cX kX) := by rw [← hT1]; exact State.heap_pushCell_size _ _
  have d3' : decode c.code (pc + 3) = .ok (.dup, 1) := by rw [hb]; exact d3
  have d4' : decode c.code (pc + 4) = .ok (.ldc_w is, 3) := by rw [hb]; exact d4
  have hstr' : vk_R own is text sa s' := vk_R.warm hW0 hstr
  obtain ⟨U, hsteps, hrun, hend, hW, hsame, ce, hce, hO⟩ := X₁.ctorThrowS hexec htr (own := own) (cls := cls) (names := names) (ic := ic) hown' hcls hnames h (fun x hx => nomatch hx) hfX hkX hcellA (by rw [hhp, hT]; exact Nat.le_refl _) (msg := .ref sa) rfl
    (g := { method := m, pc := pc + 7, locals := ls, stack := .ref sa :: .ref T.heap.size :: .ref T.heap.size :: rest, locked := none }) rfl hsize rfl rfl (rest := rest) rfl
    (by rw [hb]; exact d7) (by rw [hb]; exact d10) hout hRframes (by simp only [List.map_cons, List.sum_cons, hcat]; omega) hlocks
  obtain ⟨f1, f2⟩ := vx_frame hsame
  rw [hhp] at f1 f2
  have hWs : s.WarmedH U.vm := State.WarmedH.trans hW0 hW
  have hcl : s.vm.findClass cls = some ce.cls := by
    have h9 := hO.cls
    rw [hvm] at h9
    exact h9
  have hall : s.sameButNew ({ U with vm := s.vm } : State) locs mc ms := by
    subst hA
    obtain ⟨e1, e2⟩ := hsame
    rw [State.setFrames_setFrames] at e1
    have h2 : (T.setVm s.vm).sameButNew ({ U with vm := s.vm } : State) [] (0 + 1) (0 + 6) := ⟨e1, e2⟩
    have h3 := X.same.trans h2
    rw [List.append_nil] at h3
    exact h3.mono hc hs
  refine ⟨U, ?_, .threw T.heap.size, hrun, hend, Or.inr ⟨T.heap.size, rfl, cls, ce, locs, hx U hWs.alike f1 (fun q hq => f2 q hq (fun z hz => nomatch hz)), hce, hO.vm, hcl, hWs, hall, hf⟩⟩
  refine st1 _ ?_
  show Steps p.tables e below (T1.setTop { method := m, pc := pc + 3, locals := ls, stack := .ref T.heap.size :: rest, locked := none }) _
  jvm_step X₁.here [X₁.here.top, hexec, d3', Value.category]
  exact X₁.ldcStringW hexec (own := own) (text := text) (index := is) (a := sa) hown' hstr'.1 hstr'.2
    (g := { method := m, pc := pc + 4, locals := ls, stack := .ref T.heap.size :: .ref T.heap.size :: rest, locked := none }) rfl d4' _ hsteps
end Ends
section Bodies
variable {l : Launch}
theorem vx_ofW {y : MethodName} {ws ws' : List Cond} {rm : Room} {Pc : Array Value → State → Prop} {Qc : Array Value → State → Outcome → State → Prop} {XC : String → State → State → Prop} {mc ms : Nat} {free : Addr → Prop} {cc : ByteArray} {maxL : Nat} {ret : Option FieldType}
    (hy : plainName y.cls = true) (hw : ws = Cond.code y cc maxL ret :: ws')
    (body : ∀ p e s m args below meth c s₁, BodyLoose p l y (headSpec ws rm) cc maxL ret e s m args below meth c s₁ → c.maxLocals = maxL → (∀ x ∈ c.exceptionTable.toList, False) → Pc args s →
      W p l e (headSpec ws rm).room s m args below meth c s.heap [] 0 0 (vx_MQ below Qc XC args s mc ms free) (entryFrame m args maxL)) : vx_Met l y ws rm Pc Qc XC mc ms free := by
  refine MetFree.of_bodyS (code := cc) (maxLocals := maxL) (ret := ret) hy ?_ ?_
  · intro args s m h hn
    obtain ⟨meth, c, h1, h2, h3, h4, h5, h6, -, -⟩ := Cond.code_spec hn (atoms_spec (ws := ws) h _ (by rw [hw]; exact List.mem_cons_self))
    exact ⟨meth, c, h1, h2, h3, h4, h5, h6⟩
  · intro p e s m args below meth c s₁ B hml hP _
    have hh0 : s₁.heap = s.heap := by rw [B.state]; rfl
    have ht : ∀ x ∈ c.exceptionTable.toList, False := by
      obtain ⟨meth9, c9, h1, h2, -, -, -, -, h7, -⟩ := Cond.code_spec B.named (atoms_spec (ws := ws) B.pre _ (by rw [hw]; exact List.mem_cons_self))
      cases Option.some.inj (h1.symm.trans B.method)
      cases Option.some.inj (h2.symm.trans (Stand.of_body B).code)
      intro x hx
      rw [Array.isEmpty_iff.mp h7] at hx
      cases hx
    obtain ⟨t, a1, o, b1, b2, b3⟩ := body p e s m args below meth c s₁ B hml ht hP s₁ hh0 (Stand.of_body B)
    exact ⟨t, o, a1, b1, b2, b3⟩
/-- the table of a body with handlers -/
theorem vx_table {p : Program} {x y : MethodName} {S : Spec} {cc bytes : ByteArray} {maxL maxL' : Nat} {ret ret' : Option FieldType} {e : Env} {s s₁ : State} {m : MethodId} {args : Array Value} {below : List Frame} {meth : Method} {c : Code} {hh : List (Nat × Nat × Nat × Nat)}
    (B : BodyLoose p l y S cc maxL ret e s m args below meth c s₁) (h : (Cond.codeWith y bytes maxL' ret' hh).before args s = true) : c.exceptionTable.toList = tableOf hh := by
  obtain ⟨m9, meth9, c9, hn9, h1, h2, -, -, h6, -⟩ := Cond.codeWith_spec h
  cases Option.some.inj (hn9.symm.trans B.named)
  cases Option.some.inj (h1.symm.trans B.method)
  cases Option.some.inj (h2.symm.trans (Stand.of_body B).code)
  rw [← h6, table_eq]
end Bodies
end VXA
/-! ===== END ===== -/
/-! ===== BEGIN a static call of a method with an exception table ===== -/
section VXS
variable {p : Program} {l : Launch} {e : Env} {R : Room} {s : State} {m : MethodId} {args : Array Value} {below : List Frame} {meth : Method} {c : Code} {T : State} {H : Heap} {locs : List Loc} {cells slots : Nat}
abbrev vx_CSW (R : Room) (s : State) (args : Array Value) (own : String) (index : Nat) (y : MethodName) (bytes : ByteArray) (maxL : Nat) (ret : Option FieldType) (hh : List (Nat × Nat × Nat × Nat)) (ws : List Cond) (rm : Room) (mc ms n : Nat) : Prop :=
  (rm.cells = mc ∧ rm.slots = ms ∧ rm.frames + 1 ≤ R.frames ∧ 8 + (maxL + 11) + rm.locals ≤ R.locals ∧ (∀ w ∈ ws, ∀ (a' : Array Value) (U : State), s.WarmedH U.vm → w.before a' U = true) ∧ Cond.codeWith y bytes maxL ret hh ∈ ws) ∧
  (Cond.codeWith y bytes maxL ret hh).before args s = true ∧ (Cond.initialized y.cls).before args s = true ∧ (y.cls ≠ "java/lang/invoke/MethodHandle" ∧ y.cls ≠ "java/lang/invoke/VarHandle") ∧
  (∀ sig, parseMethodDescriptor y.desc = some sig → n = sig.parameters.length) ∧ (Cond.methodLink own index y).before args s = true ∧ (Cond.static y).before args s = true
theorem vx_cwSW {own : String} {index maxL mc ms : Nat} {y : MethodName} {bytes : ByteArray} {ret : Option FieldType} {hh : List (Nat × Nat × Nat × Nat)} {Ts ws ws' : List Cond} {rm : Room} (n : Nat) (ht : ∀ w ∈ Ts, w.before args s = true) (hT : GoodIn Ts (va_wsS own index y ws)) (hw : ws = Cond.codeWith y bytes maxL ret hh :: ws') (hrc : rm.cells = mc) (hrs : rm.slots = ms)
    (hd : y.cls ≠ "java/lang/invoke/MethodHandle" ∧ y.cls ≠ "java/lang/invoke/VarHandle" ∧ (parseMethodDescriptor y.desc).map (fun d => d.parameters.length) = some n) (hR : rm.frames + 1 ≤ R.frames ∧ 8 + (maxL + 11) + rm.locals ≤ R.locals) :
    vx_CSW R s args own index y bytes maxL ret hh ws rm mc ms n := by
  have ok : ∀ w ∈ va_wsS own index y ws, w.before args s = true := fun w h => ht w (hT w h).1
  have hG : GoodIn Ts ws := fun w h => hT w (by unfold va_wsS; exact List.mem_append_right _ h)
  have hc : Cond.codeWith y bytes maxL ret hh ∈ ws := by rw [hw]; exact List.mem_cons_self
  refine ⟨⟨hrc, hrs, hR.1, hR.2, pay_in ht hG, hc⟩, ht _ (hG _ hc).1, ok _ (by simp [va_wsS]), ⟨hd.1, hd.2.1⟩, fun sig h => ?_, ok _ (by simp [va_wsS]), ok _ (by simp [va_wsS])⟩
  have h2 := hd.2.2
  rw [h] at h2
  exact (Option.some.inj h2).symm
theorem vx_callSW (X : Stand p l e R s m args below meth c T locs cells slots) (hexec : p.tables.exec = Jvm.exec) {own : String} {index : Nat} {y : MethodName} {bytes : ByteArray} {maxL : Nat} {ret : Option FieldType} {hh : List (Nat × Nat × Nat × Nat)}
    (hown : s.vm.findClass own = some m.cls) (hlink : (Cond.methodLink own index y).before args s = true) (hstat : (Cond.static y).before args s = true) (hinit : (Cond.initialized y.cls).before args s = true)
    (hcode : (Cond.codeWith y bytes maxL ret hh).before args s = true) (hy : y.cls ≠ "java/lang/invoke/MethodHandle" ∧ y.cls ≠ "java/lang/invoke/VarHandle")
    {W9 : Nat} {Pre : Pt → Array Value → Prop} {Post : Pt → Array Value → Option Value → Pt → Prop} (hK : Back l R p e below s args y 3 W9 Pre Post)
    {g : JFrame} (hg : g.method = m) (hsize : g.locals.size = c.maxLocals) {argsL rest : List Value} (hlen : ∀ sig, parseMethodDescriptor y.desc = some sig → argsL.length = sig.parameters.length)
    (hstack : g.stack = argsL.reverse ++ rest) (hW : 2 * g.monitorRoom + (rest.map fun v => v.category).sum ≤ W9) (hdg : decode c.code g.pc = .ok (.invokestatic index, 3))
    (hpre : ∀ vm₁, s.WarmedH vm₁ → Pre ⟨T.setVm vm₁, locs, cells, slots⟩ argsL.toArray) :
    ∃ (v : Option Value) (vm₁ : Vm) (B : Pt), s.WarmedH vm₁ ∧ Stand p l e R s m args below meth c B.U B.locs B.cells B.slots ∧ Post ⟨T.setVm vm₁, locs, cells, slots⟩ argsL.toArray v B ∧
      ∀ target, Steps p.tables e below (B.U.setTop { g with pc := g.pc + 3, stack := v.toList ++ rest }) target → Steps p.tables e below (T.setTop g) target := by
  obtain ⟨mk, methM, cM, hnamed, hmethM, -, -, -, -, -, -, hsigM⟩ := Cond.codeWith_spec hcode
  have hstatic : methM.isStatic = true := Cond.static_spec hnamed hmethM hstat
  obtain ⟨kP, hkP, -⟩ := className_of_methodNamed hnamed
  have hinitP : kP.init = .initialized := Cond.initialized_spec (findClass_of_methodNamed hnamed) hkP hinit
  obtain ⟨vm₁, X₁, hstep₁⟩ := X.invokestatic hexec hown hlink hnamed hmethM hstatic hkP hinitP hy (g := g) hg (argsL := argsL) (rest := rest) (hlen _ hsigM) hstack hdg
  obtain ⟨v, B, X', hpost, hsteps⟩ := hK m meth c ⟨T.setVm vm₁, locs, cells, slots⟩ { g with stack := rest } (.invokestatic index) mk argsL.toArray X₁ hg hsize hdg hW (X₁.named hnamed) (hpre vm₁ X₁.warmed)
  exact ⟨v, vm₁, B, X₁.warmed, X', hpost, fun target h => hstep₁ _ fun acts => by rw [doInvoke_state]; exact hsteps.trans h⟩
theorem vx_runSW {y : MethodName} {bytes cc : ByteArray} {maxL nL mc ms n index : Nat} {ret : Option FieldType} {hh : List (Nat × Nat × Nat × Nat)} {ws : List Cond} {rm : Room} {Pc : Array Value → State → Prop} {Qc : Array Value → State → Outcome → State → Prop} {free : Addr → Prop} {Ts : List Cond} {own : String} {As rest : List Value} {g : JFrame}
    (S : CallFix p m c cc nL s args Ts own) (hM : Met l y ws rm Pc Qc mc ms free) (cw : vx_CSW R s args own index y bytes maxL ret hh ws rm mc ms n) (hp : PreS s H Pc As)
    (hg : g.method = m) (hn : As.length = n) (hsize : g.locals.size = nL) (hstack : g.stack = As.reverse ++ rest) (hW : 2 * g.monitorRoom + (rest.map fun v => v.category).sum ≤ 8) (hdg : decode cc g.pc = .ok (.invokestatic index, 3)) (hf : cells + mc ≤ R.cells ∧ slots + ms ≤ R.slots) :
    va_Run p l e R s m args below meth c H locs cells slots mc ms g rest (Qc As.toArray) (free) := by
  obtain ⟨⟨hrc, hrs, hfr, hlo, hws, hcw⟩, hcode, hini, hy, hlen, hl, hstt⟩ := cw
  have hK : Back l R p e below s args y 3 8 (PreOf R mc ms Pc) (PostOf Qc mc ms free) := va_backW (hh := hh) (bytes := bytes) (maxL := maxL) (ret := ret) hM hp.1 hrc hrs hfr hlo hws hcw (fun a' U hW => word_at hW (Or.inl (by first | rfl | simp [Cond.onTables, Cond.keeps, Cond.steady])) hini)
  obtain ⟨hx, hb, hml, ho, -⟩ := S
  intro T hT X
  obtain ⟨v, vm₁, ⟨U', l2, c2, s2⟩, hW₁, X', ⟨g', mk, t, L, e1, e2, hq, h1, hL, h2, h3⟩, st⟩ := vx_callSW X hx (hh := hh) (bytes := bytes) (maxL := maxL) (ret := ret) ho hl hstt hini hcode hy hK hg (hsize.trans hml.symm) (argsL := As) (rest := rest) (fun sig h => hn.trans (hlen sig h)) hstack hW (by rw [hb]; exact hdg)
    (fun vm₁ hW₁ => ⟨hf.1, hf.2, hp.2 (T.setVm vm₁) hT hW₁⟩)
  dsimp only [Pt.U, Pt.locs, Pt.cells, Pt.slots] at X' e1 e2 h1 h2 h3 st
  subst h1; subst h2; subst h3
  exact ⟨v, (T.setVm vm₁).calling g' mk As.toArray, t, U', L, hT, X', hL, e1, e2, hq, st⟩
/-- not caught here, past rows that name other classes: it goes on to the caller -/
theorem vx_outP {p : Program} {l : Launch} {e : Env} {R : Room} {s : State} {m : MethodId} {args : Array Value} {below : List Frame} {meth : Method} {c : Code} {H : Heap} {locs : List Loc} {cells slots : Nat} {free : Addr → Prop} {ls : Array Slot} {rest : List Value} {Qc : Array Value → State → Outcome → State → Prop} {XC : String → State → State → Prop}
    {pc : Nat} {own E : String} {ce : Cell} {q : Addr} {mc ms : Nat} (hown : s.vm.findClass own = some m.cls) (hlocks : meth.locks = false)
    (hpass : ∀ z ∈ c.exceptionTable.toList, covers z pc = false ∨ (z.catchType ≠ 0 ∧ ∃ nm : String, (Cond.classLink own z.catchType nm).before args s = true ∧ va_Nc E nm s)) (hcell : H[q]? = some ce) (hv : ce.vm = .none) (hcl : s.vm.findClass E = some ce.cls)
    (hx : ∀ t : State, t.heap = H → s.vm.Alike t.vm → XC E s t) (hf : ∀ z ∈ locs, free z.base) (hc : cells ≤ mc) (hs : slots ≤ ms) :
    vx_W p l e R s m args below meth c H locs cells slots (vx_MQ below Qc XC args s mc ms free) (F0 m pc ls rest) q := by
  intro T hT X
  have hpl : e.platform.magicAccessors = ({} : Platform).magicAccessors := by rw [X.admits.platform]
  obtain ⟨vm', hW', X', st⟩ := X.outThrough hlocks q (g := F0 m pc ls rest) rfl rfl rfl (cell := ce) (by rw [hT]; exact hcell) (by rw [hv]; rfl)
    (by obtain ⟨k9, h9, -⟩ := Vm.findClass_spec hcl; exact ⟨k9, h9⟩) (fun z hz => by
      rcases hpass z hz with h | ⟨hz0, nm, hl1, hn1⟩
      · exact Or.inl h
      · obtain ⟨c6, hc6, hcl6⟩ := Cond.classLink_spec hown hl1 e.platform hpl
        obtain ⟨a8, b8, h1, h2, h3⟩ := hn1
        cases Option.some.inj (h1.symm.trans hcl)
        cases Option.some.inj (h2.symm.trans hc6)
        exact Or.inr ⟨hz0, _, hcl6, h3⟩)
  obtain ⟨g₀, hfr⟩ := X'.frames_eq
  have hcell9 : ((T.setVm vm').setFrames (.throwing q :: below)).heap[q]? = some ce := by
    show T.heap[q]? = some ce
    rw [hT]; exact hcell
  have hend : Ended ((T.setVm vm').setFrames (.throwing q :: below)) below (.threw q) := State.frames_setFrames _ (State.cur_lt_of_frames hfr)
  refine ⟨(T.setVm vm').setFrames (.throwing q :: below), ?_, .threw q, X'.here.running, hend, Or.inr ⟨q, rfl, E, ce, locs, hx _ hT (X'.ends _).1.alike, hcell9, hv, hcl, (X'.ends _).1, (X'.ends _).2.mono hc hs, hf⟩⟩
  rw [X.pushThrowing_eq]
  exact st
/-- a thing of a world lies in the heap -/
theorem vx_lt {D : va_G} {cl : List vw_C} {ws : va_W} {H1 : Heap} (h : va_P D cl ws H1) {k : Nat} {q : Nat × va_E} (hk : ws[k]? = some q) : q.1 < H1.size := (h k q hk).lt
end VXS
/-! ===== END ===== -/
/-! ===== BEGIN methods with a table of their own: called by a name, returning or throwing ===== -/
section VXH
/-! vx_backW, vx_callVX, vx_callSX, vx_callVW, vx_runVW, vx_runVX, vx_runSX, vx_ofWH follow the same proofs as their sisters above (Free/Laws.lean, Shelf42/LK1.lean); vx_outP calls Shelf42/NT130.lean (outThrough). -/
section
variable {l : Launch} {R : Room} {p : Program} {e : Env} {below : List Frame} {s : State} {sargs : Array Value} {y : MethodName} {len W9 : Nat}
theorem vx_backW {ws : List Cond} {rm : Room} {Pc : Array Value → State → Prop} {Qc : Array Value → State → Outcome → State → Prop} {XC : String → State → State → Prop} {mc ms : Nat} {free : Addr → Prop} {bytes : ByteArray} {maxL : Nat} {ret : Option FieldType} {hh : List (Nat × Nat × Nat × Nat)}
    (hM : vx_Met l y ws rm Pc Qc XC mc ms free) (hblind : FrameBlind Pc) (hrc : rm.cells = mc) (hrs : rm.slots = ms)
    (hframes : rm.frames + 1 ≤ R.frames) (hlocals : W9 + (maxL + 11) + rm.locals ≤ R.locals)
    (hws : ∀ w ∈ ws, ∀ a' U, s.WarmedH U.vm → w.before a' U = true) (hcode : Cond.codeWith y bytes maxL ret hh ∈ ws) (hinit : ∀ a' U, s.WarmedH U.vm → (Cond.initialized y.cls).before a' U = true) :
    vx_Back l R p e below s sargs y len W9 (PreOf R mc ms Pc) (PostOf Qc mc ms free) (vx_Post XC mc ms free) := by
  intro m meth c A g ig mk a X hg hsize hdg hW hn hp
  have h1 : (headSpec ws rm).pre.before a A.U = true := atoms_intro fun w hw => hws w hw _ _ X.warmed
  have h2 : (Cond.codeWith y bytes maxL ret hh).before a A.U = true := hws _ hcode _ _ X.warmed
  have h3 : (Cond.initialized y.cls).before a A.U = true := hinit _ _ X.warmed
  have h4 : A.cells + (headSpec ws rm).room.cells ≤ R.cells := by rw [show (headSpec ws rm).room.cells = mc from hrc]; exact hp.1
  have h5 : A.slots + (headSpec ws rm).room.slots ≤ R.slots := by rw [show (headSpec ws rm).room.slots = ms from hrs]; exact hp.2.1
  have hPc : Pc a (A.U.calling g mk a) := hblind _ _ _ _ hp.2.2
  obtain ⟨U, Ls, c0, s0⟩ := A
  dsimp only [Pt.U, Pt.locs, Pt.cells, Pt.slots] at h1 h2 h3 h4 h5 X hn hPc ⊢
  obtain ⟨m9, methY, cY, hn9, hmY, hcY, -, hlY, -⟩ := Cond.codeWith_spec h2
  cases Option.some.inj (hn9.symm.trans hn)
  obtain ⟨kY, hkY, -⟩ := className_of_methodNamed hn
  have hinitY : kY.init = .initialized := Cond.initialized_spec (findClass_of_methodNamed hn) hkY h3
  have h : At U g.method c below := by rw [hg]; exact X.here
  have hlocals9 : W9 + (maxL + 11) + (headSpec ws rm).room.locals ≤ R.locals := hlocals
  have happ : (headSpec ws rm).appliesLoose y e.platform (U.calling g mk a) = true :=
    Spec.appliesLoose_calling (g := g) h hdg hn hkY hinitY
      (X.room_calling (g := g) (R' := (headSpec ws rm).room) hsize hmY hcY hframes (by rw [hlY]; omega) h4 h5) h1
  obtain ⟨mid, hmid⟩ := h.above
  have hfr : (U.setTop g).frames = (.java g :: mid) ++ below := by rw [State.frames_setTop' g h.top, hmid]; rfl
  obtain ⟨o, s₂, hsteps, -, hend, hq⟩ := Steps.callFree hM p X.admits X.cas X.clock (acts := []) hfr happ hPc trivial
  have hq' : vx_Q Qc XC mc ms free a (U.calling g mk a) o s₂ := hq
  rw [State.frames_setTop' g h.top] at hend
  obtain ⟨g₀, hg0⟩ := Option.isSome_iff_exists.mp h.top
  obtain ⟨r, hr⟩ := State.topJava?_eq_some.mp hg0
  have hr' : (({ U with heap := s₂.heap, slotsUsed := s₂.slotsUsed } : State).setVm s₂.vm).frames = .java g₀ :: r := hr
  rcases hq' with ⟨hqc, L, hfe, hL⟩ | ⟨q, rfl, E, ce, L, hx, hce, hcv, hcl, hW₂, hsm, hL⟩
  · obtain ⟨⟨v, rfl⟩, hW₂, e2, q2, q3, q4, q5, q6⟩ := id hfe
    have e3 : s₂ = ({ (U.calling g mk a).setFrames s₂.frames with heap := s₂.heap, slotsUsed := s₂.slotsUsed } : State).setVm s₂.vm := by
      have : s₂ = ({ s₂ with vm := (U.calling g mk a).vm } : State).setVm s₂.vm := rfl
      rw [e2] at this
      exact this
    obtain ⟨c₂, i₂, len₂, hc₂, hd₂, hf₂⟩ := hend
    have hW' : U.WarmedH s₂.vm := hW₂
    have hcc : c₂ = c := by
      have h1 : s₂.code? g.method = U.code? g.method := by
        rw [State.code?_eq, State.code?_eq, hW'.alike.method?]
      exact Option.some.inj (hc₂.symm.trans (h1.trans h.code))
    subst hcc
    have hlen : len₂ = len := by rw [hdg] at hd₂; cases hd₂; rfl
    subst hlen
    have hs₂ : s₂ = (({ U with heap := s₂.heap, slotsUsed := s₂.slotsUsed } : State).setVm s₂.vm).setTop { g with pc := g.pc + len₂, stack := v.toList ++ g.stack } := by
      refine e3.trans ?_
      rw [hf₂, State.calling_eq h.top, State.setFrames_setFrames, State.setTop_of_frames _ hr', hr]
      rfl
    have hsame : U.sameButNew ({ U with heap := s₂.heap, slotsUsed := s₂.slotsUsed } : State) L mc ms := by
      refine ⟨?_, q2, q3, q4, q5, q6⟩
      obtain ⟨t, ht, -⟩ := State.frames_cons hr
      show ({ U with heap := s₂.heap, slotsUsed := s₂.slotsUsed } : State) = { U.setFrames U.frames with heap := s₂.heap, slotsUsed := s₂.slotsUsed }
      rw [State.setFrames_self ht]
    subst hg
    refine Or.inl ⟨v, ⟨(({ U with heap := s₂.heap, slotsUsed := s₂.slotsUsed } : State).setVm s₂.vm), Ls ++ L, c0 + mc, s0 + ms⟩,
      ⟨X.admits, X.cas, X.clock, X.frames, X.room, X.hears, X.method, X.code, (X.here.setHeapUsed s₂.heap s₂.slotsUsed).setVm hW'.alike, X.tail, State.WarmedH.trans X.warmed hW', X.limits, X.bytes, X.same.trans (hsame.setVm s.vm)⟩,
      ⟨g, mk, s₂, L, rfl, rfl, hqc, rfl, hL, rfl, rfl⟩, ?_⟩
    show Steps p.tables e below _ ((({ U with heap := s₂.heap, slotsUsed := s₂.slotsUsed } : State).setVm s₂.vm).setTop { g with pc := g.pc + len₂, stack := v.toList ++ g.stack })
    rw [← hs₂]
    exact hsteps
  · obtain ⟨e2, q2, q3, q4, q5, q6⟩ := id hsm
    have e3 : s₂ = ({ (U.calling g mk a).setFrames s₂.frames with heap := s₂.heap, slotsUsed := s₂.slotsUsed } : State).setVm s₂.vm := by
      have : s₂ = ({ s₂ with vm := (U.calling g mk a).vm } : State).setVm s₂.vm := rfl
      rw [e2] at this
      exact this
    have hf₂ : s₂.frames = .throwing q :: .java g :: U.frames.tail := hend
    have hW' : U.WarmedH s₂.vm := hW₂
    have hs₂ : s₂ = ((({ U with heap := s₂.heap, slotsUsed := s₂.slotsUsed } : State).setVm s₂.vm).setTop g).pushFrame (.throwing q) := by
      refine e3.trans ?_
      rw [hf₂, State.calling_eq h.top, State.setFrames_setFrames, State.pushFrame, State.frames_setTop _ hr', State.setTop_of_frames _ hr', State.setFrames_setFrames, hr]
      rfl
    have hsame : U.sameButNew ({ U with heap := s₂.heap, slotsUsed := s₂.slotsUsed } : State) L mc ms := by
      refine ⟨?_, q2, q3, q4, q5, q6⟩
      obtain ⟨t, ht, -⟩ := State.frames_cons hr
      show ({ U with heap := s₂.heap, slotsUsed := s₂.slotsUsed } : State) = { U.setFrames U.frames with heap := s₂.heap, slotsUsed := s₂.slotsUsed }
      rw [State.setFrames_self ht]
    subst hg
    refine Or.inr ⟨q, ⟨(({ U with heap := s₂.heap, slotsUsed := s₂.slotsUsed } : State).setVm s₂.vm), Ls ++ L, c0 + mc, s0 + ms⟩,
      ⟨X.admits, X.cas, X.clock, X.frames, X.room, X.hears, X.method, X.code, (X.here.setHeapUsed s₂.heap s₂.slotsUsed).setVm hW'.alike, X.tail, State.WarmedH.trans X.warmed hW', X.limits, X.bytes, X.same.trans (hsame.setVm s.vm)⟩,
      ⟨g, mk, s₂, L, E, ce, rfl, rfl, hx, hce, hcv, hcl, rfl, hL, rfl, rfl⟩, ?_⟩
    show Steps p.tables e below _ (((({ U with heap := s₂.heap, slotsUsed := s₂.slotsUsed } : State).setVm s₂.vm).setTop g).pushFrame (.throwing q))
    rw [← hs₂]
    exact hsteps
end
variable {p : Program} {l : Launch} {e : Env} {R : Room} {s : State} {m : MethodId} {args : Array Value} {below : List Frame} {meth : Method} {c : Code} {T : State} {H : Heap} {locs : List Loc} {cells slots : Nat}
theorem vx_callVX (X : Stand p l e R s m args below meth c T locs cells slots) (hexec : p.tables.exec = Jvm.exec) {own C : String} {index : Nat} {y : MethodName} {bytes : ByteArray} {maxL : Nat} {ret : Option FieldType} {hh : List (Nat × Nat × Nat × Nat)}
    (hown : s.vm.findClass own = some m.cls) (hlink : (Cond.methodLink own index y).before args s = true) (hinst : (Cond.instanceMethod y).before args s = true) (hsel : (Cond.selects C y y).before args s = true)
    (hcode : (Cond.codeWith y bytes maxL ret hh).before args s = true) (hy : y.cls ≠ "java/lang/invoke/MethodHandle" ∧ y.cls ≠ "java/lang/invoke/VarHandle")
    {W9 : Nat} {Pre : Pt → Array Value → Prop} {Post : Pt → Array Value → Option Value → Pt → Prop} {PostX : Pt → Array Value → Addr → Pt → Prop} (hK : vx_Back l R p e below s args y 3 W9 Pre Post PostX)
    {b : Addr} {cellB : Cell} (hcell : T.heap[b]? = some cellB) (hobj : cellB.vm.isStatics = false) (hcls : s.vm.findClass C = some cellB.cls)
    {g : JFrame} (hg : g.method = m) (hsize : g.locals.size = c.maxLocals) {argsL rest : List Value} (hlen : ∀ sig, parseMethodDescriptor y.desc = some sig → argsL.length = sig.parameters.length)
    (hstack : g.stack = argsL.reverse ++ .ref b :: rest) (hW : 2 * g.monitorRoom + (rest.map fun v => v.category).sum ≤ W9) (hdg : decode c.code g.pc = .ok (.invokevirtual index, 3))
    (hpre : ∀ vm₁, s.WarmedH vm₁ → Pre ⟨T.setVm vm₁, locs, cells, slots⟩ (Value.ref b :: argsL).toArray) :
    (∃ (v : Option Value) (vm₁ : Vm) (B : Pt), s.WarmedH vm₁ ∧ Stand p l e R s m args below meth c B.U B.locs B.cells B.slots ∧ Post ⟨T.setVm vm₁, locs, cells, slots⟩ (Value.ref b :: argsL).toArray v B ∧
      ∀ target, Steps p.tables e below (B.U.setTop { g with pc := g.pc + 3, stack := v.toList ++ rest }) target → Steps p.tables e below (T.setTop g) target) ∨
    (∃ (q : Addr) (vm₁ : Vm) (B : Pt), s.WarmedH vm₁ ∧ Stand p l e R s m args below meth c B.U B.locs B.cells B.slots ∧ PostX ⟨T.setVm vm₁, locs, cells, slots⟩ (Value.ref b :: argsL).toArray q B ∧
      Steps p.tables e below (T.setTop g) ((B.U.setTop { g with stack := rest }).pushFrame (.throwing q))) := by
  obtain ⟨mk, methM, hnamed, hmethM, hstM, habM⟩ := Cond.instanceMethod_spec hinst
  obtain ⟨m8, methM', cM, hn8, hmethM', -, -, -, -, -, -, hsigM⟩ := Cond.codeWith_spec hcode
  cases Option.some.inj (hn8.symm.trans hnamed)
  cases hmethM.symm.trans hmethM'
  obtain ⟨c2, r2, m2, q1, q2, q3, q4, kP, hkP, hkPi⟩ := Cond.selects_spec hsel
  cases hcls.symm.trans q1
  cases (State.methodFound?_of_named hnamed hy).symm.trans q2
  cases hnamed.symm.trans q3
  have hselP : selectMethod e.platform s.vm cellB.cls mk = .method mk := by rw [Launch.admits_selectMethod X.admits]; exact q4
  obtain ⟨vm₁, X₁, hstep₁⟩ := X.invokevirtual hexec hown hlink hnamed hmethM hstM hkP hkPi hy (a := b) (cell := cellB) hcell
    (fun z h => by rw [h] at hobj; cases hobj) hselP hmethM habM hkP hkPi (g := g) hg (argsL := argsL) (rest := rest) (hlen _ hsigM) hstack hdg
  rcases hK m meth c ⟨T.setVm vm₁, locs, cells, slots⟩ { g with stack := rest } (.invokevirtual index) mk (Value.ref b :: argsL).toArray X₁ hg hsize hdg hW (X₁.named hnamed) (hpre vm₁ X₁.warmed) with ⟨v, B, X', hpost, hsteps⟩ | ⟨q, B, X', hpost, hsteps⟩
  · exact Or.inl ⟨v, vm₁, B, X₁.warmed, X', hpost, fun target h => hstep₁ _ fun acts => by rw [doInvoke_state]; exact hsteps.trans h⟩
  · exact Or.inr ⟨q, vm₁, B, X₁.warmed, X', hpost, hstep₁ _ fun acts => by rw [doInvoke_state]; exact hsteps⟩
theorem vx_callSX (X : Stand p l e R s m args below meth c T locs cells slots) (hexec : p.tables.exec = Jvm.exec) {own : String} {index : Nat} {y : MethodName} {bytes : ByteArray} {maxL : Nat} {ret : Option FieldType} {hh : List (Nat × Nat × Nat × Nat)}
    (hown : s.vm.findClass own = some m.cls) (hlink : (Cond.methodLink own index y).before args s = true) (hstat : (Cond.static y).before args s = true) (hinit : (Cond.initialized y.cls).before args s = true)
    (hcode : (Cond.codeWith y bytes maxL ret hh).before args s = true) (hy : y.cls ≠ "java/lang/invoke/MethodHandle" ∧ y.cls ≠ "java/lang/invoke/VarHandle")
    {W9 : Nat} {Pre : Pt → Array Value → Prop} {Post : Pt → Array Value → Option Value → Pt → Prop} {PostX : Pt → Array Value → Addr → Pt → Prop} (hK : vx_Back l R p e below s args y 3 W9 Pre Post PostX)
    {g : JFrame} (hg : g.method = m) (hsize : g.locals.size = c.maxLocals) {argsL rest : List Value} (hlen : ∀ sig, parseMethodDescriptor y.desc = some sig → argsL.length = sig.parameters.length)
    (hstack : g.stack = argsL.reverse ++ rest) (hW : 2 * g.monitorRoom + (rest.map fun v => v.category).sum ≤ W9) (hdg : decode c.code g.pc = .ok (.invokestatic index, 3))
    (hpre : ∀ vm₁, s.WarmedH vm₁ → Pre ⟨T.setVm vm₁, locs, cells, slots⟩ argsL.toArray) :
    (∃ (v : Option Value) (vm₁ : Vm) (B : Pt), s.WarmedH vm₁ ∧ Stand p l e R s m args below meth c B.U B.locs B.cells B.slots ∧ Post ⟨T.setVm vm₁, locs, cells, slots⟩ argsL.toArray v B ∧
      ∀ target, Steps p.tables e below (B.U.setTop { g with pc := g.pc + 3, stack := v.toList ++ rest }) target → Steps p.tables e below (T.setTop g) target) ∨
    (∃ (q : Addr) (vm₁ : Vm) (B : Pt), s.WarmedH vm₁ ∧ Stand p l e R s m args below meth c B.U B.locs B.cells B.slots ∧ PostX ⟨T.setVm vm₁, locs, cells, slots⟩ argsL.toArray q B ∧
      Steps p.tables e below (T.setTop g) ((B.U.setTop { g with stack := rest }).pushFrame (.throwing q))) := by
  obtain ⟨mk, methM, cM, hnamed, hmethM, -, -, -, -, -, -, hsigM⟩ := Cond.codeWith_spec hcode
  have hstatic : methM.isStatic = true := Cond.static_spec hnamed hmethM hstat
  obtain ⟨kP, hkP, -⟩ := className_of_methodNamed hnamed
  have hinitP : kP.init = .initialized := Cond.initialized_spec (findClass_of_methodNamed hnamed) hkP hinit
  obtain ⟨vm₁, X₁, hstep₁⟩ := X.invokestatic hexec hown hlink hnamed hmethM hstatic hkP hinitP hy (g := g) hg (argsL := argsL) (rest := rest) (hlen _ hsigM) hstack hdg
  rcases hK m meth c ⟨T.setVm vm₁, locs, cells, slots⟩ { g with stack := rest } (.invokestatic index) mk argsL.toArray X₁ hg hsize hdg hW (X₁.named hnamed) (hpre vm₁ X₁.warmed) with ⟨v, B, X', hpost, hsteps⟩ | ⟨q, B, X', hpost, hsteps⟩
  · exact Or.inl ⟨v, vm₁, B, X₁.warmed, X', hpost, fun target h => hstep₁ _ fun acts => by rw [doInvoke_state]; exact hsteps.trans h⟩
  · exact Or.inr ⟨q, vm₁, B, X₁.warmed, X', hpost, hstep₁ _ fun acts => by rw [doInvoke_state]; exact hsteps⟩
theorem vx_callVW (X : Stand p l e R s m args below meth c T locs cells slots) (hexec : p.tables.exec = Jvm.exec) {own C : String} {index : Nat} {y : MethodName} {bytes : ByteArray} {maxL : Nat} {ret : Option FieldType} {hh : List (Nat × Nat × Nat × Nat)}
    (hown : s.vm.findClass own = some m.cls) (hlink : (Cond.methodLink own index y).before args s = true) (hinst : (Cond.instanceMethod y).before args s = true) (hsel : (Cond.selects C y y).before args s = true)
    (hcode : (Cond.codeWith y bytes maxL ret hh).before args s = true) (hy : y.cls ≠ "java/lang/invoke/MethodHandle" ∧ y.cls ≠ "java/lang/invoke/VarHandle")
    {W9 : Nat} {Pre : Pt → Array Value → Prop} {Post : Pt → Array Value → Option Value → Pt → Prop} (hK : Back l R p e below s args y 3 W9 Pre Post)
    {b : Addr} {cellB : Cell} (hcell : T.heap[b]? = some cellB) (hobj : cellB.vm.isStatics = false) (hcls : s.vm.findClass C = some cellB.cls)
    {g : JFrame} (hg : g.method = m) (hsize : g.locals.size = c.maxLocals) {argsL rest : List Value} (hlen : ∀ sig, parseMethodDescriptor y.desc = some sig → argsL.length = sig.parameters.length)
    (hstack : g.stack = argsL.reverse ++ .ref b :: rest) (hW : 2 * g.monitorRoom + (rest.map fun v => v.category).sum ≤ W9) (hdg : decode c.code g.pc = .ok (.invokevirtual index, 3))
    (hpre : ∀ vm₁, s.WarmedH vm₁ → Pre ⟨T.setVm vm₁, locs, cells, slots⟩ (Value.ref b :: argsL).toArray) :
    ∃ (v : Option Value) (vm₁ : Vm) (B : Pt), s.WarmedH vm₁ ∧ Stand p l e R s m args below meth c B.U B.locs B.cells B.slots ∧ Post ⟨T.setVm vm₁, locs, cells, slots⟩ (Value.ref b :: argsL).toArray v B ∧
      ∀ target, Steps p.tables e below (B.U.setTop { g with pc := g.pc + 3, stack := v.toList ++ rest }) target → Steps p.tables e below (T.setTop g) target := by
  obtain ⟨mk, methM, hnamed, hmethM, hstM, habM⟩ := Cond.instanceMethod_spec hinst
  obtain ⟨m8, methM', cM, hn8, hmethM', -, -, -, -, -, -, hsigM⟩ := Cond.codeWith_spec hcode
  cases Option.some.inj (hn8.symm.trans hnamed)
  cases hmethM.symm.trans hmethM'
  obtain ⟨c2, r2, m2, q1, q2, q3, q4, kP, hkP, hkPi⟩ := Cond.selects_spec hsel
  cases hcls.symm.trans q1
  cases (State.methodFound?_of_named hnamed hy).symm.trans q2
  cases hnamed.symm.trans q3
  have hselP : selectMethod e.platform s.vm cellB.cls mk = .method mk := by rw [Launch.admits_selectMethod X.admits]; exact q4
  obtain ⟨vm₁, X₁, hstep₁⟩ := X.invokevirtual hexec hown hlink hnamed hmethM hstM hkP hkPi hy (a := b) (cell := cellB) hcell
    (fun z h => by rw [h] at hobj; cases hobj) hselP hmethM habM hkP hkPi (g := g) hg (argsL := argsL) (rest := rest) (hlen _ hsigM) hstack hdg
  obtain ⟨v, B, X', hpost, hsteps⟩ := hK m meth c ⟨T.setVm vm₁, locs, cells, slots⟩ { g with stack := rest } (.invokevirtual index) mk (Value.ref b :: argsL).toArray X₁ hg hsize hdg hW (X₁.named hnamed) (hpre vm₁ X₁.warmed)
  exact ⟨v, vm₁, B, X₁.warmed, X', hpost, fun target h => hstep₁ _ fun acts => by rw [doInvoke_state]; exact hsteps.trans h⟩
abbrev vx_CVW (R : Room) (s : State) (args : Array Value) (own C : String) (index : Nat) (y : MethodName) (bytes : ByteArray) (maxL : Nat) (ret : Option FieldType) (hh : List (Nat × Nat × Nat × Nat)) (ws : List Cond) (rm : Room) (mc ms n : Nat) : Prop :=
  (rm.cells = mc ∧ rm.slots = ms ∧ rm.frames + 1 ≤ R.frames ∧ 8 + (maxL + 11) + rm.locals ≤ R.locals ∧ (∀ w ∈ ws, ∀ (a' : Array Value) (U : State), s.WarmedH U.vm → w.before a' U = true) ∧ Cond.codeWith y bytes maxL ret hh ∈ ws) ∧
  (Cond.codeWith y bytes maxL ret hh).before args s = true ∧ (Cond.initialized y.cls).before args s = true ∧ (y.cls ≠ "java/lang/invoke/MethodHandle" ∧ y.cls ≠ "java/lang/invoke/VarHandle") ∧
  (∀ sig, parseMethodDescriptor y.desc = some sig → n = sig.parameters.length) ∧ (Cond.methodLink own index y).before args s = true ∧ (Cond.instanceMethod y).before args s = true ∧ (Cond.selects C y y).before args s = true
theorem vx_cwVW {own C : String} {index maxL mc ms : Nat} {y : MethodName} {bytes : ByteArray} {ret : Option FieldType} {hh : List (Nat × Nat × Nat × Nat)} {Ts ws ws' : List Cond} {rm : Room} (n : Nat) (ht : ∀ w ∈ Ts, w.before args s = true) (hT : GoodIn Ts (wsV own index C y ws)) (hw : ws = Cond.codeWith y bytes maxL ret hh :: ws') (hrc : rm.cells = mc) (hrs : rm.slots = ms)
    (hd : y.cls = C ∧ y.cls ≠ "java/lang/invoke/MethodHandle" ∧ y.cls ≠ "java/lang/invoke/VarHandle" ∧ (parseMethodDescriptor y.desc).map (fun d => d.parameters.length) = some n) (hR : rm.frames + 1 ≤ R.frames ∧ 8 + (maxL + 11) + rm.locals ≤ R.locals) :
    vx_CVW R s args own C index y bytes maxL ret hh ws rm mc ms n := by
  obtain ⟨hC, hd⟩ := hd
  subst hC
  have ok : ∀ w ∈ wsV own index y.cls y ws, w.before args s = true := fun w h => ht w (hT w h).1
  have hG : GoodIn Ts ws := fun w h => hT w (by unfold wsV; exact List.mem_append_right _ h)
  have hc : Cond.codeWith y bytes maxL ret hh ∈ ws := by rw [hw]; exact List.mem_cons_self
  refine ⟨⟨hrc, hrs, hR.1, hR.2, pay_in ht hG, hc⟩, ht _ (hG _ hc).1, ok _ (by simp [wsV]), ⟨hd.1, hd.2.1⟩, fun sig h => ?_, ok _ (by simp [wsV]), ok _ (by simp [wsV]), ok _ (by simp [wsV])⟩
  have h2 := hd.2.2
  rw [h] at h2
  exact (Option.some.inj h2).symm
theorem vx_runVW {y : MethodName} {bytes cc : ByteArray} {maxL nL mc ms n index : Nat} {ret : Option FieldType} {hh : List (Nat × Nat × Nat × Nat)} {ws : List Cond} {rm : Room} {Pc : Array Value → State → Prop} {Qc : Array Value → State → Outcome → State → Prop} {free : Addr → Prop} {Ts : List Cond} {own C : String} {b : Addr} {As rest : List Value} {g : JFrame}
    (S : CallFix p m c cc nL s args Ts own) (hM : Met l y ws rm Pc Qc mc ms free) (cw : vx_CVW R s args own C index y bytes maxL ret hh ws rm mc ms n) (hp : PreV s H C b Pc As)
    (hg : g.method = m) (hn : As.length = n) (hsize : g.locals.size = nL) (hstack : g.stack = As.reverse ++ .ref b :: rest) (hW : 2 * g.monitorRoom + (rest.map fun v => v.category).sum ≤ 8) (hdg : decode cc g.pc = .ok (.invokevirtual index, 3)) (hf : cells + mc ≤ R.cells ∧ slots + ms ≤ R.slots) :
    va_Run p l e R s m args below meth c H locs cells slots mc ms g rest (Qc (Value.ref b :: As).toArray) free := by
  obtain ⟨⟨hrc, hrs, hfr, hlo, hws, hcw⟩, hcode, hini, hy, hlen, hl, hin, hse⟩ := cw
  have hK : Back l R p e below s args y 3 8 (PreOf R mc ms Pc) (PostOf Qc mc ms free) := va_backW (hh := hh) (bytes := bytes) (maxL := maxL) (ret := ret) hM hp.1 hrc hrs hfr hlo hws hcw (fun a' U hW => word_at hW (Or.inl (by first | rfl | simp [Cond.onTables, Cond.keeps, Cond.steady])) hini)
  obtain ⟨hx, hb, hml, ho, -⟩ := S
  obtain ⟨-, ⟨cellB, hcB, hoB, hclB⟩, hPc⟩ := hp
  intro T hT X
  obtain ⟨v, vm₁, ⟨U', l2, c2, s2⟩, hW₁, X', ⟨g', mk, t, L, e1, e2, hq, h1, hL, h2, h3⟩, st⟩ := vx_callVW X hx (C := C) (hh := hh) (bytes := bytes) (maxL := maxL) (ret := ret) ho hl hin hse hcode hy hK (by rw [hT]; exact hcB) hoB hclB hg (hsize.trans hml.symm) (argsL := As) (rest := rest) (fun sig h => hn.trans (hlen sig h)) hstack hW (by rw [hb]; exact hdg)
    (fun vm₁ hW₁ => ⟨hf.1, hf.2, hPc (T.setVm vm₁) hT hW₁⟩)
  dsimp only [Pt.U, Pt.locs, Pt.cells, Pt.slots] at X' e1 e2 h1 h2 h3 st
  subst h1; subst h2; subst h3
  exact ⟨v, (T.setVm vm₁).calling g' mk (Value.ref b :: As).toArray, t, U', L, hT, X', hL, e1, e2, hq, st⟩
section
variable {y : MethodName} {bytes cc : ByteArray} {maxL nL mc ms n index : Nat} {ret : Option FieldType} {ws : List Cond} {rm : Room} {Pc : Array Value → State → Prop} {Qc : Array Value → State → Outcome → State → Prop} {XC : String → State → State → Prop} {free : Addr → Prop} {Ts : List Cond} {own C : String} {b : Addr} {As rest : List Value} {g : JFrame}
theorem vx_runVX {hh : List (Nat × Nat × Nat × Nat)} (S : CallFix p m c cc nL s args Ts own) (hM : vx_Met l y ws rm Pc Qc XC mc ms free) (cw : vx_CVW R s args own C index y bytes maxL ret hh ws rm mc ms n) (hp : PreV s H C b Pc As)
    (hg : g.method = m) (hn : As.length = n) (hsize : g.locals.size = nL) (hstack : g.stack = As.reverse ++ .ref b :: rest) (hW : 2 * g.monitorRoom + (rest.map fun v => v.category).sum ≤ 8) (hdg : decode cc g.pc = .ok (.invokevirtual index, 3)) (hf : cells + mc ≤ R.cells ∧ slots + ms ≤ R.slots) :
    vx_Run p l e R s m args below meth c H locs cells slots mc ms g rest (Qc (Value.ref b :: As).toArray) XC free := by
  obtain ⟨⟨hrc, hrs, hfr, hlo, hws, hcw⟩, hcode, hini, hy, hlen, hl, hin, hse⟩ := cw
  have hK : vx_Back l R p e below s args y 3 8 (PreOf R mc ms Pc) (PostOf Qc mc ms free) (vx_Post XC mc ms free) := vx_backW (hh := hh) (bytes := bytes) (maxL := maxL) (ret := ret) hM hp.1 hrc hrs hfr hlo hws hcw (fun a' U hW => word_at hW (Or.inl (by first | rfl | simp [Cond.onTables, Cond.keeps, Cond.steady])) hini)
  obtain ⟨hx, hb, hml, ho, -⟩ := S
  obtain ⟨-, ⟨cellB, hcB, hoB, hclB⟩, hPc⟩ := hp
  intro T hT X
  rcases vx_callVX X hx (C := C) (hh := hh) (bytes := bytes) (maxL := maxL) (ret := ret) ho hl hin hse hcode hy hK (by rw [hT]; exact hcB) hoB hclB hg (hsize.trans hml.symm) (argsL := As) (rest := rest) (fun sig h => hn.trans (hlen sig h)) hstack hW (by rw [hb]; exact hdg)
    (fun vm₁ hW₁ => ⟨hf.1, hf.2, hPc (T.setVm vm₁) hT hW₁⟩) with ⟨v, vm₁, ⟨U', l2, c2, s2⟩, hW₁, X', ⟨g', mk, t, L, e1, e2, hq, h1, hL, h2, h3⟩, st⟩ | ⟨q, vm₁, ⟨U', l2, c2, s2⟩, hW₁, X', ⟨g', mk, t, L, E, ce, e1, e2, hq, hce, hcv, hcl, h1, hL, h2, h3⟩, st⟩
  · dsimp only [Pt.U, Pt.locs, Pt.cells, Pt.slots] at X' e1 e2 h1 h2 h3 st
    subst h1; subst h2; subst h3
    exact Or.inl ⟨v, (T.setVm vm₁).calling g' mk (Value.ref b :: As).toArray, t, U', L, hT, X', hL, e1, e2, hq, st⟩
  · dsimp only [Pt.U, Pt.locs, Pt.cells, Pt.slots] at X' e1 e2 h1 h2 h3 st hcl
    subst h1; subst h2; subst h3
    exact Or.inr ⟨q, (T.setVm vm₁).calling g' mk (Value.ref b :: As).toArray, t, U', L, E, ce, hT, X', hL, e1, e2, hq, hce, hcv, vx_cls hW₁ hcl, st⟩
theorem vx_runSX {hh : List (Nat × Nat × Nat × Nat)} (S : CallFix p m c cc nL s args Ts own) (hM : vx_Met l y ws rm Pc Qc XC mc ms free) (cw : vx_CSW R s args own index y bytes maxL ret hh ws rm mc ms n) (hp : PreS s H Pc As)
    (hg : g.method = m) (hn : As.length = n) (hsize : g.locals.size = nL) (hstack : g.stack = As.reverse ++ rest) (hW : 2 * g.monitorRoom + (rest.map fun v => v.category).sum ≤ 8) (hdg : decode cc g.pc = .ok (.invokestatic index, 3)) (hf : cells + mc ≤ R.cells ∧ slots + ms ≤ R.slots) :
    vx_Run p l e R s m args below meth c H locs cells slots mc ms g rest (Qc As.toArray) XC free := by
  obtain ⟨⟨hrc, hrs, hfr, hlo, hws, hcw⟩, hcode, hini, hy, hlen, hl, hstt⟩ := cw
  have hK : vx_Back l R p e below s args y 3 8 (PreOf R mc ms Pc) (PostOf Qc mc ms free) (vx_Post XC mc ms free) := vx_backW (hh := hh) (bytes := bytes) (maxL := maxL) (ret := ret) hM hp.1 hrc hrs hfr hlo hws hcw (fun a' U hW => word_at hW (Or.inl (by first | rfl | simp [Cond.onTables, Cond.keeps, Cond.steady])) hini)
  obtain ⟨hx, hb, hml, ho, -⟩ := S
  intro T hT X
  rcases vx_callSX X hx (hh := hh) (bytes := bytes) (maxL := maxL) (ret := ret) ho hl hstt hini hcode hy hK hg (hsize.trans hml.symm) (argsL := As) (rest := rest) (fun sig h => hn.trans (hlen sig h)) hstack hW (by rw [hb]; exact hdg)
    (fun vm₁ hW₁ => ⟨hf.1, hf.2, hp.2 (T.setVm vm₁) hT hW₁⟩) with ⟨v, vm₁, ⟨U', l2, c2, s2⟩, hW₁, X', ⟨g', mk, t, L, e1, e2, hq, h1, hL, h2, h3⟩, st⟩ | ⟨q, vm₁, ⟨U', l2, c2, s2⟩, hW₁, X', ⟨g', mk, t, L, E, ce, e1, e2, hq, hce, hcv, hcl, h1, hL, h2, h3⟩, st⟩
  · dsimp only [Pt.U, Pt.locs, Pt.cells, Pt.slots] at X' e1 e2 h1 h2 h3 st
    subst h1; subst h2; subst h3
    exact Or.inl ⟨v, (T.setVm vm₁).calling g' mk As.toArray, t, U', L, hT, X', hL, e1, e2, hq, st⟩
  · dsimp only [Pt.U, Pt.locs, Pt.cells, Pt.slots] at X' e1 e2 h1 h2 h3 st hcl
    subst h1; subst h2; subst h3
    exact Or.inr ⟨q, (T.setVm vm₁).calling g' mk As.toArray, t, U', L, E, ce, hT, X', hL, e1, e2, hq, hce, hcv, vx_cls hW₁ hcl, st⟩
end
end VXH
theorem vx_ofWH {l : Launch} {y : MethodName} {ws ws' : List Cond} {rm : Room} {Pc : Array Value → State → Prop} {Qc : Array Value → State → Outcome → State → Prop} {XC : String → State → State → Prop} {mc ms : Nat} {free : Addr → Prop} {cc : ByteArray} {maxL : Nat} {ret : Option FieldType} {hh : List (Nat × Nat × Nat × Nat)}
    (hy : plainName y.cls = true) (hw : ws = Cond.codeWith y cc maxL ret hh :: ws')
    (body : ∀ p e s m args below meth c s₁, BodyLoose p l y (headSpec ws rm) cc maxL ret e s m args below meth c s₁ → c.maxLocals = maxL → Pc args s →
      W p l e (headSpec ws rm).room s m args below meth c s.heap [] 0 0 (vx_MQ below Qc XC args s mc ms free) (entryFrame m args maxL)) : vx_Met l y ws rm Pc Qc XC mc ms free := by
  refine MetFree.of_bodyS (code := cc) (maxLocals := maxL) (ret := ret) hy ?_ ?_
  · intro args s m h hn
    obtain ⟨m9, meth, c, hn9, h1, h2, h3, h4, -, h5, h6, -⟩ := Cond.codeWith_spec (atoms_spec (ws := ws) h _ (by rw [hw]; exact List.mem_cons_self))
    cases hn.symm.trans hn9
    exact ⟨meth, c, h1, h2, h3, h4, h5, h6⟩
  · intro p e s m args below meth c s₁ B hml hP _
    have hh0 : s₁.heap = s.heap := by rw [B.state]; rfl
    obtain ⟨t, a1, o, b1, b2, b3⟩ := body p e s m args below meth c s₁ B hml hP s₁ hh0 (Stand.of_body B)
    exact ⟨t, o, a1, b1, b2, b3⟩
/-! ===== END ===== -/

/-! ===== BEGIN printed: names, fields, word lists, decode rows ===== -/
def RX0 : String := "SerialPort$Divider"
def TX0 : u_T := fun k => match k with
  | 0 => ("SerialPort$Divider", "divisor", "I", false)
  | _ => ("SerialPort$Divider", "passed", "I", false)
def tyX0 : Nat → FieldType := fun k => match k with
  | 0 => .int
  | _ => .int
abbrev wsX00 : List Cond := u_ws RX0 TX0 2
theorem nmX0 : ∀ a, a < 2 → ∀ b, b < 2 → a ≠ b → (TX0 a).2.1 ≠ (TX0 b).2.1 := by decide +kernel
theorem tyX0_ok : ∀ k, k < 2 → parseFieldDescriptor (TX0 k).2.2.1 = some (tyX0 k) := by decide +kernel
abbrev cX0_init : ByteArray := prog_2_method_1_code
def yX0_init : MethodName := ⟨RX0, "<init>", "()V"⟩
abbrev cX0_clear : ByteArray := prog_2_method_2_code
def yX0_clear : MethodName := ⟨RX0, "clear", "()V"⟩
abbrev cX0_putByte : ByteArray := prog_2_method_3_code
def yX0_putByte : MethodName := ⟨RX0, "putByte", "(II)V"⟩
abbrev cX0_tellByte : ByteArray := prog_2_method_4_code
def yX0_tellByte : MethodName := ⟨RX0, "tellByte", "(I)I"⟩
abbrev cX0_pass : ByteArray := prog_2_method_5_code
def yX0_pass : MethodName := ⟨RX0, "pass", "(I)I"⟩
def RX1 : String := "SerialPort$LineIn"
def TX1 : u_T := fun k => match k with
  | 0 => ("SerialPort$LineIn", "wave", "LSerialPort$Ring;", true)
  | _ => ("SerialPort$LineIn", "high", "Z", false)
def tyX1 : Nat → FieldType := fun k => match k with
  | 0 => .object "SerialPort$Ring"
  | _ => .boolean
abbrev wsX10 : List Cond := u_ws RX1 TX1 2
theorem nmX1 : ∀ a, a < 2 → ∀ b, b < 2 → a ≠ b → (TX1 a).2.1 ≠ (TX1 b).2.1 := by decide +kernel
theorem tyX1_ok : ∀ k, k < 2 → parseFieldDescriptor (TX1 k).2.2.1 = some (tyX1 k) := by decide +kernel
abbrev cX1_init : ByteArray := prog_3_method_1_code
def yX1_init : MethodName := ⟨RX1, "<init>", "()V"⟩
abbrev cX1_clear : ByteArray := prog_3_method_2_code
def yX1_clear : MethodName := ⟨RX1, "clear", "()V"⟩
abbrev cX1_pieces : ByteArray := prog_3_method_3_code
def yX1_pieces : MethodName := ⟨RX1, "pieces", "()I"⟩
abbrev cX1_room : ByteArray := prog_3_method_4_code
def yX1_room : MethodName := ⟨RX1, "room", "()I"⟩
abbrev cX1_append : ByteArray := prog_3_method_5_code
def yX1_append : MethodName := ⟨RX1, "append", "(ZI)V"⟩
abbrev cX1_next : ByteArray := prog_3_method_6_code
def yX1_next : MethodName := ⟨RX1, "next", "()Z"⟩
def RX2 : String := "SerialPort$LineOut"
def TX2 : u_T := fun k => match k with
  | 0 => ("SerialPort$LineOut", "runs", "LSerialPort$Ring;", true)
  | _ => ("SerialPort$LineOut", "inAll", "I", false)
def tyX2 : Nat → FieldType := fun k => match k with
  | 0 => .object "SerialPort$Ring"
  | _ => .int
abbrev wsX20 : List Cond := u_ws RX2 TX2 2
theorem nmX2 : ∀ a, a < 2 → ∀ b, b < 2 → a ≠ b → (TX2 a).2.1 ≠ (TX2 b).2.1 := by decide +kernel
theorem tyX2_ok : ∀ k, k < 2 → parseFieldDescriptor (TX2 k).2.2.1 = some (tyX2 k) := by decide +kernel
abbrev cX2_init : ByteArray := prog_4_method_1_code
def yX2_init : MethodName := ⟨RX2, "<init>", "()V"⟩
abbrev cX2_clear : ByteArray := prog_4_method_2_code
def yX2_clear : MethodName := ⟨RX2, "clear", "()V"⟩
abbrev cX2_isHigh : ByteArray := prog_4_method_3_code
def yX2_isHigh : MethodName := ⟨RX2, "isHigh", "()Z"⟩
abbrev cX2_runsInAll : ByteArray := prog_4_method_4_code
def yX2_runsInAll : MethodName := ⟨RX2, "runsInAll", "()I"⟩
abbrev cX2_runsKept : ByteArray := prog_4_method_5_code
def yX2_runsKept : MethodName := ⟨RX2, "runsKept", "()I"⟩
abbrev cX2_runIsHigh : ByteArray := prog_4_method_6_code
def yX2_runIsHigh : MethodName := ⟨RX2, "runIsHigh", "(I)Z"⟩
abbrev cX2_runBeats : ByteArray := prog_4_method_7_code
def yX2_runBeats : MethodName := ⟨RX2, "runBeats", "(I)I"⟩
abbrev cX2_append : ByteArray := prog_4_method_8_code
def yX2_append : MethodName := ⟨RX2, "append", "(Z)V"⟩
abbrev cX2_fromEnd : ByteArray := prog_4_method_9_code
def yX2_fromEnd : MethodName := ⟨RX2, "fromEnd", "(I)I"⟩
def RX3 : String := "SerialPort$Modem"
def TX3 : u_T := fun k => match k with
  | 0 => ("SerialPort$Modem", "outputs", "I", false)
  | 1 => ("SerialPort$Modem", "pins", "I", false)
  | 2 => ("SerialPort$Modem", "state", "I", false)
  | _ => ("SerialPort$Modem", "changes", "I", false)
def tyX3 : Nat → FieldType := fun k => match k with
  | 0 => .int
  | 1 => .int
  | 2 => .int
  | _ => .int
abbrev wsX30 : List Cond := u_ws RX3 TX3 4
theorem nmX3 : ∀ a, a < 4 → ∀ b, b < 4 → a ≠ b → (TX3 a).2.1 ≠ (TX3 b).2.1 := by decide +kernel
theorem tyX3_ok : ∀ k, k < 4 → parseFieldDescriptor (TX3 k).2.2.1 = some (tyX3 k) := by decide +kernel
abbrev cX3_init : ByteArray := prog_5_method_1_code
def yX3_init : MethodName := ⟨RX3, "<init>", "()V"⟩
abbrev cX3_clear : ByteArray := prog_5_method_2_code
def yX3_clear : MethodName := ⟨RX3, "clear", "()V"⟩
abbrev cX3_outputs : ByteArray := prog_5_method_3_code
def yX3_outputs : MethodName := ⟨RX3, "outputs", "()I"⟩
abbrev cX3_loops : ByteArray := prog_5_method_4_code
def yX3_loops : MethodName := ⟨RX3, "loops", "()Z"⟩
abbrev cX3_hasChanged : ByteArray := prog_5_method_5_code
def yX3_hasChanged : MethodName := ⟨RX3, "hasChanged", "()Z"⟩
abbrev cX3_putOutputs : ByteArray := prog_5_method_6_code
def yX3_putOutputs : MethodName := ⟨RX3, "putOutputs", "(I)V"⟩
abbrev cX3_putPins : ByteArray := prog_5_method_7_code
def yX3_putPins : MethodName := ⟨RX3, "putPins", "(I)V"⟩
abbrev cX3_tellState : ByteArray := prog_5_method_8_code
def yX3_tellState : MethodName := ⟨RX3, "tellState", "()I"⟩
abbrev cX3_follow : ByteArray := prog_5_method_9_code
def yX3_follow : MethodName := ⟨RX3, "follow", "()V"⟩
abbrev cX3_looped : ByteArray := prog_5_method_10_code
def yX3_looped : MethodName := ⟨RX3, "looped", "()I"⟩
def RX4 : String := "SerialPort$Receiver"
def TX4 : u_T := fun k => match k with
  | 0 => ("SerialPort$Receiver", "control", "I", false)
  | 1 => ("SerialPort$Receiver", "character", "I", false)
  | 2 => ("SerialPort$Receiver", "beat", "I", false)
  | 3 => ("SerialPort$Receiver", "busy", "Z", false)
  | 4 => ("SerialPort$Receiver", "wasHigh", "Z", false)
  | 5 => ("SerialPort$Receiver", "parityHigh", "Z", false)
  | _ => ("SerialPort$Receiver", "someHigh", "Z", false)
def tyX4 : Nat → FieldType := fun k => match k with
  | 0 => .int
  | 1 => .int
  | 2 => .int
  | 3 => .boolean
  | 4 => .boolean
  | 5 => .boolean
  | _ => .boolean
abbrev wsX40 : List Cond := u_ws RX4 TX4 7
theorem nmX4 : ∀ a, a < 7 → ∀ b, b < 7 → a ≠ b → (TX4 a).2.1 ≠ (TX4 b).2.1 := by decide +kernel
theorem tyX4_ok : ∀ k, k < 7 → parseFieldDescriptor (TX4 k).2.2.1 = some (tyX4 k) := by decide +kernel
abbrev cX4_init : ByteArray := prog_6_method_1_code
def yX4_init : MethodName := ⟨RX4, "<init>", "()V"⟩
abbrev cX4_clear : ByteArray := prog_6_method_2_code
def yX4_clear : MethodName := ⟨RX4, "clear", "()V"⟩
abbrev cX4_isBusy : ByteArray := prog_6_method_3_code
def yX4_isBusy : MethodName := ⟨RX4, "isBusy", "()Z"⟩
abbrev cX4_step : ByteArray := prog_6_method_4_code
def yX4_step : MethodName := ⟨RX4, "step", "(ZI)I"⟩
abbrev cX4_listen : ByteArray := prog_6_method_5_code
def yX4_listen : MethodName := ⟨RX4, "listen", "(ZI)V"⟩
abbrev cX4_begin : ByteArray := prog_6_method_6_code
def yX4_begin : MethodName := ⟨RX4, "begin", "(I)V"⟩
abbrev cX4_seeStart : ByteArray := prog_6_method_7_code
def yX4_seeStart : MethodName := ⟨RX4, "seeStart", "(Z)I"⟩
abbrev cX4_becomeIdle : ByteArray := prog_6_method_8_code
def yX4_becomeIdle : MethodName := ⟨RX4, "becomeIdle", "(Z)V"⟩
abbrev cX4_see : ByteArray := prog_6_method_9_code
def yX4_see : MethodName := ⟨RX4, "see", "(Z)I"⟩
abbrev cX4_faults : ByteArray := prog_6_method_10_code
def yX4_faults : MethodName := ⟨RX4, "faults", "(Z)I"⟩
def RX5 : String := "SerialPort$Ring"
def TX5 : u_T := fun k => match k with
  | 0 => ("SerialPort$Ring", "cells", "[I", true)
  | 1 => ("SerialPort$Ring", "head", "I", false)
  | _ => ("SerialPort$Ring", "size", "I", false)
def tyX5 : Nat → FieldType := fun k => match k with
  | 0 => .array .int
  | 1 => .int
  | _ => .int
abbrev wsX50 : List Cond := u_ws RX5 TX5 3
theorem nmX5 : ∀ a, a < 3 → ∀ b, b < 3 → a ≠ b → (TX5 a).2.1 ≠ (TX5 b).2.1 := by decide +kernel
theorem tyX5_ok : ∀ k, k < 3 → parseFieldDescriptor (TX5 k).2.2.1 = some (tyX5 k) := by decide +kernel
abbrev cX5_init : ByteArray := prog_7_method_1_code
def yX5_init : MethodName := ⟨RX5, "<init>", "(I)V"⟩
abbrev cX5_size : ByteArray := prog_7_method_2_code
def yX5_size : MethodName := ⟨RX5, "size", "()I"⟩
abbrev cX5_isEmpty : ByteArray := prog_7_method_3_code
def yX5_isEmpty : MethodName := ⟨RX5, "isEmpty", "()Z"⟩
abbrev cX5_room : ByteArray := prog_7_method_4_code
def yX5_room : MethodName := ⟨RX5, "room", "()I"⟩
abbrev cX5_clear : ByteArray := prog_7_method_5_code
def yX5_clear : MethodName := ⟨RX5, "clear", "()V"⟩
abbrev cX5_at : ByteArray := prog_7_method_6_code
def yX5_at : MethodName := ⟨RX5, "at", "(I)I"⟩
abbrev cX5_first : ByteArray := prog_7_method_7_code
def yX5_first : MethodName := ⟨RX5, "first", "()I"⟩
abbrev cX5_setFirst : ByteArray := prog_7_method_8_code
def yX5_setFirst : MethodName := ⟨RX5, "setFirst", "(I)V"⟩
abbrev cX5_setAt : ByteArray := prog_7_method_9_code
def yX5_setAt : MethodName := ⟨RX5, "setAt", "(II)V"⟩
abbrev cX5_add : ByteArray := prog_7_method_10_code
def yX5_add : MethodName := ⟨RX5, "add", "(I)V"⟩
abbrev cX5_dropFirst : ByteArray := prog_7_method_11_code
def yX5_dropFirst : MethodName := ⟨RX5, "dropFirst", "()V"⟩
abbrev cX5_cellOf : ByteArray := prog_7_method_12_code
def yX5_cellOf : MethodName := ⟨RX5, "cellOf", "(I)I"⟩
def RX6 : String := "SerialPort$Sender"
def TX6 : u_T := fun k => match k with
  | 0 => ("SerialPort$Sender", "control", "I", false)
  | 1 => ("SerialPort$Sender", "character", "I", false)
  | 2 => ("SerialPort$Sender", "beat", "I", false)
  | _ => ("SerialPort$Sender", "busy", "Z", false)
def tyX6 : Nat → FieldType := fun k => match k with
  | 0 => .int
  | 1 => .int
  | 2 => .int
  | _ => .boolean
abbrev wsX60 : List Cond := u_ws RX6 TX6 4
theorem nmX6 : ∀ a, a < 4 → ∀ b, b < 4 → a ≠ b → (TX6 a).2.1 ≠ (TX6 b).2.1 := by decide +kernel
theorem tyX6_ok : ∀ k, k < 4 → parseFieldDescriptor (TX6 k).2.2.1 = some (tyX6 k) := by decide +kernel
abbrev cX6_init : ByteArray := prog_8_method_1_code
def yX6_init : MethodName := ⟨RX6, "<init>", "()V"⟩
abbrev cX6_clear : ByteArray := prog_8_method_2_code
def yX6_clear : MethodName := ⟨RX6, "clear", "()V"⟩
abbrev cX6_isBusy : ByteArray := prog_8_method_3_code
def yX6_isBusy : MethodName := ⟨RX6, "isBusy", "()Z"⟩
abbrev cX6_begin : ByteArray := prog_8_method_4_code
def yX6_begin : MethodName := ⟨RX6, "begin", "(II)V"⟩
abbrev cX6_next : ByteArray := prog_8_method_5_code
def yX6_next : MethodName := ⟨RX6, "next", "()Z"⟩
def RX7 : String := "SerialPort$Shape"
def TX7 : u_T := fun k => match k with
  | _ => ("", "", "", false)
def tyX7 : Nat → FieldType := fun k => match k with
  | _ => .int
abbrev wsX70 : List Cond := u_ws RX7 TX7 0
theorem nmX7 : ∀ a, a < 0 → ∀ b, b < 0 → a ≠ b → (TX7 a).2.1 ≠ (TX7 b).2.1 := by decide +kernel
theorem tyX7_ok : ∀ k, k < 0 → parseFieldDescriptor (TX7 k).2.2.1 = some (tyX7 k) := by decide +kernel
abbrev cX7_dataBits : ByteArray := prog_9_method_2_code
def yX7_dataBits : MethodName := ⟨RX7, "dataBits", "(I)I"⟩
abbrev cX7_hasParity : ByteArray := prog_9_method_3_code
def yX7_hasParity : MethodName := ⟨RX7, "hasParity", "(I)Z"⟩
abbrev cX7_pieces : ByteArray := prog_9_method_4_code
def yX7_pieces : MethodName := ⟨RX7, "pieces", "(I)I"⟩
abbrev cX7_stopBeats : ByteArray := prog_9_method_5_code
def yX7_stopBeats : MethodName := ⟨RX7, "stopBeats", "(I)I"⟩
abbrev cX7_pieceBeats : ByteArray := prog_9_method_6_code
def yX7_pieceBeats : MethodName := ⟨RX7, "pieceBeats", "(II)I"⟩
abbrev cX7_beats : ByteArray := prog_9_method_7_code
def yX7_beats : MethodName := ⟨RX7, "beats", "(I)I"⟩
abbrev cX7_parityIsHigh : ByteArray := prog_9_method_8_code
def yX7_parityIsHigh : MethodName := ⟨RX7, "parityIsHigh", "(II)Z"⟩
abbrev cX7_pieceIsHigh : ByteArray := prog_9_method_9_code
def yX7_pieceIsHigh : MethodName := ⟨RX7, "pieceIsHigh", "(III)Z"⟩
def RX8 : String := "SerialPort"
def TX8 : u_T := fun k => match k with
  | 0 => ("SerialPort", "divider", "LSerialPort$Divider;", true)
  | 1 => ("SerialPort", "received", "LSerialPort$Ring;", true)
  | 2 => ("SerialPort", "sending", "LSerialPort$Ring;", true)
  | 3 => ("SerialPort", "sender", "LSerialPort$Sender;", true)
  | 4 => ("SerialPort", "receiver", "LSerialPort$Receiver;", true)
  | 5 => ("SerialPort", "modem", "LSerialPort$Modem;", true)
  | 6 => ("SerialPort", "lineIn", "LSerialPort$LineIn;", true)
  | 7 => ("SerialPort", "lineOut", "LSerialPort$LineOut;", true)
  | 8 => ("SerialPort", "wanted", "I", false)
  | 9 => ("SerialPort", "lineControl", "I", false)
  | 10 => ("SerialPort", "kept", "I", false)
  | 11 => ("SerialPort", "level", "I", false)
  | 12 => ("SerialPort", "rowsOn", "Z", false)
  | 13 => ("SerialPort", "overrun", "Z", false)
  | 14 => ("SerialPort", "emptyUp", "Z", false)
  | 15 => ("SerialPort", "lateUp", "Z", false)
  | 16 => ("SerialPort", "beats", "I", false)
  | _ => ("SerialPort", "quietSince", "I", false)
def tyX8 : Nat → FieldType := fun k => match k with
  | 0 => .object "SerialPort$Divider"
  | 1 => .object "SerialPort$Ring"
  | 2 => .object "SerialPort$Ring"
  | 3 => .object "SerialPort$Sender"
  | 4 => .object "SerialPort$Receiver"
  | 5 => .object "SerialPort$Modem"
  | 6 => .object "SerialPort$LineIn"
  | 7 => .object "SerialPort$LineOut"
  | 8 => .int
  | 9 => .int
  | 10 => .int
  | 11 => .int
  | 12 => .boolean
  | 13 => .boolean
  | 14 => .boolean
  | 15 => .boolean
  | 16 => .int
  | _ => .int
abbrev wsX80 : List Cond := u_ws RX8 TX8 18
theorem nmX8 : ∀ a, a < 18 → ∀ b, b < 18 → a ≠ b → (TX8 a).2.1 ≠ (TX8 b).2.1 := by decide +kernel
theorem tyX8_ok : ∀ k, k < 18 → parseFieldDescriptor (TX8 k).2.2.1 = some (tyX8 k) := by decide +kernel
abbrev cX8_init : ByteArray := prog_1_method_1_code
def yX8_init : MethodName := ⟨RX8, "<init>", "()V"⟩
abbrev cX8_write : ByteArray := prog_1_method_2_code
def yX8_write : MethodName := ⟨RX8, "write", "(II)V"⟩
abbrev cX8_read : ByteArray := prog_1_method_3_code
def yX8_read : MethodName := ⟨RX8, "read", "(I)I"⟩
abbrev cX8_clock : ByteArray := prog_1_method_4_code
def yX8_clock : MethodName := ⟨RX8, "clock", "(I)I"⟩
abbrev cX8_wave : ByteArray := prog_1_method_5_code
def yX8_wave : MethodName := ⟨RX8, "wave", "(ZI)I"⟩
abbrev cX8_frame : ByteArray := prog_1_method_6_code
def yX8_frame : MethodName := ⟨RX8, "frame", "(II)I"⟩
abbrev cX8_inputs : ByteArray := prog_1_method_7_code
def yX8_inputs : MethodName := ⟨RX8, "inputs", "(I)Z"⟩
abbrev cX8_reset : ByteArray := prog_1_method_8_code
def yX8_reset : MethodName := ⟨RX8, "reset", "()V"⟩
abbrev cX8_count : ByteArray := prog_1_method_9_code
def yX8_count : MethodName := ⟨RX8, "count", "(I)I"⟩
abbrev cX8_run : ByteArray := prog_1_method_10_code
def yX8_run : MethodName := ⟨RX8, "run", "(II)I"⟩
abbrev cX8_powerOn : ByteArray := prog_1_method_11_code
def yX8_powerOn : MethodName := ⟨RX8, "powerOn", "()V"⟩
abbrev cX8_putRegister : ByteArray := prog_1_method_12_code
def yX8_putRegister : MethodName := ⟨RX8, "putRegister", "(II)V"⟩
abbrev cX8_tellRegister : ByteArray := prog_1_method_13_code
def yX8_tellRegister : MethodName := ⟨RX8, "tellRegister", "(I)I"⟩
abbrev cX8_rowRoom : ByteArray := prog_1_method_14_code
def yX8_rowRoom : MethodName := ⟨RX8, "rowRoom", "()I"⟩
abbrev cX8_putCharacter : ByteArray := prog_1_method_15_code
def yX8_putCharacter : MethodName := ⟨RX8, "putCharacter", "(I)V"⟩
abbrev cX8_takeCharacter : ByteArray := prog_1_method_16_code
def yX8_takeCharacter : MethodName := ⟨RX8, "takeCharacter", "()I"⟩
abbrev cX8_putWanted : ByteArray := prog_1_method_17_code
def yX8_putWanted : MethodName := ⟨RX8, "putWanted", "(I)V"⟩
abbrev cX8_putRowControl : ByteArray := prog_1_method_18_code
def yX8_putRowControl : MethodName := ⟨RX8, "putRowControl", "(I)V"⟩
abbrev cX8_levelOf : ByteArray := prog_1_method_19_code
def yX8_levelOf : MethodName := ⟨RX8, "levelOf", "(I)I"⟩
abbrev cX8_firstFaults : ByteArray := prog_1_method_20_code
def yX8_firstFaults : MethodName := ⟨RX8, "firstFaults", "()I"⟩
abbrev cX8_someFault : ByteArray := prog_1_method_21_code
def yX8_someFault : MethodName := ⟨RX8, "someFault", "()Z"⟩
abbrev cX8_tellLineState : ByteArray := prog_1_method_22_code
def yX8_tellLineState : MethodName := ⟨RX8, "tellLineState", "()I"⟩
abbrev cX8_reason : ByteArray := prog_1_method_23_code
def yX8_reason : MethodName := ⟨RX8, "reason", "()I"⟩
abbrev cX8_wants : ByteArray := prog_1_method_24_code
def yX8_wants : MethodName := ⟨RX8, "wants", "(I)Z"⟩
abbrev cX8_tellReason : ByteArray := prog_1_method_25_code
def yX8_tellReason : MethodName := ⟨RX8, "tellReason", "()I"⟩
abbrev cX8_beat : ByteArray := prog_1_method_26_code
def yX8_beat : MethodName := ⟨RX8, "beat", "()V"⟩
abbrev cX8_stepSender : ByteArray := prog_1_method_27_code
def yX8_stepSender : MethodName := ⟨RX8, "stepSender", "()Z"⟩
abbrev cX8_addReceived : ByteArray := prog_1_method_28_code
def yX8_addReceived : MethodName := ⟨RX8, "addReceived", "(I)V"⟩
abbrev cX8_stepLate : ByteArray := prog_1_method_29_code
def yX8_stepLate : MethodName := ⟨RX8, "stepLate", "()V"⟩
def RX9 : String := "SerialPortModel"
def TX9 : u_T := fun k => match k with
  | 0 => ("SerialPortModel", "divisor", "I", false)
  | 1 => ("SerialPortModel", "clocks", "I", false)
  | 2 => ("SerialPortModel", "wanted", "I", false)
  | 3 => ("SerialPortModel", "rowsOn", "Z", false)
  | 4 => ("SerialPortModel", "level", "I", false)
  | 5 => ("SerialPortModel", "form", "I", false)
  | 6 => ("SerialPortModel", "outputs", "I", false)
  | 7 => ("SerialPortModel", "byteKept", "I", false)
  | 8 => ("SerialPortModel", "ins", "I", false)
  | 9 => ("SerialPortModel", "changed", "I", false)
  | 10 => ("SerialPortModel", "received", "[I", true)
  | 11 => ("SerialPortModel", "marks", "[I", true)
  | 12 => ("SerialPortModel", "receivedMany", "I", false)
  | 13 => ("SerialPortModel", "overrun", "Z", false)
  | 14 => ("SerialPortModel", "sending", "[I", true)
  | 15 => ("SerialPortModel", "sendingMany", "I", false)
  | 16 => ("SerialPortModel", "emptyUp", "Z", false)
  | 17 => ("SerialPortModel", "lateUp", "Z", false)
  | 18 => ("SerialPortModel", "lateCount", "I", false)
  | 19 => ("SerialPortModel", "waveHigh", "[Z", true)
  | 20 => ("SerialPortModel", "waveBeats", "[I", true)
  | 21 => ("SerialPortModel", "waveMany", "I", false)
  | 22 => ("SerialPortModel", "lineIn", "Z", false)
  | 23 => ("SerialPortModel", "sends", "Z", false)
  | 24 => ("SerialPortModel", "sentCharacter", "I", false)
  | 25 => ("SerialPortModel", "sentForm", "I", false)
  | 26 => ("SerialPortModel", "sentBeat", "I", false)
  | 27 => ("SerialPortModel", "senderHigh", "Z", false)
  | 28 => ("SerialPortModel", "takes", "Z", false)
  | 29 => ("SerialPortModel", "sawHigh", "Z", false)
  | 30 => ("SerialPortModel", "takenForm", "I", false)
  | 31 => ("SerialPortModel", "takenBeat", "I", false)
  | 32 => ("SerialPortModel", "takenBits", "I", false)
  | 33 => ("SerialPortModel", "takenParity", "I", false)
  | 34 => ("SerialPortModel", "beats", "I", false)
  | 35 => ("SerialPortModel", "out", "Z", false)
  | 36 => ("SerialPortModel", "runHigh", "[Z", true)
  | 37 => ("SerialPortModel", "runBeats", "[I", true)
  | 38 => ("SerialPortModel", "runs", "I", false)
  | _ => ("SerialPortModel", "thrown", "I", false)
def tyX9 : Nat → FieldType := fun k => match k with
  | 0 => .int
  | 1 => .int
  | 2 => .int
  | 3 => .boolean
  | 4 => .int
  | 5 => .int
  | 6 => .int
  | 7 => .int
  | 8 => .int
  | 9 => .int
  | 10 => .array .int
  | 11 => .array .int
  | 12 => .int
  | 13 => .boolean
  | 14 => .array .int
  | 15 => .int
  | 16 => .boolean
  | 17 => .boolean
  | 18 => .int
  | 19 => .array .boolean
  | 20 => .array .int
  | 21 => .int
  | 22 => .boolean
  | 23 => .boolean
  | 24 => .int
  | 25 => .int
  | 26 => .int
  | 27 => .boolean
  | 28 => .boolean
  | 29 => .boolean
  | 30 => .int
  | 31 => .int
  | 32 => .int
  | 33 => .int
  | 34 => .int
  | 35 => .boolean
  | 36 => .array .boolean
  | 37 => .array .int
  | 38 => .int
  | _ => .int
abbrev wsX90 : List Cond := u_ws RX9 TX9 40
theorem nmX9 : ∀ a, a < 40 → ∀ b, b < 40 → a ≠ b → (TX9 a).2.1 ≠ (TX9 b).2.1 := by decide +kernel
theorem tyX9_ok : ∀ k, k < 40 → parseFieldDescriptor (TX9 k).2.2.1 = some (tyX9 k) := by decide +kernel
abbrev cX9_init : ByteArray := prog_11_method_1_code
def yX9_init : MethodName := ⟨RX9, "<init>", "()V"⟩
abbrev cX9_thrown : ByteArray := prog_11_method_2_code
def yX9_thrown : MethodName := ⟨RX9, "thrown", "()I"⟩
abbrev cX9_reset : ByteArray := prog_11_method_3_code
def yX9_reset : MethodName := ⟨RX9, "reset", "()V"⟩
abbrev cX9_dlab : ByteArray := prog_11_method_4_code
def yX9_dlab : MethodName := ⟨RX9, "dlab", "()Z"⟩
abbrev cX9_loops : ByteArray := prog_11_method_5_code
def yX9_loops : MethodName := ⟨RX9, "loops", "()Z"⟩
abbrev cX9_room : ByteArray := prog_11_method_6_code
def yX9_room : MethodName := ⟨RX9, "room", "()I"⟩
abbrev cX9_bitsOf : ByteArray := prog_11_method_7_code
def yX9_bitsOf : MethodName := ⟨RX9, "bitsOf", "(I)I"⟩
abbrev cX9_hasParity : ByteArray := prog_11_method_8_code
def yX9_hasParity : MethodName := ⟨RX9, "hasParity", "(I)Z"⟩
abbrev cX9_parityOf : ByteArray := prog_11_method_9_code
def yX9_parityOf : MethodName := ⟨RX9, "parityOf", "(II)I"⟩
abbrev cX9_stopOf : ByteArray := prog_11_method_10_code
def yX9_stopOf : MethodName := ⟨RX9, "stopOf", "(I)I"⟩
abbrev cX9_frameOf : ByteArray := prog_11_method_11_code
def yX9_frameOf : MethodName := ⟨RX9, "frameOf", "(I)I"⟩
abbrev cX9_partOf : ByteArray := prog_11_method_12_code
def yX9_partOf : MethodName := ⟨RX9, "partOf", "(III)Z"⟩
abbrev cX9_lines : ByteArray := prog_11_method_13_code
def yX9_lines : MethodName := ⟨RX9, "lines", "()I"⟩
abbrev cX9_notice : ByteArray := prog_11_method_14_code
def yX9_notice : MethodName := ⟨RX9, "notice", "(I)V"⟩
abbrev cX9_inputs : ByteArray := prog_11_method_15_code
def yX9_inputs : MethodName := ⟨RX9, "inputs", "(I)Z"⟩
abbrev cX9_clearReceived : ByteArray := prog_11_method_16_code
def yX9_clearReceived : MethodName := ⟨RX9, "clearReceived", "()V"⟩
abbrev cX9_write : ByteArray := prog_11_method_17_code
def yX9_write : MethodName := ⟨RX9, "write", "(II)V"⟩
abbrev cX9_isMarked : ByteArray := prog_11_method_18_code
def yX9_isMarked : MethodName := ⟨RX9, "isMarked", "()Z"⟩
abbrev cX9_reason : ByteArray := prog_11_method_19_code
def yX9_reason : MethodName := ⟨RX9, "reason", "()I"⟩
abbrev cX9_line : ByteArray := prog_11_method_20_code
def yX9_line : MethodName := ⟨RX9, "line", "()I"⟩
abbrev cX9_take : ByteArray := prog_11_method_21_code
def yX9_take : MethodName := ⟨RX9, "take", "()I"⟩
abbrev cX9_read : ByteArray := prog_11_method_22_code
def yX9_read : MethodName := ⟨RX9, "read", "(I)I"⟩
abbrev cX9_send : ByteArray := prog_11_method_23_code
def yX9_send : MethodName := ⟨RX9, "send", "()V"⟩
abbrev cX9_say : ByteArray := prog_11_method_24_code
def yX9_say : MethodName := ⟨RX9, "say", "(Z)V"⟩
abbrev cX9_come : ByteArray := prog_11_method_25_code
def yX9_come : MethodName := ⟨RX9, "come", "()V"⟩
abbrev cX9_put : ByteArray := prog_11_method_26_code
def yX9_put : MethodName := ⟨RX9, "put", "(II)V"⟩
abbrev cX9_receive : ByteArray := prog_11_method_27_code
def yX9_receive : MethodName := ⟨RX9, "receive", "()V"⟩
abbrev cX9_beat : ByteArray := prog_11_method_28_code
def yX9_beat : MethodName := ⟨RX9, "beat", "()V"⟩
abbrev cX9_clock : ByteArray := prog_11_method_29_code
def yX9_clock : MethodName := ⟨RX9, "clock", "(I)I"⟩
abbrev cX9_wave : ByteArray := prog_11_method_30_code
def yX9_wave : MethodName := ⟨RX9, "wave", "(ZI)I"⟩
abbrev cX9_frame : ByteArray := prog_11_method_31_code
def yX9_frame : MethodName := ⟨RX9, "frame", "(II)I"⟩
abbrev cX9_count : ByteArray := prog_11_method_32_code
def yX9_count : MethodName := ⟨RX9, "count", "(I)I"⟩
abbrev cX9_run : ByteArray := prog_11_method_33_code
def yX9_run : MethodName := ⟨RX9, "run", "(II)I"⟩
def RJ6 : String := "java/lang/Integer"
def TJ6 : u_T := fun k => match k with
  | _ => ("", "", "", false)
def tyJ6 : Nat → FieldType := fun k => match k with
  | _ => .int
abbrev wsJ60 : List Cond := u_ws RJ6 TJ6 0
theorem nmJ6 : ∀ a, a < 0 → ∀ b, b < 0 → a ≠ b → (TJ6 a).2.1 ≠ (TJ6 b).2.1 := by decide +kernel
theorem tyJ6_ok : ∀ k, k < 0 → parseFieldDescriptor (TJ6 k).2.2.1 = some (tyJ6 k) := by decide +kernel
abbrev cJ6_bitCount_0f7a4 : ByteArray := prog_13_method_49_code
def yJ6_bitCount_0f7a4 : MethodName := ⟨RJ6, "bitCount", "(I)I"⟩
def RJ9 : String := "java/lang/Math"
def TJ9 : u_T := fun k => match k with
  | _ => ("", "", "", false)
def tyJ9 : Nat → FieldType := fun k => match k with
  | _ => .int
abbrev wsJ90 : List Cond := u_ws RJ9 TJ9 0
theorem nmJ9 : ∀ a, a < 0 → ∀ b, b < 0 → a ≠ b → (TJ9 a).2.1 ≠ (TJ9 b).2.1 := by decide +kernel
theorem tyJ9_ok : ∀ k, k < 0 → parseFieldDescriptor (TJ9 k).2.2.1 = some (tyJ9 k) := by decide +kernel
abbrev cJ9_max_7cf53 : ByteArray := prog_14_method_65_code
def yJ9_max_7cf53 : MethodName := ⟨RJ9, "max", "(II)I"⟩
def RJ0 : String := "java/lang/String"
def TJ0 : u_T := fun k => match k with
  | _ => ("", "", "", false)
def tyJ0 : Nat → FieldType := fun k => match k with
  | _ => .int
abbrev wsJ00 : List Cond := u_ws RJ0 TJ0 0
theorem nmJ0 : ∀ a, a < 0 → ∀ b, b < 0 → a ≠ b → (TJ0 a).2.1 ≠ (TJ0 b).2.1 := by decide +kernel
theorem tyJ0_ok : ∀ k, k < 0 → parseFieldDescriptor (TJ0 k).2.2.1 = some (tyJ0 k) := by decide +kernel
def RL : String := "SerialPortLaw"
abbrev cL_write : ByteArray := method_3_code
def yL_write : MethodName := ⟨RL, "write", "(LSerialPort;II)I"⟩
abbrev cL_read : ByteArray := method_4_code
def yL_read : MethodName := ⟨RL, "read", "(LSerialPort;I[J)I"⟩
abbrev cL_law : ByteArray := code
def yL_law : MethodName := ⟨RL, "law", "([I)Z"⟩
def wsX0_init : List Cond := .code yX0_init cX0_init 1 none :: ([.methodLink RX0 3 objectInit, .instanceMethod objectInit, .code objectInit ⟨#[0xb1]⟩ 1 none])
def wsX0_clear : List Cond := .code yX0_clear cX0_clear 1 none :: ([.fieldLink RX0 9 "SerialPort$Divider" "divisor" "I", .fieldLink RX0 15 "SerialPort$Divider" "passed" "I"] ++ wsX00)
def wsX0_putByte : List Cond := .code yX0_putByte cX0_putByte 3 none :: ([.fieldLink RX0 9 "SerialPort$Divider" "divisor" "I", .constant RX0 18 (65280), .fieldLink RX0 15 "SerialPort$Divider" "passed" "I"] ++ wsX00)
def wsX0_tellByte : List Cond := .code yX0_tellByte cX0_tellByte 2 (some .int) :: ([.fieldLink RX0 9 "SerialPort$Divider" "divisor" "I"] ++ wsX00)
def wsX0_pass : List Cond := .code yX0_pass cX0_pass 3 (some .int) :: ([.fieldLink RX0 9 "SerialPort$Divider" "divisor" "I", .fieldLink RX0 15 "SerialPort$Divider" "passed" "I"] ++ wsX00)
def wsX5_init : List Cond := .code yX5_init cX5_init 2 none :: ([.methodLink RX5 1 objectInit, .instanceMethod objectInit, .code objectInit ⟨#[0xb1]⟩ 1 none, .methodLink RX5 7 Lib.Math.max.name, .static Lib.Math.max.name, .initialized "java/lang/Math", .code Lib.Math.max.name Lib.Math.max.code 2 (some .int), .arrayClass .int, .fieldLink RX5 13 "SerialPort$Ring" "cells" "[I", .fieldLink RX5 19 "SerialPort$Ring" "head" "I", .fieldLink RX5 23 "SerialPort$Ring" "size" "I"] ++ wsX50)
def wsX1_init : List Cond := .code yX1_init cX1_init 1 none :: ([.methodLink RX1 3 objectInit, .instanceMethod objectInit, .code objectInit ⟨#[0xb1]⟩ 1 none, .classLink RX1 9 RX5, .instantiable RX5 3, .initialized RX5, .fieldLink RX1 14 "SerialPort$LineIn" "wave" "LSerialPort$Ring;", .methodLink RX1 11 yX5_init, .instanceMethod yX5_init, .code yX5_init cX5_init 2 none, .methodLink RX5 1 objectInit, .methodLink RX5 7 Lib.Math.max.name, .static Lib.Math.max.name, .initialized "java/lang/Math", .code Lib.Math.max.name Lib.Math.max.code 2 (some .int), .arrayClass .int, .fieldLink RX5 13 "SerialPort$Ring" "cells" "[I", .fieldLink RX5 19 "SerialPort$Ring" "head" "I", .fieldLink RX5 23 "SerialPort$Ring" "size" "I"] ++ wsX50 ++ wsX10)
def wsX5_clear : List Cond := .code yX5_clear cX5_clear 1 none :: ([.fieldLink RX5 19 "SerialPort$Ring" "head" "I", .fieldLink RX5 23 "SerialPort$Ring" "size" "I"] ++ wsX50)
def wsX1_clear : List Cond := .code yX1_clear cX1_clear 1 none :: ([.fieldLink RX1 14 "SerialPort$LineIn" "wave" "LSerialPort$Ring;", .fieldLink RX1 23 "SerialPort$LineIn" "high" "Z", .methodLink RX1 20 yX5_clear, .instanceMethod yX5_clear, .selects RX5 yX5_clear yX5_clear, .initialized RX5, .code yX5_clear cX5_clear 1 none, .fieldLink RX5 19 "SerialPort$Ring" "head" "I", .fieldLink RX5 23 "SerialPort$Ring" "size" "I"] ++ wsX10 ++ wsX50)
def wsX5_size : List Cond := .code yX5_size cX5_size 1 (some .int) :: ([.fieldLink RX5 23 "SerialPort$Ring" "size" "I"] ++ wsX50)
def wsX1_pieces : List Cond := .code yX1_pieces cX1_pieces 1 (some .int) :: ([.fieldLink RX1 14 "SerialPort$LineIn" "wave" "LSerialPort$Ring;", .methodLink RX1 27 yX5_size, .instanceMethod yX5_size, .selects RX5 yX5_size yX5_size, .initialized RX5, .code yX5_size cX5_size 1 (some .int), .fieldLink RX5 23 "SerialPort$Ring" "size" "I"] ++ wsX10 ++ wsX50)
def wsX5_room : List Cond := .code yX5_room cX5_room 1 (some .int) :: ([.fieldLink RX5 13 "SerialPort$Ring" "cells" "[I", .fieldLink RX5 23 "SerialPort$Ring" "size" "I"] ++ wsX50)
def wsX1_room : List Cond := .code yX1_room cX1_room 1 (some .int) :: ([.fieldLink RX1 14 "SerialPort$LineIn" "wave" "LSerialPort$Ring;", .methodLink RX1 31 yX5_room, .instanceMethod yX5_room, .selects RX5 yX5_room yX5_room, .initialized RX5, .code yX5_room cX5_room 1 (some .int), .fieldLink RX5 13 "SerialPort$Ring" "cells" "[I", .fieldLink RX5 23 "SerialPort$Ring" "size" "I"] ++ wsX10 ++ wsX50)
def wsX5_cellOf : List Cond := .code yX5_cellOf cX5_cellOf 3 (some .int) :: ([.fieldLink RX5 19 "SerialPort$Ring" "head" "I", .fieldLink RX5 13 "SerialPort$Ring" "cells" "[I"] ++ wsX50)
def wsX5_setAt : List Cond := .code yX5_setAt cX5_setAt 4 none :: ([.fieldLink RX5 23 "SerialPort$Ring" "size" "I", .fieldLink RX5 13 "SerialPort$Ring" "cells" "[I", .methodLink RX5 26 yX5_cellOf, .instanceMethod yX5_cellOf, .selects RX5 yX5_cellOf yX5_cellOf, .initialized RX5, .code yX5_cellOf cX5_cellOf 3 (some .int), .fieldLink RX5 19 "SerialPort$Ring" "head" "I"] ++ wsX50)
def wsX5_add : List Cond := .code yX5_add cX5_add 2 none :: ([.fieldLink RX5 23 "SerialPort$Ring" "size" "I", .fieldLink RX5 13 "SerialPort$Ring" "cells" "[I", .methodLink RX5 33 yX5_setAt, .instanceMethod yX5_setAt, .selects RX5 yX5_setAt yX5_setAt, .initialized RX5, .code yX5_setAt cX5_setAt 4 none, .methodLink RX5 26 yX5_cellOf, .instanceMethod yX5_cellOf, .selects RX5 yX5_cellOf yX5_cellOf, .code yX5_cellOf cX5_cellOf 3 (some .int), .fieldLink RX5 19 "SerialPort$Ring" "head" "I"] ++ wsX50)
def wsX1_append : List Cond := .code yX1_append cX1_append 3 none :: ([.fieldLink RX1 14 "SerialPort$LineIn" "wave" "LSerialPort$Ring;", .methodLink RX1 34 yX5_add, .instanceMethod yX5_add, .selects RX5 yX5_add yX5_add, .initialized RX5, .code yX5_add cX5_add 2 none, .fieldLink RX5 23 "SerialPort$Ring" "size" "I", .fieldLink RX5 13 "SerialPort$Ring" "cells" "[I", .methodLink RX5 33 yX5_setAt, .instanceMethod yX5_setAt, .selects RX5 yX5_setAt yX5_setAt, .code yX5_setAt cX5_setAt 4 none, .methodLink RX5 26 yX5_cellOf, .instanceMethod yX5_cellOf, .selects RX5 yX5_cellOf yX5_cellOf, .code yX5_cellOf cX5_cellOf 3 (some .int), .fieldLink RX5 19 "SerialPort$Ring" "head" "I"] ++ wsX10 ++ wsX50)
def wsX5_isEmpty : List Cond := .code yX5_isEmpty cX5_isEmpty 1 (some .boolean) :: ([.fieldLink RX5 23 "SerialPort$Ring" "size" "I"] ++ wsX50)
def wsX5_at : List Cond := .code yX5_at cX5_at 3 (some .int) :: ([.fieldLink RX5 23 "SerialPort$Ring" "size" "I", .fieldLink RX5 13 "SerialPort$Ring" "cells" "[I", .methodLink RX5 26 yX5_cellOf, .instanceMethod yX5_cellOf, .selects RX5 yX5_cellOf yX5_cellOf, .initialized RX5, .code yX5_cellOf cX5_cellOf 3 (some .int), .fieldLink RX5 19 "SerialPort$Ring" "head" "I"] ++ wsX50)
def wsX5_first : List Cond := .code yX5_first cX5_first 1 (some .int) :: ([.methodLink RX5 30 yX5_at, .instanceMethod yX5_at, .selects RX5 yX5_at yX5_at, .initialized RX5, .code yX5_at cX5_at 3 (some .int), .fieldLink RX5 23 "SerialPort$Ring" "size" "I", .fieldLink RX5 13 "SerialPort$Ring" "cells" "[I", .methodLink RX5 26 yX5_cellOf, .instanceMethod yX5_cellOf, .selects RX5 yX5_cellOf yX5_cellOf, .code yX5_cellOf cX5_cellOf 3 (some .int), .fieldLink RX5 19 "SerialPort$Ring" "head" "I"] ++ wsX50)
def wsX5_setFirst : List Cond := .code yX5_setFirst cX5_setFirst 2 none :: ([.methodLink RX5 33 yX5_setAt, .instanceMethod yX5_setAt, .selects RX5 yX5_setAt yX5_setAt, .initialized RX5, .code yX5_setAt cX5_setAt 4 none, .fieldLink RX5 23 "SerialPort$Ring" "size" "I", .fieldLink RX5 13 "SerialPort$Ring" "cells" "[I", .methodLink RX5 26 yX5_cellOf, .instanceMethod yX5_cellOf, .selects RX5 yX5_cellOf yX5_cellOf, .code yX5_cellOf cX5_cellOf 3 (some .int), .fieldLink RX5 19 "SerialPort$Ring" "head" "I"] ++ wsX50)
def wsX5_dropFirst : List Cond := .code yX5_dropFirst cX5_dropFirst 1 none :: ([.fieldLink RX5 23 "SerialPort$Ring" "size" "I", .fieldLink RX5 19 "SerialPort$Ring" "head" "I", .methodLink RX5 26 yX5_cellOf, .instanceMethod yX5_cellOf, .selects RX5 yX5_cellOf yX5_cellOf, .initialized RX5, .code yX5_cellOf cX5_cellOf 3 (some .int), .fieldLink RX5 13 "SerialPort$Ring" "cells" "[I"] ++ wsX50)
def wsX1_next_r1 : List Cond := [Cond.fieldLink RX1 14 "SerialPort$LineIn" "wave" "LSerialPort$Ring;", Cond.fieldLink RX1 23 "SerialPort$LineIn" "high" "Z", Cond.methodLink RX1 37 yX5_isEmpty, Cond.instanceMethod yX5_isEmpty, Cond.selects RX5 yX5_isEmpty yX5_isEmpty, Cond.initialized RX5, Cond.code yX5_isEmpty cX5_isEmpty 1 (some .boolean), Cond.fieldLink RX5 23 "SerialPort$Ring" "size" "I", Cond.methodLink RX1 41 yX5_first, Cond.instanceMethod yX5_first, Cond.selects RX5 yX5_first yX5_first, Cond.code yX5_first cX5_first 1 (some .int), Cond.methodLink RX5 30 yX5_at, Cond.instanceMethod yX5_at, Cond.selects RX5 yX5_at yX5_at, Cond.code yX5_at cX5_at 3 (some .int), Cond.fieldLink RX5 13 "SerialPort$Ring" "cells" "[I", Cond.methodLink RX5 26 yX5_cellOf, Cond.instanceMethod yX5_cellOf, Cond.selects RX5 yX5_cellOf yX5_cellOf, Cond.code yX5_cellOf cX5_cellOf 3 (some .int), Cond.fieldLink RX5 19 "SerialPort$Ring" "head" "I", Cond.methodLink RX1 44 yX5_setFirst, Cond.instanceMethod yX5_setFirst]
def wsX1_next_r2 : List Cond := [Cond.selects RX5 yX5_setFirst yX5_setFirst, Cond.code yX5_setFirst cX5_setFirst 2 none, Cond.methodLink RX5 33 yX5_setAt, Cond.instanceMethod yX5_setAt, Cond.selects RX5 yX5_setAt yX5_setAt, Cond.code yX5_setAt cX5_setAt 4 none, Cond.methodLink RX1 47 yX5_dropFirst, Cond.instanceMethod yX5_dropFirst, Cond.selects RX5 yX5_dropFirst yX5_dropFirst, Cond.code yX5_dropFirst cX5_dropFirst 1 none]
def wsX1_next : List Cond := .code yX1_next cX1_next 2 (some .boolean) :: ((wsX1_next_r1 ++ wsX1_next_r2) ++ wsX10 ++ wsX50)
def wsX2_init : List Cond := .code yX2_init cX2_init 1 none :: ([.methodLink RX2 3 objectInit, .instanceMethod objectInit, .code objectInit ⟨#[0xb1]⟩ 1 none, .classLink RX2 9 RX5, .instantiable RX5 3, .initialized RX5, .fieldLink RX2 14 "SerialPort$LineOut" "runs" "LSerialPort$Ring;", .methodLink RX2 11 yX5_init, .instanceMethod yX5_init, .code yX5_init cX5_init 2 none, .methodLink RX5 1 objectInit, .methodLink RX5 7 Lib.Math.max.name, .static Lib.Math.max.name, .initialized "java/lang/Math", .code Lib.Math.max.name Lib.Math.max.code 2 (some .int), .arrayClass .int, .fieldLink RX5 13 "SerialPort$Ring" "cells" "[I", .fieldLink RX5 19 "SerialPort$Ring" "head" "I", .fieldLink RX5 23 "SerialPort$Ring" "size" "I"] ++ wsX50 ++ wsX20)
def wsX2_clear : List Cond := .code yX2_clear cX2_clear 1 none :: ([.fieldLink RX2 14 "SerialPort$LineOut" "runs" "LSerialPort$Ring;", .fieldLink RX2 23 "SerialPort$LineOut" "inAll" "I", .methodLink RX2 20 yX5_clear, .instanceMethod yX5_clear, .selects RX5 yX5_clear yX5_clear, .initialized RX5, .code yX5_clear cX5_clear 1 none, .fieldLink RX5 19 "SerialPort$Ring" "head" "I", .fieldLink RX5 23 "SerialPort$Ring" "size" "I"] ++ wsX20 ++ wsX50)
def wsX2_fromEnd : List Cond := .code yX2_fromEnd cX2_fromEnd 2 (some .int) :: ([.fieldLink RX2 14 "SerialPort$LineOut" "runs" "LSerialPort$Ring;", .methodLink RX2 35 yX5_size, .instanceMethod yX5_size, .selects RX5 yX5_size yX5_size, .initialized RX5, .code yX5_size cX5_size 1 (some .int), .fieldLink RX5 23 "SerialPort$Ring" "size" "I", .methodLink RX2 56 yX5_at, .instanceMethod yX5_at, .selects RX5 yX5_at yX5_at, .code yX5_at cX5_at 3 (some .int), .fieldLink RX5 13 "SerialPort$Ring" "cells" "[I", .methodLink RX5 26 yX5_cellOf, .instanceMethod yX5_cellOf, .selects RX5 yX5_cellOf yX5_cellOf, .code yX5_cellOf cX5_cellOf 3 (some .int), .fieldLink RX5 19 "SerialPort$Ring" "head" "I"] ++ wsX20 ++ wsX50)
def wsX2_runIsHigh : List Cond := .code yX2_runIsHigh cX2_runIsHigh 2 (some .boolean) :: ([.methodLink RX2 39 yX2_fromEnd, .instanceMethod yX2_fromEnd, .selects RX2 yX2_fromEnd yX2_fromEnd, .initialized RX2, .code yX2_fromEnd cX2_fromEnd 2 (some .int), .fieldLink RX2 14 "SerialPort$LineOut" "runs" "LSerialPort$Ring;", .methodLink RX2 35 yX5_size, .instanceMethod yX5_size, .selects RX5 yX5_size yX5_size, .initialized RX5, .code yX5_size cX5_size 1 (some .int), .fieldLink RX5 23 "SerialPort$Ring" "size" "I", .methodLink RX2 56 yX5_at, .instanceMethod yX5_at, .selects RX5 yX5_at yX5_at, .code yX5_at cX5_at 3 (some .int), .fieldLink RX5 13 "SerialPort$Ring" "cells" "[I", .methodLink RX5 26 yX5_cellOf, .instanceMethod yX5_cellOf, .selects RX5 yX5_cellOf yX5_cellOf, .code yX5_cellOf cX5_cellOf 3 (some .int), .fieldLink RX5 19 "SerialPort$Ring" "head" "I"] ++ wsX20 ++ wsX50)
def wsX2_isHigh_r1 : List Cond := [Cond.fieldLink RX2 14 "SerialPort$LineOut" "runs" "LSerialPort$Ring;", Cond.methodLink RX2 27 yX5_isEmpty, Cond.instanceMethod yX5_isEmpty, Cond.selects RX5 yX5_isEmpty yX5_isEmpty, Cond.initialized RX5, Cond.code yX5_isEmpty cX5_isEmpty 1 (some .boolean), Cond.fieldLink RX5 23 "SerialPort$Ring" "size" "I", Cond.methodLink RX2 31 yX2_runIsHigh, Cond.instanceMethod yX2_runIsHigh, Cond.selects RX2 yX2_runIsHigh yX2_runIsHigh, Cond.initialized RX2, Cond.code yX2_runIsHigh cX2_runIsHigh 2 (some .boolean), Cond.methodLink RX2 39 yX2_fromEnd, Cond.instanceMethod yX2_fromEnd, Cond.selects RX2 yX2_fromEnd yX2_fromEnd, Cond.code yX2_fromEnd cX2_fromEnd 2 (some .int), Cond.methodLink RX2 35 yX5_size, Cond.instanceMethod yX5_size, Cond.selects RX5 yX5_size yX5_size, Cond.code yX5_size cX5_size 1 (some .int), Cond.methodLink RX2 56 yX5_at, Cond.instanceMethod yX5_at, Cond.selects RX5 yX5_at yX5_at, Cond.code yX5_at cX5_at 3 (some .int)]
def wsX2_isHigh_r2 : List Cond := [Cond.fieldLink RX5 13 "SerialPort$Ring" "cells" "[I", Cond.methodLink RX5 26 yX5_cellOf, Cond.instanceMethod yX5_cellOf, Cond.selects RX5 yX5_cellOf yX5_cellOf, Cond.code yX5_cellOf cX5_cellOf 3 (some .int), Cond.fieldLink RX5 19 "SerialPort$Ring" "head" "I"]
def wsX2_isHigh : List Cond := .code yX2_isHigh cX2_isHigh 1 (some .boolean) :: ((wsX2_isHigh_r1 ++ wsX2_isHigh_r2) ++ wsX20 ++ wsX50)
def wsX2_runsInAll : List Cond := .code yX2_runsInAll cX2_runsInAll 1 (some .int) :: ([.fieldLink RX2 23 "SerialPort$LineOut" "inAll" "I"] ++ wsX20)
def wsX2_runsKept : List Cond := .code yX2_runsKept cX2_runsKept 1 (some .int) :: ([.fieldLink RX2 14 "SerialPort$LineOut" "runs" "LSerialPort$Ring;", .methodLink RX2 35 yX5_size, .instanceMethod yX5_size, .selects RX5 yX5_size yX5_size, .initialized RX5, .code yX5_size cX5_size 1 (some .int), .fieldLink RX5 23 "SerialPort$Ring" "size" "I"] ++ wsX20 ++ wsX50)
def wsX2_runBeats : List Cond := .code yX2_runBeats cX2_runBeats 2 (some .int) :: ([.methodLink RX2 39 yX2_fromEnd, .instanceMethod yX2_fromEnd, .selects RX2 yX2_fromEnd yX2_fromEnd, .initialized RX2, .code yX2_fromEnd cX2_fromEnd 2 (some .int), .fieldLink RX2 14 "SerialPort$LineOut" "runs" "LSerialPort$Ring;", .methodLink RX2 35 yX5_size, .instanceMethod yX5_size, .selects RX5 yX5_size yX5_size, .initialized RX5, .code yX5_size cX5_size 1 (some .int), .fieldLink RX5 23 "SerialPort$Ring" "size" "I", .methodLink RX2 56 yX5_at, .instanceMethod yX5_at, .selects RX5 yX5_at yX5_at, .code yX5_at cX5_at 3 (some .int), .fieldLink RX5 13 "SerialPort$Ring" "cells" "[I", .methodLink RX5 26 yX5_cellOf, .instanceMethod yX5_cellOf, .selects RX5 yX5_cellOf yX5_cellOf, .code yX5_cellOf cX5_cellOf 3 (some .int), .fieldLink RX5 19 "SerialPort$Ring" "head" "I"] ++ wsX20 ++ wsX50)
def wsX2_append_r1 : List Cond := [Cond.fieldLink RX2 14 "SerialPort$LineOut" "runs" "LSerialPort$Ring;", Cond.fieldLink RX2 23 "SerialPort$LineOut" "inAll" "I", Cond.methodLink RX2 27 yX5_isEmpty, Cond.instanceMethod yX5_isEmpty, Cond.selects RX5 yX5_isEmpty yX5_isEmpty, Cond.initialized RX5, Cond.code yX5_isEmpty cX5_isEmpty 1 (some .boolean), Cond.fieldLink RX5 23 "SerialPort$Ring" "size" "I", Cond.methodLink RX2 31 yX2_runIsHigh, Cond.instanceMethod yX2_runIsHigh, Cond.selects RX2 yX2_runIsHigh yX2_runIsHigh, Cond.initialized RX2, Cond.code yX2_runIsHigh cX2_runIsHigh 2 (some .boolean), Cond.methodLink RX2 39 yX2_fromEnd, Cond.instanceMethod yX2_fromEnd, Cond.selects RX2 yX2_fromEnd yX2_fromEnd, Cond.code yX2_fromEnd cX2_fromEnd 2 (some .int), Cond.methodLink RX2 35 yX5_size, Cond.instanceMethod yX5_size, Cond.selects RX5 yX5_size yX5_size, Cond.code yX5_size cX5_size 1 (some .int), Cond.methodLink RX2 56 yX5_at, Cond.instanceMethod yX5_at, Cond.selects RX5 yX5_at yX5_at]
def wsX2_append_r2 : List Cond := [Cond.code yX5_at cX5_at 3 (some .int), Cond.fieldLink RX5 13 "SerialPort$Ring" "cells" "[I", Cond.methodLink RX5 26 yX5_cellOf, Cond.instanceMethod yX5_cellOf, Cond.selects RX5 yX5_cellOf yX5_cellOf, Cond.code yX5_cellOf cX5_cellOf 3 (some .int), Cond.fieldLink RX5 19 "SerialPort$Ring" "head" "I", Cond.methodLink RX2 43 yX5_setAt, Cond.instanceMethod yX5_setAt, Cond.selects RX5 yX5_setAt yX5_setAt, Cond.code yX5_setAt cX5_setAt 4 none, Cond.methodLink RX2 47 yX5_room, Cond.instanceMethod yX5_room, Cond.selects RX5 yX5_room yX5_room, Cond.code yX5_room cX5_room 1 (some .int), Cond.methodLink RX2 50 yX5_dropFirst, Cond.instanceMethod yX5_dropFirst, Cond.selects RX5 yX5_dropFirst yX5_dropFirst, Cond.code yX5_dropFirst cX5_dropFirst 1 none, Cond.methodLink RX2 53 yX5_add, Cond.instanceMethod yX5_add, Cond.selects RX5 yX5_add yX5_add, Cond.code yX5_add cX5_add 2 none, Cond.methodLink RX5 33 yX5_setAt]
def wsX2_append : List Cond := .code yX2_append cX2_append 2 none :: ((wsX2_append_r1 ++ wsX2_append_r2) ++ wsX20 ++ wsX50)
def wsX3_init : List Cond := .code yX3_init cX3_init 1 none :: ([.methodLink RX3 1 objectInit, .instanceMethod objectInit, .code objectInit ⟨#[0xb1]⟩ 1 none])
def wsX3_clear : List Cond := .code yX3_clear cX3_clear 1 none :: ([.fieldLink RX3 7 "SerialPort$Modem" "outputs" "I", .fieldLink RX3 13 "SerialPort$Modem" "pins" "I", .fieldLink RX3 16 "SerialPort$Modem" "state" "I", .fieldLink RX3 19 "SerialPort$Modem" "changes" "I"] ++ wsX30)
def wsX3_outputs : List Cond := .code yX3_outputs cX3_outputs 1 (some .int) :: ([.fieldLink RX3 7 "SerialPort$Modem" "outputs" "I"] ++ wsX30)
def wsX3_loops : List Cond := .code yX3_loops cX3_loops 1 (some .boolean) :: ([.fieldLink RX3 7 "SerialPort$Modem" "outputs" "I"] ++ wsX30)
def wsX3_hasChanged : List Cond := .code yX3_hasChanged cX3_hasChanged 1 (some .boolean) :: ([.fieldLink RX3 19 "SerialPort$Modem" "changes" "I"] ++ wsX30)
def wsX3_looped : List Cond := .code yX3_looped cX3_looped 1 (some .int) :: ([.fieldLink RX3 7 "SerialPort$Modem" "outputs" "I"] ++ wsX30)
def wsX3_follow : List Cond := .code yX3_follow cX3_follow 3 none :: ([.fieldLink RX3 13 "SerialPort$Modem" "pins" "I", .fieldLink RX3 16 "SerialPort$Modem" "state" "I", .fieldLink RX3 19 "SerialPort$Modem" "changes" "I", .methodLink RX3 25 yX3_loops, .instanceMethod yX3_loops, .selects RX3 yX3_loops yX3_loops, .initialized RX3, .code yX3_loops cX3_loops 1 (some .boolean), .fieldLink RX3 7 "SerialPort$Modem" "outputs" "I", .methodLink RX3 29 yX3_looped, .instanceMethod yX3_looped, .selects RX3 yX3_looped yX3_looped, .code yX3_looped cX3_looped 1 (some .int)] ++ wsX30)
def wsX3_putOutputs : List Cond := .code yX3_putOutputs cX3_putOutputs 2 none :: ([.fieldLink RX3 7 "SerialPort$Modem" "outputs" "I", .methodLink RX3 22 yX3_follow, .instanceMethod yX3_follow, .selects RX3 yX3_follow yX3_follow, .initialized RX3, .code yX3_follow cX3_follow 3 none, .fieldLink RX3 13 "SerialPort$Modem" "pins" "I", .fieldLink RX3 16 "SerialPort$Modem" "state" "I", .fieldLink RX3 19 "SerialPort$Modem" "changes" "I", .methodLink RX3 25 yX3_loops, .instanceMethod yX3_loops, .selects RX3 yX3_loops yX3_loops, .code yX3_loops cX3_loops 1 (some .boolean), .methodLink RX3 29 yX3_looped, .instanceMethod yX3_looped, .selects RX3 yX3_looped yX3_looped, .code yX3_looped cX3_looped 1 (some .int)] ++ wsX30)
def wsX3_putPins : List Cond := .code yX3_putPins cX3_putPins 2 none :: ([.fieldLink RX3 13 "SerialPort$Modem" "pins" "I", .methodLink RX3 22 yX3_follow, .instanceMethod yX3_follow, .selects RX3 yX3_follow yX3_follow, .initialized RX3, .code yX3_follow cX3_follow 3 none, .fieldLink RX3 16 "SerialPort$Modem" "state" "I", .fieldLink RX3 19 "SerialPort$Modem" "changes" "I", .methodLink RX3 25 yX3_loops, .instanceMethod yX3_loops, .selects RX3 yX3_loops yX3_loops, .code yX3_loops cX3_loops 1 (some .boolean), .fieldLink RX3 7 "SerialPort$Modem" "outputs" "I", .methodLink RX3 29 yX3_looped, .instanceMethod yX3_looped, .selects RX3 yX3_looped yX3_looped, .code yX3_looped cX3_looped 1 (some .int)] ++ wsX30)
def wsX3_tellState : List Cond := .code yX3_tellState cX3_tellState 2 (some .int) :: ([.fieldLink RX3 16 "SerialPort$Modem" "state" "I", .fieldLink RX3 19 "SerialPort$Modem" "changes" "I"] ++ wsX30)
def wsX4_init : List Cond := .code yX4_init cX4_init 1 none :: ([.methodLink RX4 3 objectInit, .instanceMethod objectInit, .code objectInit ⟨#[0xb1]⟩ 1 none])
def wsX4_begin : List Cond := .code yX4_begin cX4_begin 2 none :: ([.fieldLink RX4 37 "SerialPort$Receiver" "control" "I", .fieldLink RX4 40 "SerialPort$Receiver" "character" "I", .fieldLink RX4 26 "SerialPort$Receiver" "beat" "I", .fieldLink RX4 15 "SerialPort$Receiver" "busy" "Z", .fieldLink RX4 19 "SerialPort$Receiver" "wasHigh" "Z", .fieldLink RX4 43 "SerialPort$Receiver" "parityHigh" "Z", .fieldLink RX4 46 "SerialPort$Receiver" "someHigh" "Z"] ++ wsX40)
def wsX4_clear : List Cond := .code yX4_clear cX4_clear 1 none :: ([.fieldLink RX4 15 "SerialPort$Receiver" "busy" "Z", .fieldLink RX4 19 "SerialPort$Receiver" "wasHigh" "Z", .methodLink RX4 9 yX4_begin, .instanceMethod yX4_begin, .selects RX4 yX4_begin yX4_begin, .initialized RX4, .code yX4_begin cX4_begin 2 none, .fieldLink RX4 37 "SerialPort$Receiver" "control" "I", .fieldLink RX4 40 "SerialPort$Receiver" "character" "I", .fieldLink RX4 26 "SerialPort$Receiver" "beat" "I", .fieldLink RX4 43 "SerialPort$Receiver" "parityHigh" "Z", .fieldLink RX4 46 "SerialPort$Receiver" "someHigh" "Z"] ++ wsX40)
def wsX4_isBusy : List Cond := .code yX4_isBusy cX4_isBusy 1 (some .boolean) :: ([.fieldLink RX4 15 "SerialPort$Receiver" "busy" "Z"] ++ wsX40)
def wsX4_listen : List Cond := .code yX4_listen cX4_listen 3 none :: ([.fieldLink RX4 19 "SerialPort$Receiver" "wasHigh" "Z", .methodLink RX4 9 yX4_begin, .instanceMethod yX4_begin, .selects RX4 yX4_begin yX4_begin, .initialized RX4, .code yX4_begin cX4_begin 2 none, .fieldLink RX4 37 "SerialPort$Receiver" "control" "I", .fieldLink RX4 40 "SerialPort$Receiver" "character" "I", .fieldLink RX4 26 "SerialPort$Receiver" "beat" "I", .fieldLink RX4 15 "SerialPort$Receiver" "busy" "Z", .fieldLink RX4 43 "SerialPort$Receiver" "parityHigh" "Z", .fieldLink RX4 46 "SerialPort$Receiver" "someHigh" "Z"] ++ wsX40)
def wsX4_becomeIdle : List Cond := .code yX4_becomeIdle cX4_becomeIdle 2 none :: ([.fieldLink RX4 15 "SerialPort$Receiver" "busy" "Z", .fieldLink RX4 19 "SerialPort$Receiver" "wasHigh" "Z"] ++ wsX40)
def wsX4_seeStart : List Cond := .code yX4_seeStart cX4_seeStart 2 (some .int) :: ([.methodLink RX4 49 yX4_becomeIdle, .instanceMethod yX4_becomeIdle, .selects RX4 yX4_becomeIdle yX4_becomeIdle, .initialized RX4, .code yX4_becomeIdle cX4_becomeIdle 2 none, .fieldLink RX4 15 "SerialPort$Receiver" "busy" "Z", .fieldLink RX4 19 "SerialPort$Receiver" "wasHigh" "Z"] ++ wsX40)
def wsX7_dataBits : List Cond := .code yX7_dataBits cX7_dataBits 1 (some .int) :: ([])
def wsX7_hasParity : List Cond := .code yX7_hasParity cX7_hasParity 1 (some .boolean) :: ([])
def wsJ6_bitCount_0f7a4 : List Cond := .code yJ6_bitCount_0f7a4 cJ6_bitCount_0f7a4 1 (some .int) :: ([.constant RJ6 265 (1431655765), .constant RJ6 266 (858993459), .constant RJ6 267 (252645135)])
def wsX7_parityIsHigh : List Cond := .code yX7_parityIsHigh cX7_parityIsHigh 5 (some .boolean) :: ([.methodLink RX7 11 yX7_dataBits, .static yX7_dataBits, .initialized RX7, .code yX7_dataBits cX7_dataBits 1 (some .int), .methodLink RX7 25 yJ6_bitCount_0f7a4, .static yJ6_bitCount_0f7a4, .initialized RJ6, .code yJ6_bitCount_0f7a4 cJ6_bitCount_0f7a4 1 (some .int), .constant RJ6 265 (1431655765), .constant RJ6 266 (858993459), .constant RJ6 267 (252645135)])
def wsX4_faults : List Cond := .code yX4_faults cX4_faults 3 (some .int) :: ([.fieldLink RX4 46 "SerialPort$Receiver" "someHigh" "Z", .fieldLink RX4 37 "SerialPort$Receiver" "control" "I", .fieldLink RX4 43 "SerialPort$Receiver" "parityHigh" "Z", .fieldLink RX4 40 "SerialPort$Receiver" "character" "I", .methodLink RX4 59 yX7_hasParity, .static yX7_hasParity, .initialized RX7, .code yX7_hasParity cX7_hasParity 1 (some .boolean), .methodLink RX4 66 yX7_parityIsHigh, .static yX7_parityIsHigh, .code yX7_parityIsHigh cX7_parityIsHigh 5 (some .boolean), .methodLink RX7 11 yX7_dataBits, .static yX7_dataBits, .code yX7_dataBits cX7_dataBits 1 (some .int), .methodLink RX7 25 yJ6_bitCount_0f7a4, .static yJ6_bitCount_0f7a4, .initialized RJ6, .code yJ6_bitCount_0f7a4 cJ6_bitCount_0f7a4 1 (some .int), .constant RJ6 265 (1431655765), .constant RJ6 266 (858993459), .constant RJ6 267 (252645135)] ++ wsX40)
def wsX4_see_r1 : List Cond := [Cond.fieldLink RX4 26 "SerialPort$Receiver" "beat" "I", Cond.fieldLink RX4 37 "SerialPort$Receiver" "control" "I", Cond.fieldLink RX4 46 "SerialPort$Receiver" "someHigh" "Z", Cond.fieldLink RX4 40 "SerialPort$Receiver" "character" "I", Cond.fieldLink RX4 43 "SerialPort$Receiver" "parityHigh" "Z", Cond.methodLink RX4 53 yX7_dataBits, Cond.static yX7_dataBits, Cond.initialized RX7, Cond.code yX7_dataBits cX7_dataBits 1 (some .int), Cond.methodLink RX4 59 yX7_hasParity, Cond.static yX7_hasParity, Cond.code yX7_hasParity cX7_hasParity 1 (some .boolean), Cond.methodLink RX4 49 yX4_becomeIdle, Cond.instanceMethod yX4_becomeIdle, Cond.selects RX4 yX4_becomeIdle yX4_becomeIdle, Cond.initialized RX4, Cond.code yX4_becomeIdle cX4_becomeIdle 2 none, Cond.fieldLink RX4 15 "SerialPort$Receiver" "busy" "Z", Cond.fieldLink RX4 19 "SerialPort$Receiver" "wasHigh" "Z", Cond.methodLink RX4 63 yX4_faults, Cond.instanceMethod yX4_faults, Cond.selects RX4 yX4_faults yX4_faults, Cond.code yX4_faults cX4_faults 3 (some .int), Cond.methodLink RX4 66 yX7_parityIsHigh]
def wsX4_see_r2 : List Cond := [Cond.static yX7_parityIsHigh, Cond.code yX7_parityIsHigh cX7_parityIsHigh 5 (some .boolean), Cond.methodLink RX7 11 yX7_dataBits, Cond.methodLink RX7 25 yJ6_bitCount_0f7a4, Cond.static yJ6_bitCount_0f7a4, Cond.initialized RJ6, Cond.code yJ6_bitCount_0f7a4 cJ6_bitCount_0f7a4 1 (some .int), Cond.constant RJ6 265 (1431655765), Cond.constant RJ6 266 (858993459), Cond.constant RJ6 267 (252645135)]
def wsX4_see : List Cond := .code yX4_see cX4_see 4 (some .int) :: ((wsX4_see_r1 ++ wsX4_see_r2) ++ wsX40)
def wsX4_step_r1 : List Cond := [Cond.fieldLink RX4 15 "SerialPort$Receiver" "busy" "Z", Cond.fieldLink RX4 26 "SerialPort$Receiver" "beat" "I", Cond.methodLink RX4 22 yX4_listen, Cond.instanceMethod yX4_listen, Cond.selects RX4 yX4_listen yX4_listen, Cond.initialized RX4, Cond.code yX4_listen cX4_listen 3 none, Cond.fieldLink RX4 19 "SerialPort$Receiver" "wasHigh" "Z", Cond.methodLink RX4 9 yX4_begin, Cond.instanceMethod yX4_begin, Cond.selects RX4 yX4_begin yX4_begin, Cond.code yX4_begin cX4_begin 2 none, Cond.fieldLink RX4 37 "SerialPort$Receiver" "control" "I", Cond.fieldLink RX4 40 "SerialPort$Receiver" "character" "I", Cond.fieldLink RX4 43 "SerialPort$Receiver" "parityHigh" "Z", Cond.fieldLink RX4 46 "SerialPort$Receiver" "someHigh" "Z", Cond.methodLink RX4 30 yX4_seeStart, Cond.instanceMethod yX4_seeStart, Cond.selects RX4 yX4_seeStart yX4_seeStart, Cond.code yX4_seeStart cX4_seeStart 2 (some .int), Cond.methodLink RX4 49 yX4_becomeIdle, Cond.instanceMethod yX4_becomeIdle, Cond.selects RX4 yX4_becomeIdle yX4_becomeIdle, Cond.code yX4_becomeIdle cX4_becomeIdle 2 none]
def wsX4_step_r2 : List Cond := [Cond.methodLink RX4 34 yX4_see, Cond.instanceMethod yX4_see, Cond.selects RX4 yX4_see yX4_see, Cond.code yX4_see cX4_see 4 (some .int), Cond.methodLink RX4 53 yX7_dataBits, Cond.static yX7_dataBits, Cond.initialized RX7, Cond.code yX7_dataBits cX7_dataBits 1 (some .int), Cond.methodLink RX4 59 yX7_hasParity, Cond.static yX7_hasParity, Cond.code yX7_hasParity cX7_hasParity 1 (some .boolean), Cond.methodLink RX4 63 yX4_faults, Cond.instanceMethod yX4_faults, Cond.selects RX4 yX4_faults yX4_faults, Cond.code yX4_faults cX4_faults 3 (some .int), Cond.methodLink RX4 66 yX7_parityIsHigh, Cond.static yX7_parityIsHigh, Cond.code yX7_parityIsHigh cX7_parityIsHigh 5 (some .boolean), Cond.methodLink RX7 11 yX7_dataBits, Cond.methodLink RX7 25 yJ6_bitCount_0f7a4, Cond.static yJ6_bitCount_0f7a4, Cond.initialized RJ6, Cond.code yJ6_bitCount_0f7a4 cJ6_bitCount_0f7a4 1 (some .int), Cond.constant RJ6 265 (1431655765)]
def wsX4_step_r3 : List Cond := [Cond.constant RJ6 266 (858993459), Cond.constant RJ6 267 (252645135)]
def wsX4_step : List Cond := .code yX4_step cX4_step 3 (some .int) :: ((wsX4_step_r1 ++ (wsX4_step_r2 ++ wsX4_step_r3)) ++ wsX40)
def wsX6_init : List Cond := .code yX6_init cX6_init 1 none :: ([.methodLink RX6 3 objectInit, .instanceMethod objectInit, .code objectInit ⟨#[0xb1]⟩ 1 none])
def wsX6_clear : List Cond := .code yX6_clear cX6_clear 1 none :: ([.fieldLink RX6 9 "SerialPort$Sender" "control" "I", .fieldLink RX6 15 "SerialPort$Sender" "character" "I", .fieldLink RX6 18 "SerialPort$Sender" "beat" "I", .fieldLink RX6 21 "SerialPort$Sender" "busy" "Z"] ++ wsX60)
def wsX6_isBusy : List Cond := .code yX6_isBusy cX6_isBusy 1 (some .boolean) :: ([.fieldLink RX6 21 "SerialPort$Sender" "busy" "Z"] ++ wsX60)
def wsX6_begin : List Cond := .code yX6_begin cX6_begin 3 none :: ([.fieldLink RX6 9 "SerialPort$Sender" "control" "I", .fieldLink RX6 15 "SerialPort$Sender" "character" "I", .fieldLink RX6 18 "SerialPort$Sender" "beat" "I", .fieldLink RX6 21 "SerialPort$Sender" "busy" "Z"] ++ wsX60)
def wsX7_pieceIsHigh : List Cond := .code yX7_pieceIsHigh cX7_pieceIsHigh 4 (some .boolean) :: ([.methodLink RX7 11 yX7_dataBits, .static yX7_dataBits, .initialized RX7, .code yX7_dataBits cX7_dataBits 1 (some .int), .methodLink RX7 15 yX7_hasParity, .static yX7_hasParity, .code yX7_hasParity cX7_hasParity 1 (some .boolean), .methodLink RX7 30 yX7_parityIsHigh, .static yX7_parityIsHigh, .code yX7_parityIsHigh cX7_parityIsHigh 5 (some .boolean), .methodLink RX7 25 yJ6_bitCount_0f7a4, .static yJ6_bitCount_0f7a4, .initialized RJ6, .code yJ6_bitCount_0f7a4 cJ6_bitCount_0f7a4 1 (some .int), .constant RJ6 265 (1431655765), .constant RJ6 266 (858993459), .constant RJ6 267 (252645135)])
def wsX7_pieces : List Cond := .code yX7_pieces cX7_pieces 1 (some .int) :: ([.methodLink RX7 11 yX7_dataBits, .static yX7_dataBits, .initialized RX7, .code yX7_dataBits cX7_dataBits 1 (some .int), .methodLink RX7 15 yX7_hasParity, .static yX7_hasParity, .code yX7_hasParity cX7_hasParity 1 (some .boolean)])
def wsX7_stopBeats : List Cond := .code yX7_stopBeats cX7_stopBeats 1 (some .int) :: ([.methodLink RX7 11 yX7_dataBits, .static yX7_dataBits, .initialized RX7, .code yX7_dataBits cX7_dataBits 1 (some .int)])
def wsX7_beats : List Cond := .code yX7_beats cX7_beats 1 (some .int) :: ([.methodLink RX7 19 yX7_pieces, .static yX7_pieces, .initialized RX7, .code yX7_pieces cX7_pieces 1 (some .int), .methodLink RX7 11 yX7_dataBits, .static yX7_dataBits, .code yX7_dataBits cX7_dataBits 1 (some .int), .methodLink RX7 15 yX7_hasParity, .static yX7_hasParity, .code yX7_hasParity cX7_hasParity 1 (some .boolean), .methodLink RX7 22 yX7_stopBeats, .static yX7_stopBeats, .code yX7_stopBeats cX7_stopBeats 1 (some .int)])
def wsX6_next_r1 : List Cond := [Cond.fieldLink RX6 21 "SerialPort$Sender" "busy" "Z", Cond.fieldLink RX6 9 "SerialPort$Sender" "control" "I", Cond.fieldLink RX6 15 "SerialPort$Sender" "character" "I", Cond.fieldLink RX6 18 "SerialPort$Sender" "beat" "I", Cond.methodLink RX6 25 yX7_pieceIsHigh, Cond.static yX7_pieceIsHigh, Cond.initialized RX7, Cond.code yX7_pieceIsHigh cX7_pieceIsHigh 4 (some .boolean), Cond.methodLink RX7 11 yX7_dataBits, Cond.static yX7_dataBits, Cond.code yX7_dataBits cX7_dataBits 1 (some .int), Cond.methodLink RX7 15 yX7_hasParity, Cond.static yX7_hasParity, Cond.code yX7_hasParity cX7_hasParity 1 (some .boolean), Cond.methodLink RX7 30 yX7_parityIsHigh, Cond.static yX7_parityIsHigh, Cond.code yX7_parityIsHigh cX7_parityIsHigh 5 (some .boolean), Cond.methodLink RX7 25 yJ6_bitCount_0f7a4, Cond.static yJ6_bitCount_0f7a4, Cond.initialized RJ6, Cond.code yJ6_bitCount_0f7a4 cJ6_bitCount_0f7a4 1 (some .int), Cond.constant RJ6 265 (1431655765), Cond.constant RJ6 266 (858993459), Cond.constant RJ6 267 (252645135)]
def wsX6_next_r2 : List Cond := [Cond.methodLink RX6 31 yX7_beats, Cond.static yX7_beats, Cond.code yX7_beats cX7_beats 1 (some .int), Cond.methodLink RX7 19 yX7_pieces, Cond.static yX7_pieces, Cond.code yX7_pieces cX7_pieces 1 (some .int), Cond.methodLink RX7 22 yX7_stopBeats, Cond.static yX7_stopBeats, Cond.code yX7_stopBeats cX7_stopBeats 1 (some .int)]
def wsX6_next : List Cond := .code yX6_next cX6_next 2 (some .boolean) :: ((wsX6_next_r1 ++ wsX6_next_r2) ++ wsX60)
def wsX7_pieceBeats : List Cond := .code yX7_pieceBeats cX7_pieceBeats 2 (some .int) :: ([.methodLink RX7 19 yX7_pieces, .static yX7_pieces, .initialized RX7, .code yX7_pieces cX7_pieces 1 (some .int), .methodLink RX7 11 yX7_dataBits, .static yX7_dataBits, .code yX7_dataBits cX7_dataBits 1 (some .int), .methodLink RX7 15 yX7_hasParity, .static yX7_hasParity, .code yX7_hasParity cX7_hasParity 1 (some .boolean), .methodLink RX7 22 yX7_stopBeats, .static yX7_stopBeats, .code yX7_stopBeats cX7_stopBeats 1 (some .int)])
def wsX8_powerOn_r1 : List Cond := [Cond.fieldLink RX8 12 "SerialPort" "divider" "LSerialPort$Divider;", Cond.fieldLink RX8 21 "SerialPort" "received" "LSerialPort$Ring;", Cond.fieldLink RX8 25 "SerialPort" "sending" "LSerialPort$Ring;", Cond.fieldLink RX8 31 "SerialPort" "sender" "LSerialPort$Sender;", Cond.fieldLink RX8 38 "SerialPort" "receiver" "LSerialPort$Receiver;", Cond.fieldLink RX8 45 "SerialPort" "modem" "LSerialPort$Modem;", Cond.fieldLink RX8 52 "SerialPort" "lineIn" "LSerialPort$LineIn;", Cond.fieldLink RX8 59 "SerialPort" "lineOut" "LSerialPort$LineOut;", Cond.fieldLink RX8 163 "SerialPort" "wanted" "I", Cond.fieldLink RX8 73 "SerialPort" "lineControl" "I", Cond.fieldLink RX8 166 "SerialPort" "kept" "I", Cond.fieldLink RX8 169 "SerialPort" "level" "I", Cond.fieldLink RX8 172 "SerialPort" "rowsOn" "Z", Cond.fieldLink RX8 176 "SerialPort" "overrun" "Z", Cond.fieldLink RX8 179 "SerialPort" "emptyUp" "Z", Cond.fieldLink RX8 182 "SerialPort" "lateUp" "Z", Cond.fieldLink RX8 127 "SerialPort" "beats" "I", Cond.fieldLink RX8 185 "SerialPort" "quietSince" "I", Cond.methodLink RX8 154 yX0_clear, Cond.instanceMethod yX0_clear, Cond.selects RX0 yX0_clear yX0_clear, Cond.initialized RX0, Cond.code yX0_clear cX0_clear 1 none, Cond.fieldLink RX0 9 "SerialPort$Divider" "divisor" "I"]
def wsX8_powerOn_r2 : List Cond := [Cond.fieldLink RX0 15 "SerialPort$Divider" "passed" "I", Cond.methodLink RX8 157 yX5_clear, Cond.instanceMethod yX5_clear, Cond.selects RX5 yX5_clear yX5_clear, Cond.initialized RX5, Cond.code yX5_clear cX5_clear 1 none, Cond.fieldLink RX5 19 "SerialPort$Ring" "head" "I", Cond.fieldLink RX5 23 "SerialPort$Ring" "size" "I", Cond.methodLink RX8 158 yX6_clear, Cond.instanceMethod yX6_clear, Cond.selects RX6 yX6_clear yX6_clear, Cond.initialized RX6, Cond.code yX6_clear cX6_clear 1 none, Cond.fieldLink RX6 9 "SerialPort$Sender" "control" "I", Cond.fieldLink RX6 15 "SerialPort$Sender" "character" "I", Cond.fieldLink RX6 18 "SerialPort$Sender" "beat" "I", Cond.fieldLink RX6 21 "SerialPort$Sender" "busy" "Z", Cond.methodLink RX8 159 yX4_clear, Cond.instanceMethod yX4_clear, Cond.selects RX4 yX4_clear yX4_clear, Cond.initialized RX4, Cond.code yX4_clear cX4_clear 1 none, Cond.fieldLink RX4 15 "SerialPort$Receiver" "busy" "Z", Cond.fieldLink RX4 19 "SerialPort$Receiver" "wasHigh" "Z"]
def wsX8_powerOn_r3 : List Cond := [Cond.methodLink RX4 9 yX4_begin, Cond.instanceMethod yX4_begin, Cond.selects RX4 yX4_begin yX4_begin, Cond.code yX4_begin cX4_begin 2 none, Cond.fieldLink RX4 37 "SerialPort$Receiver" "control" "I", Cond.fieldLink RX4 40 "SerialPort$Receiver" "character" "I", Cond.fieldLink RX4 26 "SerialPort$Receiver" "beat" "I", Cond.fieldLink RX4 43 "SerialPort$Receiver" "parityHigh" "Z", Cond.fieldLink RX4 46 "SerialPort$Receiver" "someHigh" "Z", Cond.methodLink RX8 160 yX3_clear, Cond.instanceMethod yX3_clear, Cond.selects RX3 yX3_clear yX3_clear, Cond.initialized RX3, Cond.code yX3_clear cX3_clear 1 none, Cond.fieldLink RX3 7 "SerialPort$Modem" "outputs" "I", Cond.fieldLink RX3 13 "SerialPort$Modem" "pins" "I", Cond.fieldLink RX3 16 "SerialPort$Modem" "state" "I", Cond.fieldLink RX3 19 "SerialPort$Modem" "changes" "I", Cond.methodLink RX8 161 yX1_clear, Cond.instanceMethod yX1_clear, Cond.selects RX1 yX1_clear yX1_clear, Cond.initialized RX1, Cond.code yX1_clear cX1_clear 1 none, Cond.fieldLink RX1 14 "SerialPort$LineIn" "wave" "LSerialPort$Ring;"]
def wsX8_powerOn_r4 : List Cond := [Cond.fieldLink RX1 23 "SerialPort$LineIn" "high" "Z", Cond.methodLink RX1 20 yX5_clear, Cond.methodLink RX8 162 yX2_clear, Cond.instanceMethod yX2_clear, Cond.selects RX2 yX2_clear yX2_clear, Cond.initialized RX2, Cond.code yX2_clear cX2_clear 1 none, Cond.fieldLink RX2 14 "SerialPort$LineOut" "runs" "LSerialPort$Ring;", Cond.fieldLink RX2 23 "SerialPort$LineOut" "inAll" "I", Cond.methodLink RX2 20 yX5_clear]
def wsX8_powerOn : List Cond := .code yX8_powerOn cX8_powerOn 1 none :: ((wsX8_powerOn_r1 ++ (wsX8_powerOn_r2 ++ (wsX8_powerOn_r3 ++ wsX8_powerOn_r4))) ++ wsX80 ++ wsX00 ++ wsX50 ++ wsX60 ++ wsX40 ++ wsX30 ++ wsX10 ++ wsX20)
def wsX8_init_r1 : List Cond := [Cond.methodLink RX8 3 objectInit, Cond.instanceMethod objectInit, Cond.code objectInit ⟨#[0xb1]⟩ 1 none, Cond.classLink RX8 9 RX0, Cond.instantiable RX0 2, Cond.initialized RX0, Cond.fieldLink RX8 12 "SerialPort" "divider" "LSerialPort$Divider;", Cond.classLink RX8 16 RX5, Cond.instantiable RX5 3, Cond.initialized RX5, Cond.fieldLink RX8 21 "SerialPort" "received" "LSerialPort$Ring;", Cond.fieldLink RX8 25 "SerialPort" "sending" "LSerialPort$Ring;", Cond.classLink RX8 28 RX6, Cond.instantiable RX6 4, Cond.initialized RX6, Cond.fieldLink RX8 31 "SerialPort" "sender" "LSerialPort$Sender;", Cond.classLink RX8 35 RX4, Cond.instantiable RX4 7, Cond.initialized RX4, Cond.fieldLink RX8 38 "SerialPort" "receiver" "LSerialPort$Receiver;", Cond.classLink RX8 42 RX3, Cond.instantiable RX3 4, Cond.initialized RX3, Cond.fieldLink RX8 45 "SerialPort" "modem" "LSerialPort$Modem;"]
def wsX8_init_r2 : List Cond := [Cond.classLink RX8 49 RX1, Cond.instantiable RX1 2, Cond.initialized RX1, Cond.fieldLink RX8 52 "SerialPort" "lineIn" "LSerialPort$LineIn;", Cond.classLink RX8 56 RX2, Cond.instantiable RX2 2, Cond.initialized RX2, Cond.fieldLink RX8 59 "SerialPort" "lineOut" "LSerialPort$LineOut;", Cond.instanceMethod yX0_init, Cond.code yX0_init cX0_init 1 none, Cond.methodLink RX0 3 objectInit, Cond.methodLink RX8 18 yX5_init, Cond.instanceMethod yX5_init, Cond.code yX5_init cX5_init 2 none, Cond.methodLink RX5 1 objectInit, Cond.methodLink RX5 7 Lib.Math.max.name, Cond.static Lib.Math.max.name, Cond.initialized "java/lang/Math", Cond.code Lib.Math.max.name Lib.Math.max.code 2 (some .int), Cond.arrayClass .int, Cond.fieldLink RX5 13 "SerialPort$Ring" "cells" "[I", Cond.fieldLink RX5 19 "SerialPort$Ring" "head" "I", Cond.fieldLink RX5 23 "SerialPort$Ring" "size" "I", Cond.instanceMethod yX6_init]
def wsX8_init_r3 : List Cond := [Cond.code yX6_init cX6_init 1 none, Cond.methodLink RX6 3 objectInit, Cond.instanceMethod yX4_init, Cond.code yX4_init cX4_init 1 none, Cond.methodLink RX4 3 objectInit, Cond.instanceMethod yX3_init, Cond.code yX3_init cX3_init 1 none, Cond.methodLink RX3 1 objectInit, Cond.instanceMethod yX1_init, Cond.code yX1_init cX1_init 1 none, Cond.methodLink RX1 3 objectInit, Cond.classLink RX1 9 RX5, Cond.fieldLink RX1 14 "SerialPort$LineIn" "wave" "LSerialPort$Ring;", Cond.methodLink RX1 11 yX5_init, Cond.instanceMethod yX2_init, Cond.code yX2_init cX2_init 1 none, Cond.methodLink RX2 3 objectInit, Cond.classLink RX2 9 RX5, Cond.fieldLink RX2 14 "SerialPort$LineOut" "runs" "LSerialPort$Ring;", Cond.methodLink RX2 11 yX5_init, Cond.methodLink RX8 63 yX8_powerOn, Cond.instanceMethod yX8_powerOn, Cond.selects RX8 yX8_powerOn yX8_powerOn, Cond.initialized RX8]
def wsX8_init_r4 : List Cond := [Cond.code yX8_powerOn cX8_powerOn 1 none, Cond.fieldLink RX8 163 "SerialPort" "wanted" "I", Cond.fieldLink RX8 73 "SerialPort" "lineControl" "I", Cond.fieldLink RX8 166 "SerialPort" "kept" "I", Cond.fieldLink RX8 169 "SerialPort" "level" "I", Cond.fieldLink RX8 172 "SerialPort" "rowsOn" "Z", Cond.fieldLink RX8 176 "SerialPort" "overrun" "Z", Cond.fieldLink RX8 179 "SerialPort" "emptyUp" "Z", Cond.fieldLink RX8 182 "SerialPort" "lateUp" "Z", Cond.fieldLink RX8 127 "SerialPort" "beats" "I", Cond.fieldLink RX8 185 "SerialPort" "quietSince" "I", Cond.methodLink RX8 154 yX0_clear, Cond.instanceMethod yX0_clear, Cond.selects RX0 yX0_clear yX0_clear, Cond.code yX0_clear cX0_clear 1 none, Cond.fieldLink RX0 9 "SerialPort$Divider" "divisor" "I", Cond.fieldLink RX0 15 "SerialPort$Divider" "passed" "I", Cond.methodLink RX8 157 yX5_clear, Cond.instanceMethod yX5_clear, Cond.selects RX5 yX5_clear yX5_clear, Cond.code yX5_clear cX5_clear 1 none, Cond.methodLink RX8 158 yX6_clear, Cond.instanceMethod yX6_clear, Cond.selects RX6 yX6_clear yX6_clear]
def wsX8_init_r5 : List Cond := [Cond.code yX6_clear cX6_clear 1 none, Cond.fieldLink RX6 9 "SerialPort$Sender" "control" "I", Cond.fieldLink RX6 15 "SerialPort$Sender" "character" "I", Cond.fieldLink RX6 18 "SerialPort$Sender" "beat" "I", Cond.fieldLink RX6 21 "SerialPort$Sender" "busy" "Z", Cond.methodLink RX8 159 yX4_clear, Cond.instanceMethod yX4_clear, Cond.selects RX4 yX4_clear yX4_clear, Cond.code yX4_clear cX4_clear 1 none, Cond.fieldLink RX4 15 "SerialPort$Receiver" "busy" "Z", Cond.fieldLink RX4 19 "SerialPort$Receiver" "wasHigh" "Z", Cond.methodLink RX4 9 yX4_begin, Cond.instanceMethod yX4_begin, Cond.selects RX4 yX4_begin yX4_begin, Cond.code yX4_begin cX4_begin 2 none, Cond.fieldLink RX4 37 "SerialPort$Receiver" "control" "I", Cond.fieldLink RX4 40 "SerialPort$Receiver" "character" "I", Cond.fieldLink RX4 26 "SerialPort$Receiver" "beat" "I", Cond.fieldLink RX4 43 "SerialPort$Receiver" "parityHigh" "Z", Cond.fieldLink RX4 46 "SerialPort$Receiver" "someHigh" "Z", Cond.methodLink RX8 160 yX3_clear, Cond.instanceMethod yX3_clear, Cond.selects RX3 yX3_clear yX3_clear, Cond.code yX3_clear cX3_clear 1 none]
def wsX8_init_r6 : List Cond := [Cond.fieldLink RX3 7 "SerialPort$Modem" "outputs" "I", Cond.fieldLink RX3 13 "SerialPort$Modem" "pins" "I", Cond.fieldLink RX3 16 "SerialPort$Modem" "state" "I", Cond.fieldLink RX3 19 "SerialPort$Modem" "changes" "I", Cond.methodLink RX8 161 yX1_clear, Cond.instanceMethod yX1_clear, Cond.selects RX1 yX1_clear yX1_clear, Cond.code yX1_clear cX1_clear 1 none, Cond.fieldLink RX1 23 "SerialPort$LineIn" "high" "Z", Cond.methodLink RX1 20 yX5_clear, Cond.methodLink RX8 162 yX2_clear, Cond.instanceMethod yX2_clear, Cond.selects RX2 yX2_clear yX2_clear, Cond.code yX2_clear cX2_clear 1 none, Cond.fieldLink RX2 23 "SerialPort$LineOut" "inAll" "I", Cond.methodLink RX2 20 yX5_clear]
def wsX8_init : List Cond := .code yX8_init cX8_init 1 none :: ((wsX8_init_r1 ++ (wsX8_init_r2 ++ (wsX8_init_r3 ++ (wsX8_init_r4 ++ (wsX8_init_r5 ++ wsX8_init_r6))))) ++ wsX00 ++ wsX80 ++ wsX50 ++ wsX60 ++ wsX40 ++ wsX30 ++ wsX10 ++ wsX20)
def wsX8_rowRoom : List Cond := .code yX8_rowRoom cX8_rowRoom 1 (some .int) :: ([.fieldLink RX8 172 "SerialPort" "rowsOn" "Z"] ++ wsX80)
def wsX8_putCharacter_r1 : List Cond := [Cond.fieldLink RX8 25 "SerialPort" "sending" "LSerialPort$Ring;", Cond.fieldLink RX8 172 "SerialPort" "rowsOn" "Z", Cond.fieldLink RX8 179 "SerialPort" "emptyUp" "Z", Cond.methodLink RX8 124 yX5_size, Cond.instanceMethod yX5_size, Cond.selects RX5 yX5_size yX5_size, Cond.initialized RX5, Cond.code yX5_size cX5_size 1 (some .int), Cond.fieldLink RX5 23 "SerialPort$Ring" "size" "I", Cond.methodLink RX8 215 yX8_rowRoom, Cond.instanceMethod yX8_rowRoom, Cond.selects RX8 yX8_rowRoom yX8_rowRoom, Cond.initialized RX8, Cond.code yX8_rowRoom cX8_rowRoom 1 (some .int), Cond.methodLink RX8 218 yX5_add, Cond.instanceMethod yX5_add, Cond.selects RX5 yX5_add yX5_add, Cond.code yX5_add cX5_add 2 none, Cond.fieldLink RX5 13 "SerialPort$Ring" "cells" "[I", Cond.methodLink RX5 33 yX5_setAt, Cond.instanceMethod yX5_setAt, Cond.selects RX5 yX5_setAt yX5_setAt, Cond.code yX5_setAt cX5_setAt 4 none, Cond.methodLink RX5 26 yX5_cellOf]
def wsX8_putCharacter_r2 : List Cond := [Cond.instanceMethod yX5_cellOf, Cond.selects RX5 yX5_cellOf yX5_cellOf, Cond.code yX5_cellOf cX5_cellOf 3 (some .int), Cond.fieldLink RX5 19 "SerialPort$Ring" "head" "I", Cond.methodLink RX8 221 yX5_setFirst, Cond.instanceMethod yX5_setFirst, Cond.selects RX5 yX5_setFirst yX5_setFirst, Cond.code yX5_setFirst cX5_setFirst 2 none]
def wsX8_putCharacter : List Cond := .code yX8_putCharacter cX8_putCharacter 2 none :: ((wsX8_putCharacter_r1 ++ wsX8_putCharacter_r2) ++ wsX80 ++ wsX50)
def wsX8_putWanted : List Cond := .code yX8_putWanted cX8_putWanted 3 none :: ([.fieldLink RX8 163 "SerialPort" "wanted" "I", .fieldLink RX8 25 "SerialPort" "sending" "LSerialPort$Ring;", .fieldLink RX8 179 "SerialPort" "emptyUp" "Z", .methodLink RX8 230 yX5_isEmpty, .instanceMethod yX5_isEmpty, .selects RX5 yX5_isEmpty yX5_isEmpty, .initialized RX5, .code yX5_isEmpty cX5_isEmpty 1 (some .boolean), .fieldLink RX5 23 "SerialPort$Ring" "size" "I"] ++ wsX80 ++ wsX50)
def wsX8_levelOf : List Cond := .code yX8_levelOf cX8_levelOf 1 (some .int) :: ([])
def wsX8_putRowControl : List Cond := .code yX8_putRowControl cX8_putRowControl 4 none :: ([.fieldLink RX8 172 "SerialPort" "rowsOn" "Z", .fieldLink RX8 21 "SerialPort" "received" "LSerialPort$Ring;", .fieldLink RX8 182 "SerialPort" "lateUp" "Z", .fieldLink RX8 25 "SerialPort" "sending" "LSerialPort$Ring;", .fieldLink RX8 169 "SerialPort" "level" "I", .methodLink RX8 157 yX5_clear, .instanceMethod yX5_clear, .selects RX5 yX5_clear yX5_clear, .initialized RX5, .code yX5_clear cX5_clear 1 none, .fieldLink RX5 19 "SerialPort$Ring" "head" "I", .fieldLink RX5 23 "SerialPort$Ring" "size" "I", .methodLink RX8 233 yX8_levelOf, .static yX8_levelOf, .initialized RX8, .code yX8_levelOf cX8_levelOf 1 (some .int)] ++ wsX80 ++ wsX50)
def wsX8_putRegister_r1 : List Cond := [Cond.fieldLink RX8 73 "SerialPort" "lineControl" "I", Cond.fieldLink RX8 45 "SerialPort" "modem" "LSerialPort$Modem;", Cond.fieldLink RX8 166 "SerialPort" "kept" "I", Cond.methodLink RX8 188 yX8_putCharacter, Cond.instanceMethod yX8_putCharacter, Cond.selects RX8 yX8_putCharacter yX8_putCharacter, Cond.initialized RX8, Cond.code yX8_putCharacter cX8_putCharacter 2 none, Cond.fieldLink RX8 25 "SerialPort" "sending" "LSerialPort$Ring;", Cond.fieldLink RX8 172 "SerialPort" "rowsOn" "Z", Cond.fieldLink RX8 179 "SerialPort" "emptyUp" "Z", Cond.methodLink RX8 124 yX5_size, Cond.instanceMethod yX5_size, Cond.selects RX5 yX5_size yX5_size, Cond.initialized RX5, Cond.code yX5_size cX5_size 1 (some .int), Cond.fieldLink RX5 23 "SerialPort$Ring" "size" "I", Cond.methodLink RX8 215 yX8_rowRoom, Cond.instanceMethod yX8_rowRoom, Cond.selects RX8 yX8_rowRoom yX8_rowRoom, Cond.code yX8_rowRoom cX8_rowRoom 1 (some .int), Cond.methodLink RX8 218 yX5_add, Cond.instanceMethod yX5_add, Cond.selects RX5 yX5_add yX5_add]
def wsX8_putRegister_r2 : List Cond := [Cond.code yX5_add cX5_add 2 none, Cond.fieldLink RX5 13 "SerialPort$Ring" "cells" "[I", Cond.methodLink RX5 33 yX5_setAt, Cond.instanceMethod yX5_setAt, Cond.selects RX5 yX5_setAt yX5_setAt, Cond.code yX5_setAt cX5_setAt 4 none, Cond.methodLink RX5 26 yX5_cellOf, Cond.instanceMethod yX5_cellOf, Cond.selects RX5 yX5_cellOf yX5_cellOf, Cond.code yX5_cellOf cX5_cellOf 3 (some .int), Cond.fieldLink RX5 19 "SerialPort$Ring" "head" "I", Cond.methodLink RX8 221 yX5_setFirst, Cond.instanceMethod yX5_setFirst, Cond.selects RX5 yX5_setFirst yX5_setFirst, Cond.code yX5_setFirst cX5_setFirst 2 none, Cond.methodLink RX8 191 yX8_putWanted, Cond.instanceMethod yX8_putWanted, Cond.selects RX8 yX8_putWanted yX8_putWanted, Cond.code yX8_putWanted cX8_putWanted 3 none, Cond.fieldLink RX8 163 "SerialPort" "wanted" "I", Cond.methodLink RX8 230 yX5_isEmpty, Cond.instanceMethod yX5_isEmpty, Cond.selects RX5 yX5_isEmpty yX5_isEmpty, Cond.code yX5_isEmpty cX5_isEmpty 1 (some .boolean)]
def wsX8_putRegister_r3 : List Cond := [Cond.methodLink RX8 194 yX8_putRowControl, Cond.instanceMethod yX8_putRowControl, Cond.selects RX8 yX8_putRowControl yX8_putRowControl, Cond.code yX8_putRowControl cX8_putRowControl 4 none, Cond.fieldLink RX8 21 "SerialPort" "received" "LSerialPort$Ring;", Cond.fieldLink RX8 182 "SerialPort" "lateUp" "Z", Cond.fieldLink RX8 169 "SerialPort" "level" "I", Cond.methodLink RX8 157 yX5_clear, Cond.instanceMethod yX5_clear, Cond.selects RX5 yX5_clear yX5_clear, Cond.code yX5_clear cX5_clear 1 none, Cond.methodLink RX8 233 yX8_levelOf, Cond.static yX8_levelOf, Cond.code yX8_levelOf cX8_levelOf 1 (some .int), Cond.methodLink RX8 197 yX3_putOutputs, Cond.instanceMethod yX3_putOutputs, Cond.selects RX3 yX3_putOutputs yX3_putOutputs, Cond.initialized RX3, Cond.code yX3_putOutputs cX3_putOutputs 2 none, Cond.fieldLink RX3 7 "SerialPort$Modem" "outputs" "I", Cond.methodLink RX3 22 yX3_follow, Cond.instanceMethod yX3_follow, Cond.selects RX3 yX3_follow yX3_follow, Cond.code yX3_follow cX3_follow 3 none]
def wsX8_putRegister_r4 : List Cond := [Cond.fieldLink RX3 13 "SerialPort$Modem" "pins" "I", Cond.fieldLink RX3 16 "SerialPort$Modem" "state" "I", Cond.fieldLink RX3 19 "SerialPort$Modem" "changes" "I", Cond.methodLink RX3 25 yX3_loops, Cond.instanceMethod yX3_loops, Cond.selects RX3 yX3_loops yX3_loops, Cond.code yX3_loops cX3_loops 1 (some .boolean), Cond.methodLink RX3 29 yX3_looped, Cond.instanceMethod yX3_looped, Cond.selects RX3 yX3_looped yX3_looped, Cond.code yX3_looped cX3_looped 1 (some .int)]
def wsX8_putRegister : List Cond := .code yX8_putRegister cX8_putRegister 3 none :: ((wsX8_putRegister_r1 ++ (wsX8_putRegister_r2 ++ (wsX8_putRegister_r3 ++ wsX8_putRegister_r4))) ++ wsX80 ++ wsX50 ++ wsX30)
def wsX8_write_r1 : List Cond := [Cond.classLink RX8 66 "java/util/NoSuchElementException", Cond.initialized "java/util/NoSuchElementException", Cond.fieldLink RX8 73 "SerialPort" "lineControl" "I", Cond.fieldLink RX8 12 "SerialPort" "divider" "LSerialPort$Divider;", Cond.methodLink RX8 77 yX0_putByte, Cond.instanceMethod yX0_putByte, Cond.selects RX0 yX0_putByte yX0_putByte, Cond.initialized RX0, Cond.code yX0_putByte cX0_putByte 3 none, Cond.fieldLink RX0 9 "SerialPort$Divider" "divisor" "I", Cond.constant RX0 18 (65280), Cond.fieldLink RX0 15 "SerialPort$Divider" "passed" "I", Cond.methodLink RX8 81 yX8_putRegister, Cond.instanceMethod yX8_putRegister, Cond.selects RX8 yX8_putRegister yX8_putRegister, Cond.initialized RX8, Cond.code yX8_putRegister cX8_putRegister 3 none, Cond.fieldLink RX8 45 "SerialPort" "modem" "LSerialPort$Modem;", Cond.fieldLink RX8 166 "SerialPort" "kept" "I", Cond.methodLink RX8 188 yX8_putCharacter, Cond.instanceMethod yX8_putCharacter, Cond.selects RX8 yX8_putCharacter yX8_putCharacter, Cond.code yX8_putCharacter cX8_putCharacter 2 none, Cond.fieldLink RX8 25 "SerialPort" "sending" "LSerialPort$Ring;"]
def wsX8_write_r2 : List Cond := [Cond.fieldLink RX8 172 "SerialPort" "rowsOn" "Z", Cond.fieldLink RX8 179 "SerialPort" "emptyUp" "Z", Cond.methodLink RX8 124 yX5_size, Cond.instanceMethod yX5_size, Cond.selects RX5 yX5_size yX5_size, Cond.initialized RX5, Cond.code yX5_size cX5_size 1 (some .int), Cond.fieldLink RX5 23 "SerialPort$Ring" "size" "I", Cond.methodLink RX8 215 yX8_rowRoom, Cond.instanceMethod yX8_rowRoom, Cond.selects RX8 yX8_rowRoom yX8_rowRoom, Cond.code yX8_rowRoom cX8_rowRoom 1 (some .int), Cond.methodLink RX8 218 yX5_add, Cond.instanceMethod yX5_add, Cond.selects RX5 yX5_add yX5_add, Cond.code yX5_add cX5_add 2 none, Cond.fieldLink RX5 13 "SerialPort$Ring" "cells" "[I", Cond.methodLink RX5 33 yX5_setAt, Cond.instanceMethod yX5_setAt, Cond.selects RX5 yX5_setAt yX5_setAt, Cond.code yX5_setAt cX5_setAt 4 none, Cond.methodLink RX5 26 yX5_cellOf, Cond.instanceMethod yX5_cellOf, Cond.selects RX5 yX5_cellOf yX5_cellOf]
def wsX8_write_r3 : List Cond := [Cond.code yX5_cellOf cX5_cellOf 3 (some .int), Cond.fieldLink RX5 19 "SerialPort$Ring" "head" "I", Cond.methodLink RX8 221 yX5_setFirst, Cond.instanceMethod yX5_setFirst, Cond.selects RX5 yX5_setFirst yX5_setFirst, Cond.code yX5_setFirst cX5_setFirst 2 none, Cond.methodLink RX8 191 yX8_putWanted, Cond.instanceMethod yX8_putWanted, Cond.selects RX8 yX8_putWanted yX8_putWanted, Cond.code yX8_putWanted cX8_putWanted 3 none, Cond.fieldLink RX8 163 "SerialPort" "wanted" "I", Cond.methodLink RX8 230 yX5_isEmpty, Cond.instanceMethod yX5_isEmpty, Cond.selects RX5 yX5_isEmpty yX5_isEmpty, Cond.code yX5_isEmpty cX5_isEmpty 1 (some .boolean), Cond.methodLink RX8 194 yX8_putRowControl, Cond.instanceMethod yX8_putRowControl, Cond.selects RX8 yX8_putRowControl yX8_putRowControl, Cond.code yX8_putRowControl cX8_putRowControl 4 none, Cond.fieldLink RX8 21 "SerialPort" "received" "LSerialPort$Ring;", Cond.fieldLink RX8 182 "SerialPort" "lateUp" "Z", Cond.fieldLink RX8 169 "SerialPort" "level" "I", Cond.methodLink RX8 157 yX5_clear, Cond.instanceMethod yX5_clear]
def wsX8_write_r4 : List Cond := [Cond.selects RX5 yX5_clear yX5_clear, Cond.code yX5_clear cX5_clear 1 none, Cond.methodLink RX8 233 yX8_levelOf, Cond.static yX8_levelOf, Cond.code yX8_levelOf cX8_levelOf 1 (some .int), Cond.methodLink RX8 197 yX3_putOutputs, Cond.instanceMethod yX3_putOutputs, Cond.selects RX3 yX3_putOutputs yX3_putOutputs, Cond.initialized RX3, Cond.code yX3_putOutputs cX3_putOutputs 2 none, Cond.fieldLink RX3 7 "SerialPort$Modem" "outputs" "I", Cond.methodLink RX3 22 yX3_follow, Cond.instanceMethod yX3_follow, Cond.selects RX3 yX3_follow yX3_follow, Cond.code yX3_follow cX3_follow 3 none, Cond.fieldLink RX3 13 "SerialPort$Modem" "pins" "I", Cond.fieldLink RX3 16 "SerialPort$Modem" "state" "I", Cond.fieldLink RX3 19 "SerialPort$Modem" "changes" "I", Cond.methodLink RX3 25 yX3_loops, Cond.instanceMethod yX3_loops, Cond.selects RX3 yX3_loops yX3_loops, Cond.code yX3_loops cX3_loops 1 (some .boolean), Cond.methodLink RX3 29 yX3_looped, Cond.instanceMethod yX3_looped]
def wsX8_write_r5 : List Cond := [Cond.selects RX3 yX3_looped yX3_looped, Cond.code yX3_looped cX3_looped 1 (some .int)]
def wsX8_write : List Cond := .code yX8_write cX8_write 4 none :: ((wsX8_write_r1 ++ (wsX8_write_r2 ++ (wsX8_write_r3 ++ (wsX8_write_r4 ++ wsX8_write_r5)))) ++ wsX80 ++ wsX00 ++ wsX50 ++ wsX30 ++ (vx_atS RX8 70 "java/util/NoSuchElementException" ["java/lang/RuntimeException", "java/lang/Exception"]).filter goodWord)
def wsX8_takeCharacter : List Cond := .code yX8_takeCharacter cX8_takeCharacter 2 (some .int) :: ([.fieldLink RX8 21 "SerialPort" "received" "LSerialPort$Ring;", .fieldLink RX8 182 "SerialPort" "lateUp" "Z", .fieldLink RX8 127 "SerialPort" "beats" "I", .fieldLink RX8 185 "SerialPort" "quietSince" "I", .methodLink RX8 224 yX5_first, .instanceMethod yX5_first, .selects RX5 yX5_first yX5_first, .initialized RX5, .code yX5_first cX5_first 1 (some .int), .methodLink RX5 30 yX5_at, .instanceMethod yX5_at, .selects RX5 yX5_at yX5_at, .code yX5_at cX5_at 3 (some .int), .fieldLink RX5 23 "SerialPort$Ring" "size" "I", .fieldLink RX5 13 "SerialPort$Ring" "cells" "[I", .methodLink RX5 26 yX5_cellOf, .instanceMethod yX5_cellOf, .selects RX5 yX5_cellOf yX5_cellOf, .code yX5_cellOf cX5_cellOf 3 (some .int), .fieldLink RX5 19 "SerialPort$Ring" "head" "I", .methodLink RX8 227 yX5_dropFirst, .instanceMethod yX5_dropFirst, .selects RX5 yX5_dropFirst yX5_dropFirst, .code yX5_dropFirst cX5_dropFirst 1 none] ++ wsX80 ++ wsX50)
def wsX8_wants : List Cond := .code yX8_wants cX8_wants 2 (some .boolean) :: ([.fieldLink RX8 163 "SerialPort" "wanted" "I"] ++ wsX80)
def wsX8_firstFaults : List Cond := .code yX8_firstFaults cX8_firstFaults 1 (some .int) :: ([.fieldLink RX8 21 "SerialPort" "received" "LSerialPort$Ring;", .methodLink RX8 224 yX5_first, .instanceMethod yX5_first, .selects RX5 yX5_first yX5_first, .initialized RX5, .code yX5_first cX5_first 1 (some .int), .methodLink RX5 30 yX5_at, .instanceMethod yX5_at, .selects RX5 yX5_at yX5_at, .code yX5_at cX5_at 3 (some .int), .fieldLink RX5 23 "SerialPort$Ring" "size" "I", .fieldLink RX5 13 "SerialPort$Ring" "cells" "[I", .methodLink RX5 26 yX5_cellOf, .instanceMethod yX5_cellOf, .selects RX5 yX5_cellOf yX5_cellOf, .code yX5_cellOf cX5_cellOf 3 (some .int), .fieldLink RX5 19 "SerialPort$Ring" "head" "I"] ++ wsX80 ++ wsX50)
def wsX8_reason_r1 : List Cond := [Cond.fieldLink RX8 176 "SerialPort" "overrun" "Z", Cond.fieldLink RX8 21 "SerialPort" "received" "LSerialPort$Ring;", Cond.fieldLink RX8 172 "SerialPort" "rowsOn" "Z", Cond.fieldLink RX8 169 "SerialPort" "level" "I", Cond.fieldLink RX8 182 "SerialPort" "lateUp" "Z", Cond.fieldLink RX8 179 "SerialPort" "emptyUp" "Z", Cond.fieldLink RX8 45 "SerialPort" "modem" "LSerialPort$Modem;", Cond.methodLink RX8 245 yX8_wants, Cond.instanceMethod yX8_wants, Cond.selects RX8 yX8_wants yX8_wants, Cond.initialized RX8, Cond.code yX8_wants cX8_wants 2 (some .boolean), Cond.fieldLink RX8 163 "SerialPort" "wanted" "I", Cond.methodLink RX8 239 yX8_firstFaults, Cond.instanceMethod yX8_firstFaults, Cond.selects RX8 yX8_firstFaults yX8_firstFaults, Cond.code yX8_firstFaults cX8_firstFaults 1 (some .int), Cond.methodLink RX8 224 yX5_first, Cond.instanceMethod yX5_first, Cond.selects RX5 yX5_first yX5_first, Cond.initialized RX5, Cond.code yX5_first cX5_first 1 (some .int), Cond.methodLink RX5 30 yX5_at, Cond.instanceMethod yX5_at]
def wsX8_reason_r2 : List Cond := [Cond.selects RX5 yX5_at yX5_at, Cond.code yX5_at cX5_at 3 (some .int), Cond.fieldLink RX5 23 "SerialPort$Ring" "size" "I", Cond.fieldLink RX5 13 "SerialPort$Ring" "cells" "[I", Cond.methodLink RX5 26 yX5_cellOf, Cond.instanceMethod yX5_cellOf, Cond.selects RX5 yX5_cellOf yX5_cellOf, Cond.code yX5_cellOf cX5_cellOf 3 (some .int), Cond.fieldLink RX5 19 "SerialPort$Ring" "head" "I", Cond.methodLink RX8 124 yX5_size, Cond.instanceMethod yX5_size, Cond.selects RX5 yX5_size yX5_size, Cond.code yX5_size cX5_size 1 (some .int), Cond.methodLink RX8 248 yX3_hasChanged, Cond.instanceMethod yX3_hasChanged, Cond.selects RX3 yX3_hasChanged yX3_hasChanged, Cond.initialized RX3, Cond.code yX3_hasChanged cX3_hasChanged 1 (some .boolean), Cond.fieldLink RX3 19 "SerialPort$Modem" "changes" "I"]
def wsX8_reason : List Cond := .code yX8_reason cX8_reason 1 (some .int) :: ((wsX8_reason_r1 ++ wsX8_reason_r2) ++ wsX80 ++ wsX50 ++ wsX30)
def wsX8_tellReason_r1 : List Cond := [Cond.fieldLink RX8 179 "SerialPort" "emptyUp" "Z", Cond.fieldLink RX8 172 "SerialPort" "rowsOn" "Z", Cond.methodLink RX8 130 yX8_reason, Cond.instanceMethod yX8_reason, Cond.selects RX8 yX8_reason yX8_reason, Cond.initialized RX8, Cond.code yX8_reason cX8_reason 1 (some .int), Cond.fieldLink RX8 176 "SerialPort" "overrun" "Z", Cond.fieldLink RX8 21 "SerialPort" "received" "LSerialPort$Ring;", Cond.fieldLink RX8 169 "SerialPort" "level" "I", Cond.fieldLink RX8 182 "SerialPort" "lateUp" "Z", Cond.fieldLink RX8 45 "SerialPort" "modem" "LSerialPort$Modem;", Cond.methodLink RX8 245 yX8_wants, Cond.instanceMethod yX8_wants, Cond.selects RX8 yX8_wants yX8_wants, Cond.code yX8_wants cX8_wants 2 (some .boolean), Cond.fieldLink RX8 163 "SerialPort" "wanted" "I", Cond.methodLink RX8 239 yX8_firstFaults, Cond.instanceMethod yX8_firstFaults, Cond.selects RX8 yX8_firstFaults yX8_firstFaults, Cond.code yX8_firstFaults cX8_firstFaults 1 (some .int), Cond.methodLink RX8 224 yX5_first, Cond.instanceMethod yX5_first, Cond.selects RX5 yX5_first yX5_first]
def wsX8_tellReason_r2 : List Cond := [Cond.initialized RX5, Cond.code yX5_first cX5_first 1 (some .int), Cond.methodLink RX5 30 yX5_at, Cond.instanceMethod yX5_at, Cond.selects RX5 yX5_at yX5_at, Cond.code yX5_at cX5_at 3 (some .int), Cond.fieldLink RX5 23 "SerialPort$Ring" "size" "I", Cond.fieldLink RX5 13 "SerialPort$Ring" "cells" "[I", Cond.methodLink RX5 26 yX5_cellOf, Cond.instanceMethod yX5_cellOf, Cond.selects RX5 yX5_cellOf yX5_cellOf, Cond.code yX5_cellOf cX5_cellOf 3 (some .int), Cond.fieldLink RX5 19 "SerialPort$Ring" "head" "I", Cond.methodLink RX8 124 yX5_size, Cond.instanceMethod yX5_size, Cond.selects RX5 yX5_size yX5_size, Cond.code yX5_size cX5_size 1 (some .int), Cond.methodLink RX8 248 yX3_hasChanged, Cond.instanceMethod yX3_hasChanged, Cond.selects RX3 yX3_hasChanged yX3_hasChanged, Cond.initialized RX3, Cond.code yX3_hasChanged cX3_hasChanged 1 (some .boolean), Cond.fieldLink RX3 19 "SerialPort$Modem" "changes" "I"]
def wsX8_tellReason : List Cond := .code yX8_tellReason cX8_tellReason 2 (some .int) :: ((wsX8_tellReason_r1 ++ wsX8_tellReason_r2) ++ wsX80 ++ wsX50 ++ wsX30)
def wsX8_someFault : List Cond := .code yX8_someFault cX8_someFault 2 (some .boolean) :: ([.fieldLink RX8 21 "SerialPort" "received" "LSerialPort$Ring;", .methodLink RX8 124 yX5_size, .instanceMethod yX5_size, .selects RX5 yX5_size yX5_size, .initialized RX5, .code yX5_size cX5_size 1 (some .int), .fieldLink RX5 23 "SerialPort$Ring" "size" "I", .methodLink RX8 236 yX5_at, .instanceMethod yX5_at, .selects RX5 yX5_at yX5_at, .code yX5_at cX5_at 3 (some .int), .fieldLink RX5 13 "SerialPort$Ring" "cells" "[I", .methodLink RX5 26 yX5_cellOf, .instanceMethod yX5_cellOf, .selects RX5 yX5_cellOf yX5_cellOf, .code yX5_cellOf cX5_cellOf 3 (some .int), .fieldLink RX5 19 "SerialPort$Ring" "head" "I"] ++ wsX80 ++ wsX50)
def wsX8_tellLineState_r1 : List Cond := [Cond.fieldLink RX8 21 "SerialPort" "received" "LSerialPort$Ring;", Cond.fieldLink RX8 176 "SerialPort" "overrun" "Z", Cond.fieldLink RX8 25 "SerialPort" "sending" "LSerialPort$Ring;", Cond.fieldLink RX8 31 "SerialPort" "sender" "LSerialPort$Sender;", Cond.fieldLink RX8 172 "SerialPort" "rowsOn" "Z", Cond.methodLink RX8 239 yX8_firstFaults, Cond.instanceMethod yX8_firstFaults, Cond.selects RX8 yX8_firstFaults yX8_firstFaults, Cond.initialized RX8, Cond.code yX8_firstFaults cX8_firstFaults 1 (some .int), Cond.methodLink RX8 224 yX5_first, Cond.instanceMethod yX5_first, Cond.selects RX5 yX5_first yX5_first, Cond.initialized RX5, Cond.code yX5_first cX5_first 1 (some .int), Cond.methodLink RX5 30 yX5_at, Cond.instanceMethod yX5_at, Cond.selects RX5 yX5_at yX5_at, Cond.code yX5_at cX5_at 3 (some .int), Cond.fieldLink RX5 23 "SerialPort$Ring" "size" "I", Cond.fieldLink RX5 13 "SerialPort$Ring" "cells" "[I", Cond.methodLink RX5 26 yX5_cellOf, Cond.instanceMethod yX5_cellOf, Cond.selects RX5 yX5_cellOf yX5_cellOf]
def wsX8_tellLineState_r2 : List Cond := [Cond.code yX5_cellOf cX5_cellOf 3 (some .int), Cond.fieldLink RX5 19 "SerialPort$Ring" "head" "I", Cond.methodLink RX8 230 yX5_isEmpty, Cond.instanceMethod yX5_isEmpty, Cond.selects RX5 yX5_isEmpty yX5_isEmpty, Cond.code yX5_isEmpty cX5_isEmpty 1 (some .boolean), Cond.methodLink RX8 140 yX6_isBusy, Cond.instanceMethod yX6_isBusy, Cond.selects RX6 yX6_isBusy yX6_isBusy, Cond.initialized RX6, Cond.code yX6_isBusy cX6_isBusy 1 (some .boolean), Cond.fieldLink RX6 21 "SerialPort$Sender" "busy" "Z", Cond.methodLink RX8 242 yX8_someFault, Cond.instanceMethod yX8_someFault, Cond.selects RX8 yX8_someFault yX8_someFault, Cond.code yX8_someFault cX8_someFault 2 (some .boolean), Cond.methodLink RX8 124 yX5_size, Cond.instanceMethod yX5_size, Cond.selects RX5 yX5_size yX5_size, Cond.code yX5_size cX5_size 1 (some .int), Cond.methodLink RX8 236 yX5_at, Cond.methodLink RX8 221 yX5_setFirst, Cond.instanceMethod yX5_setFirst, Cond.selects RX5 yX5_setFirst yX5_setFirst]
def wsX8_tellLineState_r3 : List Cond := [Cond.code yX5_setFirst cX5_setFirst 2 none, Cond.methodLink RX5 33 yX5_setAt, Cond.instanceMethod yX5_setAt, Cond.selects RX5 yX5_setAt yX5_setAt, Cond.code yX5_setAt cX5_setAt 4 none]
def wsX8_tellLineState : List Cond := .code yX8_tellLineState cX8_tellLineState 2 (some .int) :: ((wsX8_tellLineState_r1 ++ (wsX8_tellLineState_r2 ++ wsX8_tellLineState_r3)) ++ wsX80 ++ wsX50 ++ wsX60)
def wsX8_tellRegister_r1 : List Cond := [Cond.fieldLink RX8 163 "SerialPort" "wanted" "I", Cond.fieldLink RX8 73 "SerialPort" "lineControl" "I", Cond.fieldLink RX8 45 "SerialPort" "modem" "LSerialPort$Modem;", Cond.fieldLink RX8 166 "SerialPort" "kept" "I", Cond.methodLink RX8 200 yX8_takeCharacter, Cond.instanceMethod yX8_takeCharacter, Cond.selects RX8 yX8_takeCharacter yX8_takeCharacter, Cond.initialized RX8, Cond.code yX8_takeCharacter cX8_takeCharacter 2 (some .int), Cond.fieldLink RX8 21 "SerialPort" "received" "LSerialPort$Ring;", Cond.fieldLink RX8 182 "SerialPort" "lateUp" "Z", Cond.fieldLink RX8 127 "SerialPort" "beats" "I", Cond.fieldLink RX8 185 "SerialPort" "quietSince" "I", Cond.methodLink RX8 224 yX5_first, Cond.instanceMethod yX5_first, Cond.selects RX5 yX5_first yX5_first, Cond.initialized RX5, Cond.code yX5_first cX5_first 1 (some .int), Cond.methodLink RX5 30 yX5_at, Cond.instanceMethod yX5_at, Cond.selects RX5 yX5_at yX5_at, Cond.code yX5_at cX5_at 3 (some .int), Cond.fieldLink RX5 23 "SerialPort$Ring" "size" "I", Cond.fieldLink RX5 13 "SerialPort$Ring" "cells" "[I"]
def wsX8_tellRegister_r2 : List Cond := [Cond.methodLink RX5 26 yX5_cellOf, Cond.instanceMethod yX5_cellOf, Cond.selects RX5 yX5_cellOf yX5_cellOf, Cond.code yX5_cellOf cX5_cellOf 3 (some .int), Cond.fieldLink RX5 19 "SerialPort$Ring" "head" "I", Cond.methodLink RX8 227 yX5_dropFirst, Cond.instanceMethod yX5_dropFirst, Cond.selects RX5 yX5_dropFirst yX5_dropFirst, Cond.code yX5_dropFirst cX5_dropFirst 1 none, Cond.methodLink RX8 203 yX8_tellReason, Cond.instanceMethod yX8_tellReason, Cond.selects RX8 yX8_tellReason yX8_tellReason, Cond.code yX8_tellReason cX8_tellReason 2 (some .int), Cond.fieldLink RX8 179 "SerialPort" "emptyUp" "Z", Cond.fieldLink RX8 172 "SerialPort" "rowsOn" "Z", Cond.methodLink RX8 130 yX8_reason, Cond.instanceMethod yX8_reason, Cond.selects RX8 yX8_reason yX8_reason, Cond.code yX8_reason cX8_reason 1 (some .int), Cond.fieldLink RX8 176 "SerialPort" "overrun" "Z", Cond.fieldLink RX8 169 "SerialPort" "level" "I", Cond.methodLink RX8 245 yX8_wants, Cond.instanceMethod yX8_wants, Cond.selects RX8 yX8_wants yX8_wants]
def wsX8_tellRegister_r3 : List Cond := [Cond.code yX8_wants cX8_wants 2 (some .boolean), Cond.methodLink RX8 239 yX8_firstFaults, Cond.instanceMethod yX8_firstFaults, Cond.selects RX8 yX8_firstFaults yX8_firstFaults, Cond.code yX8_firstFaults cX8_firstFaults 1 (some .int), Cond.methodLink RX8 124 yX5_size, Cond.instanceMethod yX5_size, Cond.selects RX5 yX5_size yX5_size, Cond.code yX5_size cX5_size 1 (some .int), Cond.methodLink RX8 248 yX3_hasChanged, Cond.instanceMethod yX3_hasChanged, Cond.selects RX3 yX3_hasChanged yX3_hasChanged, Cond.initialized RX3, Cond.code yX3_hasChanged cX3_hasChanged 1 (some .boolean), Cond.fieldLink RX3 19 "SerialPort$Modem" "changes" "I", Cond.methodLink RX8 206 yX3_outputs, Cond.instanceMethod yX3_outputs, Cond.selects RX3 yX3_outputs yX3_outputs, Cond.code yX3_outputs cX3_outputs 1 (some .int), Cond.fieldLink RX3 7 "SerialPort$Modem" "outputs" "I", Cond.methodLink RX8 209 yX8_tellLineState, Cond.instanceMethod yX8_tellLineState, Cond.selects RX8 yX8_tellLineState yX8_tellLineState, Cond.code yX8_tellLineState cX8_tellLineState 2 (some .int)]
def wsX8_tellRegister_r4 : List Cond := [Cond.fieldLink RX8 25 "SerialPort" "sending" "LSerialPort$Ring;", Cond.fieldLink RX8 31 "SerialPort" "sender" "LSerialPort$Sender;", Cond.methodLink RX8 230 yX5_isEmpty, Cond.instanceMethod yX5_isEmpty, Cond.selects RX5 yX5_isEmpty yX5_isEmpty, Cond.code yX5_isEmpty cX5_isEmpty 1 (some .boolean), Cond.methodLink RX8 140 yX6_isBusy, Cond.instanceMethod yX6_isBusy, Cond.selects RX6 yX6_isBusy yX6_isBusy, Cond.initialized RX6, Cond.code yX6_isBusy cX6_isBusy 1 (some .boolean), Cond.fieldLink RX6 21 "SerialPort$Sender" "busy" "Z", Cond.methodLink RX8 242 yX8_someFault, Cond.instanceMethod yX8_someFault, Cond.selects RX8 yX8_someFault yX8_someFault, Cond.code yX8_someFault cX8_someFault 2 (some .boolean), Cond.methodLink RX8 236 yX5_at, Cond.methodLink RX8 221 yX5_setFirst, Cond.instanceMethod yX5_setFirst, Cond.selects RX5 yX5_setFirst yX5_setFirst, Cond.code yX5_setFirst cX5_setFirst 2 none, Cond.methodLink RX5 33 yX5_setAt, Cond.instanceMethod yX5_setAt, Cond.selects RX5 yX5_setAt yX5_setAt]
def wsX8_tellRegister_r5 : List Cond := [Cond.code yX5_setAt cX5_setAt 4 none, Cond.methodLink RX8 212 yX3_tellState, Cond.instanceMethod yX3_tellState, Cond.selects RX3 yX3_tellState yX3_tellState, Cond.code yX3_tellState cX3_tellState 2 (some .int), Cond.fieldLink RX3 16 "SerialPort$Modem" "state" "I"]
def wsX8_tellRegister : List Cond := .code yX8_tellRegister cX8_tellRegister 2 (some .int) :: ((wsX8_tellRegister_r1 ++ (wsX8_tellRegister_r2 ++ (wsX8_tellRegister_r3 ++ (wsX8_tellRegister_r4 ++ wsX8_tellRegister_r5)))) ++ wsX80 ++ wsX50 ++ wsX30 ++ wsX60)
def wsX8_read_r1 : List Cond := [Cond.classLink RX8 66 "java/util/NoSuchElementException", Cond.initialized "java/util/NoSuchElementException", Cond.fieldLink RX8 73 "SerialPort" "lineControl" "I", Cond.fieldLink RX8 12 "SerialPort" "divider" "LSerialPort$Divider;", Cond.methodLink RX8 84 yX0_tellByte, Cond.instanceMethod yX0_tellByte, Cond.selects RX0 yX0_tellByte yX0_tellByte, Cond.initialized RX0, Cond.code yX0_tellByte cX0_tellByte 2 (some .int), Cond.fieldLink RX0 9 "SerialPort$Divider" "divisor" "I", Cond.methodLink RX8 88 yX8_tellRegister, Cond.instanceMethod yX8_tellRegister, Cond.selects RX8 yX8_tellRegister yX8_tellRegister, Cond.initialized RX8, Cond.code yX8_tellRegister cX8_tellRegister 2 (some .int), Cond.fieldLink RX8 163 "SerialPort" "wanted" "I", Cond.fieldLink RX8 45 "SerialPort" "modem" "LSerialPort$Modem;", Cond.fieldLink RX8 166 "SerialPort" "kept" "I", Cond.methodLink RX8 200 yX8_takeCharacter, Cond.instanceMethod yX8_takeCharacter, Cond.selects RX8 yX8_takeCharacter yX8_takeCharacter, Cond.code yX8_takeCharacter cX8_takeCharacter 2 (some .int), Cond.fieldLink RX8 21 "SerialPort" "received" "LSerialPort$Ring;", Cond.fieldLink RX8 182 "SerialPort" "lateUp" "Z"]
def wsX8_read_r2 : List Cond := [Cond.fieldLink RX8 127 "SerialPort" "beats" "I", Cond.fieldLink RX8 185 "SerialPort" "quietSince" "I", Cond.methodLink RX8 224 yX5_first, Cond.instanceMethod yX5_first, Cond.selects RX5 yX5_first yX5_first, Cond.initialized RX5, Cond.code yX5_first cX5_first 1 (some .int), Cond.methodLink RX5 30 yX5_at, Cond.instanceMethod yX5_at, Cond.selects RX5 yX5_at yX5_at, Cond.code yX5_at cX5_at 3 (some .int), Cond.fieldLink RX5 23 "SerialPort$Ring" "size" "I", Cond.fieldLink RX5 13 "SerialPort$Ring" "cells" "[I", Cond.methodLink RX5 26 yX5_cellOf, Cond.instanceMethod yX5_cellOf, Cond.selects RX5 yX5_cellOf yX5_cellOf, Cond.code yX5_cellOf cX5_cellOf 3 (some .int), Cond.fieldLink RX5 19 "SerialPort$Ring" "head" "I", Cond.methodLink RX8 227 yX5_dropFirst, Cond.instanceMethod yX5_dropFirst, Cond.selects RX5 yX5_dropFirst yX5_dropFirst, Cond.code yX5_dropFirst cX5_dropFirst 1 none, Cond.methodLink RX8 203 yX8_tellReason, Cond.instanceMethod yX8_tellReason]
def wsX8_read_r3 : List Cond := [Cond.selects RX8 yX8_tellReason yX8_tellReason, Cond.code yX8_tellReason cX8_tellReason 2 (some .int), Cond.fieldLink RX8 179 "SerialPort" "emptyUp" "Z", Cond.fieldLink RX8 172 "SerialPort" "rowsOn" "Z", Cond.methodLink RX8 130 yX8_reason, Cond.instanceMethod yX8_reason, Cond.selects RX8 yX8_reason yX8_reason, Cond.code yX8_reason cX8_reason 1 (some .int), Cond.fieldLink RX8 176 "SerialPort" "overrun" "Z", Cond.fieldLink RX8 169 "SerialPort" "level" "I", Cond.methodLink RX8 245 yX8_wants, Cond.instanceMethod yX8_wants, Cond.selects RX8 yX8_wants yX8_wants, Cond.code yX8_wants cX8_wants 2 (some .boolean), Cond.methodLink RX8 239 yX8_firstFaults, Cond.instanceMethod yX8_firstFaults, Cond.selects RX8 yX8_firstFaults yX8_firstFaults, Cond.code yX8_firstFaults cX8_firstFaults 1 (some .int), Cond.methodLink RX8 124 yX5_size, Cond.instanceMethod yX5_size, Cond.selects RX5 yX5_size yX5_size, Cond.code yX5_size cX5_size 1 (some .int), Cond.methodLink RX8 248 yX3_hasChanged, Cond.instanceMethod yX3_hasChanged]
def wsX8_read_r4 : List Cond := [Cond.selects RX3 yX3_hasChanged yX3_hasChanged, Cond.initialized RX3, Cond.code yX3_hasChanged cX3_hasChanged 1 (some .boolean), Cond.fieldLink RX3 19 "SerialPort$Modem" "changes" "I", Cond.methodLink RX8 206 yX3_outputs, Cond.instanceMethod yX3_outputs, Cond.selects RX3 yX3_outputs yX3_outputs, Cond.code yX3_outputs cX3_outputs 1 (some .int), Cond.fieldLink RX3 7 "SerialPort$Modem" "outputs" "I", Cond.methodLink RX8 209 yX8_tellLineState, Cond.instanceMethod yX8_tellLineState, Cond.selects RX8 yX8_tellLineState yX8_tellLineState, Cond.code yX8_tellLineState cX8_tellLineState 2 (some .int), Cond.fieldLink RX8 25 "SerialPort" "sending" "LSerialPort$Ring;", Cond.fieldLink RX8 31 "SerialPort" "sender" "LSerialPort$Sender;", Cond.methodLink RX8 230 yX5_isEmpty, Cond.instanceMethod yX5_isEmpty, Cond.selects RX5 yX5_isEmpty yX5_isEmpty, Cond.code yX5_isEmpty cX5_isEmpty 1 (some .boolean), Cond.methodLink RX8 140 yX6_isBusy, Cond.instanceMethod yX6_isBusy, Cond.selects RX6 yX6_isBusy yX6_isBusy, Cond.initialized RX6, Cond.code yX6_isBusy cX6_isBusy 1 (some .boolean)]
def wsX8_read_r5 : List Cond := [Cond.fieldLink RX6 21 "SerialPort$Sender" "busy" "Z", Cond.methodLink RX8 242 yX8_someFault, Cond.instanceMethod yX8_someFault, Cond.selects RX8 yX8_someFault yX8_someFault, Cond.code yX8_someFault cX8_someFault 2 (some .boolean), Cond.methodLink RX8 236 yX5_at, Cond.methodLink RX8 221 yX5_setFirst, Cond.instanceMethod yX5_setFirst, Cond.selects RX5 yX5_setFirst yX5_setFirst, Cond.code yX5_setFirst cX5_setFirst 2 none, Cond.methodLink RX5 33 yX5_setAt, Cond.instanceMethod yX5_setAt, Cond.selects RX5 yX5_setAt yX5_setAt, Cond.code yX5_setAt cX5_setAt 4 none, Cond.methodLink RX8 212 yX3_tellState, Cond.instanceMethod yX3_tellState, Cond.selects RX3 yX3_tellState yX3_tellState, Cond.code yX3_tellState cX3_tellState 2 (some .int), Cond.fieldLink RX3 16 "SerialPort$Modem" "state" "I"]
def wsX8_read : List Cond := .code yX8_read cX8_read 2 (some .int) :: ((wsX8_read_r1 ++ (wsX8_read_r2 ++ (wsX8_read_r3 ++ (wsX8_read_r4 ++ wsX8_read_r5)))) ++ wsX80 ++ wsX00 ++ wsX50 ++ wsX30 ++ wsX60 ++ (vx_atS RX8 70 "java/util/NoSuchElementException" ["java/lang/RuntimeException", "java/lang/Exception"]).filter goodWord)
def wsX8_stepSender_r1 : List Cond := [Cond.fieldLink RX8 31 "SerialPort" "sender" "LSerialPort$Sender;", Cond.fieldLink RX8 25 "SerialPort" "sending" "LSerialPort$Ring;", Cond.fieldLink RX8 73 "SerialPort" "lineControl" "I", Cond.fieldLink RX8 179 "SerialPort" "emptyUp" "Z", Cond.methodLink RX8 140 yX6_isBusy, Cond.instanceMethod yX6_isBusy, Cond.selects RX6 yX6_isBusy yX6_isBusy, Cond.initialized RX6, Cond.code yX6_isBusy cX6_isBusy 1 (some .boolean), Cond.fieldLink RX6 21 "SerialPort$Sender" "busy" "Z", Cond.methodLink RX8 230 yX5_isEmpty, Cond.instanceMethod yX5_isEmpty, Cond.selects RX5 yX5_isEmpty yX5_isEmpty, Cond.initialized RX5, Cond.code yX5_isEmpty cX5_isEmpty 1 (some .boolean), Cond.fieldLink RX5 23 "SerialPort$Ring" "size" "I", Cond.methodLink RX8 224 yX5_first, Cond.instanceMethod yX5_first, Cond.selects RX5 yX5_first yX5_first, Cond.code yX5_first cX5_first 1 (some .int), Cond.methodLink RX5 30 yX5_at, Cond.instanceMethod yX5_at, Cond.selects RX5 yX5_at yX5_at, Cond.code yX5_at cX5_at 3 (some .int)]
def wsX8_stepSender_r2 : List Cond := [Cond.fieldLink RX5 13 "SerialPort$Ring" "cells" "[I", Cond.methodLink RX5 26 yX5_cellOf, Cond.instanceMethod yX5_cellOf, Cond.selects RX5 yX5_cellOf yX5_cellOf, Cond.code yX5_cellOf cX5_cellOf 3 (some .int), Cond.fieldLink RX5 19 "SerialPort$Ring" "head" "I", Cond.methodLink RX8 273 yX6_begin, Cond.instanceMethod yX6_begin, Cond.selects RX6 yX6_begin yX6_begin, Cond.code yX6_begin cX6_begin 3 none, Cond.fieldLink RX6 9 "SerialPort$Sender" "control" "I", Cond.fieldLink RX6 15 "SerialPort$Sender" "character" "I", Cond.fieldLink RX6 18 "SerialPort$Sender" "beat" "I", Cond.methodLink RX8 227 yX5_dropFirst, Cond.instanceMethod yX5_dropFirst, Cond.selects RX5 yX5_dropFirst yX5_dropFirst, Cond.code yX5_dropFirst cX5_dropFirst 1 none, Cond.methodLink RX8 276 yX6_next, Cond.instanceMethod yX6_next, Cond.selects RX6 yX6_next yX6_next, Cond.code yX6_next cX6_next 2 (some .boolean), Cond.methodLink RX6 25 yX7_pieceIsHigh, Cond.static yX7_pieceIsHigh, Cond.initialized RX7]
def wsX8_stepSender_r3 : List Cond := [Cond.code yX7_pieceIsHigh cX7_pieceIsHigh 4 (some .boolean), Cond.methodLink RX7 11 yX7_dataBits, Cond.static yX7_dataBits, Cond.code yX7_dataBits cX7_dataBits 1 (some .int), Cond.methodLink RX7 15 yX7_hasParity, Cond.static yX7_hasParity, Cond.code yX7_hasParity cX7_hasParity 1 (some .boolean), Cond.methodLink RX7 30 yX7_parityIsHigh, Cond.static yX7_parityIsHigh, Cond.code yX7_parityIsHigh cX7_parityIsHigh 5 (some .boolean), Cond.methodLink RX7 25 yJ6_bitCount_0f7a4, Cond.static yJ6_bitCount_0f7a4, Cond.initialized RJ6, Cond.code yJ6_bitCount_0f7a4 cJ6_bitCount_0f7a4 1 (some .int), Cond.constant RJ6 265 (1431655765), Cond.constant RJ6 266 (858993459), Cond.constant RJ6 267 (252645135), Cond.methodLink RX6 31 yX7_beats, Cond.static yX7_beats, Cond.code yX7_beats cX7_beats 1 (some .int), Cond.methodLink RX7 19 yX7_pieces, Cond.static yX7_pieces, Cond.code yX7_pieces cX7_pieces 1 (some .int), Cond.methodLink RX7 22 yX7_stopBeats]
def wsX8_stepSender_r4 : List Cond := [Cond.static yX7_stopBeats, Cond.code yX7_stopBeats cX7_stopBeats 1 (some .int)]
def wsX8_stepSender : List Cond := .code yX8_stepSender cX8_stepSender 1 (some .boolean) :: ((wsX8_stepSender_r1 ++ (wsX8_stepSender_r2 ++ (wsX8_stepSender_r3 ++ wsX8_stepSender_r4))) ++ wsX80 ++ wsX60 ++ wsX50)
def wsX8_addReceived_r1 : List Cond := [Cond.fieldLink RX8 21 "SerialPort" "received" "LSerialPort$Ring;", Cond.fieldLink RX8 176 "SerialPort" "overrun" "Z", Cond.fieldLink RX8 172 "SerialPort" "rowsOn" "Z", Cond.fieldLink RX8 127 "SerialPort" "beats" "I", Cond.fieldLink RX8 185 "SerialPort" "quietSince" "I", Cond.methodLink RX8 124 yX5_size, Cond.instanceMethod yX5_size, Cond.selects RX5 yX5_size yX5_size, Cond.initialized RX5, Cond.code yX5_size cX5_size 1 (some .int), Cond.fieldLink RX5 23 "SerialPort$Ring" "size" "I", Cond.methodLink RX8 215 yX8_rowRoom, Cond.instanceMethod yX8_rowRoom, Cond.selects RX8 yX8_rowRoom yX8_rowRoom, Cond.initialized RX8, Cond.code yX8_rowRoom cX8_rowRoom 1 (some .int), Cond.methodLink RX8 218 yX5_add, Cond.instanceMethod yX5_add, Cond.selects RX5 yX5_add yX5_add, Cond.code yX5_add cX5_add 2 none, Cond.fieldLink RX5 13 "SerialPort$Ring" "cells" "[I", Cond.methodLink RX5 33 yX5_setAt, Cond.instanceMethod yX5_setAt, Cond.selects RX5 yX5_setAt yX5_setAt]
def wsX8_addReceived_r2 : List Cond := [Cond.code yX5_setAt cX5_setAt 4 none, Cond.methodLink RX5 26 yX5_cellOf, Cond.instanceMethod yX5_cellOf, Cond.selects RX5 yX5_cellOf yX5_cellOf, Cond.code yX5_cellOf cX5_cellOf 3 (some .int), Cond.fieldLink RX5 19 "SerialPort$Ring" "head" "I", Cond.methodLink RX8 221 yX5_setFirst, Cond.instanceMethod yX5_setFirst, Cond.selects RX5 yX5_setFirst yX5_setFirst, Cond.code yX5_setFirst cX5_setFirst 2 none]
def wsX8_addReceived : List Cond := .code yX8_addReceived cX8_addReceived 2 none :: ((wsX8_addReceived_r1 ++ wsX8_addReceived_r2) ++ wsX80 ++ wsX50)
def wsX8_stepLate_r1 : List Cond := [Cond.fieldLink RX8 172 "SerialPort" "rowsOn" "Z", Cond.fieldLink RX8 21 "SerialPort" "received" "LSerialPort$Ring;", Cond.fieldLink RX8 127 "SerialPort" "beats" "I", Cond.fieldLink RX8 185 "SerialPort" "quietSince" "I", Cond.fieldLink RX8 73 "SerialPort" "lineControl" "I", Cond.fieldLink RX8 182 "SerialPort" "lateUp" "Z", Cond.methodLink RX8 230 yX5_isEmpty, Cond.instanceMethod yX5_isEmpty, Cond.selects RX5 yX5_isEmpty yX5_isEmpty, Cond.initialized RX5, Cond.code yX5_isEmpty cX5_isEmpty 1 (some .boolean), Cond.fieldLink RX5 23 "SerialPort$Ring" "size" "I", Cond.methodLink RX8 277 yX7_beats, Cond.static yX7_beats, Cond.initialized RX7, Cond.code yX7_beats cX7_beats 1 (some .int), Cond.methodLink RX7 19 yX7_pieces, Cond.static yX7_pieces, Cond.code yX7_pieces cX7_pieces 1 (some .int), Cond.methodLink RX7 11 yX7_dataBits, Cond.static yX7_dataBits, Cond.code yX7_dataBits cX7_dataBits 1 (some .int), Cond.methodLink RX7 15 yX7_hasParity, Cond.static yX7_hasParity]
def wsX8_stepLate_r2 : List Cond := [Cond.code yX7_hasParity cX7_hasParity 1 (some .boolean), Cond.methodLink RX7 22 yX7_stopBeats, Cond.static yX7_stopBeats, Cond.code yX7_stopBeats cX7_stopBeats 1 (some .int)]
def wsX8_stepLate : List Cond := .code yX8_stepLate cX8_stepLate 1 none :: ((wsX8_stepLate_r1 ++ wsX8_stepLate_r2) ++ wsX80 ++ wsX50)
def wsX8_beat_r1 : List Cond := [Cond.fieldLink RX8 127 "SerialPort" "beats" "I", Cond.fieldLink RX8 45 "SerialPort" "modem" "LSerialPort$Modem;", Cond.fieldLink RX8 59 "SerialPort" "lineOut" "LSerialPort$LineOut;", Cond.fieldLink RX8 73 "SerialPort" "lineControl" "I", Cond.fieldLink RX8 52 "SerialPort" "lineIn" "LSerialPort$LineIn;", Cond.fieldLink RX8 38 "SerialPort" "receiver" "LSerialPort$Receiver;", Cond.methodLink RX8 251 yX8_stepSender, Cond.instanceMethod yX8_stepSender, Cond.selects RX8 yX8_stepSender yX8_stepSender, Cond.initialized RX8, Cond.code yX8_stepSender cX8_stepSender 1 (some .boolean), Cond.fieldLink RX8 31 "SerialPort" "sender" "LSerialPort$Sender;", Cond.fieldLink RX8 25 "SerialPort" "sending" "LSerialPort$Ring;", Cond.fieldLink RX8 179 "SerialPort" "emptyUp" "Z", Cond.methodLink RX8 140 yX6_isBusy, Cond.instanceMethod yX6_isBusy, Cond.selects RX6 yX6_isBusy yX6_isBusy, Cond.initialized RX6, Cond.code yX6_isBusy cX6_isBusy 1 (some .boolean), Cond.fieldLink RX6 21 "SerialPort$Sender" "busy" "Z", Cond.methodLink RX8 230 yX5_isEmpty, Cond.instanceMethod yX5_isEmpty, Cond.selects RX5 yX5_isEmpty yX5_isEmpty, Cond.initialized RX5]
def wsX8_beat_r2 : List Cond := [Cond.code yX5_isEmpty cX5_isEmpty 1 (some .boolean), Cond.fieldLink RX5 23 "SerialPort$Ring" "size" "I", Cond.methodLink RX8 224 yX5_first, Cond.instanceMethod yX5_first, Cond.selects RX5 yX5_first yX5_first, Cond.code yX5_first cX5_first 1 (some .int), Cond.methodLink RX5 30 yX5_at, Cond.instanceMethod yX5_at, Cond.selects RX5 yX5_at yX5_at, Cond.code yX5_at cX5_at 3 (some .int), Cond.fieldLink RX5 13 "SerialPort$Ring" "cells" "[I", Cond.methodLink RX5 26 yX5_cellOf, Cond.instanceMethod yX5_cellOf, Cond.selects RX5 yX5_cellOf yX5_cellOf, Cond.code yX5_cellOf cX5_cellOf 3 (some .int), Cond.fieldLink RX5 19 "SerialPort$Ring" "head" "I", Cond.methodLink RX8 273 yX6_begin, Cond.instanceMethod yX6_begin, Cond.selects RX6 yX6_begin yX6_begin, Cond.code yX6_begin cX6_begin 3 none, Cond.fieldLink RX6 9 "SerialPort$Sender" "control" "I", Cond.fieldLink RX6 15 "SerialPort$Sender" "character" "I", Cond.fieldLink RX6 18 "SerialPort$Sender" "beat" "I", Cond.methodLink RX8 227 yX5_dropFirst]
def wsX8_beat_r3 : List Cond := [Cond.instanceMethod yX5_dropFirst, Cond.selects RX5 yX5_dropFirst yX5_dropFirst, Cond.code yX5_dropFirst cX5_dropFirst 1 none, Cond.methodLink RX8 276 yX6_next, Cond.instanceMethod yX6_next, Cond.selects RX6 yX6_next yX6_next, Cond.code yX6_next cX6_next 2 (some .boolean), Cond.methodLink RX6 25 yX7_pieceIsHigh, Cond.static yX7_pieceIsHigh, Cond.initialized RX7, Cond.code yX7_pieceIsHigh cX7_pieceIsHigh 4 (some .boolean), Cond.methodLink RX7 11 yX7_dataBits, Cond.static yX7_dataBits, Cond.code yX7_dataBits cX7_dataBits 1 (some .int), Cond.methodLink RX7 15 yX7_hasParity, Cond.static yX7_hasParity, Cond.code yX7_hasParity cX7_hasParity 1 (some .boolean), Cond.methodLink RX7 30 yX7_parityIsHigh, Cond.static yX7_parityIsHigh, Cond.code yX7_parityIsHigh cX7_parityIsHigh 5 (some .boolean), Cond.methodLink RX7 25 yJ6_bitCount_0f7a4, Cond.static yJ6_bitCount_0f7a4, Cond.initialized RJ6, Cond.code yJ6_bitCount_0f7a4 cJ6_bitCount_0f7a4 1 (some .int)]
def wsX8_beat_r4 : List Cond := [Cond.constant RJ6 265 (1431655765), Cond.constant RJ6 266 (858993459), Cond.constant RJ6 267 (252645135), Cond.methodLink RX6 31 yX7_beats, Cond.static yX7_beats, Cond.code yX7_beats cX7_beats 1 (some .int), Cond.methodLink RX7 19 yX7_pieces, Cond.static yX7_pieces, Cond.code yX7_pieces cX7_pieces 1 (some .int), Cond.methodLink RX7 22 yX7_stopBeats, Cond.static yX7_stopBeats, Cond.code yX7_stopBeats cX7_stopBeats 1 (some .int), Cond.methodLink RX8 254 yX3_loops, Cond.instanceMethod yX3_loops, Cond.selects RX3 yX3_loops yX3_loops, Cond.initialized RX3, Cond.code yX3_loops cX3_loops 1 (some .boolean), Cond.fieldLink RX3 7 "SerialPort$Modem" "outputs" "I", Cond.methodLink RX8 257 yX2_append, Cond.instanceMethod yX2_append, Cond.selects RX2 yX2_append yX2_append, Cond.initialized RX2, Cond.code yX2_append cX2_append 2 none, Cond.fieldLink RX2 14 "SerialPort$LineOut" "runs" "LSerialPort$Ring;"]
def wsX8_beat_r5 : List Cond := [Cond.fieldLink RX2 23 "SerialPort$LineOut" "inAll" "I", Cond.methodLink RX2 27 yX5_isEmpty, Cond.methodLink RX2 31 yX2_runIsHigh, Cond.instanceMethod yX2_runIsHigh, Cond.selects RX2 yX2_runIsHigh yX2_runIsHigh, Cond.code yX2_runIsHigh cX2_runIsHigh 2 (some .boolean), Cond.methodLink RX2 39 yX2_fromEnd, Cond.instanceMethod yX2_fromEnd, Cond.selects RX2 yX2_fromEnd yX2_fromEnd, Cond.code yX2_fromEnd cX2_fromEnd 2 (some .int), Cond.methodLink RX2 35 yX5_size, Cond.instanceMethod yX5_size, Cond.selects RX5 yX5_size yX5_size, Cond.code yX5_size cX5_size 1 (some .int), Cond.methodLink RX2 56 yX5_at, Cond.methodLink RX2 43 yX5_setAt, Cond.instanceMethod yX5_setAt, Cond.selects RX5 yX5_setAt yX5_setAt, Cond.code yX5_setAt cX5_setAt 4 none, Cond.methodLink RX2 47 yX5_room, Cond.instanceMethod yX5_room, Cond.selects RX5 yX5_room yX5_room, Cond.code yX5_room cX5_room 1 (some .int), Cond.methodLink RX2 50 yX5_dropFirst]
def wsX8_beat_r6 : List Cond := [Cond.methodLink RX2 53 yX5_add, Cond.instanceMethod yX5_add, Cond.selects RX5 yX5_add yX5_add, Cond.code yX5_add cX5_add 2 none, Cond.methodLink RX5 33 yX5_setAt, Cond.methodLink RX8 260 yX1_next, Cond.instanceMethod yX1_next, Cond.selects RX1 yX1_next yX1_next, Cond.initialized RX1, Cond.code yX1_next cX1_next 2 (some .boolean), Cond.fieldLink RX1 14 "SerialPort$LineIn" "wave" "LSerialPort$Ring;", Cond.fieldLink RX1 23 "SerialPort$LineIn" "high" "Z", Cond.methodLink RX1 37 yX5_isEmpty, Cond.methodLink RX1 41 yX5_first, Cond.methodLink RX1 44 yX5_setFirst, Cond.instanceMethod yX5_setFirst, Cond.selects RX5 yX5_setFirst yX5_setFirst, Cond.code yX5_setFirst cX5_setFirst 2 none, Cond.methodLink RX1 47 yX5_dropFirst, Cond.methodLink RX8 263 yX4_step, Cond.instanceMethod yX4_step, Cond.selects RX4 yX4_step yX4_step, Cond.initialized RX4, Cond.code yX4_step cX4_step 3 (some .int)]
def wsX8_beat_r7 : List Cond := [Cond.fieldLink RX4 15 "SerialPort$Receiver" "busy" "Z", Cond.fieldLink RX4 26 "SerialPort$Receiver" "beat" "I", Cond.methodLink RX4 22 yX4_listen, Cond.instanceMethod yX4_listen, Cond.selects RX4 yX4_listen yX4_listen, Cond.code yX4_listen cX4_listen 3 none, Cond.fieldLink RX4 19 "SerialPort$Receiver" "wasHigh" "Z", Cond.methodLink RX4 9 yX4_begin, Cond.instanceMethod yX4_begin, Cond.selects RX4 yX4_begin yX4_begin, Cond.code yX4_begin cX4_begin 2 none, Cond.fieldLink RX4 37 "SerialPort$Receiver" "control" "I", Cond.fieldLink RX4 40 "SerialPort$Receiver" "character" "I", Cond.fieldLink RX4 43 "SerialPort$Receiver" "parityHigh" "Z", Cond.fieldLink RX4 46 "SerialPort$Receiver" "someHigh" "Z", Cond.methodLink RX4 30 yX4_seeStart, Cond.instanceMethod yX4_seeStart, Cond.selects RX4 yX4_seeStart yX4_seeStart, Cond.code yX4_seeStart cX4_seeStart 2 (some .int), Cond.methodLink RX4 49 yX4_becomeIdle, Cond.instanceMethod yX4_becomeIdle, Cond.selects RX4 yX4_becomeIdle yX4_becomeIdle, Cond.code yX4_becomeIdle cX4_becomeIdle 2 none, Cond.methodLink RX4 34 yX4_see]
def wsX8_beat_r8 : List Cond := [Cond.instanceMethod yX4_see, Cond.selects RX4 yX4_see yX4_see, Cond.code yX4_see cX4_see 4 (some .int), Cond.methodLink RX4 53 yX7_dataBits, Cond.methodLink RX4 59 yX7_hasParity, Cond.methodLink RX4 63 yX4_faults, Cond.instanceMethod yX4_faults, Cond.selects RX4 yX4_faults yX4_faults, Cond.code yX4_faults cX4_faults 3 (some .int), Cond.methodLink RX4 66 yX7_parityIsHigh, Cond.methodLink RX8 267 yX8_addReceived, Cond.instanceMethod yX8_addReceived, Cond.selects RX8 yX8_addReceived yX8_addReceived, Cond.code yX8_addReceived cX8_addReceived 2 none, Cond.fieldLink RX8 21 "SerialPort" "received" "LSerialPort$Ring;", Cond.fieldLink RX8 176 "SerialPort" "overrun" "Z", Cond.fieldLink RX8 172 "SerialPort" "rowsOn" "Z", Cond.fieldLink RX8 185 "SerialPort" "quietSince" "I", Cond.methodLink RX8 124 yX5_size, Cond.methodLink RX8 215 yX8_rowRoom, Cond.instanceMethod yX8_rowRoom, Cond.selects RX8 yX8_rowRoom yX8_rowRoom, Cond.code yX8_rowRoom cX8_rowRoom 1 (some .int), Cond.methodLink RX8 218 yX5_add]
def wsX8_beat_r9 : List Cond := [Cond.methodLink RX8 221 yX5_setFirst, Cond.methodLink RX8 270 yX8_stepLate, Cond.instanceMethod yX8_stepLate, Cond.selects RX8 yX8_stepLate yX8_stepLate, Cond.code yX8_stepLate cX8_stepLate 1 none, Cond.fieldLink RX8 182 "SerialPort" "lateUp" "Z", Cond.methodLink RX8 277 yX7_beats]
def wsX8_beat : List Cond := .code yX8_beat cX8_beat 5 none :: ((wsX8_beat_r1 ++ (wsX8_beat_r2 ++ (wsX8_beat_r3 ++ (wsX8_beat_r4 ++ (wsX8_beat_r5 ++ (wsX8_beat_r6 ++ (wsX8_beat_r7 ++ (wsX8_beat_r8 ++ wsX8_beat_r9)))))))) ++ wsX80 ++ wsX60 ++ wsX50 ++ wsX30 ++ wsX20 ++ wsX10 ++ wsX40)
def wsX8_clock_r1 : List Cond := [Cond.constant RX8 91 (60000), Cond.fieldLink RX8 12 "SerialPort" "divider" "LSerialPort$Divider;", Cond.methodLink RX8 92 yX0_pass, Cond.instanceMethod yX0_pass, Cond.selects RX0 yX0_pass yX0_pass, Cond.initialized RX0, Cond.code yX0_pass cX0_pass 3 (some .int), Cond.fieldLink RX0 9 "SerialPort$Divider" "divisor" "I", Cond.fieldLink RX0 15 "SerialPort$Divider" "passed" "I", Cond.methodLink RX8 95 yX8_beat, Cond.instanceMethod yX8_beat, Cond.selects RX8 yX8_beat yX8_beat, Cond.initialized RX8, Cond.code yX8_beat cX8_beat 5 none, Cond.fieldLink RX8 127 "SerialPort" "beats" "I", Cond.fieldLink RX8 45 "SerialPort" "modem" "LSerialPort$Modem;", Cond.fieldLink RX8 59 "SerialPort" "lineOut" "LSerialPort$LineOut;", Cond.fieldLink RX8 73 "SerialPort" "lineControl" "I", Cond.fieldLink RX8 52 "SerialPort" "lineIn" "LSerialPort$LineIn;", Cond.fieldLink RX8 38 "SerialPort" "receiver" "LSerialPort$Receiver;", Cond.methodLink RX8 251 yX8_stepSender, Cond.instanceMethod yX8_stepSender, Cond.selects RX8 yX8_stepSender yX8_stepSender, Cond.code yX8_stepSender cX8_stepSender 1 (some .boolean)]
def wsX8_clock_r2 : List Cond := [Cond.fieldLink RX8 31 "SerialPort" "sender" "LSerialPort$Sender;", Cond.fieldLink RX8 25 "SerialPort" "sending" "LSerialPort$Ring;", Cond.fieldLink RX8 179 "SerialPort" "emptyUp" "Z", Cond.methodLink RX8 140 yX6_isBusy, Cond.instanceMethod yX6_isBusy, Cond.selects RX6 yX6_isBusy yX6_isBusy, Cond.initialized RX6, Cond.code yX6_isBusy cX6_isBusy 1 (some .boolean), Cond.fieldLink RX6 21 "SerialPort$Sender" "busy" "Z", Cond.methodLink RX8 230 yX5_isEmpty, Cond.instanceMethod yX5_isEmpty, Cond.selects RX5 yX5_isEmpty yX5_isEmpty, Cond.initialized RX5, Cond.code yX5_isEmpty cX5_isEmpty 1 (some .boolean), Cond.fieldLink RX5 23 "SerialPort$Ring" "size" "I", Cond.methodLink RX8 224 yX5_first, Cond.instanceMethod yX5_first, Cond.selects RX5 yX5_first yX5_first, Cond.code yX5_first cX5_first 1 (some .int), Cond.methodLink RX5 30 yX5_at, Cond.instanceMethod yX5_at, Cond.selects RX5 yX5_at yX5_at, Cond.code yX5_at cX5_at 3 (some .int), Cond.fieldLink RX5 13 "SerialPort$Ring" "cells" "[I"]
def wsX8_clock_r3 : List Cond := [Cond.methodLink RX5 26 yX5_cellOf, Cond.instanceMethod yX5_cellOf, Cond.selects RX5 yX5_cellOf yX5_cellOf, Cond.code yX5_cellOf cX5_cellOf 3 (some .int), Cond.fieldLink RX5 19 "SerialPort$Ring" "head" "I", Cond.methodLink RX8 273 yX6_begin, Cond.instanceMethod yX6_begin, Cond.selects RX6 yX6_begin yX6_begin, Cond.code yX6_begin cX6_begin 3 none, Cond.fieldLink RX6 9 "SerialPort$Sender" "control" "I", Cond.fieldLink RX6 15 "SerialPort$Sender" "character" "I", Cond.fieldLink RX6 18 "SerialPort$Sender" "beat" "I", Cond.methodLink RX8 227 yX5_dropFirst, Cond.instanceMethod yX5_dropFirst, Cond.selects RX5 yX5_dropFirst yX5_dropFirst, Cond.code yX5_dropFirst cX5_dropFirst 1 none, Cond.methodLink RX8 276 yX6_next, Cond.instanceMethod yX6_next, Cond.selects RX6 yX6_next yX6_next, Cond.code yX6_next cX6_next 2 (some .boolean), Cond.methodLink RX6 25 yX7_pieceIsHigh, Cond.static yX7_pieceIsHigh, Cond.initialized RX7, Cond.code yX7_pieceIsHigh cX7_pieceIsHigh 4 (some .boolean)]
def wsX8_clock_r4 : List Cond := [Cond.methodLink RX7 11 yX7_dataBits, Cond.static yX7_dataBits, Cond.code yX7_dataBits cX7_dataBits 1 (some .int), Cond.methodLink RX7 15 yX7_hasParity, Cond.static yX7_hasParity, Cond.code yX7_hasParity cX7_hasParity 1 (some .boolean), Cond.methodLink RX7 30 yX7_parityIsHigh, Cond.static yX7_parityIsHigh, Cond.code yX7_parityIsHigh cX7_parityIsHigh 5 (some .boolean), Cond.methodLink RX7 25 yJ6_bitCount_0f7a4, Cond.static yJ6_bitCount_0f7a4, Cond.initialized RJ6, Cond.code yJ6_bitCount_0f7a4 cJ6_bitCount_0f7a4 1 (some .int), Cond.constant RJ6 265 (1431655765), Cond.constant RJ6 266 (858993459), Cond.constant RJ6 267 (252645135), Cond.methodLink RX6 31 yX7_beats, Cond.static yX7_beats, Cond.code yX7_beats cX7_beats 1 (some .int), Cond.methodLink RX7 19 yX7_pieces, Cond.static yX7_pieces, Cond.code yX7_pieces cX7_pieces 1 (some .int), Cond.methodLink RX7 22 yX7_stopBeats, Cond.static yX7_stopBeats]
def wsX8_clock_r5 : List Cond := [Cond.code yX7_stopBeats cX7_stopBeats 1 (some .int), Cond.methodLink RX8 254 yX3_loops, Cond.instanceMethod yX3_loops, Cond.selects RX3 yX3_loops yX3_loops, Cond.initialized RX3, Cond.code yX3_loops cX3_loops 1 (some .boolean), Cond.fieldLink RX3 7 "SerialPort$Modem" "outputs" "I", Cond.methodLink RX8 257 yX2_append, Cond.instanceMethod yX2_append, Cond.selects RX2 yX2_append yX2_append, Cond.initialized RX2, Cond.code yX2_append cX2_append 2 none, Cond.fieldLink RX2 14 "SerialPort$LineOut" "runs" "LSerialPort$Ring;", Cond.fieldLink RX2 23 "SerialPort$LineOut" "inAll" "I", Cond.methodLink RX2 27 yX5_isEmpty, Cond.methodLink RX2 31 yX2_runIsHigh, Cond.instanceMethod yX2_runIsHigh, Cond.selects RX2 yX2_runIsHigh yX2_runIsHigh, Cond.code yX2_runIsHigh cX2_runIsHigh 2 (some .boolean), Cond.methodLink RX2 39 yX2_fromEnd, Cond.instanceMethod yX2_fromEnd, Cond.selects RX2 yX2_fromEnd yX2_fromEnd, Cond.code yX2_fromEnd cX2_fromEnd 2 (some .int), Cond.methodLink RX2 35 yX5_size]
def wsX8_clock_r6 : List Cond := [Cond.instanceMethod yX5_size, Cond.selects RX5 yX5_size yX5_size, Cond.code yX5_size cX5_size 1 (some .int), Cond.methodLink RX2 56 yX5_at, Cond.methodLink RX2 43 yX5_setAt, Cond.instanceMethod yX5_setAt, Cond.selects RX5 yX5_setAt yX5_setAt, Cond.code yX5_setAt cX5_setAt 4 none, Cond.methodLink RX2 47 yX5_room, Cond.instanceMethod yX5_room, Cond.selects RX5 yX5_room yX5_room, Cond.code yX5_room cX5_room 1 (some .int), Cond.methodLink RX2 50 yX5_dropFirst, Cond.methodLink RX2 53 yX5_add, Cond.instanceMethod yX5_add, Cond.selects RX5 yX5_add yX5_add, Cond.code yX5_add cX5_add 2 none, Cond.methodLink RX5 33 yX5_setAt, Cond.methodLink RX8 260 yX1_next, Cond.instanceMethod yX1_next, Cond.selects RX1 yX1_next yX1_next, Cond.initialized RX1, Cond.code yX1_next cX1_next 2 (some .boolean), Cond.fieldLink RX1 14 "SerialPort$LineIn" "wave" "LSerialPort$Ring;"]
def wsX8_clock_r7 : List Cond := [Cond.fieldLink RX1 23 "SerialPort$LineIn" "high" "Z", Cond.methodLink RX1 37 yX5_isEmpty, Cond.methodLink RX1 41 yX5_first, Cond.methodLink RX1 44 yX5_setFirst, Cond.instanceMethod yX5_setFirst, Cond.selects RX5 yX5_setFirst yX5_setFirst, Cond.code yX5_setFirst cX5_setFirst 2 none, Cond.methodLink RX1 47 yX5_dropFirst, Cond.methodLink RX8 263 yX4_step, Cond.instanceMethod yX4_step, Cond.selects RX4 yX4_step yX4_step, Cond.initialized RX4, Cond.code yX4_step cX4_step 3 (some .int), Cond.fieldLink RX4 15 "SerialPort$Receiver" "busy" "Z", Cond.fieldLink RX4 26 "SerialPort$Receiver" "beat" "I", Cond.methodLink RX4 22 yX4_listen, Cond.instanceMethod yX4_listen, Cond.selects RX4 yX4_listen yX4_listen, Cond.code yX4_listen cX4_listen 3 none, Cond.fieldLink RX4 19 "SerialPort$Receiver" "wasHigh" "Z", Cond.methodLink RX4 9 yX4_begin, Cond.instanceMethod yX4_begin, Cond.selects RX4 yX4_begin yX4_begin, Cond.code yX4_begin cX4_begin 2 none]
def wsX8_clock_r8 : List Cond := [Cond.fieldLink RX4 37 "SerialPort$Receiver" "control" "I", Cond.fieldLink RX4 40 "SerialPort$Receiver" "character" "I", Cond.fieldLink RX4 43 "SerialPort$Receiver" "parityHigh" "Z", Cond.fieldLink RX4 46 "SerialPort$Receiver" "someHigh" "Z", Cond.methodLink RX4 30 yX4_seeStart, Cond.instanceMethod yX4_seeStart, Cond.selects RX4 yX4_seeStart yX4_seeStart, Cond.code yX4_seeStart cX4_seeStart 2 (some .int), Cond.methodLink RX4 49 yX4_becomeIdle, Cond.instanceMethod yX4_becomeIdle, Cond.selects RX4 yX4_becomeIdle yX4_becomeIdle, Cond.code yX4_becomeIdle cX4_becomeIdle 2 none, Cond.methodLink RX4 34 yX4_see, Cond.instanceMethod yX4_see, Cond.selects RX4 yX4_see yX4_see, Cond.code yX4_see cX4_see 4 (some .int), Cond.methodLink RX4 53 yX7_dataBits, Cond.methodLink RX4 59 yX7_hasParity, Cond.methodLink RX4 63 yX4_faults, Cond.instanceMethod yX4_faults, Cond.selects RX4 yX4_faults yX4_faults, Cond.code yX4_faults cX4_faults 3 (some .int), Cond.methodLink RX4 66 yX7_parityIsHigh, Cond.methodLink RX8 267 yX8_addReceived]
def wsX8_clock_r9 : List Cond := [Cond.instanceMethod yX8_addReceived, Cond.selects RX8 yX8_addReceived yX8_addReceived, Cond.code yX8_addReceived cX8_addReceived 2 none, Cond.fieldLink RX8 21 "SerialPort" "received" "LSerialPort$Ring;", Cond.fieldLink RX8 176 "SerialPort" "overrun" "Z", Cond.fieldLink RX8 172 "SerialPort" "rowsOn" "Z", Cond.fieldLink RX8 185 "SerialPort" "quietSince" "I", Cond.methodLink RX8 124 yX5_size, Cond.methodLink RX8 215 yX8_rowRoom, Cond.instanceMethod yX8_rowRoom, Cond.selects RX8 yX8_rowRoom yX8_rowRoom, Cond.code yX8_rowRoom cX8_rowRoom 1 (some .int), Cond.methodLink RX8 218 yX5_add, Cond.methodLink RX8 221 yX5_setFirst, Cond.methodLink RX8 270 yX8_stepLate, Cond.instanceMethod yX8_stepLate, Cond.selects RX8 yX8_stepLate yX8_stepLate, Cond.code yX8_stepLate cX8_stepLate 1 none, Cond.fieldLink RX8 182 "SerialPort" "lateUp" "Z", Cond.methodLink RX8 277 yX7_beats]
def wsX8_clock : List Cond := .code yX8_clock cX8_clock 4 (some .int) :: ((wsX8_clock_r1 ++ (wsX8_clock_r2 ++ (wsX8_clock_r3 ++ (wsX8_clock_r4 ++ (wsX8_clock_r5 ++ (wsX8_clock_r6 ++ (wsX8_clock_r7 ++ (wsX8_clock_r8 ++ wsX8_clock_r9)))))))) ++ wsX80 ++ wsX00 ++ wsX60 ++ wsX50 ++ wsX30 ++ wsX20 ++ wsX10 ++ wsX40)
def wsX8_wave_r1 : List Cond := [Cond.fieldLink RX8 52 "SerialPort" "lineIn" "LSerialPort$LineIn;", Cond.methodLink RX8 98 yX1_room, Cond.instanceMethod yX1_room, Cond.selects RX1 yX1_room yX1_room, Cond.initialized RX1, Cond.code yX1_room cX1_room 1 (some .int), Cond.fieldLink RX1 14 "SerialPort$LineIn" "wave" "LSerialPort$Ring;", Cond.methodLink RX1 31 yX5_room, Cond.instanceMethod yX5_room, Cond.selects RX5 yX5_room yX5_room, Cond.initialized RX5, Cond.code yX5_room cX5_room 1 (some .int), Cond.fieldLink RX5 13 "SerialPort$Ring" "cells" "[I", Cond.fieldLink RX5 23 "SerialPort$Ring" "size" "I", Cond.methodLink RX8 102 yX1_append, Cond.instanceMethod yX1_append, Cond.selects RX1 yX1_append yX1_append, Cond.code yX1_append cX1_append 3 none, Cond.methodLink RX1 34 yX5_add, Cond.instanceMethod yX5_add, Cond.selects RX5 yX5_add yX5_add, Cond.code yX5_add cX5_add 2 none, Cond.methodLink RX5 33 yX5_setAt, Cond.instanceMethod yX5_setAt]
def wsX8_wave_r2 : List Cond := [Cond.selects RX5 yX5_setAt yX5_setAt, Cond.code yX5_setAt cX5_setAt 4 none, Cond.methodLink RX5 26 yX5_cellOf, Cond.instanceMethod yX5_cellOf, Cond.selects RX5 yX5_cellOf yX5_cellOf, Cond.code yX5_cellOf cX5_cellOf 3 (some .int), Cond.fieldLink RX5 19 "SerialPort$Ring" "head" "I", Cond.methodLink RX8 106 yX1_pieces, Cond.instanceMethod yX1_pieces, Cond.selects RX1 yX1_pieces yX1_pieces, Cond.code yX1_pieces cX1_pieces 1 (some .int), Cond.methodLink RX1 27 yX5_size, Cond.instanceMethod yX5_size, Cond.selects RX5 yX5_size yX5_size, Cond.code yX5_size cX5_size 1 (some .int)]
def wsX8_wave : List Cond := .code yX8_wave cX8_wave 3 (some .int) :: ((wsX8_wave_r1 ++ wsX8_wave_r2) ++ wsX80 ++ wsX10 ++ wsX50)
def wsX8_frame_r1 : List Cond := [Cond.fieldLink RX8 73 "SerialPort" "lineControl" "I", Cond.fieldLink RX8 52 "SerialPort" "lineIn" "LSerialPort$LineIn;", Cond.methodLink RX8 109 yX7_pieces, Cond.static yX7_pieces, Cond.initialized RX7, Cond.code yX7_pieces cX7_pieces 1 (some .int), Cond.methodLink RX7 11 yX7_dataBits, Cond.static yX7_dataBits, Cond.code yX7_dataBits cX7_dataBits 1 (some .int), Cond.methodLink RX7 15 yX7_hasParity, Cond.static yX7_hasParity, Cond.code yX7_hasParity cX7_hasParity 1 (some .boolean), Cond.methodLink RX8 98 yX1_room, Cond.instanceMethod yX1_room, Cond.selects RX1 yX1_room yX1_room, Cond.initialized RX1, Cond.code yX1_room cX1_room 1 (some .int), Cond.fieldLink RX1 14 "SerialPort$LineIn" "wave" "LSerialPort$Ring;", Cond.methodLink RX1 31 yX5_room, Cond.instanceMethod yX5_room, Cond.selects RX5 yX5_room yX5_room, Cond.initialized RX5, Cond.code yX5_room cX5_room 1 (some .int), Cond.fieldLink RX5 13 "SerialPort$Ring" "cells" "[I"]
def wsX8_frame_r2 : List Cond := [Cond.fieldLink RX5 23 "SerialPort$Ring" "size" "I", Cond.methodLink RX8 113 yX7_pieceIsHigh, Cond.static yX7_pieceIsHigh, Cond.code yX7_pieceIsHigh cX7_pieceIsHigh 4 (some .boolean), Cond.methodLink RX7 30 yX7_parityIsHigh, Cond.static yX7_parityIsHigh, Cond.code yX7_parityIsHigh cX7_parityIsHigh 5 (some .boolean), Cond.methodLink RX7 25 yJ6_bitCount_0f7a4, Cond.static yJ6_bitCount_0f7a4, Cond.initialized RJ6, Cond.code yJ6_bitCount_0f7a4 cJ6_bitCount_0f7a4 1 (some .int), Cond.constant RJ6 265 (1431655765), Cond.constant RJ6 266 (858993459), Cond.constant RJ6 267 (252645135), Cond.methodLink RX8 117 yX7_pieceBeats, Cond.static yX7_pieceBeats, Cond.code yX7_pieceBeats cX7_pieceBeats 2 (some .int), Cond.methodLink RX7 19 yX7_pieces, Cond.methodLink RX7 22 yX7_stopBeats, Cond.static yX7_stopBeats, Cond.code yX7_stopBeats cX7_stopBeats 1 (some .int), Cond.methodLink RX8 102 yX1_append, Cond.instanceMethod yX1_append, Cond.selects RX1 yX1_append yX1_append]
def wsX8_frame_r3 : List Cond := [Cond.code yX1_append cX1_append 3 none, Cond.methodLink RX1 34 yX5_add, Cond.instanceMethod yX5_add, Cond.selects RX5 yX5_add yX5_add, Cond.code yX5_add cX5_add 2 none, Cond.methodLink RX5 33 yX5_setAt, Cond.instanceMethod yX5_setAt, Cond.selects RX5 yX5_setAt yX5_setAt, Cond.code yX5_setAt cX5_setAt 4 none, Cond.methodLink RX5 26 yX5_cellOf, Cond.instanceMethod yX5_cellOf, Cond.selects RX5 yX5_cellOf yX5_cellOf, Cond.code yX5_cellOf cX5_cellOf 3 (some .int), Cond.fieldLink RX5 19 "SerialPort$Ring" "head" "I"]
def wsX8_frame : List Cond := .code yX8_frame cX8_frame 6 (some .int) :: ((wsX8_frame_r1 ++ (wsX8_frame_r2 ++ wsX8_frame_r3)) ++ wsX80 ++ wsX10 ++ wsX50)
def wsX8_inputs : List Cond := .code yX8_inputs cX8_inputs 2 (some .boolean) :: ([.fieldLink RX8 45 "SerialPort" "modem" "LSerialPort$Modem;", .methodLink RX8 121 yX3_putPins, .instanceMethod yX3_putPins, .selects RX3 yX3_putPins yX3_putPins, .initialized RX3, .code yX3_putPins cX3_putPins 2 none, .fieldLink RX3 13 "SerialPort$Modem" "pins" "I", .methodLink RX3 22 yX3_follow, .instanceMethod yX3_follow, .selects RX3 yX3_follow yX3_follow, .code yX3_follow cX3_follow 3 none, .fieldLink RX3 16 "SerialPort$Modem" "state" "I", .fieldLink RX3 19 "SerialPort$Modem" "changes" "I", .methodLink RX3 25 yX3_loops, .instanceMethod yX3_loops, .selects RX3 yX3_loops yX3_loops, .code yX3_loops cX3_loops 1 (some .boolean), .fieldLink RX3 7 "SerialPort$Modem" "outputs" "I", .methodLink RX3 29 yX3_looped, .instanceMethod yX3_looped, .selects RX3 yX3_looped yX3_looped, .code yX3_looped cX3_looped 1 (some .int)] ++ wsX80 ++ wsX30)
def wsX8_reset_r1 : List Cond := [Cond.methodLink RX8 63 yX8_powerOn, Cond.instanceMethod yX8_powerOn, Cond.selects RX8 yX8_powerOn yX8_powerOn, Cond.initialized RX8, Cond.code yX8_powerOn cX8_powerOn 1 none, Cond.fieldLink RX8 12 "SerialPort" "divider" "LSerialPort$Divider;", Cond.fieldLink RX8 21 "SerialPort" "received" "LSerialPort$Ring;", Cond.fieldLink RX8 25 "SerialPort" "sending" "LSerialPort$Ring;", Cond.fieldLink RX8 31 "SerialPort" "sender" "LSerialPort$Sender;", Cond.fieldLink RX8 38 "SerialPort" "receiver" "LSerialPort$Receiver;", Cond.fieldLink RX8 45 "SerialPort" "modem" "LSerialPort$Modem;", Cond.fieldLink RX8 52 "SerialPort" "lineIn" "LSerialPort$LineIn;", Cond.fieldLink RX8 59 "SerialPort" "lineOut" "LSerialPort$LineOut;", Cond.fieldLink RX8 163 "SerialPort" "wanted" "I", Cond.fieldLink RX8 73 "SerialPort" "lineControl" "I", Cond.fieldLink RX8 166 "SerialPort" "kept" "I", Cond.fieldLink RX8 169 "SerialPort" "level" "I", Cond.fieldLink RX8 172 "SerialPort" "rowsOn" "Z", Cond.fieldLink RX8 176 "SerialPort" "overrun" "Z", Cond.fieldLink RX8 179 "SerialPort" "emptyUp" "Z", Cond.fieldLink RX8 182 "SerialPort" "lateUp" "Z", Cond.fieldLink RX8 127 "SerialPort" "beats" "I", Cond.fieldLink RX8 185 "SerialPort" "quietSince" "I", Cond.methodLink RX8 154 yX0_clear]
def wsX8_reset_r2 : List Cond := [Cond.instanceMethod yX0_clear, Cond.selects RX0 yX0_clear yX0_clear, Cond.initialized RX0, Cond.code yX0_clear cX0_clear 1 none, Cond.fieldLink RX0 9 "SerialPort$Divider" "divisor" "I", Cond.fieldLink RX0 15 "SerialPort$Divider" "passed" "I", Cond.methodLink RX8 157 yX5_clear, Cond.instanceMethod yX5_clear, Cond.selects RX5 yX5_clear yX5_clear, Cond.initialized RX5, Cond.code yX5_clear cX5_clear 1 none, Cond.fieldLink RX5 19 "SerialPort$Ring" "head" "I", Cond.fieldLink RX5 23 "SerialPort$Ring" "size" "I", Cond.methodLink RX8 158 yX6_clear, Cond.instanceMethod yX6_clear, Cond.selects RX6 yX6_clear yX6_clear, Cond.initialized RX6, Cond.code yX6_clear cX6_clear 1 none, Cond.fieldLink RX6 9 "SerialPort$Sender" "control" "I", Cond.fieldLink RX6 15 "SerialPort$Sender" "character" "I", Cond.fieldLink RX6 18 "SerialPort$Sender" "beat" "I", Cond.fieldLink RX6 21 "SerialPort$Sender" "busy" "Z", Cond.methodLink RX8 159 yX4_clear, Cond.instanceMethod yX4_clear]
def wsX8_reset_r3 : List Cond := [Cond.selects RX4 yX4_clear yX4_clear, Cond.initialized RX4, Cond.code yX4_clear cX4_clear 1 none, Cond.fieldLink RX4 15 "SerialPort$Receiver" "busy" "Z", Cond.fieldLink RX4 19 "SerialPort$Receiver" "wasHigh" "Z", Cond.methodLink RX4 9 yX4_begin, Cond.instanceMethod yX4_begin, Cond.selects RX4 yX4_begin yX4_begin, Cond.code yX4_begin cX4_begin 2 none, Cond.fieldLink RX4 37 "SerialPort$Receiver" "control" "I", Cond.fieldLink RX4 40 "SerialPort$Receiver" "character" "I", Cond.fieldLink RX4 26 "SerialPort$Receiver" "beat" "I", Cond.fieldLink RX4 43 "SerialPort$Receiver" "parityHigh" "Z", Cond.fieldLink RX4 46 "SerialPort$Receiver" "someHigh" "Z", Cond.methodLink RX8 160 yX3_clear, Cond.instanceMethod yX3_clear, Cond.selects RX3 yX3_clear yX3_clear, Cond.initialized RX3, Cond.code yX3_clear cX3_clear 1 none, Cond.fieldLink RX3 7 "SerialPort$Modem" "outputs" "I", Cond.fieldLink RX3 13 "SerialPort$Modem" "pins" "I", Cond.fieldLink RX3 16 "SerialPort$Modem" "state" "I", Cond.fieldLink RX3 19 "SerialPort$Modem" "changes" "I", Cond.methodLink RX8 161 yX1_clear]
def wsX8_reset_r4 : List Cond := [Cond.instanceMethod yX1_clear, Cond.selects RX1 yX1_clear yX1_clear, Cond.initialized RX1, Cond.code yX1_clear cX1_clear 1 none, Cond.fieldLink RX1 14 "SerialPort$LineIn" "wave" "LSerialPort$Ring;", Cond.fieldLink RX1 23 "SerialPort$LineIn" "high" "Z", Cond.methodLink RX1 20 yX5_clear, Cond.methodLink RX8 162 yX2_clear, Cond.instanceMethod yX2_clear, Cond.selects RX2 yX2_clear yX2_clear, Cond.initialized RX2, Cond.code yX2_clear cX2_clear 1 none, Cond.fieldLink RX2 14 "SerialPort$LineOut" "runs" "LSerialPort$Ring;", Cond.fieldLink RX2 23 "SerialPort$LineOut" "inAll" "I", Cond.methodLink RX2 20 yX5_clear]
def wsX8_reset : List Cond := .code yX8_reset cX8_reset 1 none :: ((wsX8_reset_r1 ++ (wsX8_reset_r2 ++ (wsX8_reset_r3 ++ wsX8_reset_r4))) ++ wsX80 ++ wsX00 ++ wsX50 ++ wsX60 ++ wsX40 ++ wsX30 ++ wsX10 ++ wsX20)
def wsX8_count_r1 : List Cond := [Cond.fieldLink RX8 21 "SerialPort" "received" "LSerialPort$Ring;", Cond.fieldLink RX8 25 "SerialPort" "sending" "LSerialPort$Ring;", Cond.fieldLink RX8 127 "SerialPort" "beats" "I", Cond.fieldLink RX8 59 "SerialPort" "lineOut" "LSerialPort$LineOut;", Cond.fieldLink RX8 52 "SerialPort" "lineIn" "LSerialPort$LineIn;", Cond.fieldLink RX8 31 "SerialPort" "sender" "LSerialPort$Sender;", Cond.fieldLink RX8 38 "SerialPort" "receiver" "LSerialPort$Receiver;", Cond.methodLink RX8 124 yX5_size, Cond.instanceMethod yX5_size, Cond.selects RX5 yX5_size yX5_size, Cond.initialized RX5, Cond.code yX5_size cX5_size 1 (some .int), Cond.fieldLink RX5 23 "SerialPort$Ring" "size" "I", Cond.methodLink RX8 130 yX8_reason, Cond.instanceMethod yX8_reason, Cond.selects RX8 yX8_reason yX8_reason, Cond.initialized RX8, Cond.code yX8_reason cX8_reason 1 (some .int), Cond.fieldLink RX8 176 "SerialPort" "overrun" "Z", Cond.fieldLink RX8 172 "SerialPort" "rowsOn" "Z", Cond.fieldLink RX8 169 "SerialPort" "level" "I", Cond.fieldLink RX8 182 "SerialPort" "lateUp" "Z", Cond.fieldLink RX8 179 "SerialPort" "emptyUp" "Z", Cond.fieldLink RX8 45 "SerialPort" "modem" "LSerialPort$Modem;"]
def wsX8_count_r2 : List Cond := [Cond.methodLink RX8 245 yX8_wants, Cond.instanceMethod yX8_wants, Cond.selects RX8 yX8_wants yX8_wants, Cond.code yX8_wants cX8_wants 2 (some .boolean), Cond.fieldLink RX8 163 "SerialPort" "wanted" "I", Cond.methodLink RX8 239 yX8_firstFaults, Cond.instanceMethod yX8_firstFaults, Cond.selects RX8 yX8_firstFaults yX8_firstFaults, Cond.code yX8_firstFaults cX8_firstFaults 1 (some .int), Cond.methodLink RX8 224 yX5_first, Cond.instanceMethod yX5_first, Cond.selects RX5 yX5_first yX5_first, Cond.code yX5_first cX5_first 1 (some .int), Cond.methodLink RX5 30 yX5_at, Cond.instanceMethod yX5_at, Cond.selects RX5 yX5_at yX5_at, Cond.code yX5_at cX5_at 3 (some .int), Cond.fieldLink RX5 13 "SerialPort$Ring" "cells" "[I", Cond.methodLink RX5 26 yX5_cellOf, Cond.instanceMethod yX5_cellOf, Cond.selects RX5 yX5_cellOf yX5_cellOf, Cond.code yX5_cellOf cX5_cellOf 3 (some .int), Cond.fieldLink RX5 19 "SerialPort$Ring" "head" "I", Cond.methodLink RX8 248 yX3_hasChanged]
def wsX8_count_r3 : List Cond := [Cond.instanceMethod yX3_hasChanged, Cond.selects RX3 yX3_hasChanged yX3_hasChanged, Cond.initialized RX3, Cond.code yX3_hasChanged cX3_hasChanged 1 (some .boolean), Cond.fieldLink RX3 19 "SerialPort$Modem" "changes" "I", Cond.methodLink RX8 133 yX2_isHigh, Cond.instanceMethod yX2_isHigh, Cond.selects RX2 yX2_isHigh yX2_isHigh, Cond.initialized RX2, Cond.code yX2_isHigh cX2_isHigh 1 (some .boolean), Cond.fieldLink RX2 14 "SerialPort$LineOut" "runs" "LSerialPort$Ring;", Cond.methodLink RX2 27 yX5_isEmpty, Cond.instanceMethod yX5_isEmpty, Cond.selects RX5 yX5_isEmpty yX5_isEmpty, Cond.code yX5_isEmpty cX5_isEmpty 1 (some .boolean), Cond.methodLink RX2 31 yX2_runIsHigh, Cond.instanceMethod yX2_runIsHigh, Cond.selects RX2 yX2_runIsHigh yX2_runIsHigh, Cond.code yX2_runIsHigh cX2_runIsHigh 2 (some .boolean), Cond.methodLink RX2 39 yX2_fromEnd, Cond.instanceMethod yX2_fromEnd, Cond.selects RX2 yX2_fromEnd yX2_fromEnd, Cond.code yX2_fromEnd cX2_fromEnd 2 (some .int), Cond.methodLink RX2 35 yX5_size]
def wsX8_count_r4 : List Cond := [Cond.methodLink RX2 56 yX5_at, Cond.methodLink RX8 106 yX1_pieces, Cond.instanceMethod yX1_pieces, Cond.selects RX1 yX1_pieces yX1_pieces, Cond.initialized RX1, Cond.code yX1_pieces cX1_pieces 1 (some .int), Cond.fieldLink RX1 14 "SerialPort$LineIn" "wave" "LSerialPort$Ring;", Cond.methodLink RX1 27 yX5_size, Cond.methodLink RX8 137 yX2_runsInAll, Cond.instanceMethod yX2_runsInAll, Cond.selects RX2 yX2_runsInAll yX2_runsInAll, Cond.code yX2_runsInAll cX2_runsInAll 1 (some .int), Cond.fieldLink RX2 23 "SerialPort$LineOut" "inAll" "I", Cond.methodLink RX8 140 yX6_isBusy, Cond.instanceMethod yX6_isBusy, Cond.selects RX6 yX6_isBusy yX6_isBusy, Cond.initialized RX6, Cond.code yX6_isBusy cX6_isBusy 1 (some .boolean), Cond.fieldLink RX6 21 "SerialPort$Sender" "busy" "Z", Cond.methodLink RX8 143 yX4_isBusy, Cond.instanceMethod yX4_isBusy, Cond.selects RX4 yX4_isBusy yX4_isBusy, Cond.initialized RX4, Cond.code yX4_isBusy cX4_isBusy 1 (some .boolean)]
def wsX8_count_r5 : List Cond := [Cond.fieldLink RX4 15 "SerialPort$Receiver" "busy" "Z"]
def wsX8_count : List Cond := .code yX8_count cX8_count 2 (some .int) :: ((wsX8_count_r1 ++ (wsX8_count_r2 ++ (wsX8_count_r3 ++ (wsX8_count_r4 ++ wsX8_count_r5)))) ++ wsX80 ++ wsX50 ++ wsX30 ++ wsX20 ++ wsX10 ++ wsX60 ++ wsX40)
def wsX8_run_r1 : List Cond := [Cond.fieldLink RX8 59 "SerialPort" "lineOut" "LSerialPort$LineOut;", Cond.methodLink RX8 144 yX2_runsKept, Cond.instanceMethod yX2_runsKept, Cond.selects RX2 yX2_runsKept yX2_runsKept, Cond.initialized RX2, Cond.code yX2_runsKept cX2_runsKept 1 (some .int), Cond.fieldLink RX2 14 "SerialPort$LineOut" "runs" "LSerialPort$Ring;", Cond.methodLink RX2 35 yX5_size, Cond.instanceMethod yX5_size, Cond.selects RX5 yX5_size yX5_size, Cond.initialized RX5, Cond.code yX5_size cX5_size 1 (some .int), Cond.fieldLink RX5 23 "SerialPort$Ring" "size" "I", Cond.methodLink RX8 147 yX2_runIsHigh, Cond.instanceMethod yX2_runIsHigh, Cond.selects RX2 yX2_runIsHigh yX2_runIsHigh, Cond.code yX2_runIsHigh cX2_runIsHigh 2 (some .boolean), Cond.methodLink RX2 39 yX2_fromEnd, Cond.instanceMethod yX2_fromEnd, Cond.selects RX2 yX2_fromEnd yX2_fromEnd, Cond.code yX2_fromEnd cX2_fromEnd 2 (some .int), Cond.methodLink RX2 56 yX5_at, Cond.instanceMethod yX5_at, Cond.selects RX5 yX5_at yX5_at]
def wsX8_run_r2 : List Cond := [Cond.code yX5_at cX5_at 3 (some .int), Cond.fieldLink RX5 13 "SerialPort$Ring" "cells" "[I", Cond.methodLink RX5 26 yX5_cellOf, Cond.instanceMethod yX5_cellOf, Cond.selects RX5 yX5_cellOf yX5_cellOf, Cond.code yX5_cellOf cX5_cellOf 3 (some .int), Cond.fieldLink RX5 19 "SerialPort$Ring" "head" "I", Cond.methodLink RX8 151 yX2_runBeats, Cond.instanceMethod yX2_runBeats, Cond.selects RX2 yX2_runBeats yX2_runBeats, Cond.code yX2_runBeats cX2_runBeats 2 (some .int)]
def wsX8_run : List Cond := .code yX8_run cX8_run 3 (some .int) :: ((wsX8_run_r1 ++ wsX8_run_r2) ++ wsX80 ++ wsX20 ++ wsX50)
def wsX9_reset_r1 : List Cond := [Cond.fieldLink RX9 35 "SerialPortModel" "thrown" "I", Cond.fieldLink RX9 39 "SerialPortModel" "divisor" "I", Cond.fieldLink RX9 42 "SerialPortModel" "clocks" "I", Cond.fieldLink RX9 45 "SerialPortModel" "wanted" "I", Cond.fieldLink RX9 48 "SerialPortModel" "rowsOn" "Z", Cond.fieldLink RX9 52 "SerialPortModel" "level" "I", Cond.fieldLink RX9 55 "SerialPortModel" "form" "I", Cond.fieldLink RX9 58 "SerialPortModel" "outputs" "I", Cond.fieldLink RX9 61 "SerialPortModel" "byteKept" "I", Cond.fieldLink RX9 64 "SerialPortModel" "ins" "I", Cond.fieldLink RX9 67 "SerialPortModel" "changed" "I", Cond.fieldLink RX9 70 "SerialPortModel" "receivedMany" "I", Cond.fieldLink RX9 73 "SerialPortModel" "overrun" "Z", Cond.fieldLink RX9 76 "SerialPortModel" "sendingMany" "I", Cond.fieldLink RX9 79 "SerialPortModel" "emptyUp" "Z", Cond.fieldLink RX9 82 "SerialPortModel" "lateUp" "Z", Cond.fieldLink RX9 85 "SerialPortModel" "lateCount" "I", Cond.fieldLink RX9 88 "SerialPortModel" "waveMany" "I", Cond.fieldLink RX9 91 "SerialPortModel" "lineIn" "Z", Cond.fieldLink RX9 94 "SerialPortModel" "sends" "Z", Cond.fieldLink RX9 97 "SerialPortModel" "senderHigh" "Z", Cond.fieldLink RX9 100 "SerialPortModel" "takes" "Z", Cond.fieldLink RX9 103 "SerialPortModel" "sawHigh" "Z", Cond.fieldLink RX9 106 "SerialPortModel" "beats" "I"]
def wsX9_reset_r2 : List Cond := [Cond.fieldLink RX9 109 "SerialPortModel" "out" "Z", Cond.fieldLink RX9 112 "SerialPortModel" "runs" "I"]
def wsX9_reset : List Cond := .code yX9_reset cX9_reset 1 none :: ((wsX9_reset_r1 ++ wsX9_reset_r2) ++ wsX90)
def wsX9_init_r1 : List Cond := [Cond.methodLink RX9 1 objectInit, Cond.instanceMethod objectInit, Cond.code objectInit ⟨#[0xb1]⟩ 1 none, Cond.arrayClass .int, Cond.fieldLink RX9 9 "SerialPortModel" "received" "[I", Cond.fieldLink RX9 13 "SerialPortModel" "marks" "[I", Cond.fieldLink RX9 16 "SerialPortModel" "sending" "[I", Cond.arrayClass .boolean, Cond.fieldLink RX9 19 "SerialPortModel" "waveHigh" "[Z", Cond.fieldLink RX9 23 "SerialPortModel" "waveBeats" "[I", Cond.fieldLink RX9 26 "SerialPortModel" "runHigh" "[Z", Cond.fieldLink RX9 29 "SerialPortModel" "runBeats" "[I", Cond.methodLink RX9 32 yX9_reset, Cond.instanceMethod yX9_reset, Cond.selects RX9 yX9_reset yX9_reset, Cond.initialized RX9, Cond.code yX9_reset cX9_reset 1 none, Cond.fieldLink RX9 35 "SerialPortModel" "thrown" "I", Cond.fieldLink RX9 39 "SerialPortModel" "divisor" "I", Cond.fieldLink RX9 42 "SerialPortModel" "clocks" "I", Cond.fieldLink RX9 45 "SerialPortModel" "wanted" "I", Cond.fieldLink RX9 48 "SerialPortModel" "rowsOn" "Z", Cond.fieldLink RX9 52 "SerialPortModel" "level" "I", Cond.fieldLink RX9 55 "SerialPortModel" "form" "I"]
def wsX9_init_r2 : List Cond := [Cond.fieldLink RX9 58 "SerialPortModel" "outputs" "I", Cond.fieldLink RX9 61 "SerialPortModel" "byteKept" "I", Cond.fieldLink RX9 64 "SerialPortModel" "ins" "I", Cond.fieldLink RX9 67 "SerialPortModel" "changed" "I", Cond.fieldLink RX9 70 "SerialPortModel" "receivedMany" "I", Cond.fieldLink RX9 73 "SerialPortModel" "overrun" "Z", Cond.fieldLink RX9 76 "SerialPortModel" "sendingMany" "I", Cond.fieldLink RX9 79 "SerialPortModel" "emptyUp" "Z", Cond.fieldLink RX9 82 "SerialPortModel" "lateUp" "Z", Cond.fieldLink RX9 85 "SerialPortModel" "lateCount" "I", Cond.fieldLink RX9 88 "SerialPortModel" "waveMany" "I", Cond.fieldLink RX9 91 "SerialPortModel" "lineIn" "Z", Cond.fieldLink RX9 94 "SerialPortModel" "sends" "Z", Cond.fieldLink RX9 97 "SerialPortModel" "senderHigh" "Z", Cond.fieldLink RX9 100 "SerialPortModel" "takes" "Z", Cond.fieldLink RX9 103 "SerialPortModel" "sawHigh" "Z", Cond.fieldLink RX9 106 "SerialPortModel" "beats" "I", Cond.fieldLink RX9 109 "SerialPortModel" "out" "Z", Cond.fieldLink RX9 112 "SerialPortModel" "runs" "I"]
def wsX9_init : List Cond := .code yX9_init cX9_init 1 none :: ((wsX9_init_r1 ++ wsX9_init_r2) ++ wsX90)
def wsX9_thrown : List Cond := .code yX9_thrown cX9_thrown 1 (some .int) :: ([.fieldLink RX9 35 "SerialPortModel" "thrown" "I"] ++ wsX90)
def wsX9_dlab : List Cond := .code yX9_dlab cX9_dlab 1 (some .boolean) :: ([.fieldLink RX9 55 "SerialPortModel" "form" "I"] ++ wsX90)
def wsX9_loops : List Cond := .code yX9_loops cX9_loops 1 (some .boolean) :: ([.fieldLink RX9 58 "SerialPortModel" "outputs" "I"] ++ wsX90)
def wsX9_room : List Cond := .code yX9_room cX9_room 1 (some .int) :: ([.fieldLink RX9 48 "SerialPortModel" "rowsOn" "Z"] ++ wsX90)
def wsX9_bitsOf : List Cond := .code yX9_bitsOf cX9_bitsOf 1 (some .int) :: ([])
def wsX9_hasParity : List Cond := .code yX9_hasParity cX9_hasParity 1 (some .boolean) :: ([])
def wsX9_parityOf : List Cond := .code yX9_parityOf cX9_parityOf 3 (some .int) :: ([.methodLink RX9 115 yX9_bitsOf, .static yX9_bitsOf, .initialized RX9, .code yX9_bitsOf cX9_bitsOf 1 (some .int), .methodLink RX9 119 yJ6_bitCount_0f7a4, .static yJ6_bitCount_0f7a4, .initialized RJ6, .code yJ6_bitCount_0f7a4 cJ6_bitCount_0f7a4 1 (some .int), .constant RJ6 265 (1431655765), .constant RJ6 266 (858993459), .constant RJ6 267 (252645135)])
def wsX9_stopOf : List Cond := .code yX9_stopOf cX9_stopOf 1 (some .int) :: ([.methodLink RX9 115 yX9_bitsOf, .static yX9_bitsOf, .initialized RX9, .code yX9_bitsOf cX9_bitsOf 1 (some .int)])
def wsX9_frameOf : List Cond := .code yX9_frameOf cX9_frameOf 1 (some .int) :: ([.methodLink RX9 115 yX9_bitsOf, .static yX9_bitsOf, .initialized RX9, .code yX9_bitsOf cX9_bitsOf 1 (some .int), .methodLink RX9 124 yX9_hasParity, .static yX9_hasParity, .code yX9_hasParity cX9_hasParity 1 (some .boolean), .methodLink RX9 128 yX9_stopOf, .static yX9_stopOf, .code yX9_stopOf cX9_stopOf 1 (some .int)])
def wsX9_partOf : List Cond := .code yX9_partOf cX9_partOf 4 (some .boolean) :: ([.methodLink RX9 115 yX9_bitsOf, .static yX9_bitsOf, .initialized RX9, .code yX9_bitsOf cX9_bitsOf 1 (some .int), .methodLink RX9 124 yX9_hasParity, .static yX9_hasParity, .code yX9_hasParity cX9_hasParity 1 (some .boolean), .methodLink RX9 131 yX9_parityOf, .static yX9_parityOf, .code yX9_parityOf cX9_parityOf 3 (some .int), .methodLink RX9 119 yJ6_bitCount_0f7a4, .static yJ6_bitCount_0f7a4, .initialized RJ6, .code yJ6_bitCount_0f7a4 cJ6_bitCount_0f7a4 1 (some .int), .constant RJ6 265 (1431655765), .constant RJ6 266 (858993459), .constant RJ6 267 (252645135)])
def wsX9_lines : List Cond := .code yX9_lines cX9_lines 1 (some .int) :: ([.fieldLink RX9 64 "SerialPortModel" "ins" "I", .fieldLink RX9 58 "SerialPortModel" "outputs" "I", .methodLink RX9 135 yX9_loops, .instanceMethod yX9_loops, .selects RX9 yX9_loops yX9_loops, .initialized RX9, .code yX9_loops cX9_loops 1 (some .boolean)] ++ wsX90)
def wsX9_notice : List Cond := .code yX9_notice cX9_notice 4 none :: ([.fieldLink RX9 67 "SerialPortModel" "changed" "I", .methodLink RX9 139 yX9_lines, .instanceMethod yX9_lines, .selects RX9 yX9_lines yX9_lines, .initialized RX9, .code yX9_lines cX9_lines 1 (some .int), .fieldLink RX9 64 "SerialPortModel" "ins" "I", .fieldLink RX9 58 "SerialPortModel" "outputs" "I", .methodLink RX9 135 yX9_loops, .instanceMethod yX9_loops, .selects RX9 yX9_loops yX9_loops, .code yX9_loops cX9_loops 1 (some .boolean)] ++ wsX90)
def wsX9_inputs : List Cond := .code yX9_inputs cX9_inputs 3 (some .boolean) :: ([.fieldLink RX9 35 "SerialPortModel" "thrown" "I", .fieldLink RX9 64 "SerialPortModel" "ins" "I", .methodLink RX9 139 yX9_lines, .instanceMethod yX9_lines, .selects RX9 yX9_lines yX9_lines, .initialized RX9, .code yX9_lines cX9_lines 1 (some .int), .fieldLink RX9 58 "SerialPortModel" "outputs" "I", .methodLink RX9 135 yX9_loops, .instanceMethod yX9_loops, .selects RX9 yX9_loops yX9_loops, .code yX9_loops cX9_loops 1 (some .boolean), .methodLink RX9 143 yX9_notice, .instanceMethod yX9_notice, .selects RX9 yX9_notice yX9_notice, .code yX9_notice cX9_notice 4 none, .fieldLink RX9 67 "SerialPortModel" "changed" "I"] ++ wsX90)
def wsX9_clearReceived : List Cond := .code yX9_clearReceived cX9_clearReceived 1 none :: ([.fieldLink RX9 70 "SerialPortModel" "receivedMany" "I", .fieldLink RX9 82 "SerialPortModel" "lateUp" "Z", .fieldLink RX9 85 "SerialPortModel" "lateCount" "I"] ++ wsX90)
def wsX9_write_r1 : List Cond := [Cond.fieldLink RX9 35 "SerialPortModel" "thrown" "I", Cond.fieldLink RX9 39 "SerialPortModel" "divisor" "I", Cond.constant RX9 150 (65280), Cond.fieldLink RX9 42 "SerialPortModel" "clocks" "I", Cond.fieldLink RX9 79 "SerialPortModel" "emptyUp" "Z", Cond.fieldLink RX9 76 "SerialPortModel" "sendingMany" "I", Cond.fieldLink RX9 16 "SerialPortModel" "sending" "[I", Cond.fieldLink RX9 48 "SerialPortModel" "rowsOn" "Z", Cond.fieldLink RX9 45 "SerialPortModel" "wanted" "I", Cond.fieldLink RX9 52 "SerialPortModel" "level" "I", Cond.fieldLink RX9 55 "SerialPortModel" "form" "I", Cond.fieldLink RX9 58 "SerialPortModel" "outputs" "I", Cond.fieldLink RX9 61 "SerialPortModel" "byteKept" "I", Cond.methodLink RX9 139 yX9_lines, Cond.instanceMethod yX9_lines, Cond.selects RX9 yX9_lines yX9_lines, Cond.initialized RX9, Cond.code yX9_lines cX9_lines 1 (some .int), Cond.fieldLink RX9 64 "SerialPortModel" "ins" "I", Cond.methodLink RX9 135 yX9_loops, Cond.instanceMethod yX9_loops, Cond.selects RX9 yX9_loops yX9_loops, Cond.code yX9_loops cX9_loops 1 (some .boolean), Cond.methodLink RX9 147 yX9_dlab]
def wsX9_write_r2 : List Cond := [Cond.instanceMethod yX9_dlab, Cond.selects RX9 yX9_dlab yX9_dlab, Cond.code yX9_dlab cX9_dlab 1 (some .boolean), Cond.methodLink RX9 151 yX9_room, Cond.instanceMethod yX9_room, Cond.selects RX9 yX9_room yX9_room, Cond.code yX9_room cX9_room 1 (some .int), Cond.methodLink RX9 154 yX9_clearReceived, Cond.instanceMethod yX9_clearReceived, Cond.selects RX9 yX9_clearReceived yX9_clearReceived, Cond.code yX9_clearReceived cX9_clearReceived 1 none, Cond.fieldLink RX9 70 "SerialPortModel" "receivedMany" "I", Cond.fieldLink RX9 82 "SerialPortModel" "lateUp" "Z", Cond.fieldLink RX9 85 "SerialPortModel" "lateCount" "I", Cond.methodLink RX9 143 yX9_notice, Cond.instanceMethod yX9_notice, Cond.selects RX9 yX9_notice yX9_notice, Cond.code yX9_notice cX9_notice 4 none, Cond.fieldLink RX9 67 "SerialPortModel" "changed" "I"]
def wsX9_write : List Cond := .code yX9_write cX9_write 7 none :: ((wsX9_write_r1 ++ wsX9_write_r2) ++ wsX90)
def wsX9_isMarked : List Cond := .code yX9_isMarked cX9_isMarked 1 (some .boolean) :: ([.fieldLink RX9 70 "SerialPortModel" "receivedMany" "I", .fieldLink RX9 13 "SerialPortModel" "marks" "[I"] ++ wsX90)
def wsX9_reason : List Cond := .code yX9_reason cX9_reason 1 (some .int) :: ([.fieldLink RX9 45 "SerialPortModel" "wanted" "I", .fieldLink RX9 73 "SerialPortModel" "overrun" "Z", .fieldLink RX9 70 "SerialPortModel" "receivedMany" "I", .fieldLink RX9 48 "SerialPortModel" "rowsOn" "Z", .fieldLink RX9 52 "SerialPortModel" "level" "I", .fieldLink RX9 82 "SerialPortModel" "lateUp" "Z", .fieldLink RX9 79 "SerialPortModel" "emptyUp" "Z", .fieldLink RX9 67 "SerialPortModel" "changed" "I", .methodLink RX9 157 yX9_isMarked, .instanceMethod yX9_isMarked, .selects RX9 yX9_isMarked yX9_isMarked, .initialized RX9, .code yX9_isMarked cX9_isMarked 1 (some .boolean), .fieldLink RX9 13 "SerialPortModel" "marks" "[I"] ++ wsX90)
def wsX9_line : List Cond := .code yX9_line cX9_line 4 (some .int) :: ([.fieldLink RX9 70 "SerialPortModel" "receivedMany" "I", .fieldLink RX9 73 "SerialPortModel" "overrun" "Z", .fieldLink RX9 13 "SerialPortModel" "marks" "[I", .fieldLink RX9 76 "SerialPortModel" "sendingMany" "I", .fieldLink RX9 94 "SerialPortModel" "sends" "Z", .fieldLink RX9 48 "SerialPortModel" "rowsOn" "Z"] ++ wsX90)
def wsX9_take : List Cond := .code yX9_take cX9_take 3 (some .int) :: ([.fieldLink RX9 82 "SerialPortModel" "lateUp" "Z", .fieldLink RX9 85 "SerialPortModel" "lateCount" "I", .fieldLink RX9 70 "SerialPortModel" "receivedMany" "I", .fieldLink RX9 9 "SerialPortModel" "received" "[I", .fieldLink RX9 13 "SerialPortModel" "marks" "[I"] ++ wsX90)
def wsX9_read_r1 : List Cond := [Cond.fieldLink RX9 35 "SerialPortModel" "thrown" "I", Cond.fieldLink RX9 39 "SerialPortModel" "divisor" "I", Cond.fieldLink RX9 45 "SerialPortModel" "wanted" "I", Cond.fieldLink RX9 79 "SerialPortModel" "emptyUp" "Z", Cond.fieldLink RX9 48 "SerialPortModel" "rowsOn" "Z", Cond.fieldLink RX9 55 "SerialPortModel" "form" "I", Cond.fieldLink RX9 58 "SerialPortModel" "outputs" "I", Cond.fieldLink RX9 67 "SerialPortModel" "changed" "I", Cond.fieldLink RX9 61 "SerialPortModel" "byteKept" "I", Cond.methodLink RX9 147 yX9_dlab, Cond.instanceMethod yX9_dlab, Cond.selects RX9 yX9_dlab yX9_dlab, Cond.initialized RX9, Cond.code yX9_dlab cX9_dlab 1 (some .boolean), Cond.methodLink RX9 160 yX9_take, Cond.instanceMethod yX9_take, Cond.selects RX9 yX9_take yX9_take, Cond.code yX9_take cX9_take 3 (some .int), Cond.fieldLink RX9 82 "SerialPortModel" "lateUp" "Z", Cond.fieldLink RX9 85 "SerialPortModel" "lateCount" "I", Cond.fieldLink RX9 70 "SerialPortModel" "receivedMany" "I", Cond.fieldLink RX9 9 "SerialPortModel" "received" "[I", Cond.fieldLink RX9 13 "SerialPortModel" "marks" "[I", Cond.methodLink RX9 163 yX9_reason]
def wsX9_read_r2 : List Cond := [Cond.instanceMethod yX9_reason, Cond.selects RX9 yX9_reason yX9_reason, Cond.code yX9_reason cX9_reason 1 (some .int), Cond.fieldLink RX9 73 "SerialPortModel" "overrun" "Z", Cond.fieldLink RX9 52 "SerialPortModel" "level" "I", Cond.methodLink RX9 157 yX9_isMarked, Cond.instanceMethod yX9_isMarked, Cond.selects RX9 yX9_isMarked yX9_isMarked, Cond.code yX9_isMarked cX9_isMarked 1 (some .boolean), Cond.methodLink RX9 166 yX9_line, Cond.instanceMethod yX9_line, Cond.selects RX9 yX9_line yX9_line, Cond.code yX9_line cX9_line 4 (some .int), Cond.fieldLink RX9 76 "SerialPortModel" "sendingMany" "I", Cond.fieldLink RX9 94 "SerialPortModel" "sends" "Z", Cond.methodLink RX9 139 yX9_lines, Cond.instanceMethod yX9_lines, Cond.selects RX9 yX9_lines yX9_lines, Cond.code yX9_lines cX9_lines 1 (some .int), Cond.fieldLink RX9 64 "SerialPortModel" "ins" "I", Cond.methodLink RX9 135 yX9_loops, Cond.instanceMethod yX9_loops, Cond.selects RX9 yX9_loops yX9_loops, Cond.code yX9_loops cX9_loops 1 (some .boolean)]
def wsX9_read : List Cond := .code yX9_read cX9_read 3 (some .int) :: ((wsX9_read_r1 ++ wsX9_read_r2) ++ wsX90)
def wsX9_send_r1 : List Cond := [Cond.fieldLink RX9 94 "SerialPortModel" "sends" "Z", Cond.fieldLink RX9 76 "SerialPortModel" "sendingMany" "I", Cond.fieldLink RX9 16 "SerialPortModel" "sending" "[I", Cond.fieldLink RX9 169 "SerialPortModel" "sentCharacter" "I", Cond.fieldLink RX9 79 "SerialPortModel" "emptyUp" "Z", Cond.fieldLink RX9 55 "SerialPortModel" "form" "I", Cond.fieldLink RX9 172 "SerialPortModel" "sentForm" "I", Cond.fieldLink RX9 175 "SerialPortModel" "sentBeat" "I", Cond.fieldLink RX9 97 "SerialPortModel" "senderHigh" "Z", Cond.methodLink RX9 178 yX9_partOf, Cond.static yX9_partOf, Cond.initialized RX9, Cond.code yX9_partOf cX9_partOf 4 (some .boolean), Cond.methodLink RX9 115 yX9_bitsOf, Cond.static yX9_bitsOf, Cond.code yX9_bitsOf cX9_bitsOf 1 (some .int), Cond.methodLink RX9 124 yX9_hasParity, Cond.static yX9_hasParity, Cond.code yX9_hasParity cX9_hasParity 1 (some .boolean), Cond.methodLink RX9 131 yX9_parityOf, Cond.static yX9_parityOf, Cond.code yX9_parityOf cX9_parityOf 3 (some .int), Cond.methodLink RX9 119 yJ6_bitCount_0f7a4, Cond.static yJ6_bitCount_0f7a4]
def wsX9_send_r2 : List Cond := [Cond.initialized RJ6, Cond.code yJ6_bitCount_0f7a4 cJ6_bitCount_0f7a4 1 (some .int), Cond.constant RJ6 265 (1431655765), Cond.constant RJ6 266 (858993459), Cond.constant RJ6 267 (252645135), Cond.methodLink RX9 182 yX9_frameOf, Cond.static yX9_frameOf, Cond.code yX9_frameOf cX9_frameOf 1 (some .int), Cond.methodLink RX9 128 yX9_stopOf, Cond.static yX9_stopOf, Cond.code yX9_stopOf cX9_stopOf 1 (some .int)]
def wsX9_send : List Cond := .code yX9_send cX9_send 2 none :: ((wsX9_send_r1 ++ wsX9_send_r2) ++ wsX90)
def wsX9_say : List Cond := .code yX9_say cX9_say 2 none :: ([.fieldLink RX9 109 "SerialPortModel" "out" "Z", .fieldLink RX9 112 "SerialPortModel" "runs" "I", .fieldLink RX9 26 "SerialPortModel" "runHigh" "[Z", .fieldLink RX9 29 "SerialPortModel" "runBeats" "[I"] ++ wsX90)
def wsX9_come : List Cond := .code yX9_come cX9_come 2 none :: ([.fieldLink RX9 88 "SerialPortModel" "waveMany" "I", .fieldLink RX9 19 "SerialPortModel" "waveHigh" "[Z", .fieldLink RX9 91 "SerialPortModel" "lineIn" "Z", .fieldLink RX9 23 "SerialPortModel" "waveBeats" "[I"] ++ wsX90)
def wsX9_put : List Cond := .code yX9_put cX9_put 3 none :: ([.fieldLink RX9 70 "SerialPortModel" "receivedMany" "I", .fieldLink RX9 73 "SerialPortModel" "overrun" "Z", .fieldLink RX9 48 "SerialPortModel" "rowsOn" "Z", .fieldLink RX9 9 "SerialPortModel" "received" "[I", .fieldLink RX9 13 "SerialPortModel" "marks" "[I", .fieldLink RX9 85 "SerialPortModel" "lateCount" "I", .methodLink RX9 151 yX9_room, .instanceMethod yX9_room, .selects RX9 yX9_room yX9_room, .initialized RX9, .code yX9_room cX9_room 1 (some .int)] ++ wsX90)
def wsX9_receive_r1 : List Cond := [Cond.fieldLink RX9 97 "SerialPortModel" "senderHigh" "Z", Cond.fieldLink RX9 91 "SerialPortModel" "lineIn" "Z", Cond.fieldLink RX9 100 "SerialPortModel" "takes" "Z", Cond.fieldLink RX9 103 "SerialPortModel" "sawHigh" "Z", Cond.fieldLink RX9 55 "SerialPortModel" "form" "I", Cond.fieldLink RX9 185 "SerialPortModel" "takenForm" "I", Cond.fieldLink RX9 188 "SerialPortModel" "takenBeat" "I", Cond.fieldLink RX9 191 "SerialPortModel" "takenBits" "I", Cond.fieldLink RX9 194 "SerialPortModel" "takenParity" "I", Cond.methodLink RX9 135 yX9_loops, Cond.instanceMethod yX9_loops, Cond.selects RX9 yX9_loops yX9_loops, Cond.initialized RX9, Cond.code yX9_loops cX9_loops 1 (some .boolean), Cond.fieldLink RX9 58 "SerialPortModel" "outputs" "I", Cond.methodLink RX9 115 yX9_bitsOf, Cond.static yX9_bitsOf, Cond.code yX9_bitsOf cX9_bitsOf 1 (some .int), Cond.methodLink RX9 124 yX9_hasParity, Cond.static yX9_hasParity, Cond.code yX9_hasParity cX9_hasParity 1 (some .boolean), Cond.methodLink RX9 131 yX9_parityOf, Cond.static yX9_parityOf, Cond.code yX9_parityOf cX9_parityOf 3 (some .int)]
def wsX9_receive_r2 : List Cond := [Cond.methodLink RX9 119 yJ6_bitCount_0f7a4, Cond.static yJ6_bitCount_0f7a4, Cond.initialized RJ6, Cond.code yJ6_bitCount_0f7a4 cJ6_bitCount_0f7a4 1 (some .int), Cond.constant RJ6 265 (1431655765), Cond.constant RJ6 266 (858993459), Cond.constant RJ6 267 (252645135), Cond.methodLink RX9 197 yX9_put, Cond.instanceMethod yX9_put, Cond.selects RX9 yX9_put yX9_put, Cond.code yX9_put cX9_put 3 none, Cond.fieldLink RX9 70 "SerialPortModel" "receivedMany" "I", Cond.fieldLink RX9 73 "SerialPortModel" "overrun" "Z", Cond.fieldLink RX9 48 "SerialPortModel" "rowsOn" "Z", Cond.fieldLink RX9 9 "SerialPortModel" "received" "[I", Cond.fieldLink RX9 13 "SerialPortModel" "marks" "[I", Cond.fieldLink RX9 85 "SerialPortModel" "lateCount" "I", Cond.methodLink RX9 151 yX9_room, Cond.instanceMethod yX9_room, Cond.selects RX9 yX9_room yX9_room, Cond.code yX9_room cX9_room 1 (some .int)]
def wsX9_receive : List Cond := .code yX9_receive cX9_receive 5 none :: ((wsX9_receive_r1 ++ wsX9_receive_r2) ++ wsX90)
def wsX9_beat_r1 : List Cond := [Cond.fieldLink RX9 106 "SerialPortModel" "beats" "I", Cond.fieldLink RX9 97 "SerialPortModel" "senderHigh" "Z", Cond.fieldLink RX9 55 "SerialPortModel" "form" "I", Cond.fieldLink RX9 70 "SerialPortModel" "receivedMany" "I", Cond.fieldLink RX9 85 "SerialPortModel" "lateCount" "I", Cond.fieldLink RX9 82 "SerialPortModel" "lateUp" "Z", Cond.methodLink RX9 201 yX9_send, Cond.instanceMethod yX9_send, Cond.selects RX9 yX9_send yX9_send, Cond.initialized RX9, Cond.code yX9_send cX9_send 2 none, Cond.fieldLink RX9 94 "SerialPortModel" "sends" "Z", Cond.fieldLink RX9 76 "SerialPortModel" "sendingMany" "I", Cond.fieldLink RX9 16 "SerialPortModel" "sending" "[I", Cond.fieldLink RX9 169 "SerialPortModel" "sentCharacter" "I", Cond.fieldLink RX9 79 "SerialPortModel" "emptyUp" "Z", Cond.fieldLink RX9 172 "SerialPortModel" "sentForm" "I", Cond.fieldLink RX9 175 "SerialPortModel" "sentBeat" "I", Cond.methodLink RX9 178 yX9_partOf, Cond.static yX9_partOf, Cond.code yX9_partOf cX9_partOf 4 (some .boolean), Cond.methodLink RX9 115 yX9_bitsOf, Cond.static yX9_bitsOf, Cond.code yX9_bitsOf cX9_bitsOf 1 (some .int)]
def wsX9_beat_r2 : List Cond := [Cond.methodLink RX9 124 yX9_hasParity, Cond.static yX9_hasParity, Cond.code yX9_hasParity cX9_hasParity 1 (some .boolean), Cond.methodLink RX9 131 yX9_parityOf, Cond.static yX9_parityOf, Cond.code yX9_parityOf cX9_parityOf 3 (some .int), Cond.methodLink RX9 119 yJ6_bitCount_0f7a4, Cond.static yJ6_bitCount_0f7a4, Cond.initialized RJ6, Cond.code yJ6_bitCount_0f7a4 cJ6_bitCount_0f7a4 1 (some .int), Cond.constant RJ6 265 (1431655765), Cond.constant RJ6 266 (858993459), Cond.constant RJ6 267 (252645135), Cond.methodLink RX9 182 yX9_frameOf, Cond.static yX9_frameOf, Cond.code yX9_frameOf cX9_frameOf 1 (some .int), Cond.methodLink RX9 128 yX9_stopOf, Cond.static yX9_stopOf, Cond.code yX9_stopOf cX9_stopOf 1 (some .int), Cond.methodLink RX9 135 yX9_loops, Cond.instanceMethod yX9_loops, Cond.selects RX9 yX9_loops yX9_loops, Cond.code yX9_loops cX9_loops 1 (some .boolean), Cond.fieldLink RX9 58 "SerialPortModel" "outputs" "I"]
def wsX9_beat_r3 : List Cond := [Cond.methodLink RX9 204 yX9_say, Cond.instanceMethod yX9_say, Cond.selects RX9 yX9_say yX9_say, Cond.code yX9_say cX9_say 2 none, Cond.fieldLink RX9 109 "SerialPortModel" "out" "Z", Cond.fieldLink RX9 112 "SerialPortModel" "runs" "I", Cond.fieldLink RX9 26 "SerialPortModel" "runHigh" "[Z", Cond.fieldLink RX9 29 "SerialPortModel" "runBeats" "[I", Cond.methodLink RX9 208 yX9_come, Cond.instanceMethod yX9_come, Cond.selects RX9 yX9_come yX9_come, Cond.code yX9_come cX9_come 2 none, Cond.fieldLink RX9 88 "SerialPortModel" "waveMany" "I", Cond.fieldLink RX9 19 "SerialPortModel" "waveHigh" "[Z", Cond.fieldLink RX9 91 "SerialPortModel" "lineIn" "Z", Cond.fieldLink RX9 23 "SerialPortModel" "waveBeats" "[I", Cond.methodLink RX9 211 yX9_receive, Cond.instanceMethod yX9_receive, Cond.selects RX9 yX9_receive yX9_receive, Cond.code yX9_receive cX9_receive 5 none, Cond.fieldLink RX9 100 "SerialPortModel" "takes" "Z", Cond.fieldLink RX9 103 "SerialPortModel" "sawHigh" "Z", Cond.fieldLink RX9 185 "SerialPortModel" "takenForm" "I", Cond.fieldLink RX9 188 "SerialPortModel" "takenBeat" "I"]
def wsX9_beat_r4 : List Cond := [Cond.fieldLink RX9 191 "SerialPortModel" "takenBits" "I", Cond.fieldLink RX9 194 "SerialPortModel" "takenParity" "I", Cond.methodLink RX9 197 yX9_put, Cond.instanceMethod yX9_put, Cond.selects RX9 yX9_put yX9_put, Cond.code yX9_put cX9_put 3 none, Cond.fieldLink RX9 73 "SerialPortModel" "overrun" "Z", Cond.fieldLink RX9 48 "SerialPortModel" "rowsOn" "Z", Cond.fieldLink RX9 9 "SerialPortModel" "received" "[I", Cond.fieldLink RX9 13 "SerialPortModel" "marks" "[I", Cond.methodLink RX9 151 yX9_room, Cond.instanceMethod yX9_room, Cond.selects RX9 yX9_room yX9_room, Cond.code yX9_room cX9_room 1 (some .int)]
def wsX9_beat : List Cond := .code yX9_beat cX9_beat 1 none :: ((wsX9_beat_r1 ++ (wsX9_beat_r2 ++ (wsX9_beat_r3 ++ wsX9_beat_r4))) ++ wsX90)
def wsX9_clock_r1 : List Cond := [Cond.fieldLink RX9 35 "SerialPortModel" "thrown" "I", Cond.constant RX9 214 (60000), Cond.fieldLink RX9 42 "SerialPortModel" "clocks" "I", Cond.fieldLink RX9 39 "SerialPortModel" "divisor" "I", Cond.methodLink RX9 215 yX9_beat, Cond.instanceMethod yX9_beat, Cond.selects RX9 yX9_beat yX9_beat, Cond.initialized RX9, Cond.code yX9_beat cX9_beat 1 none, Cond.fieldLink RX9 106 "SerialPortModel" "beats" "I", Cond.fieldLink RX9 97 "SerialPortModel" "senderHigh" "Z", Cond.fieldLink RX9 55 "SerialPortModel" "form" "I", Cond.fieldLink RX9 70 "SerialPortModel" "receivedMany" "I", Cond.fieldLink RX9 85 "SerialPortModel" "lateCount" "I", Cond.fieldLink RX9 82 "SerialPortModel" "lateUp" "Z", Cond.methodLink RX9 201 yX9_send, Cond.instanceMethod yX9_send, Cond.selects RX9 yX9_send yX9_send, Cond.code yX9_send cX9_send 2 none, Cond.fieldLink RX9 94 "SerialPortModel" "sends" "Z", Cond.fieldLink RX9 76 "SerialPortModel" "sendingMany" "I", Cond.fieldLink RX9 16 "SerialPortModel" "sending" "[I", Cond.fieldLink RX9 169 "SerialPortModel" "sentCharacter" "I", Cond.fieldLink RX9 79 "SerialPortModel" "emptyUp" "Z"]
def wsX9_clock_r2 : List Cond := [Cond.fieldLink RX9 172 "SerialPortModel" "sentForm" "I", Cond.fieldLink RX9 175 "SerialPortModel" "sentBeat" "I", Cond.methodLink RX9 178 yX9_partOf, Cond.static yX9_partOf, Cond.code yX9_partOf cX9_partOf 4 (some .boolean), Cond.methodLink RX9 115 yX9_bitsOf, Cond.static yX9_bitsOf, Cond.code yX9_bitsOf cX9_bitsOf 1 (some .int), Cond.methodLink RX9 124 yX9_hasParity, Cond.static yX9_hasParity, Cond.code yX9_hasParity cX9_hasParity 1 (some .boolean), Cond.methodLink RX9 131 yX9_parityOf, Cond.static yX9_parityOf, Cond.code yX9_parityOf cX9_parityOf 3 (some .int), Cond.methodLink RX9 119 yJ6_bitCount_0f7a4, Cond.static yJ6_bitCount_0f7a4, Cond.initialized RJ6, Cond.code yJ6_bitCount_0f7a4 cJ6_bitCount_0f7a4 1 (some .int), Cond.constant RJ6 265 (1431655765), Cond.constant RJ6 266 (858993459), Cond.constant RJ6 267 (252645135), Cond.methodLink RX9 182 yX9_frameOf, Cond.static yX9_frameOf, Cond.code yX9_frameOf cX9_frameOf 1 (some .int)]
def wsX9_clock_r3 : List Cond := [Cond.methodLink RX9 128 yX9_stopOf, Cond.static yX9_stopOf, Cond.code yX9_stopOf cX9_stopOf 1 (some .int), Cond.methodLink RX9 135 yX9_loops, Cond.instanceMethod yX9_loops, Cond.selects RX9 yX9_loops yX9_loops, Cond.code yX9_loops cX9_loops 1 (some .boolean), Cond.fieldLink RX9 58 "SerialPortModel" "outputs" "I", Cond.methodLink RX9 204 yX9_say, Cond.instanceMethod yX9_say, Cond.selects RX9 yX9_say yX9_say, Cond.code yX9_say cX9_say 2 none, Cond.fieldLink RX9 109 "SerialPortModel" "out" "Z", Cond.fieldLink RX9 112 "SerialPortModel" "runs" "I", Cond.fieldLink RX9 26 "SerialPortModel" "runHigh" "[Z", Cond.fieldLink RX9 29 "SerialPortModel" "runBeats" "[I", Cond.methodLink RX9 208 yX9_come, Cond.instanceMethod yX9_come, Cond.selects RX9 yX9_come yX9_come, Cond.code yX9_come cX9_come 2 none, Cond.fieldLink RX9 88 "SerialPortModel" "waveMany" "I", Cond.fieldLink RX9 19 "SerialPortModel" "waveHigh" "[Z", Cond.fieldLink RX9 91 "SerialPortModel" "lineIn" "Z", Cond.fieldLink RX9 23 "SerialPortModel" "waveBeats" "[I"]
def wsX9_clock_r4 : List Cond := [Cond.methodLink RX9 211 yX9_receive, Cond.instanceMethod yX9_receive, Cond.selects RX9 yX9_receive yX9_receive, Cond.code yX9_receive cX9_receive 5 none, Cond.fieldLink RX9 100 "SerialPortModel" "takes" "Z", Cond.fieldLink RX9 103 "SerialPortModel" "sawHigh" "Z", Cond.fieldLink RX9 185 "SerialPortModel" "takenForm" "I", Cond.fieldLink RX9 188 "SerialPortModel" "takenBeat" "I", Cond.fieldLink RX9 191 "SerialPortModel" "takenBits" "I", Cond.fieldLink RX9 194 "SerialPortModel" "takenParity" "I", Cond.methodLink RX9 197 yX9_put, Cond.instanceMethod yX9_put, Cond.selects RX9 yX9_put yX9_put, Cond.code yX9_put cX9_put 3 none, Cond.fieldLink RX9 73 "SerialPortModel" "overrun" "Z", Cond.fieldLink RX9 48 "SerialPortModel" "rowsOn" "Z", Cond.fieldLink RX9 9 "SerialPortModel" "received" "[I", Cond.fieldLink RX9 13 "SerialPortModel" "marks" "[I", Cond.methodLink RX9 151 yX9_room, Cond.instanceMethod yX9_room, Cond.selects RX9 yX9_room yX9_room, Cond.code yX9_room cX9_room 1 (some .int)]
def wsX9_clock : List Cond := .code yX9_clock cX9_clock 4 (some .int) :: ((wsX9_clock_r1 ++ (wsX9_clock_r2 ++ (wsX9_clock_r3 ++ wsX9_clock_r4))) ++ wsX90)
def wsX9_wave : List Cond := .code yX9_wave cX9_wave 3 (some .int) :: ([.fieldLink RX9 35 "SerialPortModel" "thrown" "I", .fieldLink RX9 88 "SerialPortModel" "waveMany" "I", .fieldLink RX9 19 "SerialPortModel" "waveHigh" "[Z", .fieldLink RX9 23 "SerialPortModel" "waveBeats" "[I"] ++ wsX90)
def wsX9_frame_r1 : List Cond := [Cond.fieldLink RX9 35 "SerialPortModel" "thrown" "I", Cond.fieldLink RX9 55 "SerialPortModel" "form" "I", Cond.fieldLink RX9 88 "SerialPortModel" "waveMany" "I", Cond.fieldLink RX9 19 "SerialPortModel" "waveHigh" "[Z", Cond.fieldLink RX9 23 "SerialPortModel" "waveBeats" "[I", Cond.methodLink RX9 115 yX9_bitsOf, Cond.static yX9_bitsOf, Cond.initialized RX9, Cond.code yX9_bitsOf cX9_bitsOf 1 (some .int), Cond.methodLink RX9 124 yX9_hasParity, Cond.static yX9_hasParity, Cond.code yX9_hasParity cX9_hasParity 1 (some .boolean), Cond.methodLink RX9 178 yX9_partOf, Cond.static yX9_partOf, Cond.code yX9_partOf cX9_partOf 4 (some .boolean), Cond.methodLink RX9 131 yX9_parityOf, Cond.static yX9_parityOf, Cond.code yX9_parityOf cX9_parityOf 3 (some .int), Cond.methodLink RX9 119 yJ6_bitCount_0f7a4, Cond.static yJ6_bitCount_0f7a4, Cond.initialized RJ6, Cond.code yJ6_bitCount_0f7a4 cJ6_bitCount_0f7a4 1 (some .int), Cond.constant RJ6 265 (1431655765), Cond.constant RJ6 266 (858993459)]
def wsX9_frame_r2 : List Cond := [Cond.constant RJ6 267 (252645135), Cond.methodLink RX9 128 yX9_stopOf, Cond.static yX9_stopOf, Cond.code yX9_stopOf cX9_stopOf 1 (some .int)]
def wsX9_frame : List Cond := .code yX9_frame cX9_frame 6 (some .int) :: ((wsX9_frame_r1 ++ wsX9_frame_r2) ++ wsX90)
def wsX9_count_r1 : List Cond := [Cond.fieldLink RX9 35 "SerialPortModel" "thrown" "I", Cond.fieldLink RX9 70 "SerialPortModel" "receivedMany" "I", Cond.fieldLink RX9 76 "SerialPortModel" "sendingMany" "I", Cond.fieldLink RX9 106 "SerialPortModel" "beats" "I", Cond.fieldLink RX9 109 "SerialPortModel" "out" "Z", Cond.fieldLink RX9 88 "SerialPortModel" "waveMany" "I", Cond.fieldLink RX9 112 "SerialPortModel" "runs" "I", Cond.fieldLink RX9 94 "SerialPortModel" "sends" "Z", Cond.fieldLink RX9 100 "SerialPortModel" "takes" "Z", Cond.methodLink RX9 163 yX9_reason, Cond.instanceMethod yX9_reason, Cond.selects RX9 yX9_reason yX9_reason, Cond.initialized RX9, Cond.code yX9_reason cX9_reason 1 (some .int), Cond.fieldLink RX9 45 "SerialPortModel" "wanted" "I", Cond.fieldLink RX9 73 "SerialPortModel" "overrun" "Z", Cond.fieldLink RX9 48 "SerialPortModel" "rowsOn" "Z", Cond.fieldLink RX9 52 "SerialPortModel" "level" "I", Cond.fieldLink RX9 82 "SerialPortModel" "lateUp" "Z", Cond.fieldLink RX9 79 "SerialPortModel" "emptyUp" "Z", Cond.fieldLink RX9 67 "SerialPortModel" "changed" "I", Cond.methodLink RX9 157 yX9_isMarked, Cond.instanceMethod yX9_isMarked, Cond.selects RX9 yX9_isMarked yX9_isMarked]
def wsX9_count_r2 : List Cond := [Cond.code yX9_isMarked cX9_isMarked 1 (some .boolean), Cond.fieldLink RX9 13 "SerialPortModel" "marks" "[I"]
def wsX9_count : List Cond := .code yX9_count cX9_count 2 (some .int) :: ((wsX9_count_r1 ++ wsX9_count_r2) ++ wsX90)
def wsX9_run : List Cond := .code yX9_run cX9_run 4 (some .int) :: ([.fieldLink RX9 35 "SerialPortModel" "thrown" "I", .fieldLink RX9 112 "SerialPortModel" "runs" "I", .fieldLink RX9 29 "SerialPortModel" "runBeats" "[I", .fieldLink RX9 26 "SerialPortModel" "runHigh" "[Z"] ++ wsX90)
def wsJ9_max_7cf53 : List Cond := .code yJ9_max_7cf53 cJ9_max_7cf53 2 (some .int) :: ([])
def wsL_write_r1 : List Cond := [Cond.classLink RL 13 "java/util/NoSuchElementException", Cond.methodLink RL 7 yX8_write, Cond.instanceMethod yX8_write, Cond.selects RX8 yX8_write yX8_write, Cond.initialized RX8, Cond.code yX8_write cX8_write 4 none, Cond.classLink RX8 66 "java/util/NoSuchElementException", Cond.initialized "java/util/NoSuchElementException", Cond.fieldLink RX8 73 "SerialPort" "lineControl" "I", Cond.fieldLink RX8 12 "SerialPort" "divider" "LSerialPort$Divider;", Cond.methodLink RX8 77 yX0_putByte, Cond.instanceMethod yX0_putByte, Cond.selects RX0 yX0_putByte yX0_putByte, Cond.initialized RX0, Cond.code yX0_putByte cX0_putByte 3 none, Cond.fieldLink RX0 9 "SerialPort$Divider" "divisor" "I", Cond.constant RX0 18 (65280), Cond.fieldLink RX0 15 "SerialPort$Divider" "passed" "I", Cond.methodLink RX8 81 yX8_putRegister, Cond.instanceMethod yX8_putRegister, Cond.selects RX8 yX8_putRegister yX8_putRegister, Cond.code yX8_putRegister cX8_putRegister 3 none, Cond.fieldLink RX8 45 "SerialPort" "modem" "LSerialPort$Modem;", Cond.fieldLink RX8 166 "SerialPort" "kept" "I"]
def wsL_write_r2 : List Cond := [Cond.methodLink RX8 188 yX8_putCharacter, Cond.instanceMethod yX8_putCharacter, Cond.selects RX8 yX8_putCharacter yX8_putCharacter, Cond.code yX8_putCharacter cX8_putCharacter 2 none, Cond.fieldLink RX8 25 "SerialPort" "sending" "LSerialPort$Ring;", Cond.fieldLink RX8 172 "SerialPort" "rowsOn" "Z", Cond.fieldLink RX8 179 "SerialPort" "emptyUp" "Z", Cond.methodLink RX8 124 yX5_size, Cond.instanceMethod yX5_size, Cond.selects RX5 yX5_size yX5_size, Cond.initialized RX5, Cond.code yX5_size cX5_size 1 (some .int), Cond.fieldLink RX5 23 "SerialPort$Ring" "size" "I", Cond.methodLink RX8 215 yX8_rowRoom, Cond.instanceMethod yX8_rowRoom, Cond.selects RX8 yX8_rowRoom yX8_rowRoom, Cond.code yX8_rowRoom cX8_rowRoom 1 (some .int), Cond.methodLink RX8 218 yX5_add, Cond.instanceMethod yX5_add, Cond.selects RX5 yX5_add yX5_add, Cond.code yX5_add cX5_add 2 none, Cond.fieldLink RX5 13 "SerialPort$Ring" "cells" "[I", Cond.methodLink RX5 33 yX5_setAt, Cond.instanceMethod yX5_setAt]
def wsL_write_r3 : List Cond := [Cond.selects RX5 yX5_setAt yX5_setAt, Cond.code yX5_setAt cX5_setAt 4 none, Cond.methodLink RX5 26 yX5_cellOf, Cond.instanceMethod yX5_cellOf, Cond.selects RX5 yX5_cellOf yX5_cellOf, Cond.code yX5_cellOf cX5_cellOf 3 (some .int), Cond.fieldLink RX5 19 "SerialPort$Ring" "head" "I", Cond.methodLink RX8 221 yX5_setFirst, Cond.instanceMethod yX5_setFirst, Cond.selects RX5 yX5_setFirst yX5_setFirst, Cond.code yX5_setFirst cX5_setFirst 2 none, Cond.methodLink RX8 191 yX8_putWanted, Cond.instanceMethod yX8_putWanted, Cond.selects RX8 yX8_putWanted yX8_putWanted, Cond.code yX8_putWanted cX8_putWanted 3 none, Cond.fieldLink RX8 163 "SerialPort" "wanted" "I", Cond.methodLink RX8 230 yX5_isEmpty, Cond.instanceMethod yX5_isEmpty, Cond.selects RX5 yX5_isEmpty yX5_isEmpty, Cond.code yX5_isEmpty cX5_isEmpty 1 (some .boolean), Cond.methodLink RX8 194 yX8_putRowControl, Cond.instanceMethod yX8_putRowControl, Cond.selects RX8 yX8_putRowControl yX8_putRowControl, Cond.code yX8_putRowControl cX8_putRowControl 4 none]
def wsL_write_r4 : List Cond := [Cond.fieldLink RX8 21 "SerialPort" "received" "LSerialPort$Ring;", Cond.fieldLink RX8 182 "SerialPort" "lateUp" "Z", Cond.fieldLink RX8 169 "SerialPort" "level" "I", Cond.methodLink RX8 157 yX5_clear, Cond.instanceMethod yX5_clear, Cond.selects RX5 yX5_clear yX5_clear, Cond.code yX5_clear cX5_clear 1 none, Cond.methodLink RX8 233 yX8_levelOf, Cond.static yX8_levelOf, Cond.code yX8_levelOf cX8_levelOf 1 (some .int), Cond.methodLink RX8 197 yX3_putOutputs, Cond.instanceMethod yX3_putOutputs, Cond.selects RX3 yX3_putOutputs yX3_putOutputs, Cond.initialized RX3, Cond.code yX3_putOutputs cX3_putOutputs 2 none, Cond.fieldLink RX3 7 "SerialPort$Modem" "outputs" "I", Cond.methodLink RX3 22 yX3_follow, Cond.instanceMethod yX3_follow, Cond.selects RX3 yX3_follow yX3_follow, Cond.code yX3_follow cX3_follow 3 none, Cond.fieldLink RX3 13 "SerialPort$Modem" "pins" "I", Cond.fieldLink RX3 16 "SerialPort$Modem" "state" "I", Cond.fieldLink RX3 19 "SerialPort$Modem" "changes" "I", Cond.methodLink RX3 25 yX3_loops]
def wsL_write_r5 : List Cond := [Cond.instanceMethod yX3_loops, Cond.selects RX3 yX3_loops yX3_loops, Cond.code yX3_loops cX3_loops 1 (some .boolean), Cond.methodLink RX3 29 yX3_looped, Cond.instanceMethod yX3_looped, Cond.selects RX3 yX3_looped yX3_looped, Cond.code yX3_looped cX3_looped 1 (some .int)]
def wsL_write : List Cond := .codeWith yL_write cL_write 4 (some .int) [(0, 6, 9, 13)] :: ((wsL_write_r1 ++ (wsL_write_r2 ++ (wsL_write_r3 ++ (wsL_write_r4 ++ wsL_write_r5)))) ++ wsX80 ++ wsX00 ++ wsX50 ++ wsX30 ++ (vx_atS RX8 70 "java/util/NoSuchElementException" ["java/lang/RuntimeException", "java/lang/Exception"]).filter goodWord)
def wsL_read_r1 : List Cond := [Cond.classLink RL 13 "java/util/NoSuchElementException", Cond.methodLink RL 15 yX8_read, Cond.instanceMethod yX8_read, Cond.selects RX8 yX8_read yX8_read, Cond.initialized RX8, Cond.code yX8_read cX8_read 2 (some .int), Cond.classLink RX8 66 "java/util/NoSuchElementException", Cond.initialized "java/util/NoSuchElementException", Cond.fieldLink RX8 73 "SerialPort" "lineControl" "I", Cond.fieldLink RX8 12 "SerialPort" "divider" "LSerialPort$Divider;", Cond.methodLink RX8 84 yX0_tellByte, Cond.instanceMethod yX0_tellByte, Cond.selects RX0 yX0_tellByte yX0_tellByte, Cond.initialized RX0, Cond.code yX0_tellByte cX0_tellByte 2 (some .int), Cond.fieldLink RX0 9 "SerialPort$Divider" "divisor" "I", Cond.methodLink RX8 88 yX8_tellRegister, Cond.instanceMethod yX8_tellRegister, Cond.selects RX8 yX8_tellRegister yX8_tellRegister, Cond.code yX8_tellRegister cX8_tellRegister 2 (some .int), Cond.fieldLink RX8 163 "SerialPort" "wanted" "I", Cond.fieldLink RX8 45 "SerialPort" "modem" "LSerialPort$Modem;", Cond.fieldLink RX8 166 "SerialPort" "kept" "I", Cond.methodLink RX8 200 yX8_takeCharacter]
def wsL_read_r2 : List Cond := [Cond.instanceMethod yX8_takeCharacter, Cond.selects RX8 yX8_takeCharacter yX8_takeCharacter, Cond.code yX8_takeCharacter cX8_takeCharacter 2 (some .int), Cond.fieldLink RX8 21 "SerialPort" "received" "LSerialPort$Ring;", Cond.fieldLink RX8 182 "SerialPort" "lateUp" "Z", Cond.fieldLink RX8 127 "SerialPort" "beats" "I", Cond.fieldLink RX8 185 "SerialPort" "quietSince" "I", Cond.methodLink RX8 224 yX5_first, Cond.instanceMethod yX5_first, Cond.selects RX5 yX5_first yX5_first, Cond.initialized RX5, Cond.code yX5_first cX5_first 1 (some .int), Cond.methodLink RX5 30 yX5_at, Cond.instanceMethod yX5_at, Cond.selects RX5 yX5_at yX5_at, Cond.code yX5_at cX5_at 3 (some .int), Cond.fieldLink RX5 23 "SerialPort$Ring" "size" "I", Cond.fieldLink RX5 13 "SerialPort$Ring" "cells" "[I", Cond.methodLink RX5 26 yX5_cellOf, Cond.instanceMethod yX5_cellOf, Cond.selects RX5 yX5_cellOf yX5_cellOf, Cond.code yX5_cellOf cX5_cellOf 3 (some .int), Cond.fieldLink RX5 19 "SerialPort$Ring" "head" "I", Cond.methodLink RX8 227 yX5_dropFirst]
def wsL_read_r3 : List Cond := [Cond.instanceMethod yX5_dropFirst, Cond.selects RX5 yX5_dropFirst yX5_dropFirst, Cond.code yX5_dropFirst cX5_dropFirst 1 none, Cond.methodLink RX8 203 yX8_tellReason, Cond.instanceMethod yX8_tellReason, Cond.selects RX8 yX8_tellReason yX8_tellReason, Cond.code yX8_tellReason cX8_tellReason 2 (some .int), Cond.fieldLink RX8 179 "SerialPort" "emptyUp" "Z", Cond.fieldLink RX8 172 "SerialPort" "rowsOn" "Z", Cond.methodLink RX8 130 yX8_reason, Cond.instanceMethod yX8_reason, Cond.selects RX8 yX8_reason yX8_reason, Cond.code yX8_reason cX8_reason 1 (some .int), Cond.fieldLink RX8 176 "SerialPort" "overrun" "Z", Cond.fieldLink RX8 169 "SerialPort" "level" "I", Cond.methodLink RX8 245 yX8_wants, Cond.instanceMethod yX8_wants, Cond.selects RX8 yX8_wants yX8_wants, Cond.code yX8_wants cX8_wants 2 (some .boolean), Cond.methodLink RX8 239 yX8_firstFaults, Cond.instanceMethod yX8_firstFaults, Cond.selects RX8 yX8_firstFaults yX8_firstFaults, Cond.code yX8_firstFaults cX8_firstFaults 1 (some .int), Cond.methodLink RX8 124 yX5_size]
def wsL_read_r4 : List Cond := [Cond.instanceMethod yX5_size, Cond.selects RX5 yX5_size yX5_size, Cond.code yX5_size cX5_size 1 (some .int), Cond.methodLink RX8 248 yX3_hasChanged, Cond.instanceMethod yX3_hasChanged, Cond.selects RX3 yX3_hasChanged yX3_hasChanged, Cond.initialized RX3, Cond.code yX3_hasChanged cX3_hasChanged 1 (some .boolean), Cond.fieldLink RX3 19 "SerialPort$Modem" "changes" "I", Cond.methodLink RX8 206 yX3_outputs, Cond.instanceMethod yX3_outputs, Cond.selects RX3 yX3_outputs yX3_outputs, Cond.code yX3_outputs cX3_outputs 1 (some .int), Cond.fieldLink RX3 7 "SerialPort$Modem" "outputs" "I", Cond.methodLink RX8 209 yX8_tellLineState, Cond.instanceMethod yX8_tellLineState, Cond.selects RX8 yX8_tellLineState yX8_tellLineState, Cond.code yX8_tellLineState cX8_tellLineState 2 (some .int), Cond.fieldLink RX8 25 "SerialPort" "sending" "LSerialPort$Ring;", Cond.fieldLink RX8 31 "SerialPort" "sender" "LSerialPort$Sender;", Cond.methodLink RX8 230 yX5_isEmpty, Cond.instanceMethod yX5_isEmpty, Cond.selects RX5 yX5_isEmpty yX5_isEmpty, Cond.code yX5_isEmpty cX5_isEmpty 1 (some .boolean)]
def wsL_read_r5 : List Cond := [Cond.methodLink RX8 140 yX6_isBusy, Cond.instanceMethod yX6_isBusy, Cond.selects RX6 yX6_isBusy yX6_isBusy, Cond.initialized RX6, Cond.code yX6_isBusy cX6_isBusy 1 (some .boolean), Cond.fieldLink RX6 21 "SerialPort$Sender" "busy" "Z", Cond.methodLink RX8 242 yX8_someFault, Cond.instanceMethod yX8_someFault, Cond.selects RX8 yX8_someFault yX8_someFault, Cond.code yX8_someFault cX8_someFault 2 (some .boolean), Cond.methodLink RX8 236 yX5_at, Cond.methodLink RX8 221 yX5_setFirst, Cond.instanceMethod yX5_setFirst, Cond.selects RX5 yX5_setFirst yX5_setFirst, Cond.code yX5_setFirst cX5_setFirst 2 none, Cond.methodLink RX5 33 yX5_setAt, Cond.instanceMethod yX5_setAt, Cond.selects RX5 yX5_setAt yX5_setAt, Cond.code yX5_setAt cX5_setAt 4 none, Cond.methodLink RX8 212 yX3_tellState, Cond.instanceMethod yX3_tellState, Cond.selects RX3 yX3_tellState yX3_tellState, Cond.code yX3_tellState cX3_tellState 2 (some .int), Cond.fieldLink RX3 16 "SerialPort$Modem" "state" "I"]
def wsL_read : List Cond := .codeWith yL_read cL_read 4 (some .int) [(0, 9, 12, 13)] :: ((wsL_read_r1 ++ (wsL_read_r2 ++ (wsL_read_r3 ++ (wsL_read_r4 ++ wsL_read_r5)))) ++ wsX80 ++ wsX00 ++ wsX50 ++ wsX30 ++ wsX60 ++ (vx_atS RX8 70 "java/util/NoSuchElementException" ["java/lang/RuntimeException", "java/lang/Exception"]).filter goodWord)
def wsL_law0_r1 : List Cond := [Cond.classLink RL 8 RX8, Cond.instantiable RX8 18, Cond.initialized RX8, Cond.classLink RL 20 RX9, Cond.instantiable RX9 40, Cond.initialized RX9, Cond.arrayClass .long, Cond.methodLink RL 19 yX8_init, Cond.instanceMethod yX8_init, Cond.code yX8_init cX8_init 1 none, Cond.methodLink RX8 3 objectInit, Cond.instanceMethod objectInit, Cond.code objectInit ⟨#[0xb1]⟩ 1 none, Cond.classLink RX8 9 RX0, Cond.instantiable RX0 2, Cond.initialized RX0, Cond.fieldLink RX8 12 "SerialPort" "divider" "LSerialPort$Divider;", Cond.classLink RX8 16 RX5, Cond.instantiable RX5 3, Cond.initialized RX5, Cond.fieldLink RX8 21 "SerialPort" "received" "LSerialPort$Ring;", Cond.fieldLink RX8 25 "SerialPort" "sending" "LSerialPort$Ring;", Cond.classLink RX8 28 RX6, Cond.instantiable RX6 4]
def wsL_law0_r2 : List Cond := [Cond.initialized RX6, Cond.fieldLink RX8 31 "SerialPort" "sender" "LSerialPort$Sender;", Cond.classLink RX8 35 RX4, Cond.instantiable RX4 7, Cond.initialized RX4, Cond.fieldLink RX8 38 "SerialPort" "receiver" "LSerialPort$Receiver;", Cond.classLink RX8 42 RX3, Cond.instantiable RX3 4, Cond.initialized RX3, Cond.fieldLink RX8 45 "SerialPort" "modem" "LSerialPort$Modem;", Cond.classLink RX8 49 RX1, Cond.instantiable RX1 2, Cond.initialized RX1, Cond.fieldLink RX8 52 "SerialPort" "lineIn" "LSerialPort$LineIn;", Cond.classLink RX8 56 RX2, Cond.instantiable RX2 2, Cond.initialized RX2, Cond.fieldLink RX8 59 "SerialPort" "lineOut" "LSerialPort$LineOut;", Cond.instanceMethod yX0_init, Cond.code yX0_init cX0_init 1 none, Cond.methodLink RX0 3 objectInit, Cond.methodLink RX8 18 yX5_init, Cond.instanceMethod yX5_init, Cond.code yX5_init cX5_init 2 none]
def wsL_law0_r3 : List Cond := [Cond.methodLink RX5 1 objectInit, Cond.methodLink RX5 7 Lib.Math.max.name, Cond.static Lib.Math.max.name, Cond.initialized "java/lang/Math", Cond.code Lib.Math.max.name Lib.Math.max.code 2 (some .int), Cond.arrayClass .int, Cond.fieldLink RX5 13 "SerialPort$Ring" "cells" "[I", Cond.fieldLink RX5 19 "SerialPort$Ring" "head" "I", Cond.fieldLink RX5 23 "SerialPort$Ring" "size" "I", Cond.instanceMethod yX6_init, Cond.code yX6_init cX6_init 1 none, Cond.methodLink RX6 3 objectInit, Cond.instanceMethod yX4_init, Cond.code yX4_init cX4_init 1 none, Cond.methodLink RX4 3 objectInit, Cond.instanceMethod yX3_init, Cond.code yX3_init cX3_init 1 none, Cond.methodLink RX3 1 objectInit, Cond.instanceMethod yX1_init, Cond.code yX1_init cX1_init 1 none, Cond.methodLink RX1 3 objectInit, Cond.classLink RX1 9 RX5, Cond.fieldLink RX1 14 "SerialPort$LineIn" "wave" "LSerialPort$Ring;", Cond.methodLink RX1 11 yX5_init]
def wsL_law0_r4 : List Cond := [Cond.instanceMethod yX2_init, Cond.code yX2_init cX2_init 1 none, Cond.methodLink RX2 3 objectInit, Cond.classLink RX2 9 RX5, Cond.fieldLink RX2 14 "SerialPort$LineOut" "runs" "LSerialPort$Ring;", Cond.methodLink RX2 11 yX5_init, Cond.methodLink RX8 63 yX8_powerOn, Cond.instanceMethod yX8_powerOn, Cond.selects RX8 yX8_powerOn yX8_powerOn, Cond.code yX8_powerOn cX8_powerOn 1 none, Cond.fieldLink RX8 163 "SerialPort" "wanted" "I", Cond.fieldLink RX8 73 "SerialPort" "lineControl" "I", Cond.fieldLink RX8 166 "SerialPort" "kept" "I", Cond.fieldLink RX8 169 "SerialPort" "level" "I", Cond.fieldLink RX8 172 "SerialPort" "rowsOn" "Z", Cond.fieldLink RX8 176 "SerialPort" "overrun" "Z", Cond.fieldLink RX8 179 "SerialPort" "emptyUp" "Z", Cond.fieldLink RX8 182 "SerialPort" "lateUp" "Z", Cond.fieldLink RX8 127 "SerialPort" "beats" "I", Cond.fieldLink RX8 185 "SerialPort" "quietSince" "I", Cond.methodLink RX8 154 yX0_clear, Cond.instanceMethod yX0_clear, Cond.selects RX0 yX0_clear yX0_clear, Cond.code yX0_clear cX0_clear 1 none]
def wsL_law0_r5 : List Cond := [Cond.fieldLink RX0 9 "SerialPort$Divider" "divisor" "I", Cond.fieldLink RX0 15 "SerialPort$Divider" "passed" "I", Cond.methodLink RX8 157 yX5_clear, Cond.instanceMethod yX5_clear, Cond.selects RX5 yX5_clear yX5_clear, Cond.code yX5_clear cX5_clear 1 none, Cond.methodLink RX8 158 yX6_clear, Cond.instanceMethod yX6_clear, Cond.selects RX6 yX6_clear yX6_clear, Cond.code yX6_clear cX6_clear 1 none, Cond.fieldLink RX6 9 "SerialPort$Sender" "control" "I", Cond.fieldLink RX6 15 "SerialPort$Sender" "character" "I", Cond.fieldLink RX6 18 "SerialPort$Sender" "beat" "I", Cond.fieldLink RX6 21 "SerialPort$Sender" "busy" "Z", Cond.methodLink RX8 159 yX4_clear, Cond.instanceMethod yX4_clear, Cond.selects RX4 yX4_clear yX4_clear, Cond.code yX4_clear cX4_clear 1 none, Cond.fieldLink RX4 15 "SerialPort$Receiver" "busy" "Z", Cond.fieldLink RX4 19 "SerialPort$Receiver" "wasHigh" "Z", Cond.methodLink RX4 9 yX4_begin, Cond.instanceMethod yX4_begin, Cond.selects RX4 yX4_begin yX4_begin, Cond.code yX4_begin cX4_begin 2 none]
def wsL_law0_r6 : List Cond := [Cond.fieldLink RX4 37 "SerialPort$Receiver" "control" "I", Cond.fieldLink RX4 40 "SerialPort$Receiver" "character" "I", Cond.fieldLink RX4 26 "SerialPort$Receiver" "beat" "I", Cond.fieldLink RX4 43 "SerialPort$Receiver" "parityHigh" "Z", Cond.fieldLink RX4 46 "SerialPort$Receiver" "someHigh" "Z", Cond.methodLink RX8 160 yX3_clear, Cond.instanceMethod yX3_clear, Cond.selects RX3 yX3_clear yX3_clear, Cond.code yX3_clear cX3_clear 1 none, Cond.fieldLink RX3 7 "SerialPort$Modem" "outputs" "I", Cond.fieldLink RX3 13 "SerialPort$Modem" "pins" "I", Cond.fieldLink RX3 16 "SerialPort$Modem" "state" "I", Cond.fieldLink RX3 19 "SerialPort$Modem" "changes" "I", Cond.methodLink RX8 161 yX1_clear, Cond.instanceMethod yX1_clear, Cond.selects RX1 yX1_clear yX1_clear, Cond.code yX1_clear cX1_clear 1 none, Cond.fieldLink RX1 23 "SerialPort$LineIn" "high" "Z", Cond.methodLink RX1 20 yX5_clear, Cond.methodLink RX8 162 yX2_clear, Cond.instanceMethod yX2_clear, Cond.selects RX2 yX2_clear yX2_clear, Cond.code yX2_clear cX2_clear 1 none, Cond.fieldLink RX2 23 "SerialPort$LineOut" "inAll" "I"]
def wsL_law0_r7 : List Cond := [Cond.methodLink RX2 20 yX5_clear, Cond.methodLink RL 22 yX9_init, Cond.instanceMethod yX9_init, Cond.code yX9_init cX9_init 1 none, Cond.methodLink RX9 1 objectInit, Cond.fieldLink RX9 9 "SerialPortModel" "received" "[I", Cond.fieldLink RX9 13 "SerialPortModel" "marks" "[I", Cond.fieldLink RX9 16 "SerialPortModel" "sending" "[I", Cond.arrayClass .boolean, Cond.fieldLink RX9 19 "SerialPortModel" "waveHigh" "[Z", Cond.fieldLink RX9 23 "SerialPortModel" "waveBeats" "[I", Cond.fieldLink RX9 26 "SerialPortModel" "runHigh" "[Z", Cond.fieldLink RX9 29 "SerialPortModel" "runBeats" "[I", Cond.methodLink RX9 32 yX9_reset, Cond.instanceMethod yX9_reset, Cond.selects RX9 yX9_reset yX9_reset, Cond.code yX9_reset cX9_reset 1 none, Cond.fieldLink RX9 35 "SerialPortModel" "thrown" "I", Cond.fieldLink RX9 39 "SerialPortModel" "divisor" "I", Cond.fieldLink RX9 42 "SerialPortModel" "clocks" "I", Cond.fieldLink RX9 45 "SerialPortModel" "wanted" "I", Cond.fieldLink RX9 48 "SerialPortModel" "rowsOn" "Z", Cond.fieldLink RX9 52 "SerialPortModel" "level" "I", Cond.fieldLink RX9 55 "SerialPortModel" "form" "I"]
def wsL_law0_r8 : List Cond := [Cond.fieldLink RX9 58 "SerialPortModel" "outputs" "I", Cond.fieldLink RX9 61 "SerialPortModel" "byteKept" "I", Cond.fieldLink RX9 64 "SerialPortModel" "ins" "I", Cond.fieldLink RX9 67 "SerialPortModel" "changed" "I", Cond.fieldLink RX9 70 "SerialPortModel" "receivedMany" "I", Cond.fieldLink RX9 73 "SerialPortModel" "overrun" "Z", Cond.fieldLink RX9 76 "SerialPortModel" "sendingMany" "I", Cond.fieldLink RX9 79 "SerialPortModel" "emptyUp" "Z", Cond.fieldLink RX9 82 "SerialPortModel" "lateUp" "Z", Cond.fieldLink RX9 85 "SerialPortModel" "lateCount" "I", Cond.fieldLink RX9 88 "SerialPortModel" "waveMany" "I", Cond.fieldLink RX9 91 "SerialPortModel" "lineIn" "Z", Cond.fieldLink RX9 94 "SerialPortModel" "sends" "Z", Cond.fieldLink RX9 97 "SerialPortModel" "senderHigh" "Z", Cond.fieldLink RX9 100 "SerialPortModel" "takes" "Z", Cond.fieldLink RX9 103 "SerialPortModel" "sawHigh" "Z", Cond.fieldLink RX9 106 "SerialPortModel" "beats" "I", Cond.fieldLink RX9 109 "SerialPortModel" "out" "Z", Cond.fieldLink RX9 112 "SerialPortModel" "runs" "I", Cond.methodLink RL 23 yL_write, Cond.static yL_write, Cond.initialized RL, Cond.codeWith yL_write cL_write 4 (some .int) [(0, 6, 9, 13)], Cond.classLink RL 13 "java/util/NoSuchElementException"]
def wsL_law0_r9 : List Cond := [Cond.methodLink RL 7 yX8_write, Cond.instanceMethod yX8_write, Cond.selects RX8 yX8_write yX8_write, Cond.code yX8_write cX8_write 4 none, Cond.classLink RX8 66 "java/util/NoSuchElementException", Cond.initialized "java/util/NoSuchElementException", Cond.methodLink RX8 77 yX0_putByte, Cond.instanceMethod yX0_putByte, Cond.selects RX0 yX0_putByte yX0_putByte, Cond.code yX0_putByte cX0_putByte 3 none, Cond.constant RX0 18 (65280), Cond.methodLink RX8 81 yX8_putRegister, Cond.instanceMethod yX8_putRegister, Cond.selects RX8 yX8_putRegister yX8_putRegister, Cond.code yX8_putRegister cX8_putRegister 3 none, Cond.methodLink RX8 188 yX8_putCharacter, Cond.instanceMethod yX8_putCharacter, Cond.selects RX8 yX8_putCharacter yX8_putCharacter, Cond.code yX8_putCharacter cX8_putCharacter 2 none, Cond.methodLink RX8 124 yX5_size, Cond.instanceMethod yX5_size, Cond.selects RX5 yX5_size yX5_size, Cond.code yX5_size cX5_size 1 (some .int), Cond.methodLink RX8 215 yX8_rowRoom]
def wsL_law0_r10 : List Cond := [Cond.instanceMethod yX8_rowRoom, Cond.selects RX8 yX8_rowRoom yX8_rowRoom, Cond.code yX8_rowRoom cX8_rowRoom 1 (some .int), Cond.methodLink RX8 218 yX5_add, Cond.instanceMethod yX5_add, Cond.selects RX5 yX5_add yX5_add, Cond.code yX5_add cX5_add 2 none, Cond.methodLink RX5 33 yX5_setAt, Cond.instanceMethod yX5_setAt, Cond.selects RX5 yX5_setAt yX5_setAt, Cond.code yX5_setAt cX5_setAt 4 none, Cond.methodLink RX5 26 yX5_cellOf, Cond.instanceMethod yX5_cellOf, Cond.selects RX5 yX5_cellOf yX5_cellOf, Cond.code yX5_cellOf cX5_cellOf 3 (some .int), Cond.methodLink RX8 221 yX5_setFirst, Cond.instanceMethod yX5_setFirst, Cond.selects RX5 yX5_setFirst yX5_setFirst, Cond.code yX5_setFirst cX5_setFirst 2 none, Cond.methodLink RX8 191 yX8_putWanted, Cond.instanceMethod yX8_putWanted, Cond.selects RX8 yX8_putWanted yX8_putWanted, Cond.code yX8_putWanted cX8_putWanted 3 none, Cond.methodLink RX8 230 yX5_isEmpty]
def wsL_law0_r11 : List Cond := [Cond.instanceMethod yX5_isEmpty, Cond.selects RX5 yX5_isEmpty yX5_isEmpty, Cond.code yX5_isEmpty cX5_isEmpty 1 (some .boolean), Cond.methodLink RX8 194 yX8_putRowControl, Cond.instanceMethod yX8_putRowControl, Cond.selects RX8 yX8_putRowControl yX8_putRowControl, Cond.code yX8_putRowControl cX8_putRowControl 4 none, Cond.methodLink RX8 233 yX8_levelOf, Cond.static yX8_levelOf, Cond.code yX8_levelOf cX8_levelOf 1 (some .int), Cond.methodLink RX8 197 yX3_putOutputs, Cond.instanceMethod yX3_putOutputs, Cond.selects RX3 yX3_putOutputs yX3_putOutputs, Cond.code yX3_putOutputs cX3_putOutputs 2 none, Cond.methodLink RX3 22 yX3_follow, Cond.instanceMethod yX3_follow, Cond.selects RX3 yX3_follow yX3_follow, Cond.code yX3_follow cX3_follow 3 none, Cond.methodLink RX3 25 yX3_loops, Cond.instanceMethod yX3_loops, Cond.selects RX3 yX3_loops yX3_loops, Cond.code yX3_loops cX3_loops 1 (some .boolean), Cond.methodLink RX3 29 yX3_looped, Cond.instanceMethod yX3_looped]
def wsL_law0_r12 : List Cond := [Cond.selects RX3 yX3_looped yX3_looped, Cond.code yX3_looped cX3_looped 1 (some .int), Cond.methodLink RL 28 yX9_write, Cond.instanceMethod yX9_write, Cond.selects RX9 yX9_write yX9_write, Cond.code yX9_write cX9_write 7 none, Cond.constant RX9 150 (65280), Cond.methodLink RX9 139 yX9_lines, Cond.instanceMethod yX9_lines, Cond.selects RX9 yX9_lines yX9_lines, Cond.code yX9_lines cX9_lines 1 (some .int), Cond.methodLink RX9 135 yX9_loops, Cond.instanceMethod yX9_loops, Cond.selects RX9 yX9_loops yX9_loops, Cond.code yX9_loops cX9_loops 1 (some .boolean), Cond.methodLink RX9 147 yX9_dlab, Cond.instanceMethod yX9_dlab, Cond.selects RX9 yX9_dlab yX9_dlab, Cond.code yX9_dlab cX9_dlab 1 (some .boolean), Cond.methodLink RX9 151 yX9_room, Cond.instanceMethod yX9_room, Cond.selects RX9 yX9_room yX9_room, Cond.code yX9_room cX9_room 1 (some .int), Cond.methodLink RX9 154 yX9_clearReceived]
def wsL_law0_r13 : List Cond := [Cond.instanceMethod yX9_clearReceived, Cond.selects RX9 yX9_clearReceived yX9_clearReceived, Cond.code yX9_clearReceived cX9_clearReceived 1 none, Cond.methodLink RX9 143 yX9_notice, Cond.instanceMethod yX9_notice, Cond.selects RX9 yX9_notice yX9_notice, Cond.code yX9_notice cX9_notice 4 none, Cond.methodLink RL 29 yX9_thrown, Cond.instanceMethod yX9_thrown, Cond.selects RX9 yX9_thrown yX9_thrown, Cond.code yX9_thrown cX9_thrown 1 (some .int), Cond.methodLink RL 33 yL_read, Cond.static yL_read, Cond.codeWith yL_read cL_read 4 (some .int) [(0, 9, 12, 13)], Cond.methodLink RL 15 yX8_read, Cond.instanceMethod yX8_read, Cond.selects RX8 yX8_read yX8_read, Cond.code yX8_read cX8_read 2 (some .int), Cond.methodLink RX8 84 yX0_tellByte, Cond.instanceMethod yX0_tellByte, Cond.selects RX0 yX0_tellByte yX0_tellByte, Cond.code yX0_tellByte cX0_tellByte 2 (some .int), Cond.methodLink RX8 88 yX8_tellRegister, Cond.instanceMethod yX8_tellRegister]
def wsL_law0_r14 : List Cond := [Cond.selects RX8 yX8_tellRegister yX8_tellRegister, Cond.code yX8_tellRegister cX8_tellRegister 2 (some .int), Cond.methodLink RX8 200 yX8_takeCharacter, Cond.instanceMethod yX8_takeCharacter, Cond.selects RX8 yX8_takeCharacter yX8_takeCharacter, Cond.code yX8_takeCharacter cX8_takeCharacter 2 (some .int), Cond.methodLink RX8 224 yX5_first, Cond.instanceMethod yX5_first, Cond.selects RX5 yX5_first yX5_first, Cond.code yX5_first cX5_first 1 (some .int), Cond.methodLink RX5 30 yX5_at, Cond.instanceMethod yX5_at, Cond.selects RX5 yX5_at yX5_at, Cond.code yX5_at cX5_at 3 (some .int), Cond.methodLink RX8 227 yX5_dropFirst, Cond.instanceMethod yX5_dropFirst, Cond.selects RX5 yX5_dropFirst yX5_dropFirst, Cond.code yX5_dropFirst cX5_dropFirst 1 none, Cond.methodLink RX8 203 yX8_tellReason, Cond.instanceMethod yX8_tellReason, Cond.selects RX8 yX8_tellReason yX8_tellReason, Cond.code yX8_tellReason cX8_tellReason 2 (some .int), Cond.methodLink RX8 130 yX8_reason, Cond.instanceMethod yX8_reason]
def wsL_law0_r15 : List Cond := [Cond.selects RX8 yX8_reason yX8_reason, Cond.code yX8_reason cX8_reason 1 (some .int), Cond.methodLink RX8 245 yX8_wants, Cond.instanceMethod yX8_wants, Cond.selects RX8 yX8_wants yX8_wants, Cond.code yX8_wants cX8_wants 2 (some .boolean), Cond.methodLink RX8 239 yX8_firstFaults, Cond.instanceMethod yX8_firstFaults, Cond.selects RX8 yX8_firstFaults yX8_firstFaults, Cond.code yX8_firstFaults cX8_firstFaults 1 (some .int), Cond.methodLink RX8 248 yX3_hasChanged, Cond.instanceMethod yX3_hasChanged, Cond.selects RX3 yX3_hasChanged yX3_hasChanged, Cond.code yX3_hasChanged cX3_hasChanged 1 (some .boolean), Cond.methodLink RX8 206 yX3_outputs, Cond.instanceMethod yX3_outputs, Cond.selects RX3 yX3_outputs yX3_outputs, Cond.code yX3_outputs cX3_outputs 1 (some .int), Cond.methodLink RX8 209 yX8_tellLineState, Cond.instanceMethod yX8_tellLineState, Cond.selects RX8 yX8_tellLineState yX8_tellLineState, Cond.code yX8_tellLineState cX8_tellLineState 2 (some .int), Cond.methodLink RX8 140 yX6_isBusy, Cond.instanceMethod yX6_isBusy]
def wsL_law0_r16 : List Cond := [Cond.selects RX6 yX6_isBusy yX6_isBusy, Cond.code yX6_isBusy cX6_isBusy 1 (some .boolean), Cond.methodLink RX8 242 yX8_someFault, Cond.instanceMethod yX8_someFault, Cond.selects RX8 yX8_someFault yX8_someFault, Cond.code yX8_someFault cX8_someFault 2 (some .boolean), Cond.methodLink RX8 236 yX5_at, Cond.methodLink RX8 212 yX3_tellState, Cond.instanceMethod yX3_tellState, Cond.selects RX3 yX3_tellState yX3_tellState, Cond.code yX3_tellState cX3_tellState 2 (some .int), Cond.methodLink RL 36 yX9_read, Cond.instanceMethod yX9_read, Cond.selects RX9 yX9_read yX9_read, Cond.code yX9_read cX9_read 3 (some .int), Cond.methodLink RX9 160 yX9_take, Cond.instanceMethod yX9_take, Cond.selects RX9 yX9_take yX9_take, Cond.code yX9_take cX9_take 3 (some .int), Cond.methodLink RX9 163 yX9_reason, Cond.instanceMethod yX9_reason, Cond.selects RX9 yX9_reason yX9_reason, Cond.code yX9_reason cX9_reason 1 (some .int), Cond.methodLink RX9 157 yX9_isMarked]
def wsL_law0_r17 : List Cond := [Cond.instanceMethod yX9_isMarked, Cond.selects RX9 yX9_isMarked yX9_isMarked, Cond.code yX9_isMarked cX9_isMarked 1 (some .boolean), Cond.methodLink RX9 166 yX9_line, Cond.instanceMethod yX9_line, Cond.selects RX9 yX9_line yX9_line, Cond.code yX9_line cX9_line 4 (some .int), Cond.methodLink RL 37 yX8_clock, Cond.instanceMethod yX8_clock, Cond.selects RX8 yX8_clock yX8_clock, Cond.code yX8_clock cX8_clock 4 (some .int), Cond.constant RX8 91 (60000), Cond.methodLink RX8 92 yX0_pass, Cond.instanceMethod yX0_pass, Cond.selects RX0 yX0_pass yX0_pass, Cond.code yX0_pass cX0_pass 3 (some .int), Cond.methodLink RX8 95 yX8_beat, Cond.instanceMethod yX8_beat, Cond.selects RX8 yX8_beat yX8_beat, Cond.code yX8_beat cX8_beat 5 none, Cond.methodLink RX8 251 yX8_stepSender, Cond.instanceMethod yX8_stepSender, Cond.selects RX8 yX8_stepSender yX8_stepSender, Cond.code yX8_stepSender cX8_stepSender 1 (some .boolean)]
def wsL_law0_r18 : List Cond := [Cond.methodLink RX8 273 yX6_begin, Cond.instanceMethod yX6_begin, Cond.selects RX6 yX6_begin yX6_begin, Cond.code yX6_begin cX6_begin 3 none, Cond.methodLink RX8 276 yX6_next, Cond.instanceMethod yX6_next, Cond.selects RX6 yX6_next yX6_next, Cond.code yX6_next cX6_next 2 (some .boolean), Cond.methodLink RX6 25 yX7_pieceIsHigh, Cond.static yX7_pieceIsHigh, Cond.initialized RX7, Cond.code yX7_pieceIsHigh cX7_pieceIsHigh 4 (some .boolean), Cond.methodLink RX7 11 yX7_dataBits, Cond.static yX7_dataBits, Cond.code yX7_dataBits cX7_dataBits 1 (some .int), Cond.methodLink RX7 15 yX7_hasParity, Cond.static yX7_hasParity, Cond.code yX7_hasParity cX7_hasParity 1 (some .boolean), Cond.methodLink RX7 30 yX7_parityIsHigh, Cond.static yX7_parityIsHigh, Cond.code yX7_parityIsHigh cX7_parityIsHigh 5 (some .boolean), Cond.methodLink RX7 25 yJ6_bitCount_0f7a4, Cond.static yJ6_bitCount_0f7a4, Cond.initialized RJ6]
def wsL_law0_r19 : List Cond := [Cond.code yJ6_bitCount_0f7a4 cJ6_bitCount_0f7a4 1 (some .int), Cond.constant RJ6 265 (1431655765), Cond.constant RJ6 266 (858993459), Cond.constant RJ6 267 (252645135), Cond.methodLink RX6 31 yX7_beats, Cond.static yX7_beats, Cond.code yX7_beats cX7_beats 1 (some .int), Cond.methodLink RX7 19 yX7_pieces, Cond.static yX7_pieces, Cond.code yX7_pieces cX7_pieces 1 (some .int), Cond.methodLink RX7 22 yX7_stopBeats, Cond.static yX7_stopBeats, Cond.code yX7_stopBeats cX7_stopBeats 1 (some .int), Cond.methodLink RX8 254 yX3_loops, Cond.methodLink RX8 257 yX2_append, Cond.instanceMethod yX2_append, Cond.selects RX2 yX2_append yX2_append, Cond.code yX2_append cX2_append 2 none, Cond.methodLink RX2 27 yX5_isEmpty, Cond.methodLink RX2 31 yX2_runIsHigh, Cond.instanceMethod yX2_runIsHigh, Cond.selects RX2 yX2_runIsHigh yX2_runIsHigh, Cond.code yX2_runIsHigh cX2_runIsHigh 2 (some .boolean), Cond.methodLink RX2 39 yX2_fromEnd]
def wsL_law0_r20 : List Cond := [Cond.instanceMethod yX2_fromEnd, Cond.selects RX2 yX2_fromEnd yX2_fromEnd, Cond.code yX2_fromEnd cX2_fromEnd 2 (some .int), Cond.methodLink RX2 35 yX5_size, Cond.methodLink RX2 56 yX5_at, Cond.methodLink RX2 43 yX5_setAt, Cond.methodLink RX2 47 yX5_room, Cond.instanceMethod yX5_room, Cond.selects RX5 yX5_room yX5_room, Cond.code yX5_room cX5_room 1 (some .int), Cond.methodLink RX2 50 yX5_dropFirst, Cond.methodLink RX2 53 yX5_add, Cond.methodLink RX8 260 yX1_next, Cond.instanceMethod yX1_next, Cond.selects RX1 yX1_next yX1_next, Cond.code yX1_next cX1_next 2 (some .boolean), Cond.methodLink RX1 37 yX5_isEmpty, Cond.methodLink RX1 41 yX5_first, Cond.methodLink RX1 44 yX5_setFirst, Cond.methodLink RX1 47 yX5_dropFirst, Cond.methodLink RX8 263 yX4_step, Cond.instanceMethod yX4_step, Cond.selects RX4 yX4_step yX4_step, Cond.code yX4_step cX4_step 3 (some .int)]
def wsL_law0_r21 : List Cond := [Cond.methodLink RX4 22 yX4_listen, Cond.instanceMethod yX4_listen, Cond.selects RX4 yX4_listen yX4_listen, Cond.code yX4_listen cX4_listen 3 none, Cond.methodLink RX4 30 yX4_seeStart, Cond.instanceMethod yX4_seeStart, Cond.selects RX4 yX4_seeStart yX4_seeStart, Cond.code yX4_seeStart cX4_seeStart 2 (some .int), Cond.methodLink RX4 49 yX4_becomeIdle, Cond.instanceMethod yX4_becomeIdle, Cond.selects RX4 yX4_becomeIdle yX4_becomeIdle, Cond.code yX4_becomeIdle cX4_becomeIdle 2 none, Cond.methodLink RX4 34 yX4_see, Cond.instanceMethod yX4_see, Cond.selects RX4 yX4_see yX4_see, Cond.code yX4_see cX4_see 4 (some .int), Cond.methodLink RX4 53 yX7_dataBits, Cond.methodLink RX4 59 yX7_hasParity, Cond.methodLink RX4 63 yX4_faults, Cond.instanceMethod yX4_faults, Cond.selects RX4 yX4_faults yX4_faults, Cond.code yX4_faults cX4_faults 3 (some .int), Cond.methodLink RX4 66 yX7_parityIsHigh, Cond.methodLink RX8 267 yX8_addReceived]
def wsL_law0_r22 : List Cond := [Cond.instanceMethod yX8_addReceived, Cond.selects RX8 yX8_addReceived yX8_addReceived, Cond.code yX8_addReceived cX8_addReceived 2 none, Cond.methodLink RX8 270 yX8_stepLate, Cond.instanceMethod yX8_stepLate, Cond.selects RX8 yX8_stepLate yX8_stepLate, Cond.code yX8_stepLate cX8_stepLate 1 none, Cond.methodLink RX8 277 yX7_beats, Cond.methodLink RL 40 yX9_clock, Cond.instanceMethod yX9_clock, Cond.selects RX9 yX9_clock yX9_clock, Cond.code yX9_clock cX9_clock 4 (some .int), Cond.constant RX9 214 (60000), Cond.methodLink RX9 215 yX9_beat, Cond.instanceMethod yX9_beat, Cond.selects RX9 yX9_beat yX9_beat, Cond.code yX9_beat cX9_beat 1 none, Cond.methodLink RX9 201 yX9_send, Cond.instanceMethod yX9_send, Cond.selects RX9 yX9_send yX9_send, Cond.code yX9_send cX9_send 2 none, Cond.fieldLink RX9 169 "SerialPortModel" "sentCharacter" "I", Cond.fieldLink RX9 172 "SerialPortModel" "sentForm" "I", Cond.fieldLink RX9 175 "SerialPortModel" "sentBeat" "I"]
def wsL_law0_r23 : List Cond := [Cond.methodLink RX9 178 yX9_partOf, Cond.static yX9_partOf, Cond.code yX9_partOf cX9_partOf 4 (some .boolean), Cond.methodLink RX9 115 yX9_bitsOf, Cond.static yX9_bitsOf, Cond.code yX9_bitsOf cX9_bitsOf 1 (some .int), Cond.methodLink RX9 124 yX9_hasParity, Cond.static yX9_hasParity, Cond.code yX9_hasParity cX9_hasParity 1 (some .boolean), Cond.methodLink RX9 131 yX9_parityOf, Cond.static yX9_parityOf, Cond.code yX9_parityOf cX9_parityOf 3 (some .int), Cond.methodLink RX9 119 yJ6_bitCount_0f7a4, Cond.methodLink RX9 182 yX9_frameOf, Cond.static yX9_frameOf, Cond.code yX9_frameOf cX9_frameOf 1 (some .int), Cond.methodLink RX9 128 yX9_stopOf, Cond.static yX9_stopOf, Cond.code yX9_stopOf cX9_stopOf 1 (some .int), Cond.methodLink RX9 204 yX9_say, Cond.instanceMethod yX9_say, Cond.selects RX9 yX9_say yX9_say, Cond.code yX9_say cX9_say 2 none, Cond.methodLink RX9 208 yX9_come]
def wsL_law0_r24 : List Cond := [Cond.instanceMethod yX9_come, Cond.selects RX9 yX9_come yX9_come, Cond.code yX9_come cX9_come 2 none, Cond.methodLink RX9 211 yX9_receive, Cond.instanceMethod yX9_receive, Cond.selects RX9 yX9_receive yX9_receive, Cond.code yX9_receive cX9_receive 5 none, Cond.fieldLink RX9 185 "SerialPortModel" "takenForm" "I", Cond.fieldLink RX9 188 "SerialPortModel" "takenBeat" "I", Cond.fieldLink RX9 191 "SerialPortModel" "takenBits" "I", Cond.fieldLink RX9 194 "SerialPortModel" "takenParity" "I", Cond.methodLink RX9 197 yX9_put, Cond.instanceMethod yX9_put, Cond.selects RX9 yX9_put yX9_put, Cond.code yX9_put cX9_put 3 none, Cond.methodLink RL 41 yX8_wave, Cond.instanceMethod yX8_wave, Cond.selects RX8 yX8_wave yX8_wave, Cond.code yX8_wave cX8_wave 3 (some .int), Cond.methodLink RX8 98 yX1_room, Cond.instanceMethod yX1_room, Cond.selects RX1 yX1_room yX1_room, Cond.code yX1_room cX1_room 1 (some .int), Cond.methodLink RX1 31 yX5_room]
def wsL_law0_r25 : List Cond := [Cond.methodLink RX8 102 yX1_append, Cond.instanceMethod yX1_append, Cond.selects RX1 yX1_append yX1_append, Cond.code yX1_append cX1_append 3 none, Cond.methodLink RX1 34 yX5_add, Cond.methodLink RX8 106 yX1_pieces, Cond.instanceMethod yX1_pieces, Cond.selects RX1 yX1_pieces yX1_pieces, Cond.code yX1_pieces cX1_pieces 1 (some .int), Cond.methodLink RX1 27 yX5_size, Cond.methodLink RL 45 yX9_wave, Cond.instanceMethod yX9_wave, Cond.selects RX9 yX9_wave yX9_wave, Cond.code yX9_wave cX9_wave 3 (some .int), Cond.methodLink RL 46 yX8_frame, Cond.instanceMethod yX8_frame, Cond.selects RX8 yX8_frame yX8_frame, Cond.code yX8_frame cX8_frame 6 (some .int), Cond.methodLink RX8 109 yX7_pieces, Cond.methodLink RX8 113 yX7_pieceIsHigh, Cond.methodLink RX8 117 yX7_pieceBeats, Cond.static yX7_pieceBeats, Cond.code yX7_pieceBeats cX7_pieceBeats 2 (some .int), Cond.methodLink RL 50 yX9_frame]
def wsL_law0_r26 : List Cond := [Cond.instanceMethod yX9_frame, Cond.selects RX9 yX9_frame yX9_frame, Cond.code yX9_frame cX9_frame 6 (some .int), Cond.methodLink RL 51 yX8_inputs, Cond.instanceMethod yX8_inputs, Cond.selects RX8 yX8_inputs yX8_inputs, Cond.code yX8_inputs cX8_inputs 2 (some .boolean), Cond.methodLink RX8 121 yX3_putPins, Cond.instanceMethod yX3_putPins, Cond.selects RX3 yX3_putPins yX3_putPins, Cond.code yX3_putPins cX3_putPins 2 none, Cond.methodLink RL 55 yX9_inputs, Cond.instanceMethod yX9_inputs, Cond.selects RX9 yX9_inputs yX9_inputs, Cond.code yX9_inputs cX9_inputs 3 (some .boolean), Cond.methodLink RL 56 yX8_reset, Cond.instanceMethod yX8_reset, Cond.selects RX8 yX8_reset yX8_reset, Cond.code yX8_reset cX8_reset 1 none, Cond.methodLink RL 59 yX9_reset, Cond.methodLink RL 60 yX8_count, Cond.instanceMethod yX8_count, Cond.selects RX8 yX8_count yX8_count, Cond.code yX8_count cX8_count 2 (some .int)]
def wsL_law0_r27 : List Cond := [Cond.methodLink RX8 133 yX2_isHigh, Cond.instanceMethod yX2_isHigh, Cond.selects RX2 yX2_isHigh yX2_isHigh, Cond.code yX2_isHigh cX2_isHigh 1 (some .boolean), Cond.methodLink RX8 137 yX2_runsInAll, Cond.instanceMethod yX2_runsInAll, Cond.selects RX2 yX2_runsInAll yX2_runsInAll, Cond.code yX2_runsInAll cX2_runsInAll 1 (some .int), Cond.methodLink RX8 143 yX4_isBusy, Cond.instanceMethod yX4_isBusy, Cond.selects RX4 yX4_isBusy yX4_isBusy, Cond.code yX4_isBusy cX4_isBusy 1 (some .boolean), Cond.methodLink RL 63 yX9_count, Cond.instanceMethod yX9_count, Cond.selects RX9 yX9_count yX9_count, Cond.code yX9_count cX9_count 2 (some .int), Cond.methodLink RL 64 yX8_run, Cond.instanceMethod yX8_run, Cond.selects RX8 yX8_run yX8_run, Cond.code yX8_run cX8_run 3 (some .int), Cond.methodLink RX8 144 yX2_runsKept, Cond.instanceMethod yX2_runsKept, Cond.selects RX2 yX2_runsKept yX2_runsKept, Cond.code yX2_runsKept cX2_runsKept 1 (some .int)]
def wsL_law0_r28 : List Cond := [Cond.methodLink RX8 147 yX2_runIsHigh, Cond.methodLink RX8 151 yX2_runBeats, Cond.instanceMethod yX2_runBeats, Cond.selects RX2 yX2_runBeats yX2_runBeats, Cond.code yX2_runBeats cX2_runBeats 2 (some .int), Cond.methodLink RL 67 yX9_run, Cond.instanceMethod yX9_run, Cond.selects RX9 yX9_run yX9_run, Cond.code yX9_run cX9_run 4 (some .int)]
def wsL_law0 : List Cond := (wsL_law0_r1 ++ (wsL_law0_r2 ++ (wsL_law0_r3 ++ (wsL_law0_r4 ++ (wsL_law0_r5 ++ (wsL_law0_r6 ++ (wsL_law0_r7 ++ (wsL_law0_r8 ++ (wsL_law0_r9 ++ (wsL_law0_r10 ++ (wsL_law0_r11 ++ (wsL_law0_r12 ++ (wsL_law0_r13 ++ (wsL_law0_r14 ++ (wsL_law0_r15 ++ (wsL_law0_r16 ++ (wsL_law0_r17 ++ (wsL_law0_r18 ++ (wsL_law0_r19 ++ (wsL_law0_r20 ++ (wsL_law0_r21 ++ (wsL_law0_r22 ++ (wsL_law0_r23 ++ (wsL_law0_r24 ++ (wsL_law0_r25 ++ (wsL_law0_r26 ++ (wsL_law0_r27 ++ wsL_law0_r28))))))))))))))))))))))))))) ++ wsX80 ++ wsX90 ++ wsX00 ++ wsX50 ++ wsX60 ++ wsX40 ++ wsX30 ++ wsX10 ++ wsX20 ++ ([] : List Cond)
def wsL_law : List Cond := wsL_law0 ++ (vx_atS RX8 70 "java/util/NoSuchElementException" ["java/lang/RuntimeException", "java/lang/Exception"]).filter goodWord
set_option maxRecDepth 20000 in
theorem wsL_law_in0 : ∀ w ∈ wsL_law0, w ∈ lw_tbl := fun w h => (goodIn_p wsL_law0 [66, 69, 74, 87, 91, 107, 126, 154, 173, 188, 202, 206, 210, 214, 218, 222, 226, 230, 235, 698, 703, 559, 629, 634, 638, 388, 450, 402, 393, 328, 413, 642, 316, 646, 649, 653, 497, 371, 502, 850, 838, 842, 854, 859, 863, 846, 829, 660, 664, 668, 672, 320, 324, 336, 676, 514, 518, 522, 526, 680, 684, 312, 688, 693, 867, 871, 875, 879, 883, 295, 300, 304, 308, 332, 340, 343, 346, 349, 352, 355, 361, 364, 367, 375, 380, 384, 397, 407, 418, 422, 426, 430, 434, 440, 445, 456, 887, 892, 896, 899, 902, 905, 908, 912, 915, 919, 923, 927, 931, 461, 465, 470, 475, 935, 480, 485, 939, 489, 493, 834, 506, 510, 530, 534, 538, 943, 542, 546, 551, 947] (by decide +kernel) (by decide +kernel) w h).1
theorem wsL_law_x0 : ∀ w ∈ (vx_atS RX8 70 "java/util/NoSuchElementException" ["java/lang/RuntimeException", "java/lang/Exception"]).filter goodWord, w ∈ lw_tbl := by decide +kernel
theorem wsL_law_in : ∀ w ∈ wsL_law, w ∈ lw_tbl := fun w h => (List.mem_append.mp h).elim (fun h => wsL_law_in0 w h) (fun h => wsL_law_x0 w h)
theorem inlX0 : ∀ w ∈ wsX00, w ∈ wsL_law := fun _ h => List.mem_append_left _ (List.mem_append_left _ (List.mem_append_left _ (List.mem_append_left _ (List.mem_append_left _ (List.mem_append_left _ (List.mem_append_left _ (List.mem_append_left _ (List.mem_append_right _ h))))))))
theorem inX0 : ∀ w ∈ wsX00, w ∈ lw_tbl := fun w h => wsL_law_in w (inlX0 w h)
theorem inlX1 : ∀ w ∈ wsX10, w ∈ wsL_law := fun _ h => List.mem_append_left _ (List.mem_append_left _ (List.mem_append_left _ (List.mem_append_right _ h)))
theorem inX1 : ∀ w ∈ wsX10, w ∈ lw_tbl := fun w h => wsL_law_in w (inlX1 w h)
theorem inlX2 : ∀ w ∈ wsX20, w ∈ wsL_law := fun _ h => List.mem_append_left _ (List.mem_append_left _ (List.mem_append_right _ h))
theorem inX2 : ∀ w ∈ wsX20, w ∈ lw_tbl := fun w h => wsL_law_in w (inlX2 w h)
theorem inlX3 : ∀ w ∈ wsX30, w ∈ wsL_law := fun _ h => List.mem_append_left _ (List.mem_append_left _ (List.mem_append_left _ (List.mem_append_left _ (List.mem_append_right _ h))))
theorem inX3 : ∀ w ∈ wsX30, w ∈ lw_tbl := fun w h => wsL_law_in w (inlX3 w h)
theorem inlX4 : ∀ w ∈ wsX40, w ∈ wsL_law := fun _ h => List.mem_append_left _ (List.mem_append_left _ (List.mem_append_left _ (List.mem_append_left _ (List.mem_append_left _ (List.mem_append_right _ h)))))
theorem inX4 : ∀ w ∈ wsX40, w ∈ lw_tbl := fun w h => wsL_law_in w (inlX4 w h)
theorem inlX5 : ∀ w ∈ wsX50, w ∈ wsL_law := fun _ h => List.mem_append_left _ (List.mem_append_left _ (List.mem_append_left _ (List.mem_append_left _ (List.mem_append_left _ (List.mem_append_left _ (List.mem_append_left _ (List.mem_append_right _ h)))))))
theorem inX5 : ∀ w ∈ wsX50, w ∈ lw_tbl := fun w h => wsL_law_in w (inlX5 w h)
theorem inlX6 : ∀ w ∈ wsX60, w ∈ wsL_law := fun _ h => List.mem_append_left _ (List.mem_append_left _ (List.mem_append_left _ (List.mem_append_left _ (List.mem_append_left _ (List.mem_append_left _ (List.mem_append_right _ h))))))
theorem inX6 : ∀ w ∈ wsX60, w ∈ lw_tbl := fun w h => wsL_law_in w (inlX6 w h)
theorem inX7 : ∀ w ∈ wsX70, w ∈ lw_tbl := by decide +kernel
theorem inlX8 : ∀ w ∈ wsX80, w ∈ wsL_law := fun _ h => List.mem_append_left _ (List.mem_append_left _ (List.mem_append_left _ (List.mem_append_left _ (List.mem_append_left _ (List.mem_append_left _ (List.mem_append_left _ (List.mem_append_left _ (List.mem_append_left _ (List.mem_append_left _ (List.mem_append_right _ h))))))))))
theorem inX8 : ∀ w ∈ wsX80, w ∈ lw_tbl := fun w h => wsL_law_in w (inlX8 w h)
theorem inlX9 : ∀ w ∈ wsX90, w ∈ wsL_law := fun _ h => List.mem_append_left _ (List.mem_append_left _ (List.mem_append_left _ (List.mem_append_left _ (List.mem_append_left _ (List.mem_append_left _ (List.mem_append_left _ (List.mem_append_left _ (List.mem_append_left _ (List.mem_append_right _ h)))))))))
theorem inX9 : ∀ w ∈ wsX90, w ∈ lw_tbl := fun w h => wsL_law_in w (inlX9 w h)
theorem inJ6 : ∀ w ∈ wsJ60, w ∈ lw_tbl := by decide +kernel
theorem inJ9 : ∀ w ∈ wsJ90, w ∈ lw_tbl := by decide +kernel
theorem inJ0 : ∀ w ∈ wsJ00, w ∈ lw_tbl := by decide +kernel
theorem dX0_init_0 : decode cX0_init 0 = .ok (.aload_n 0, 1) := by decide +kernel
theorem dX0_init_1 : decode cX0_init 1 = .ok (.invokespecial 3, 3) := by decide +kernel
theorem dX0_init_4 : decode cX0_init 4 = .ok (.return_, 1) := by decide +kernel
theorem dX0_clear_0 : decode cX0_clear 0 = .ok (.aload_n 0, 1) := by decide +kernel
theorem dX0_clear_1 : decode cX0_clear 1 = .ok (.iconst 0, 1) := by decide +kernel
theorem dX0_clear_2 : decode cX0_clear 2 = .ok (.putfield 9, 3) := by decide +kernel
theorem dX0_clear_5 : decode cX0_clear 5 = .ok (.aload_n 0, 1) := by decide +kernel
theorem dX0_clear_6 : decode cX0_clear 6 = .ok (.iconst 0, 1) := by decide +kernel
theorem dX0_clear_7 : decode cX0_clear 7 = .ok (.putfield 15, 3) := by decide +kernel
theorem dX0_clear_10 : decode cX0_clear 10 = .ok (.return_, 1) := by decide +kernel
theorem dX0_putByte_0 : decode cX0_putByte 0 = .ok (.aload_n 0, 1) := by decide +kernel
theorem dX0_putByte_1 : decode cX0_putByte 1 = .ok (.iload_n 1, 1) := by decide +kernel
theorem dX0_putByte_2 : decode cX0_putByte 2 = .ok (.ifCond .ne 15, 3) := by decide +kernel
theorem dX0_putByte_5 : decode cX0_putByte 5 = .ok (.aload_n 0, 1) := by decide +kernel
theorem dX0_putByte_6 : decode cX0_putByte 6 = .ok (.getfield 9, 3) := by decide +kernel
theorem dX0_putByte_9 : decode cX0_putByte 9 = .ok (.ldc 18, 2) := by decide +kernel
theorem dX0_putByte_11 : decode cX0_putByte 11 = .ok (.iand, 1) := by decide +kernel
theorem dX0_putByte_12 : decode cX0_putByte 12 = .ok (.iload_n 2, 1) := by decide +kernel
theorem dX0_putByte_13 : decode cX0_putByte 13 = .ok (.ior, 1) := by decide +kernel
theorem dX0_putByte_14 : decode cX0_putByte 14 = .ok (.goto 16, 3) := by decide +kernel
theorem dX0_putByte_17 : decode cX0_putByte 17 = .ok (.aload_n 0, 1) := by decide +kernel
theorem dX0_putByte_18 : decode cX0_putByte 18 = .ok (.getfield 9, 3) := by decide +kernel
theorem dX0_putByte_21 : decode cX0_putByte 21 = .ok (.sipush 255, 3) := by decide +kernel
theorem dX0_putByte_24 : decode cX0_putByte 24 = .ok (.iand, 1) := by decide +kernel
theorem dX0_putByte_25 : decode cX0_putByte 25 = .ok (.iload_n 2, 1) := by decide +kernel
theorem dX0_putByte_26 : decode cX0_putByte 26 = .ok (.bipush 8, 2) := by decide +kernel
theorem dX0_putByte_28 : decode cX0_putByte 28 = .ok (.ishl, 1) := by decide +kernel
theorem dX0_putByte_29 : decode cX0_putByte 29 = .ok (.ior, 1) := by decide +kernel
theorem dX0_putByte_30 : decode cX0_putByte 30 = .ok (.putfield 9, 3) := by decide +kernel
theorem dX0_putByte_33 : decode cX0_putByte 33 = .ok (.aload_n 0, 1) := by decide +kernel
theorem dX0_putByte_34 : decode cX0_putByte 34 = .ok (.iconst 0, 1) := by decide +kernel
theorem dX0_putByte_35 : decode cX0_putByte 35 = .ok (.putfield 15, 3) := by decide +kernel
theorem dX0_putByte_38 : decode cX0_putByte 38 = .ok (.return_, 1) := by decide +kernel
theorem dX0_tellByte_0 : decode cX0_tellByte 0 = .ok (.iload_n 1, 1) := by decide +kernel
theorem dX0_tellByte_1 : decode cX0_tellByte 1 = .ok (.ifCond .ne 14, 3) := by decide +kernel
theorem dX0_tellByte_4 : decode cX0_tellByte 4 = .ok (.aload_n 0, 1) := by decide +kernel
theorem dX0_tellByte_5 : decode cX0_tellByte 5 = .ok (.getfield 9, 3) := by decide +kernel
theorem dX0_tellByte_8 : decode cX0_tellByte 8 = .ok (.sipush 255, 3) := by decide +kernel
theorem dX0_tellByte_11 : decode cX0_tellByte 11 = .ok (.iand, 1) := by decide +kernel
theorem dX0_tellByte_12 : decode cX0_tellByte 12 = .ok (.goto 14, 3) := by decide +kernel
theorem dX0_tellByte_15 : decode cX0_tellByte 15 = .ok (.aload_n 0, 1) := by decide +kernel
theorem dX0_tellByte_16 : decode cX0_tellByte 16 = .ok (.getfield 9, 3) := by decide +kernel
theorem dX0_tellByte_19 : decode cX0_tellByte 19 = .ok (.bipush 8, 2) := by decide +kernel
theorem dX0_tellByte_21 : decode cX0_tellByte 21 = .ok (.ishr, 1) := by decide +kernel
theorem dX0_tellByte_22 : decode cX0_tellByte 22 = .ok (.sipush 255, 3) := by decide +kernel
theorem dX0_tellByte_25 : decode cX0_tellByte 25 = .ok (.iand, 1) := by decide +kernel
theorem dX0_tellByte_26 : decode cX0_tellByte 26 = .ok (.ireturn, 1) := by decide +kernel
theorem dX0_pass_0 : decode cX0_pass 0 = .ok (.aload_n 0, 1) := by decide +kernel
theorem dX0_pass_1 : decode cX0_pass 1 = .ok (.getfield 9, 3) := by decide +kernel
theorem dX0_pass_4 : decode cX0_pass 4 = .ok (.ifCond .gt 5, 3) := by decide +kernel
theorem dX0_pass_7 : decode cX0_pass 7 = .ok (.iconst 0, 1) := by decide +kernel
theorem dX0_pass_8 : decode cX0_pass 8 = .ok (.ireturn, 1) := by decide +kernel
theorem dX0_pass_9 : decode cX0_pass 9 = .ok (.aload_n 0, 1) := by decide +kernel
theorem dX0_pass_10 : decode cX0_pass 10 = .ok (.getfield 15, 3) := by decide +kernel
theorem dX0_pass_13 : decode cX0_pass 13 = .ok (.iload_n 1, 1) := by decide +kernel
theorem dX0_pass_14 : decode cX0_pass 14 = .ok (.iadd, 1) := by decide +kernel
theorem dX0_pass_15 : decode cX0_pass 15 = .ok (.istore_n 2, 1) := by decide +kernel
theorem dX0_pass_16 : decode cX0_pass 16 = .ok (.aload_n 0, 1) := by decide +kernel
theorem dX0_pass_17 : decode cX0_pass 17 = .ok (.iload_n 2, 1) := by decide +kernel
theorem dX0_pass_18 : decode cX0_pass 18 = .ok (.aload_n 0, 1) := by decide +kernel
theorem dX0_pass_19 : decode cX0_pass 19 = .ok (.getfield 9, 3) := by decide +kernel
theorem dX0_pass_22 : decode cX0_pass 22 = .ok (.irem, 1) := by decide +kernel
theorem dX0_pass_23 : decode cX0_pass 23 = .ok (.putfield 15, 3) := by decide +kernel
theorem dX0_pass_26 : decode cX0_pass 26 = .ok (.iload_n 2, 1) := by decide +kernel
theorem dX0_pass_27 : decode cX0_pass 27 = .ok (.aload_n 0, 1) := by decide +kernel
theorem dX0_pass_28 : decode cX0_pass 28 = .ok (.getfield 9, 3) := by decide +kernel
theorem dX0_pass_31 : decode cX0_pass 31 = .ok (.idiv, 1) := by decide +kernel
theorem dX0_pass_32 : decode cX0_pass 32 = .ok (.ireturn, 1) := by decide +kernel
set_option maxRecDepth 20000 in
theorem ggX1_init_X5_init : GoodIn wsX1_init wsX5_init := goodIn_r _ [10, 11, 2, 3, 12, 13, 14, 15, 16, 17, 18, 19, 20, 21, 22] (by decide +kernel) (by decide +kernel)
set_option maxRecDepth 20000 in
theorem gX1_init_X5_init : GoodIn wsX1_init (wsX5_init) := ggX1_init_X5_init
theorem dX1_init_0 : decode cX1_init 0 = .ok (.aload_n 0, 1) := by decide +kernel
theorem dX1_init_1 : decode cX1_init 1 = .ok (.invokespecial 3, 3) := by decide +kernel
theorem dX1_init_4 : decode cX1_init 4 = .ok (.aload_n 0, 1) := by decide +kernel
theorem dX1_init_5 : decode cX1_init 5 = .ok (.new 9, 3) := by decide +kernel
theorem dX1_init_8 : decode cX1_init 8 = .ok (.dup, 1) := by decide +kernel
theorem dX1_init_9 : decode cX1_init 9 = .ok (.sipush 500, 3) := by decide +kernel
theorem dX1_init_12 : decode cX1_init 12 = .ok (.invokespecial 11, 3) := by decide +kernel
theorem dX1_init_15 : decode cX1_init 15 = .ok (.putfield 14, 3) := by decide +kernel
theorem dX1_init_18 : decode cX1_init 18 = .ok (.return_, 1) := by decide +kernel
set_option maxRecDepth 20000 in
theorem ggX1_clear_X5_clear : GoodIn wsX1_clear wsX5_clear := goodIn_r _ [7, 8, 9, 12, 13, 14] (by decide +kernel) (by decide +kernel)
set_option maxRecDepth 20000 in
theorem gX1_clear_X5_clear : GoodIn wsX1_clear (wsV RX1 20 RX5 yX5_clear wsX5_clear) := goodIn_app (goodIn_of _ (by decide +kernel)) ggX1_clear_X5_clear
theorem dX1_clear_0 : decode cX1_clear 0 = .ok (.aload_n 0, 1) := by decide +kernel
theorem dX1_clear_1 : decode cX1_clear 1 = .ok (.getfield 14, 3) := by decide +kernel
theorem dX1_clear_4 : decode cX1_clear 4 = .ok (.invokevirtual 20, 3) := by decide +kernel
theorem dX1_clear_7 : decode cX1_clear 7 = .ok (.aload_n 0, 1) := by decide +kernel
theorem dX1_clear_8 : decode cX1_clear 8 = .ok (.iconst 1, 1) := by decide +kernel
theorem dX1_clear_9 : decode cX1_clear 9 = .ok (.putfield 23, 3) := by decide +kernel
theorem dX1_clear_12 : decode cX1_clear 12 = .ok (.return_, 1) := by decide +kernel
set_option maxRecDepth 20000 in
theorem ggX1_pieces_X5_size : GoodIn wsX1_pieces wsX5_size := goodIn_r _ [6, 7, 10, 11, 12] (by decide +kernel) (by decide +kernel)
set_option maxRecDepth 20000 in
theorem gX1_pieces_X5_size : GoodIn wsX1_pieces (wsV RX1 27 RX5 yX5_size wsX5_size) := goodIn_app (goodIn_of _ (by decide +kernel)) ggX1_pieces_X5_size
theorem dX1_pieces_0 : decode cX1_pieces 0 = .ok (.aload_n 0, 1) := by decide +kernel
theorem dX1_pieces_1 : decode cX1_pieces 1 = .ok (.getfield 14, 3) := by decide +kernel
theorem dX1_pieces_4 : decode cX1_pieces 4 = .ok (.invokevirtual 27, 3) := by decide +kernel
theorem dX1_pieces_7 : decode cX1_pieces 7 = .ok (.ireturn, 1) := by decide +kernel
set_option maxRecDepth 20000 in
theorem ggX1_room_X5_room : GoodIn wsX1_room wsX5_room := goodIn_r _ [6, 7, 8, 11, 12, 13] (by decide +kernel) (by decide +kernel)
set_option maxRecDepth 20000 in
theorem gX1_room_X5_room : GoodIn wsX1_room (wsV RX1 31 RX5 yX5_room wsX5_room) := goodIn_app (goodIn_of _ (by decide +kernel)) ggX1_room_X5_room
theorem dX1_room_0 : decode cX1_room 0 = .ok (.aload_n 0, 1) := by decide +kernel
theorem dX1_room_1 : decode cX1_room 1 = .ok (.getfield 14, 3) := by decide +kernel
theorem dX1_room_4 : decode cX1_room 4 = .ok (.invokevirtual 31, 3) := by decide +kernel
theorem dX1_room_7 : decode cX1_room 7 = .ok (.ireturn, 1) := by decide +kernel
set_option maxRecDepth 20000 in
theorem ggX1_append_X5_add : GoodIn wsX1_append wsX5_add := goodIn_r _ [6, 7, 8, 9, 10, 11, 5, 12, 13, 14, 15, 16, 17, 20, 21, 22] (by decide +kernel) (by decide +kernel)
set_option maxRecDepth 20000 in
theorem gX1_append_X5_add : GoodIn wsX1_append (wsV RX1 34 RX5 yX5_add wsX5_add) := goodIn_app (goodIn_of _ (by decide +kernel)) ggX1_append_X5_add
theorem dX1_append_0 : decode cX1_append 0 = .ok (.aload_n 0, 1) := by decide +kernel
theorem dX1_append_1 : decode cX1_append 1 = .ok (.getfield 14, 3) := by decide +kernel
theorem dX1_append_4 : decode cX1_append 4 = .ok (.iload_n 2, 1) := by decide +kernel
theorem dX1_append_5 : decode cX1_append 5 = .ok (.iconst 2, 1) := by decide +kernel
theorem dX1_append_6 : decode cX1_append 6 = .ok (.imul, 1) := by decide +kernel
theorem dX1_append_7 : decode cX1_append 7 = .ok (.iload_n 1, 1) := by decide +kernel
theorem dX1_append_8 : decode cX1_append 8 = .ok (.ifCond .eq 7, 3) := by decide +kernel
theorem dX1_append_11 : decode cX1_append 11 = .ok (.iconst 1, 1) := by decide +kernel
theorem dX1_append_12 : decode cX1_append 12 = .ok (.goto 4, 3) := by decide +kernel
theorem dX1_append_15 : decode cX1_append 15 = .ok (.iconst 0, 1) := by decide +kernel
theorem dX1_append_16 : decode cX1_append 16 = .ok (.iadd, 1) := by decide +kernel
theorem dX1_append_17 : decode cX1_append 17 = .ok (.invokevirtual 34, 3) := by decide +kernel
theorem dX1_append_20 : decode cX1_append 20 = .ok (.return_, 1) := by decide +kernel
set_option maxRecDepth 20000 in
theorem ggX1_next_X5_isEmpty : GoodIn wsX1_next wsX5_isEmpty := goodIn_r _ [7, 8, 37, 38, 39] (by decide +kernel) (by decide +kernel)
set_option maxRecDepth 20000 in
theorem gX1_next_X5_isEmpty : GoodIn wsX1_next (wsV RX1 37 RX5 yX5_isEmpty wsX5_isEmpty) := goodIn_app (goodIn_of _ (by decide +kernel)) ggX1_next_X5_isEmpty
set_option maxRecDepth 20000 in
theorem ggX1_next_X5_first : GoodIn wsX1_next wsX5_first := goodIn_r _ [12, 13, 14, 15, 6, 16, 8, 17, 18, 19, 20, 21, 22, 37, 38, 39] (by decide +kernel) (by decide +kernel)
set_option maxRecDepth 20000 in
theorem gX1_next_X5_first : GoodIn wsX1_next (wsV RX1 41 RX5 yX5_first wsX5_first) := goodIn_app (goodIn_of _ (by decide +kernel)) ggX1_next_X5_first
set_option maxRecDepth 20000 in
theorem ggX1_next_X5_setFirst : GoodIn wsX1_next wsX5_setFirst := goodIn_r _ [26, 27, 28, 29, 6, 30, 8, 17, 18, 19, 20, 21, 22, 37, 38, 39] (by decide +kernel) (by decide +kernel)
set_option maxRecDepth 20000 in
theorem gX1_next_X5_setFirst : GoodIn wsX1_next (wsV RX1 44 RX5 yX5_setFirst wsX5_setFirst) := goodIn_app (goodIn_of _ (by decide +kernel)) ggX1_next_X5_setFirst
set_option maxRecDepth 20000 in
theorem ggX1_next_X5_dropFirst : GoodIn wsX1_next wsX5_dropFirst := goodIn_r _ [34, 8, 22, 18, 19, 20, 6, 21, 17, 37, 38, 39] (by decide +kernel) (by decide +kernel)
set_option maxRecDepth 20000 in
theorem gX1_next_X5_dropFirst : GoodIn wsX1_next (wsV RX1 47 RX5 yX5_dropFirst wsX5_dropFirst) := goodIn_app (goodIn_of _ (by decide +kernel)) ggX1_next_X5_dropFirst
theorem dX1_next_0 : decode cX1_next 0 = .ok (.aload_n 0, 1) := by decide +kernel
theorem dX1_next_1 : decode cX1_next 1 = .ok (.getfield 14, 3) := by decide +kernel
theorem dX1_next_4 : decode cX1_next 4 = .ok (.invokevirtual 37, 3) := by decide +kernel
theorem dX1_next_7 : decode cX1_next 7 = .ok (.ifCond .ne 51, 3) := by decide +kernel
theorem dX1_next_10 : decode cX1_next 10 = .ok (.aload_n 0, 1) := by decide +kernel
theorem dX1_next_11 : decode cX1_next 11 = .ok (.getfield 14, 3) := by decide +kernel
theorem dX1_next_14 : decode cX1_next 14 = .ok (.invokevirtual 41, 3) := by decide +kernel
theorem dX1_next_17 : decode cX1_next 17 = .ok (.istore_n 1, 1) := by decide +kernel
theorem dX1_next_18 : decode cX1_next 18 = .ok (.aload_n 0, 1) := by decide +kernel
theorem dX1_next_19 : decode cX1_next 19 = .ok (.iload_n 1, 1) := by decide +kernel
theorem dX1_next_20 : decode cX1_next 20 = .ok (.iconst 1, 1) := by decide +kernel
theorem dX1_next_21 : decode cX1_next 21 = .ok (.iand, 1) := by decide +kernel
theorem dX1_next_22 : decode cX1_next 22 = .ok (.ifCond .eq 7, 3) := by decide +kernel
theorem dX1_next_25 : decode cX1_next 25 = .ok (.iconst 1, 1) := by decide +kernel
theorem dX1_next_26 : decode cX1_next 26 = .ok (.goto 4, 3) := by decide +kernel
theorem dX1_next_29 : decode cX1_next 29 = .ok (.iconst 0, 1) := by decide +kernel
theorem dX1_next_30 : decode cX1_next 30 = .ok (.putfield 23, 3) := by decide +kernel
theorem dX1_next_33 : decode cX1_next 33 = .ok (.iload_n 1, 1) := by decide +kernel
theorem dX1_next_34 : decode cX1_next 34 = .ok (.iconst 4, 1) := by decide +kernel
theorem dX1_next_35 : decode cX1_next 35 = .ok (.if_icmp .lt 16, 3) := by decide +kernel
theorem dX1_next_38 : decode cX1_next 38 = .ok (.aload_n 0, 1) := by decide +kernel
theorem dX1_next_39 : decode cX1_next 39 = .ok (.getfield 14, 3) := by decide +kernel
theorem dX1_next_42 : decode cX1_next 42 = .ok (.iload_n 1, 1) := by decide +kernel
theorem dX1_next_43 : decode cX1_next 43 = .ok (.iconst 2, 1) := by decide +kernel
theorem dX1_next_44 : decode cX1_next 44 = .ok (.isub, 1) := by decide +kernel
theorem dX1_next_45 : decode cX1_next 45 = .ok (.invokevirtual 44, 3) := by decide +kernel
theorem dX1_next_48 : decode cX1_next 48 = .ok (.goto 10, 3) := by decide +kernel
theorem dX1_next_51 : decode cX1_next 51 = .ok (.aload_n 0, 1) := by decide +kernel
theorem dX1_next_52 : decode cX1_next 52 = .ok (.getfield 14, 3) := by decide +kernel
theorem dX1_next_55 : decode cX1_next 55 = .ok (.invokevirtual 47, 3) := by decide +kernel
theorem dX1_next_58 : decode cX1_next 58 = .ok (.aload_n 0, 1) := by decide +kernel
theorem dX1_next_59 : decode cX1_next 59 = .ok (.getfield 23, 3) := by decide +kernel
theorem dX1_next_62 : decode cX1_next 62 = .ok (.ireturn, 1) := by decide +kernel
set_option maxRecDepth 20000 in
theorem ggX2_init_X5_init : GoodIn wsX2_init wsX5_init := goodIn_r _ [10, 11, 2, 3, 12, 13, 14, 15, 16, 17, 18, 19, 20, 21, 22] (by decide +kernel) (by decide +kernel)
set_option maxRecDepth 20000 in
theorem gX2_init_X5_init : GoodIn wsX2_init (wsX5_init) := ggX2_init_X5_init
theorem dX2_init_0 : decode cX2_init 0 = .ok (.aload_n 0, 1) := by decide +kernel
theorem dX2_init_1 : decode cX2_init 1 = .ok (.invokespecial 3, 3) := by decide +kernel
theorem dX2_init_4 : decode cX2_init 4 = .ok (.aload_n 0, 1) := by decide +kernel
theorem dX2_init_5 : decode cX2_init 5 = .ok (.new 9, 3) := by decide +kernel
theorem dX2_init_8 : decode cX2_init 8 = .ok (.dup, 1) := by decide +kernel
theorem dX2_init_9 : decode cX2_init 9 = .ok (.bipush 40, 2) := by decide +kernel
theorem dX2_init_11 : decode cX2_init 11 = .ok (.invokespecial 11, 3) := by decide +kernel
theorem dX2_init_14 : decode cX2_init 14 = .ok (.putfield 14, 3) := by decide +kernel
theorem dX2_init_17 : decode cX2_init 17 = .ok (.return_, 1) := by decide +kernel
set_option maxRecDepth 20000 in
theorem ggX2_clear_X5_clear : GoodIn wsX2_clear wsX5_clear := goodIn_r _ [7, 8, 9, 12, 13, 14] (by decide +kernel) (by decide +kernel)
set_option maxRecDepth 20000 in
theorem gX2_clear_X5_clear : GoodIn wsX2_clear (wsV RX2 20 RX5 yX5_clear wsX5_clear) := goodIn_app (goodIn_of _ (by decide +kernel)) ggX2_clear_X5_clear
theorem dX2_clear_0 : decode cX2_clear 0 = .ok (.aload_n 0, 1) := by decide +kernel
theorem dX2_clear_1 : decode cX2_clear 1 = .ok (.getfield 14, 3) := by decide +kernel
theorem dX2_clear_4 : decode cX2_clear 4 = .ok (.invokevirtual 20, 3) := by decide +kernel
theorem dX2_clear_7 : decode cX2_clear 7 = .ok (.aload_n 0, 1) := by decide +kernel
theorem dX2_clear_8 : decode cX2_clear 8 = .ok (.iconst 0, 1) := by decide +kernel
theorem dX2_clear_9 : decode cX2_clear 9 = .ok (.putfield 23, 3) := by decide +kernel
theorem dX2_clear_12 : decode cX2_clear 12 = .ok (.return_, 1) := by decide +kernel
set_option maxRecDepth 20000 in
theorem ggX2_isHigh_X5_isEmpty : GoodIn wsX2_isHigh wsX5_isEmpty := goodIn_r _ [6, 7, 33, 34, 35] (by decide +kernel) (by decide +kernel)
set_option maxRecDepth 20000 in
theorem gX2_isHigh_X5_isEmpty : GoodIn wsX2_isHigh (wsV RX2 27 RX5 yX5_isEmpty wsX5_isEmpty) := goodIn_app (goodIn_of _ (by decide +kernel)) ggX2_isHigh_X5_isEmpty
set_option maxRecDepth 20000 in
theorem ggX2_isHigh_X2_runIsHigh : GoodIn wsX2_isHigh wsX2_runIsHigh := goodIn_r _ [12, 13, 14, 15, 11, 16, 1, 17, 18, 19, 5, 20, 7, 21, 22, 23, 24, 25, 26, 27, 28, 29, 30, 31, 32, 33, 34, 35] (by decide +kernel) (by decide +kernel)
set_option maxRecDepth 20000 in
theorem gX2_isHigh_X2_runIsHigh : GoodIn wsX2_isHigh (wsV RX2 31 RX2 yX2_runIsHigh wsX2_runIsHigh) := goodIn_app (goodIn_of _ (by decide +kernel)) ggX2_isHigh_X2_runIsHigh
theorem dX2_isHigh_0 : decode cX2_isHigh 0 = .ok (.aload_n 0, 1) := by decide +kernel
theorem dX2_isHigh_1 : decode cX2_isHigh 1 = .ok (.getfield 14, 3) := by decide +kernel
theorem dX2_isHigh_4 : decode cX2_isHigh 4 = .ok (.invokevirtual 27, 3) := by decide +kernel
theorem dX2_isHigh_7 : decode cX2_isHigh 7 = .ok (.ifCond .ne 11, 3) := by decide +kernel
theorem dX2_isHigh_10 : decode cX2_isHigh 10 = .ok (.aload_n 0, 1) := by decide +kernel
theorem dX2_isHigh_11 : decode cX2_isHigh 11 = .ok (.iconst 0, 1) := by decide +kernel
theorem dX2_isHigh_12 : decode cX2_isHigh 12 = .ok (.invokevirtual 31, 3) := by decide +kernel
theorem dX2_isHigh_15 : decode cX2_isHigh 15 = .ok (.ifCond .eq 7, 3) := by decide +kernel
theorem dX2_isHigh_18 : decode cX2_isHigh 18 = .ok (.iconst 1, 1) := by decide +kernel
theorem dX2_isHigh_19 : decode cX2_isHigh 19 = .ok (.goto 4, 3) := by decide +kernel
theorem dX2_isHigh_22 : decode cX2_isHigh 22 = .ok (.iconst 0, 1) := by decide +kernel
theorem dX2_isHigh_23 : decode cX2_isHigh 23 = .ok (.ireturn, 1) := by decide +kernel
theorem dX2_runsInAll_0 : decode cX2_runsInAll 0 = .ok (.aload_n 0, 1) := by decide +kernel
theorem dX2_runsInAll_1 : decode cX2_runsInAll 1 = .ok (.getfield 23, 3) := by decide +kernel
theorem dX2_runsInAll_4 : decode cX2_runsInAll 4 = .ok (.ireturn, 1) := by decide +kernel
set_option maxRecDepth 20000 in
theorem ggX2_runsKept_X5_size : GoodIn wsX2_runsKept wsX5_size := goodIn_r _ [6, 7, 10, 11, 12] (by decide +kernel) (by decide +kernel)
set_option maxRecDepth 20000 in
theorem gX2_runsKept_X5_size : GoodIn wsX2_runsKept (wsV RX2 35 RX5 yX5_size wsX5_size) := goodIn_app (goodIn_of _ (by decide +kernel)) ggX2_runsKept_X5_size
theorem dX2_runsKept_0 : decode cX2_runsKept 0 = .ok (.aload_n 0, 1) := by decide +kernel
theorem dX2_runsKept_1 : decode cX2_runsKept 1 = .ok (.getfield 14, 3) := by decide +kernel
theorem dX2_runsKept_4 : decode cX2_runsKept 4 = .ok (.invokevirtual 35, 3) := by decide +kernel
theorem dX2_runsKept_7 : decode cX2_runsKept 7 = .ok (.ireturn, 1) := by decide +kernel
set_option maxRecDepth 20000 in
theorem ggX2_runIsHigh_X2_fromEnd : GoodIn wsX2_runIsHigh wsX2_fromEnd := goodIn_r _ [5, 6, 7, 8, 9, 10, 11, 12, 13, 14, 15, 16, 17, 18, 19, 20, 21, 22, 23, 24, 25, 26, 27] (by decide +kernel) (by decide +kernel)
set_option maxRecDepth 20000 in
theorem gX2_runIsHigh_X2_fromEnd : GoodIn wsX2_runIsHigh (wsV RX2 39 RX2 yX2_fromEnd wsX2_fromEnd) := goodIn_app (goodIn_of _ (by decide +kernel)) ggX2_runIsHigh_X2_fromEnd
theorem dX2_runIsHigh_0 : decode cX2_runIsHigh 0 = .ok (.aload_n 0, 1) := by decide +kernel
theorem dX2_runIsHigh_1 : decode cX2_runIsHigh 1 = .ok (.iload_n 1, 1) := by decide +kernel
theorem dX2_runIsHigh_2 : decode cX2_runIsHigh 2 = .ok (.invokevirtual 39, 3) := by decide +kernel
theorem dX2_runIsHigh_5 : decode cX2_runIsHigh 5 = .ok (.iconst 1, 1) := by decide +kernel
theorem dX2_runIsHigh_6 : decode cX2_runIsHigh 6 = .ok (.iand, 1) := by decide +kernel
theorem dX2_runIsHigh_7 : decode cX2_runIsHigh 7 = .ok (.ifCond .eq 7, 3) := by decide +kernel
theorem dX2_runIsHigh_10 : decode cX2_runIsHigh 10 = .ok (.iconst 1, 1) := by decide +kernel
theorem dX2_runIsHigh_11 : decode cX2_runIsHigh 11 = .ok (.goto 4, 3) := by decide +kernel
theorem dX2_runIsHigh_14 : decode cX2_runIsHigh 14 = .ok (.iconst 0, 1) := by decide +kernel
theorem dX2_runIsHigh_15 : decode cX2_runIsHigh 15 = .ok (.ireturn, 1) := by decide +kernel
set_option maxRecDepth 20000 in
theorem ggX2_runBeats_X2_fromEnd : GoodIn wsX2_runBeats wsX2_fromEnd := goodIn_r _ [5, 6, 7, 8, 9, 10, 11, 12, 13, 14, 15, 16, 17, 18, 19, 20, 21, 22, 23, 24, 25, 26, 27] (by decide +kernel) (by decide +kernel)
set_option maxRecDepth 20000 in
theorem gX2_runBeats_X2_fromEnd : GoodIn wsX2_runBeats (wsV RX2 39 RX2 yX2_fromEnd wsX2_fromEnd) := goodIn_app (goodIn_of _ (by decide +kernel)) ggX2_runBeats_X2_fromEnd
theorem dX2_runBeats_0 : decode cX2_runBeats 0 = .ok (.aload_n 0, 1) := by decide +kernel
theorem dX2_runBeats_1 : decode cX2_runBeats 1 = .ok (.iload_n 1, 1) := by decide +kernel
theorem dX2_runBeats_2 : decode cX2_runBeats 2 = .ok (.invokevirtual 39, 3) := by decide +kernel
theorem dX2_runBeats_5 : decode cX2_runBeats 5 = .ok (.iconst 1, 1) := by decide +kernel
theorem dX2_runBeats_6 : decode cX2_runBeats 6 = .ok (.ishr, 1) := by decide +kernel
theorem dX2_runBeats_7 : decode cX2_runBeats 7 = .ok (.ireturn, 1) := by decide +kernel
set_option maxRecDepth 20000 in
theorem ggX2_append_X5_isEmpty : GoodIn wsX2_append wsX5_isEmpty := goodIn_r _ [7, 8, 51, 52, 53] (by decide +kernel) (by decide +kernel)
set_option maxRecDepth 20000 in
theorem gX2_append_X5_isEmpty : GoodIn wsX2_append (wsV RX2 27 RX5 yX5_isEmpty wsX5_isEmpty) := goodIn_app (goodIn_of _ (by decide +kernel)) ggX2_append_X5_isEmpty
set_option maxRecDepth 20000 in
theorem ggX2_append_X2_runIsHigh : GoodIn wsX2_append wsX2_runIsHigh := goodIn_r _ [13, 14, 15, 16, 12, 17, 1, 18, 19, 20, 6, 21, 8, 22, 23, 24, 25, 26, 27, 28, 29, 30, 31, 49, 50, 51, 52, 53] (by decide +kernel) (by decide +kernel)
set_option maxRecDepth 20000 in
theorem gX2_append_X2_runIsHigh : GoodIn wsX2_append (wsV RX2 31 RX2 yX2_runIsHigh wsX2_runIsHigh) := goodIn_app (goodIn_of _ (by decide +kernel)) ggX2_append_X2_runIsHigh
set_option maxRecDepth 20000 in
theorem ggX2_append_X5_size : GoodIn wsX2_append wsX5_size := goodIn_r _ [21, 8, 51, 52, 53] (by decide +kernel) (by decide +kernel)
set_option maxRecDepth 20000 in
theorem gX2_append_X5_size : GoodIn wsX2_append (wsV RX2 35 RX5 yX5_size wsX5_size) := goodIn_app (goodIn_of _ (by decide +kernel)) ggX2_append_X5_size
set_option maxRecDepth 20000 in
theorem ggX2_append_X2_fromEnd : GoodIn wsX2_append wsX2_fromEnd := goodIn_r _ [17, 1, 18, 19, 20, 6, 21, 8, 22, 23, 24, 25, 26, 27, 28, 29, 30, 31, 49, 50, 51, 52, 53] (by decide +kernel) (by decide +kernel)
set_option maxRecDepth 20000 in
theorem gX2_append_X2_fromEnd : GoodIn wsX2_append (wsV RX2 39 RX2 yX2_fromEnd wsX2_fromEnd) := goodIn_app (goodIn_of _ (by decide +kernel)) ggX2_append_X2_fromEnd
set_option maxRecDepth 20000 in
theorem ggX2_append_X5_setAt : GoodIn wsX2_append wsX5_setAt := goodIn_r _ [35, 8, 26, 27, 28, 29, 6, 30, 31, 51, 52, 53] (by decide +kernel) (by decide +kernel)
set_option maxRecDepth 20000 in
theorem gX2_append_X5_setAt : GoodIn wsX2_append (wsV RX2 43 RX5 yX5_setAt wsX5_setAt) := goodIn_app (goodIn_of _ (by decide +kernel)) ggX2_append_X5_setAt
set_option maxRecDepth 20000 in
theorem ggX2_append_X5_room : GoodIn wsX2_append wsX5_room := goodIn_r _ [39, 26, 8, 51, 52, 53] (by decide +kernel) (by decide +kernel)
set_option maxRecDepth 20000 in
theorem gX2_append_X5_room : GoodIn wsX2_append (wsV RX2 47 RX5 yX5_room wsX5_room) := goodIn_app (goodIn_of _ (by decide +kernel)) ggX2_append_X5_room
set_option maxRecDepth 20000 in
theorem ggX2_append_X5_dropFirst : GoodIn wsX2_append wsX5_dropFirst := goodIn_r _ [43, 8, 31, 27, 28, 29, 6, 30, 26, 51, 52, 53] (by decide +kernel) (by decide +kernel)
set_option maxRecDepth 20000 in
theorem gX2_append_X5_dropFirst : GoodIn wsX2_append (wsV RX2 50 RX5 yX5_dropFirst wsX5_dropFirst) := goodIn_app (goodIn_of _ (by decide +kernel)) ggX2_append_X5_dropFirst
set_option maxRecDepth 20000 in
theorem ggX2_append_X5_add : GoodIn wsX2_append wsX5_add := goodIn_r _ [47, 8, 26, 48, 33, 34, 6, 35, 27, 28, 29, 30, 31, 51, 52, 53] (by decide +kernel) (by decide +kernel)
set_option maxRecDepth 20000 in
theorem gX2_append_X5_add : GoodIn wsX2_append (wsV RX2 53 RX5 yX5_add wsX5_add) := goodIn_app (goodIn_of _ (by decide +kernel)) ggX2_append_X5_add
theorem dX2_append_0 : decode cX2_append 0 = .ok (.aload_n 0, 1) := by decide +kernel
theorem dX2_append_1 : decode cX2_append 1 = .ok (.getfield 14, 3) := by decide +kernel
theorem dX2_append_4 : decode cX2_append 4 = .ok (.invokevirtual 27, 3) := by decide +kernel
theorem dX2_append_7 : decode cX2_append 7 = .ok (.ifCond .ne 36, 3) := by decide +kernel
theorem dX2_append_10 : decode cX2_append 10 = .ok (.aload_n 0, 1) := by decide +kernel
theorem dX2_append_11 : decode cX2_append 11 = .ok (.iconst 0, 1) := by decide +kernel
theorem dX2_append_12 : decode cX2_append 12 = .ok (.invokevirtual 31, 3) := by decide +kernel
theorem dX2_append_15 : decode cX2_append 15 = .ok (.iload_n 1, 1) := by decide +kernel
theorem dX2_append_16 : decode cX2_append 16 = .ok (.if_icmp .ne 27, 3) := by decide +kernel
theorem dX2_append_19 : decode cX2_append 19 = .ok (.aload_n 0, 1) := by decide +kernel
theorem dX2_append_20 : decode cX2_append 20 = .ok (.getfield 14, 3) := by decide +kernel
theorem dX2_append_23 : decode cX2_append 23 = .ok (.aload_n 0, 1) := by decide +kernel
theorem dX2_append_24 : decode cX2_append 24 = .ok (.getfield 14, 3) := by decide +kernel
theorem dX2_append_27 : decode cX2_append 27 = .ok (.invokevirtual 35, 3) := by decide +kernel
theorem dX2_append_30 : decode cX2_append 30 = .ok (.iconst 1, 1) := by decide +kernel
theorem dX2_append_31 : decode cX2_append 31 = .ok (.isub, 1) := by decide +kernel
theorem dX2_append_32 : decode cX2_append 32 = .ok (.aload_n 0, 1) := by decide +kernel
theorem dX2_append_33 : decode cX2_append 33 = .ok (.iconst 0, 1) := by decide +kernel
theorem dX2_append_34 : decode cX2_append 34 = .ok (.invokevirtual 39, 3) := by decide +kernel
theorem dX2_append_37 : decode cX2_append 37 = .ok (.iconst 2, 1) := by decide +kernel
theorem dX2_append_38 : decode cX2_append 38 = .ok (.iadd, 1) := by decide +kernel
theorem dX2_append_39 : decode cX2_append 39 = .ok (.invokevirtual 43, 3) := by decide +kernel
theorem dX2_append_42 : decode cX2_append 42 = .ok (.return_, 1) := by decide +kernel
theorem dX2_append_43 : decode cX2_append 43 = .ok (.aload_n 0, 1) := by decide +kernel
theorem dX2_append_44 : decode cX2_append 44 = .ok (.getfield 14, 3) := by decide +kernel
theorem dX2_append_47 : decode cX2_append 47 = .ok (.invokevirtual 47, 3) := by decide +kernel
theorem dX2_append_50 : decode cX2_append 50 = .ok (.ifCond .ne 10, 3) := by decide +kernel
theorem dX2_append_53 : decode cX2_append 53 = .ok (.aload_n 0, 1) := by decide +kernel
theorem dX2_append_54 : decode cX2_append 54 = .ok (.getfield 14, 3) := by decide +kernel
theorem dX2_append_57 : decode cX2_append 57 = .ok (.invokevirtual 50, 3) := by decide +kernel
theorem dX2_append_60 : decode cX2_append 60 = .ok (.aload_n 0, 1) := by decide +kernel
theorem dX2_append_61 : decode cX2_append 61 = .ok (.getfield 14, 3) := by decide +kernel
theorem dX2_append_64 : decode cX2_append 64 = .ok (.iload_n 1, 1) := by decide +kernel
theorem dX2_append_65 : decode cX2_append 65 = .ok (.ifCond .eq 7, 3) := by decide +kernel
theorem dX2_append_68 : decode cX2_append 68 = .ok (.iconst 3, 1) := by decide +kernel
theorem dX2_append_69 : decode cX2_append 69 = .ok (.goto 4, 3) := by decide +kernel
theorem dX2_append_72 : decode cX2_append 72 = .ok (.iconst 2, 1) := by decide +kernel
theorem dX2_append_73 : decode cX2_append 73 = .ok (.invokevirtual 53, 3) := by decide +kernel
theorem dX2_append_76 : decode cX2_append 76 = .ok (.aload_n 0, 1) := by decide +kernel
theorem dX2_append_77 : decode cX2_append 77 = .ok (.dup, 1) := by decide +kernel
theorem dX2_append_78 : decode cX2_append 78 = .ok (.getfield 23, 3) := by decide +kernel
theorem dX2_append_81 : decode cX2_append 81 = .ok (.iconst 1, 1) := by decide +kernel
theorem dX2_append_82 : decode cX2_append 82 = .ok (.iadd, 1) := by decide +kernel
theorem dX2_append_83 : decode cX2_append 83 = .ok (.putfield 23, 3) := by decide +kernel
theorem dX2_append_86 : decode cX2_append 86 = .ok (.return_, 1) := by decide +kernel
set_option maxRecDepth 20000 in
theorem ggX2_fromEnd_X5_size : GoodIn wsX2_fromEnd wsX5_size := goodIn_r _ [6, 7, 20, 21, 22] (by decide +kernel) (by decide +kernel)
set_option maxRecDepth 20000 in
theorem gX2_fromEnd_X5_size : GoodIn wsX2_fromEnd (wsV RX2 35 RX5 yX5_size wsX5_size) := goodIn_app (goodIn_of _ (by decide +kernel)) ggX2_fromEnd_X5_size
set_option maxRecDepth 20000 in
theorem ggX2_fromEnd_X5_at : GoodIn wsX2_fromEnd wsX5_at := goodIn_r _ [11, 7, 12, 13, 14, 15, 5, 16, 17, 20, 21, 22] (by decide +kernel) (by decide +kernel)
set_option maxRecDepth 20000 in
theorem gX2_fromEnd_X5_at : GoodIn wsX2_fromEnd (wsV RX2 56 RX5 yX5_at wsX5_at) := goodIn_app (goodIn_of _ (by decide +kernel)) ggX2_fromEnd_X5_at
theorem dX2_fromEnd_0 : decode cX2_fromEnd 0 = .ok (.aload_n 0, 1) := by decide +kernel
theorem dX2_fromEnd_1 : decode cX2_fromEnd 1 = .ok (.getfield 14, 3) := by decide +kernel
theorem dX2_fromEnd_4 : decode cX2_fromEnd 4 = .ok (.aload_n 0, 1) := by decide +kernel
theorem dX2_fromEnd_5 : decode cX2_fromEnd 5 = .ok (.getfield 14, 3) := by decide +kernel
theorem dX2_fromEnd_8 : decode cX2_fromEnd 8 = .ok (.invokevirtual 35, 3) := by decide +kernel
theorem dX2_fromEnd_11 : decode cX2_fromEnd 11 = .ok (.iconst 1, 1) := by decide +kernel
theorem dX2_fromEnd_12 : decode cX2_fromEnd 12 = .ok (.isub, 1) := by decide +kernel
theorem dX2_fromEnd_13 : decode cX2_fromEnd 13 = .ok (.iload_n 1, 1) := by decide +kernel
theorem dX2_fromEnd_14 : decode cX2_fromEnd 14 = .ok (.isub, 1) := by decide +kernel
theorem dX2_fromEnd_15 : decode cX2_fromEnd 15 = .ok (.invokevirtual 56, 3) := by decide +kernel
theorem dX2_fromEnd_18 : decode cX2_fromEnd 18 = .ok (.ireturn, 1) := by decide +kernel
theorem dX3_init_0 : decode cX3_init 0 = .ok (.aload_n 0, 1) := by decide +kernel
theorem dX3_init_1 : decode cX3_init 1 = .ok (.invokespecial 1, 3) := by decide +kernel
theorem dX3_init_4 : decode cX3_init 4 = .ok (.return_, 1) := by decide +kernel
theorem dX3_clear_0 : decode cX3_clear 0 = .ok (.aload_n 0, 1) := by decide +kernel
theorem dX3_clear_1 : decode cX3_clear 1 = .ok (.iconst 0, 1) := by decide +kernel
theorem dX3_clear_2 : decode cX3_clear 2 = .ok (.putfield 7, 3) := by decide +kernel
theorem dX3_clear_5 : decode cX3_clear 5 = .ok (.aload_n 0, 1) := by decide +kernel
theorem dX3_clear_6 : decode cX3_clear 6 = .ok (.iconst 0, 1) := by decide +kernel
theorem dX3_clear_7 : decode cX3_clear 7 = .ok (.putfield 13, 3) := by decide +kernel
theorem dX3_clear_10 : decode cX3_clear 10 = .ok (.aload_n 0, 1) := by decide +kernel
theorem dX3_clear_11 : decode cX3_clear 11 = .ok (.iconst 0, 1) := by decide +kernel
theorem dX3_clear_12 : decode cX3_clear 12 = .ok (.putfield 16, 3) := by decide +kernel
theorem dX3_clear_15 : decode cX3_clear 15 = .ok (.aload_n 0, 1) := by decide +kernel
theorem dX3_clear_16 : decode cX3_clear 16 = .ok (.iconst 0, 1) := by decide +kernel
theorem dX3_clear_17 : decode cX3_clear 17 = .ok (.putfield 19, 3) := by decide +kernel
theorem dX3_clear_20 : decode cX3_clear 20 = .ok (.return_, 1) := by decide +kernel
theorem dX3_outputs_0 : decode cX3_outputs 0 = .ok (.aload_n 0, 1) := by decide +kernel
theorem dX3_outputs_1 : decode cX3_outputs 1 = .ok (.getfield 7, 3) := by decide +kernel
theorem dX3_outputs_4 : decode cX3_outputs 4 = .ok (.ireturn, 1) := by decide +kernel
theorem dX3_loops_0 : decode cX3_loops 0 = .ok (.aload_n 0, 1) := by decide +kernel
theorem dX3_loops_1 : decode cX3_loops 1 = .ok (.getfield 7, 3) := by decide +kernel
theorem dX3_loops_4 : decode cX3_loops 4 = .ok (.bipush 16, 2) := by decide +kernel
theorem dX3_loops_6 : decode cX3_loops 6 = .ok (.iand, 1) := by decide +kernel
theorem dX3_loops_7 : decode cX3_loops 7 = .ok (.ifCond .eq 7, 3) := by decide +kernel
theorem dX3_loops_10 : decode cX3_loops 10 = .ok (.iconst 1, 1) := by decide +kernel
theorem dX3_loops_11 : decode cX3_loops 11 = .ok (.goto 4, 3) := by decide +kernel
theorem dX3_loops_14 : decode cX3_loops 14 = .ok (.iconst 0, 1) := by decide +kernel
theorem dX3_loops_15 : decode cX3_loops 15 = .ok (.ireturn, 1) := by decide +kernel
theorem dX3_hasChanged_0 : decode cX3_hasChanged 0 = .ok (.aload_n 0, 1) := by decide +kernel
theorem dX3_hasChanged_1 : decode cX3_hasChanged 1 = .ok (.getfield 19, 3) := by decide +kernel
theorem dX3_hasChanged_4 : decode cX3_hasChanged 4 = .ok (.ifCond .eq 7, 3) := by decide +kernel
theorem dX3_hasChanged_7 : decode cX3_hasChanged 7 = .ok (.iconst 1, 1) := by decide +kernel
theorem dX3_hasChanged_8 : decode cX3_hasChanged 8 = .ok (.goto 4, 3) := by decide +kernel
theorem dX3_hasChanged_11 : decode cX3_hasChanged 11 = .ok (.iconst 0, 1) := by decide +kernel
theorem dX3_hasChanged_12 : decode cX3_hasChanged 12 = .ok (.ireturn, 1) := by decide +kernel
set_option maxRecDepth 20000 in
theorem ggX3_putOutputs_X3_follow : GoodIn wsX3_putOutputs wsX3_follow := goodIn_r _ [6, 7, 8, 9, 10, 11, 12, 5, 13, 1, 14, 15, 16, 17, 18, 19, 20, 21] (by decide +kernel) (by decide +kernel)
set_option maxRecDepth 20000 in
theorem gX3_putOutputs_X3_follow : GoodIn wsX3_putOutputs (wsV RX3 22 RX3 yX3_follow wsX3_follow) := goodIn_app (goodIn_of _ (by decide +kernel)) ggX3_putOutputs_X3_follow
theorem dX3_putOutputs_0 : decode cX3_putOutputs 0 = .ok (.aload_n 0, 1) := by decide +kernel
theorem dX3_putOutputs_1 : decode cX3_putOutputs 1 = .ok (.iload_n 1, 1) := by decide +kernel
theorem dX3_putOutputs_2 : decode cX3_putOutputs 2 = .ok (.putfield 7, 3) := by decide +kernel
theorem dX3_putOutputs_5 : decode cX3_putOutputs 5 = .ok (.aload_n 0, 1) := by decide +kernel
theorem dX3_putOutputs_6 : decode cX3_putOutputs 6 = .ok (.invokevirtual 22, 3) := by decide +kernel
theorem dX3_putOutputs_9 : decode cX3_putOutputs 9 = .ok (.return_, 1) := by decide +kernel
set_option maxRecDepth 20000 in
theorem ggX3_putPins_X3_follow : GoodIn wsX3_putPins wsX3_follow := goodIn_r _ [6, 1, 7, 8, 9, 10, 11, 5, 12, 13, 14, 15, 16, 17, 18, 19, 20, 21] (by decide +kernel) (by decide +kernel)
set_option maxRecDepth 20000 in
theorem gX3_putPins_X3_follow : GoodIn wsX3_putPins (wsV RX3 22 RX3 yX3_follow wsX3_follow) := goodIn_app (goodIn_of _ (by decide +kernel)) ggX3_putPins_X3_follow
theorem dX3_putPins_0 : decode cX3_putPins 0 = .ok (.aload_n 0, 1) := by decide +kernel
theorem dX3_putPins_1 : decode cX3_putPins 1 = .ok (.iload_n 1, 1) := by decide +kernel
theorem dX3_putPins_2 : decode cX3_putPins 2 = .ok (.putfield 13, 3) := by decide +kernel
theorem dX3_putPins_5 : decode cX3_putPins 5 = .ok (.aload_n 0, 1) := by decide +kernel
theorem dX3_putPins_6 : decode cX3_putPins 6 = .ok (.invokevirtual 22, 3) := by decide +kernel
theorem dX3_putPins_9 : decode cX3_putPins 9 = .ok (.return_, 1) := by decide +kernel
theorem dX3_tellState_0 : decode cX3_tellState 0 = .ok (.aload_n 0, 1) := by decide +kernel
theorem dX3_tellState_1 : decode cX3_tellState 1 = .ok (.getfield 16, 3) := by decide +kernel
theorem dX3_tellState_4 : decode cX3_tellState 4 = .ok (.iconst 4, 1) := by decide +kernel
theorem dX3_tellState_5 : decode cX3_tellState 5 = .ok (.ishl, 1) := by decide +kernel
theorem dX3_tellState_6 : decode cX3_tellState 6 = .ok (.aload_n 0, 1) := by decide +kernel
theorem dX3_tellState_7 : decode cX3_tellState 7 = .ok (.getfield 19, 3) := by decide +kernel
theorem dX3_tellState_10 : decode cX3_tellState 10 = .ok (.ior, 1) := by decide +kernel
theorem dX3_tellState_11 : decode cX3_tellState 11 = .ok (.istore_n 1, 1) := by decide +kernel
theorem dX3_tellState_12 : decode cX3_tellState 12 = .ok (.aload_n 0, 1) := by decide +kernel
theorem dX3_tellState_13 : decode cX3_tellState 13 = .ok (.iconst 0, 1) := by decide +kernel
theorem dX3_tellState_14 : decode cX3_tellState 14 = .ok (.putfield 19, 3) := by decide +kernel
theorem dX3_tellState_17 : decode cX3_tellState 17 = .ok (.iload_n 1, 1) := by decide +kernel
theorem dX3_tellState_18 : decode cX3_tellState 18 = .ok (.ireturn, 1) := by decide +kernel
set_option maxRecDepth 20000 in
theorem ggX3_follow_X3_loops : GoodIn wsX3_follow wsX3_loops := goodIn_r _ [8, 9, 14, 15, 16, 17] (by decide +kernel) (by decide +kernel)
set_option maxRecDepth 20000 in
theorem gX3_follow_X3_loops : GoodIn wsX3_follow (wsV RX3 25 RX3 yX3_loops wsX3_loops) := goodIn_app (goodIn_of _ (by decide +kernel)) ggX3_follow_X3_loops
set_option maxRecDepth 20000 in
theorem ggX3_follow_X3_looped : GoodIn wsX3_follow wsX3_looped := goodIn_r _ [13, 9, 14, 15, 16, 17] (by decide +kernel) (by decide +kernel)
set_option maxRecDepth 20000 in
theorem gX3_follow_X3_looped : GoodIn wsX3_follow (wsV RX3 29 RX3 yX3_looped wsX3_looped) := goodIn_app (goodIn_of _ (by decide +kernel)) ggX3_follow_X3_looped
theorem dX3_follow_0 : decode cX3_follow 0 = .ok (.aload_n 0, 1) := by decide +kernel
theorem dX3_follow_1 : decode cX3_follow 1 = .ok (.invokevirtual 25, 3) := by decide +kernel
theorem dX3_follow_4 : decode cX3_follow 4 = .ok (.ifCond .eq 10, 3) := by decide +kernel
theorem dX3_follow_7 : decode cX3_follow 7 = .ok (.aload_n 0, 1) := by decide +kernel
theorem dX3_follow_8 : decode cX3_follow 8 = .ok (.invokevirtual 29, 3) := by decide +kernel
theorem dX3_follow_11 : decode cX3_follow 11 = .ok (.goto 7, 3) := by decide +kernel
theorem dX3_follow_14 : decode cX3_follow 14 = .ok (.aload_n 0, 1) := by decide +kernel
theorem dX3_follow_15 : decode cX3_follow 15 = .ok (.getfield 13, 3) := by decide +kernel
theorem dX3_follow_18 : decode cX3_follow 18 = .ok (.istore_n 1, 1) := by decide +kernel
theorem dX3_follow_19 : decode cX3_follow 19 = .ok (.iload_n 1, 1) := by decide +kernel
theorem dX3_follow_20 : decode cX3_follow 20 = .ok (.aload_n 0, 1) := by decide +kernel
theorem dX3_follow_21 : decode cX3_follow 21 = .ok (.getfield 16, 3) := by decide +kernel
theorem dX3_follow_24 : decode cX3_follow 24 = .ok (.ixor, 1) := by decide +kernel
theorem dX3_follow_25 : decode cX3_follow 25 = .ok (.istore_n 2, 1) := by decide +kernel
theorem dX3_follow_26 : decode cX3_follow 26 = .ok (.aload_n 0, 1) := by decide +kernel
theorem dX3_follow_27 : decode cX3_follow 27 = .ok (.dup, 1) := by decide +kernel
theorem dX3_follow_28 : decode cX3_follow 28 = .ok (.getfield 19, 3) := by decide +kernel
theorem dX3_follow_31 : decode cX3_follow 31 = .ok (.iload_n 2, 1) := by decide +kernel
theorem dX3_follow_32 : decode cX3_follow 32 = .ok (.bipush (-5), 2) := by decide +kernel
theorem dX3_follow_34 : decode cX3_follow 34 = .ok (.iand, 1) := by decide +kernel
theorem dX3_follow_35 : decode cX3_follow 35 = .ok (.iload_n 2, 1) := by decide +kernel
theorem dX3_follow_36 : decode cX3_follow 36 = .ok (.aload_n 0, 1) := by decide +kernel
theorem dX3_follow_37 : decode cX3_follow 37 = .ok (.getfield 16, 3) := by decide +kernel
theorem dX3_follow_40 : decode cX3_follow 40 = .ok (.iand, 1) := by decide +kernel
theorem dX3_follow_41 : decode cX3_follow 41 = .ok (.iconst 4, 1) := by decide +kernel
theorem dX3_follow_42 : decode cX3_follow 42 = .ok (.iand, 1) := by decide +kernel
theorem dX3_follow_43 : decode cX3_follow 43 = .ok (.ior, 1) := by decide +kernel
theorem dX3_follow_44 : decode cX3_follow 44 = .ok (.ior, 1) := by decide +kernel
theorem dX3_follow_45 : decode cX3_follow 45 = .ok (.putfield 19, 3) := by decide +kernel
theorem dX3_follow_48 : decode cX3_follow 48 = .ok (.aload_n 0, 1) := by decide +kernel
theorem dX3_follow_49 : decode cX3_follow 49 = .ok (.iload_n 1, 1) := by decide +kernel
theorem dX3_follow_50 : decode cX3_follow 50 = .ok (.putfield 16, 3) := by decide +kernel
theorem dX3_follow_53 : decode cX3_follow 53 = .ok (.return_, 1) := by decide +kernel
theorem dX3_looped_0 : decode cX3_looped 0 = .ok (.aload_n 0, 1) := by decide +kernel
theorem dX3_looped_1 : decode cX3_looped 1 = .ok (.getfield 7, 3) := by decide +kernel
theorem dX3_looped_4 : decode cX3_looped 4 = .ok (.iconst 1, 1) := by decide +kernel
theorem dX3_looped_5 : decode cX3_looped 5 = .ok (.ishr, 1) := by decide +kernel
theorem dX3_looped_6 : decode cX3_looped 6 = .ok (.iconst 1, 1) := by decide +kernel
theorem dX3_looped_7 : decode cX3_looped 7 = .ok (.iand, 1) := by decide +kernel
theorem dX3_looped_8 : decode cX3_looped 8 = .ok (.aload_n 0, 1) := by decide +kernel
theorem dX3_looped_9 : decode cX3_looped 9 = .ok (.getfield 7, 3) := by decide +kernel
theorem dX3_looped_12 : decode cX3_looped 12 = .ok (.iconst 1, 1) := by decide +kernel
theorem dX3_looped_13 : decode cX3_looped 13 = .ok (.ishl, 1) := by decide +kernel
theorem dX3_looped_14 : decode cX3_looped 14 = .ok (.iconst 2, 1) := by decide +kernel
theorem dX3_looped_15 : decode cX3_looped 15 = .ok (.iand, 1) := by decide +kernel
theorem dX3_looped_16 : decode cX3_looped 16 = .ok (.ior, 1) := by decide +kernel
theorem dX3_looped_17 : decode cX3_looped 17 = .ok (.aload_n 0, 1) := by decide +kernel
theorem dX3_looped_18 : decode cX3_looped 18 = .ok (.getfield 7, 3) := by decide +kernel
theorem dX3_looped_21 : decode cX3_looped 21 = .ok (.bipush 12, 2) := by decide +kernel
theorem dX3_looped_23 : decode cX3_looped 23 = .ok (.iand, 1) := by decide +kernel
theorem dX3_looped_24 : decode cX3_looped 24 = .ok (.ior, 1) := by decide +kernel
theorem dX3_looped_25 : decode cX3_looped 25 = .ok (.ireturn, 1) := by decide +kernel
theorem dX4_init_0 : decode cX4_init 0 = .ok (.aload_n 0, 1) := by decide +kernel
theorem dX4_init_1 : decode cX4_init 1 = .ok (.invokespecial 3, 3) := by decide +kernel
theorem dX4_init_4 : decode cX4_init 4 = .ok (.return_, 1) := by decide +kernel
set_option maxRecDepth 20000 in
theorem ggX4_clear_X4_begin : GoodIn wsX4_clear wsX4_begin := goodIn_r _ [7, 8, 9, 10, 1, 2, 11, 12, 13, 14, 15, 16, 17, 18, 19] (by decide +kernel) (by decide +kernel)
set_option maxRecDepth 20000 in
theorem gX4_clear_X4_begin : GoodIn wsX4_clear (wsV RX4 9 RX4 yX4_begin wsX4_begin) := goodIn_app (goodIn_of _ (by decide +kernel)) ggX4_clear_X4_begin
theorem dX4_clear_0 : decode cX4_clear 0 = .ok (.aload_n 0, 1) := by decide +kernel
theorem dX4_clear_1 : decode cX4_clear 1 = .ok (.iconst 0, 1) := by decide +kernel
theorem dX4_clear_2 : decode cX4_clear 2 = .ok (.invokevirtual 9, 3) := by decide +kernel
theorem dX4_clear_5 : decode cX4_clear 5 = .ok (.aload_n 0, 1) := by decide +kernel
theorem dX4_clear_6 : decode cX4_clear 6 = .ok (.iconst 0, 1) := by decide +kernel
theorem dX4_clear_7 : decode cX4_clear 7 = .ok (.putfield 15, 3) := by decide +kernel
theorem dX4_clear_10 : decode cX4_clear 10 = .ok (.aload_n 0, 1) := by decide +kernel
theorem dX4_clear_11 : decode cX4_clear 11 = .ok (.iconst 1, 1) := by decide +kernel
theorem dX4_clear_12 : decode cX4_clear 12 = .ok (.putfield 19, 3) := by decide +kernel
theorem dX4_clear_15 : decode cX4_clear 15 = .ok (.return_, 1) := by decide +kernel
theorem dX4_isBusy_0 : decode cX4_isBusy 0 = .ok (.aload_n 0, 1) := by decide +kernel
theorem dX4_isBusy_1 : decode cX4_isBusy 1 = .ok (.getfield 15, 3) := by decide +kernel
theorem dX4_isBusy_4 : decode cX4_isBusy 4 = .ok (.ireturn, 1) := by decide +kernel
set_option maxRecDepth 20000 in
theorem ggX4_step_X4_listen : GoodIn wsX4_step wsX4_listen := goodIn_r _ [7, 8, 9, 10, 11, 6, 12, 13, 14, 2, 1, 15, 16, 51, 52, 53, 54, 55, 56, 57] (by decide +kernel) (by decide +kernel)
set_option maxRecDepth 20000 in
theorem gX4_step_X4_listen : GoodIn wsX4_step (wsV RX4 22 RX4 yX4_listen wsX4_listen) := goodIn_app (goodIn_of _ (by decide +kernel)) ggX4_step_X4_listen
set_option maxRecDepth 20000 in
theorem ggX4_step_X4_seeStart : GoodIn wsX4_step wsX4_seeStart := goodIn_r _ [20, 21, 22, 23, 6, 24, 1, 8, 51, 52, 53, 54, 55, 56, 57] (by decide +kernel) (by decide +kernel)
set_option maxRecDepth 20000 in
theorem gX4_step_X4_seeStart : GoodIn wsX4_step (wsV RX4 30 RX4 yX4_seeStart wsX4_seeStart) := goodIn_app (goodIn_of _ (by decide +kernel)) ggX4_step_X4_seeStart
set_option maxRecDepth 20000 in
theorem ggX4_step_X4_see : GoodIn wsX4_step wsX4_see := goodIn_r _ [28, 2, 13, 16, 14, 15, 29, 30, 31, 32, 33, 34, 35, 21, 22, 23, 6, 24, 1, 8, 36, 37, 38, 39, 40, 41, 42, 43, 44, 45, 46, 47, 48, 49, 50, 51, 52, 53, 54, 55, 56, 57] (by decide +kernel) (by decide +kernel)
set_option maxRecDepth 20000 in
theorem gX4_step_X4_see : GoodIn wsX4_step (wsV RX4 34 RX4 yX4_see wsX4_see) := goodIn_app (goodIn_of _ (by decide +kernel)) ggX4_step_X4_see
theorem dX4_step_0 : decode cX4_step 0 = .ok (.aload_n 0, 1) := by decide +kernel
theorem dX4_step_1 : decode cX4_step 1 = .ok (.getfield 15, 3) := by decide +kernel
theorem dX4_step_4 : decode cX4_step 4 = .ok (.ifCond .ne 11, 3) := by decide +kernel
theorem dX4_step_7 : decode cX4_step 7 = .ok (.aload_n 0, 1) := by decide +kernel
theorem dX4_step_8 : decode cX4_step 8 = .ok (.iload_n 1, 1) := by decide +kernel
theorem dX4_step_9 : decode cX4_step 9 = .ok (.iload_n 2, 1) := by decide +kernel
theorem dX4_step_10 : decode cX4_step 10 = .ok (.invokevirtual 22, 3) := by decide +kernel
theorem dX4_step_13 : decode cX4_step 13 = .ok (.iconst (-1), 1) := by decide +kernel
theorem dX4_step_14 : decode cX4_step 14 = .ok (.ireturn, 1) := by decide +kernel
theorem dX4_step_15 : decode cX4_step 15 = .ok (.aload_n 0, 1) := by decide +kernel
theorem dX4_step_16 : decode cX4_step 16 = .ok (.dup, 1) := by decide +kernel
theorem dX4_step_17 : decode cX4_step 17 = .ok (.getfield 26, 3) := by decide +kernel
theorem dX4_step_20 : decode cX4_step 20 = .ok (.iconst 1, 1) := by decide +kernel
theorem dX4_step_21 : decode cX4_step 21 = .ok (.iadd, 1) := by decide +kernel
theorem dX4_step_22 : decode cX4_step 22 = .ok (.putfield 26, 3) := by decide +kernel
theorem dX4_step_25 : decode cX4_step 25 = .ok (.aload_n 0, 1) := by decide +kernel
theorem dX4_step_26 : decode cX4_step 26 = .ok (.getfield 26, 3) := by decide +kernel
theorem dX4_step_29 : decode cX4_step 29 = .ok (.bipush 16, 2) := by decide +kernel
theorem dX4_step_31 : decode cX4_step 31 = .ok (.irem, 1) := by decide +kernel
theorem dX4_step_32 : decode cX4_step 32 = .ok (.bipush 7, 2) := by decide +kernel
theorem dX4_step_34 : decode cX4_step 34 = .ok (.if_icmp .eq 5, 3) := by decide +kernel
theorem dX4_step_37 : decode cX4_step 37 = .ok (.iconst (-1), 1) := by decide +kernel
theorem dX4_step_38 : decode cX4_step 38 = .ok (.ireturn, 1) := by decide +kernel
theorem dX4_step_39 : decode cX4_step 39 = .ok (.aload_n 0, 1) := by decide +kernel
theorem dX4_step_40 : decode cX4_step 40 = .ok (.getfield 26, 3) := by decide +kernel
theorem dX4_step_43 : decode cX4_step 43 = .ok (.bipush 7, 2) := by decide +kernel
theorem dX4_step_45 : decode cX4_step 45 = .ok (.if_icmp .ne 11, 3) := by decide +kernel
theorem dX4_step_48 : decode cX4_step 48 = .ok (.aload_n 0, 1) := by decide +kernel
theorem dX4_step_49 : decode cX4_step 49 = .ok (.iload_n 1, 1) := by decide +kernel
theorem dX4_step_50 : decode cX4_step 50 = .ok (.invokevirtual 30, 3) := by decide +kernel
theorem dX4_step_53 : decode cX4_step 53 = .ok (.goto 8, 3) := by decide +kernel
theorem dX4_step_56 : decode cX4_step 56 = .ok (.aload_n 0, 1) := by decide +kernel
theorem dX4_step_57 : decode cX4_step 57 = .ok (.iload_n 1, 1) := by decide +kernel
theorem dX4_step_58 : decode cX4_step 58 = .ok (.invokevirtual 34, 3) := by decide +kernel
theorem dX4_step_61 : decode cX4_step 61 = .ok (.ireturn, 1) := by decide +kernel
set_option maxRecDepth 20000 in
theorem ggX4_listen_X4_begin : GoodIn wsX4_listen wsX4_begin := goodIn_r _ [6, 7, 8, 9, 10, 1, 11, 12, 13, 14, 15, 16, 17, 18, 19] (by decide +kernel) (by decide +kernel)
set_option maxRecDepth 20000 in
theorem gX4_listen_X4_begin : GoodIn wsX4_listen (wsV RX4 9 RX4 yX4_begin wsX4_begin) := goodIn_app (goodIn_of _ (by decide +kernel)) ggX4_listen_X4_begin
theorem dX4_listen_0 : decode cX4_listen 0 = .ok (.iload_n 1, 1) := by decide +kernel
theorem dX4_listen_1 : decode cX4_listen 1 = .ok (.ifCond .eq 11, 3) := by decide +kernel
theorem dX4_listen_4 : decode cX4_listen 4 = .ok (.aload_n 0, 1) := by decide +kernel
theorem dX4_listen_5 : decode cX4_listen 5 = .ok (.iconst 1, 1) := by decide +kernel
theorem dX4_listen_6 : decode cX4_listen 6 = .ok (.putfield 19, 3) := by decide +kernel
theorem dX4_listen_9 : decode cX4_listen 9 = .ok (.goto 15, 3) := by decide +kernel
theorem dX4_listen_12 : decode cX4_listen 12 = .ok (.aload_n 0, 1) := by decide +kernel
theorem dX4_listen_13 : decode cX4_listen 13 = .ok (.getfield 19, 3) := by decide +kernel
theorem dX4_listen_16 : decode cX4_listen 16 = .ok (.ifCond .eq 8, 3) := by decide +kernel
theorem dX4_listen_19 : decode cX4_listen 19 = .ok (.aload_n 0, 1) := by decide +kernel
theorem dX4_listen_20 : decode cX4_listen 20 = .ok (.iload_n 2, 1) := by decide +kernel
theorem dX4_listen_21 : decode cX4_listen 21 = .ok (.invokevirtual 9, 3) := by decide +kernel
theorem dX4_listen_24 : decode cX4_listen 24 = .ok (.return_, 1) := by decide +kernel
theorem dX4_begin_0 : decode cX4_begin 0 = .ok (.aload_n 0, 1) := by decide +kernel
theorem dX4_begin_1 : decode cX4_begin 1 = .ok (.iload_n 1, 1) := by decide +kernel
theorem dX4_begin_2 : decode cX4_begin 2 = .ok (.putfield 37, 3) := by decide +kernel
theorem dX4_begin_5 : decode cX4_begin 5 = .ok (.aload_n 0, 1) := by decide +kernel
theorem dX4_begin_6 : decode cX4_begin 6 = .ok (.iconst 0, 1) := by decide +kernel
theorem dX4_begin_7 : decode cX4_begin 7 = .ok (.putfield 40, 3) := by decide +kernel
theorem dX4_begin_10 : decode cX4_begin 10 = .ok (.aload_n 0, 1) := by decide +kernel
theorem dX4_begin_11 : decode cX4_begin 11 = .ok (.iconst 0, 1) := by decide +kernel
theorem dX4_begin_12 : decode cX4_begin 12 = .ok (.putfield 26, 3) := by decide +kernel
theorem dX4_begin_15 : decode cX4_begin 15 = .ok (.aload_n 0, 1) := by decide +kernel
theorem dX4_begin_16 : decode cX4_begin 16 = .ok (.iconst 1, 1) := by decide +kernel
theorem dX4_begin_17 : decode cX4_begin 17 = .ok (.putfield 15, 3) := by decide +kernel
theorem dX4_begin_20 : decode cX4_begin 20 = .ok (.aload_n 0, 1) := by decide +kernel
theorem dX4_begin_21 : decode cX4_begin 21 = .ok (.iconst 0, 1) := by decide +kernel
theorem dX4_begin_22 : decode cX4_begin 22 = .ok (.putfield 19, 3) := by decide +kernel
theorem dX4_begin_25 : decode cX4_begin 25 = .ok (.aload_n 0, 1) := by decide +kernel
theorem dX4_begin_26 : decode cX4_begin 26 = .ok (.iconst 0, 1) := by decide +kernel
theorem dX4_begin_27 : decode cX4_begin 27 = .ok (.putfield 43, 3) := by decide +kernel
theorem dX4_begin_30 : decode cX4_begin 30 = .ok (.aload_n 0, 1) := by decide +kernel
theorem dX4_begin_31 : decode cX4_begin 31 = .ok (.iconst 0, 1) := by decide +kernel
theorem dX4_begin_32 : decode cX4_begin 32 = .ok (.putfield 46, 3) := by decide +kernel
theorem dX4_begin_35 : decode cX4_begin 35 = .ok (.return_, 1) := by decide +kernel
set_option maxRecDepth 20000 in
theorem ggX4_seeStart_X4_becomeIdle : GoodIn wsX4_seeStart wsX4_becomeIdle := goodIn_r _ [5, 6, 7, 8, 9, 10, 11, 12, 13, 14] (by decide +kernel) (by decide +kernel)
set_option maxRecDepth 20000 in
theorem gX4_seeStart_X4_becomeIdle : GoodIn wsX4_seeStart (wsV RX4 49 RX4 yX4_becomeIdle wsX4_becomeIdle) := goodIn_app (goodIn_of _ (by decide +kernel)) ggX4_seeStart_X4_becomeIdle
theorem dX4_seeStart_0 : decode cX4_seeStart 0 = .ok (.iload_n 1, 1) := by decide +kernel
theorem dX4_seeStart_1 : decode cX4_seeStart 1 = .ok (.ifCond .eq 8, 3) := by decide +kernel
theorem dX4_seeStart_4 : decode cX4_seeStart 4 = .ok (.aload_n 0, 1) := by decide +kernel
theorem dX4_seeStart_5 : decode cX4_seeStart 5 = .ok (.iconst 1, 1) := by decide +kernel
theorem dX4_seeStart_6 : decode cX4_seeStart 6 = .ok (.invokevirtual 49, 3) := by decide +kernel
theorem dX4_seeStart_9 : decode cX4_seeStart 9 = .ok (.iconst (-1), 1) := by decide +kernel
theorem dX4_seeStart_10 : decode cX4_seeStart 10 = .ok (.ireturn, 1) := by decide +kernel
theorem dX4_becomeIdle_0 : decode cX4_becomeIdle 0 = .ok (.aload_n 0, 1) := by decide +kernel
theorem dX4_becomeIdle_1 : decode cX4_becomeIdle 1 = .ok (.iconst 0, 1) := by decide +kernel
theorem dX4_becomeIdle_2 : decode cX4_becomeIdle 2 = .ok (.putfield 15, 3) := by decide +kernel
theorem dX4_becomeIdle_5 : decode cX4_becomeIdle 5 = .ok (.aload_n 0, 1) := by decide +kernel
theorem dX4_becomeIdle_6 : decode cX4_becomeIdle 6 = .ok (.iload_n 1, 1) := by decide +kernel
theorem dX4_becomeIdle_7 : decode cX4_becomeIdle 7 = .ok (.putfield 19, 3) := by decide +kernel
theorem dX4_becomeIdle_10 : decode cX4_becomeIdle 10 = .ok (.return_, 1) := by decide +kernel
set_option maxRecDepth 20000 in
theorem ggX4_see_X7_dataBits : GoodIn wsX4_see wsX7_dataBits := goodIn_r _ [9] (by decide +kernel) (by decide +kernel)
set_option maxRecDepth 20000 in
theorem gX4_see_X7_dataBits : GoodIn wsX4_see (va_wsS RX4 53 yX7_dataBits wsX7_dataBits) := goodIn_app (goodIn_of _ (by decide +kernel)) ggX4_see_X7_dataBits
set_option maxRecDepth 20000 in
theorem ggX4_see_X7_hasParity : GoodIn wsX4_see wsX7_hasParity := goodIn_r _ [12] (by decide +kernel) (by decide +kernel)
set_option maxRecDepth 20000 in
theorem gX4_see_X7_hasParity : GoodIn wsX4_see (va_wsS RX4 59 yX7_hasParity wsX7_hasParity) := goodIn_app (goodIn_of _ (by decide +kernel)) ggX4_see_X7_hasParity
set_option maxRecDepth 20000 in
theorem ggX4_see_X4_becomeIdle : GoodIn wsX4_see wsX4_becomeIdle := goodIn_r _ [17, 18, 19, 35, 36, 37, 38, 39, 40, 41] (by decide +kernel) (by decide +kernel)
set_option maxRecDepth 20000 in
theorem gX4_see_X4_becomeIdle : GoodIn wsX4_see (wsV RX4 49 RX4 yX4_becomeIdle wsX4_becomeIdle) := goodIn_app (goodIn_of _ (by decide +kernel)) ggX4_see_X4_becomeIdle
set_option maxRecDepth 20000 in
theorem ggX4_see_X4_faults : GoodIn wsX4_see wsX4_faults := goodIn_r _ [23, 3, 2, 5, 4, 10, 11, 8, 12, 24, 25, 26, 27, 7, 9, 28, 29, 30, 31, 32, 33, 34, 35, 36, 37, 38, 39, 40, 41] (by decide +kernel) (by decide +kernel)
set_option maxRecDepth 20000 in
theorem gX4_see_X4_faults : GoodIn wsX4_see (wsV RX4 63 RX4 yX4_faults wsX4_faults) := goodIn_app (goodIn_of _ (by decide +kernel)) ggX4_see_X4_faults
theorem dX4_see_0 : decode cX4_see 0 = .ok (.aload_n 0, 1) := by decide +kernel
theorem dX4_see_1 : decode cX4_see 1 = .ok (.getfield 26, 3) := by decide +kernel
theorem dX4_see_4 : decode cX4_see 4 = .ok (.bipush 16, 2) := by decide +kernel
theorem dX4_see_6 : decode cX4_see 6 = .ok (.idiv, 1) := by decide +kernel
theorem dX4_see_7 : decode cX4_see 7 = .ok (.istore_n 2, 1) := by decide +kernel
theorem dX4_see_8 : decode cX4_see 8 = .ok (.aload_n 0, 1) := by decide +kernel
theorem dX4_see_9 : decode cX4_see 9 = .ok (.getfield 37, 3) := by decide +kernel
theorem dX4_see_12 : decode cX4_see 12 = .ok (.invokestatic 53, 3) := by decide +kernel
theorem dX4_see_15 : decode cX4_see 15 = .ok (.istore_n 3, 1) := by decide +kernel
theorem dX4_see_16 : decode cX4_see 16 = .ok (.aload_n 0, 1) := by decide +kernel
theorem dX4_see_17 : decode cX4_see 17 = .ok (.aload_n 0, 1) := by decide +kernel
theorem dX4_see_18 : decode cX4_see 18 = .ok (.getfield 46, 3) := by decide +kernel
theorem dX4_see_21 : decode cX4_see 21 = .ok (.ifCond .ne 7, 3) := by decide +kernel
theorem dX4_see_24 : decode cX4_see 24 = .ok (.iload_n 1, 1) := by decide +kernel
theorem dX4_see_25 : decode cX4_see 25 = .ok (.ifCond .eq 7, 3) := by decide +kernel
theorem dX4_see_28 : decode cX4_see 28 = .ok (.iconst 1, 1) := by decide +kernel
theorem dX4_see_29 : decode cX4_see 29 = .ok (.goto 4, 3) := by decide +kernel
theorem dX4_see_32 : decode cX4_see 32 = .ok (.iconst 0, 1) := by decide +kernel
theorem dX4_see_33 : decode cX4_see 33 = .ok (.putfield 46, 3) := by decide +kernel
theorem dX4_see_36 : decode cX4_see 36 = .ok (.iload_n 2, 1) := by decide +kernel
theorem dX4_see_37 : decode cX4_see 37 = .ok (.iload_n 3, 1) := by decide +kernel
theorem dX4_see_38 : decode cX4_see 38 = .ok (.if_icmp .gt 27, 3) := by decide +kernel
theorem dX4_see_41 : decode cX4_see 41 = .ok (.aload_n 0, 1) := by decide +kernel
theorem dX4_see_42 : decode cX4_see 42 = .ok (.dup, 1) := by decide +kernel
theorem dX4_see_43 : decode cX4_see 43 = .ok (.getfield 40, 3) := by decide +kernel
theorem dX4_see_46 : decode cX4_see 46 = .ok (.iload_n 1, 1) := by decide +kernel
theorem dX4_see_47 : decode cX4_see 47 = .ok (.ifCond .eq 11, 3) := by decide +kernel
theorem dX4_see_50 : decode cX4_see 50 = .ok (.iconst 1, 1) := by decide +kernel
theorem dX4_see_51 : decode cX4_see 51 = .ok (.iload_n 2, 1) := by decide +kernel
theorem dX4_see_52 : decode cX4_see 52 = .ok (.iconst 1, 1) := by decide +kernel
theorem dX4_see_53 : decode cX4_see 53 = .ok (.isub, 1) := by decide +kernel
theorem dX4_see_54 : decode cX4_see 54 = .ok (.ishl, 1) := by decide +kernel
theorem dX4_see_55 : decode cX4_see 55 = .ok (.goto 4, 3) := by decide +kernel
theorem dX4_see_58 : decode cX4_see 58 = .ok (.iconst 0, 1) := by decide +kernel
theorem dX4_see_59 : decode cX4_see 59 = .ok (.ior, 1) := by decide +kernel
theorem dX4_see_60 : decode cX4_see 60 = .ok (.putfield 40, 3) := by decide +kernel
theorem dX4_see_63 : decode cX4_see 63 = .ok (.iconst (-1), 1) := by decide +kernel
theorem dX4_see_64 : decode cX4_see 64 = .ok (.ireturn, 1) := by decide +kernel
theorem dX4_see_65 : decode cX4_see 65 = .ok (.iload_n 2, 1) := by decide +kernel
theorem dX4_see_66 : decode cX4_see 66 = .ok (.iload_n 3, 1) := by decide +kernel
theorem dX4_see_67 : decode cX4_see 67 = .ok (.iconst 1, 1) := by decide +kernel
theorem dX4_see_68 : decode cX4_see 68 = .ok (.iadd, 1) := by decide +kernel
theorem dX4_see_69 : decode cX4_see 69 = .ok (.if_icmp .ne 20, 3) := by decide +kernel
theorem dX4_see_72 : decode cX4_see 72 = .ok (.aload_n 0, 1) := by decide +kernel
theorem dX4_see_73 : decode cX4_see 73 = .ok (.getfield 37, 3) := by decide +kernel
theorem dX4_see_76 : decode cX4_see 76 = .ok (.invokestatic 59, 3) := by decide +kernel
theorem dX4_see_79 : decode cX4_see 79 = .ok (.ifCond .eq 10, 3) := by decide +kernel
theorem dX4_see_82 : decode cX4_see 82 = .ok (.aload_n 0, 1) := by decide +kernel
theorem dX4_see_83 : decode cX4_see 83 = .ok (.iload_n 1, 1) := by decide +kernel
theorem dX4_see_84 : decode cX4_see 84 = .ok (.putfield 43, 3) := by decide +kernel
theorem dX4_see_87 : decode cX4_see 87 = .ok (.iconst (-1), 1) := by decide +kernel
theorem dX4_see_88 : decode cX4_see 88 = .ok (.ireturn, 1) := by decide +kernel
theorem dX4_see_89 : decode cX4_see 89 = .ok (.aload_n 0, 1) := by decide +kernel
theorem dX4_see_90 : decode cX4_see 90 = .ok (.iload_n 1, 1) := by decide +kernel
theorem dX4_see_91 : decode cX4_see 91 = .ok (.invokevirtual 49, 3) := by decide +kernel
theorem dX4_see_94 : decode cX4_see 94 = .ok (.aload_n 0, 1) := by decide +kernel
theorem dX4_see_95 : decode cX4_see 95 = .ok (.getfield 40, 3) := by decide +kernel
theorem dX4_see_98 : decode cX4_see 98 = .ok (.aload_n 0, 1) := by decide +kernel
theorem dX4_see_99 : decode cX4_see 99 = .ok (.iload_n 1, 1) := by decide +kernel
theorem dX4_see_100 : decode cX4_see 100 = .ok (.invokevirtual 63, 3) := by decide +kernel
theorem dX4_see_103 : decode cX4_see 103 = .ok (.bipush 8, 2) := by decide +kernel
theorem dX4_see_105 : decode cX4_see 105 = .ok (.ishl, 1) := by decide +kernel
theorem dX4_see_106 : decode cX4_see 106 = .ok (.ior, 1) := by decide +kernel
theorem dX4_see_107 : decode cX4_see 107 = .ok (.ireturn, 1) := by decide +kernel
set_option maxRecDepth 20000 in
theorem ggX4_faults_X7_hasParity : GoodIn wsX4_faults wsX7_hasParity := goodIn_r _ [8] (by decide +kernel) (by decide +kernel)
set_option maxRecDepth 20000 in
theorem gX4_faults_X7_hasParity : GoodIn wsX4_faults (va_wsS RX4 59 yX7_hasParity wsX7_hasParity) := goodIn_app (goodIn_of _ (by decide +kernel)) ggX4_faults_X7_hasParity
set_option maxRecDepth 20000 in
theorem ggX4_faults_X7_parityIsHigh : GoodIn wsX4_faults wsX7_parityIsHigh := goodIn_r _ [11, 12, 13, 7, 14, 15, 16, 17, 18, 19, 20, 21] (by decide +kernel) (by decide +kernel)
set_option maxRecDepth 20000 in
theorem gX4_faults_X7_parityIsHigh : GoodIn wsX4_faults (va_wsS RX4 66 yX7_parityIsHigh wsX7_parityIsHigh) := goodIn_app (goodIn_of _ (by decide +kernel)) ggX4_faults_X7_parityIsHigh
theorem dX4_faults_0 : decode cX4_faults 0 = .ok (.iload_n 1, 1) := by decide +kernel
theorem dX4_faults_1 : decode cX4_faults 1 = .ok (.ifCond .eq 7, 3) := by decide +kernel
theorem dX4_faults_4 : decode cX4_faults 4 = .ok (.iconst 0, 1) := by decide +kernel
theorem dX4_faults_5 : decode cX4_faults 5 = .ok (.goto 5, 3) := by decide +kernel
theorem dX4_faults_8 : decode cX4_faults 8 = .ok (.bipush 8, 2) := by decide +kernel
theorem dX4_faults_10 : decode cX4_faults 10 = .ok (.istore_n 2, 1) := by decide +kernel
theorem dX4_faults_11 : decode cX4_faults 11 = .ok (.aload_n 0, 1) := by decide +kernel
theorem dX4_faults_12 : decode cX4_faults 12 = .ok (.getfield 46, 3) := by decide +kernel
theorem dX4_faults_15 : decode cX4_faults 15 = .ok (.ifCond .ne 8, 3) := by decide +kernel
theorem dX4_faults_18 : decode cX4_faults 18 = .ok (.iload_n 2, 1) := by decide +kernel
theorem dX4_faults_19 : decode cX4_faults 19 = .ok (.bipush 16, 2) := by decide +kernel
theorem dX4_faults_21 : decode cX4_faults 21 = .ok (.ior, 1) := by decide +kernel
theorem dX4_faults_22 : decode cX4_faults 22 = .ok (.istore_n 2, 1) := by decide +kernel
theorem dX4_faults_23 : decode cX4_faults 23 = .ok (.aload_n 0, 1) := by decide +kernel
theorem dX4_faults_24 : decode cX4_faults 24 = .ok (.getfield 37, 3) := by decide +kernel
theorem dX4_faults_27 : decode cX4_faults 27 = .ok (.invokestatic 59, 3) := by decide +kernel
theorem dX4_faults_30 : decode cX4_faults 30 = .ok (.ifCond .eq 25, 3) := by decide +kernel
theorem dX4_faults_33 : decode cX4_faults 33 = .ok (.aload_n 0, 1) := by decide +kernel
theorem dX4_faults_34 : decode cX4_faults 34 = .ok (.getfield 43, 3) := by decide +kernel
theorem dX4_faults_37 : decode cX4_faults 37 = .ok (.aload_n 0, 1) := by decide +kernel
theorem dX4_faults_38 : decode cX4_faults 38 = .ok (.getfield 37, 3) := by decide +kernel
theorem dX4_faults_41 : decode cX4_faults 41 = .ok (.aload_n 0, 1) := by decide +kernel
theorem dX4_faults_42 : decode cX4_faults 42 = .ok (.getfield 40, 3) := by decide +kernel
theorem dX4_faults_45 : decode cX4_faults 45 = .ok (.invokestatic 66, 3) := by decide +kernel
theorem dX4_faults_48 : decode cX4_faults 48 = .ok (.if_icmp .eq 7, 3) := by decide +kernel
theorem dX4_faults_51 : decode cX4_faults 51 = .ok (.iload_n 2, 1) := by decide +kernel
theorem dX4_faults_52 : decode cX4_faults 52 = .ok (.iconst 4, 1) := by decide +kernel
theorem dX4_faults_53 : decode cX4_faults 53 = .ok (.ior, 1) := by decide +kernel
theorem dX4_faults_54 : decode cX4_faults 54 = .ok (.istore_n 2, 1) := by decide +kernel
theorem dX4_faults_55 : decode cX4_faults 55 = .ok (.iload_n 2, 1) := by decide +kernel
theorem dX4_faults_56 : decode cX4_faults 56 = .ok (.ireturn, 1) := by decide +kernel
theorem dX5_init_0 : decode cX5_init 0 = .ok (.aload_n 0, 1) := by decide +kernel
theorem dX5_init_1 : decode cX5_init 1 = .ok (.invokespecial 1, 3) := by decide +kernel
theorem dX5_init_4 : decode cX5_init 4 = .ok (.aload_n 0, 1) := by decide +kernel
theorem dX5_init_5 : decode cX5_init 5 = .ok (.iload_n 1, 1) := by decide +kernel
theorem dX5_init_6 : decode cX5_init 6 = .ok (.iconst 1, 1) := by decide +kernel
theorem dX5_init_7 : decode cX5_init 7 = .ok (.invokestatic 7, 3) := by decide +kernel
theorem dX5_init_10 : decode cX5_init 10 = .ok (.newarray .int, 2) := by decide +kernel
theorem dX5_init_12 : decode cX5_init 12 = .ok (.putfield 13, 3) := by decide +kernel
theorem dX5_init_15 : decode cX5_init 15 = .ok (.aload_n 0, 1) := by decide +kernel
theorem dX5_init_16 : decode cX5_init 16 = .ok (.iconst 0, 1) := by decide +kernel
theorem dX5_init_17 : decode cX5_init 17 = .ok (.putfield 19, 3) := by decide +kernel
theorem dX5_init_20 : decode cX5_init 20 = .ok (.aload_n 0, 1) := by decide +kernel
theorem dX5_init_21 : decode cX5_init 21 = .ok (.iconst 0, 1) := by decide +kernel
theorem dX5_init_22 : decode cX5_init 22 = .ok (.putfield 23, 3) := by decide +kernel
theorem dX5_init_25 : decode cX5_init 25 = .ok (.return_, 1) := by decide +kernel
theorem dX5_size_0 : decode cX5_size 0 = .ok (.aload_n 0, 1) := by decide +kernel
theorem dX5_size_1 : decode cX5_size 1 = .ok (.getfield 23, 3) := by decide +kernel
theorem dX5_size_4 : decode cX5_size 4 = .ok (.ireturn, 1) := by decide +kernel
theorem dX5_isEmpty_0 : decode cX5_isEmpty 0 = .ok (.aload_n 0, 1) := by decide +kernel
theorem dX5_isEmpty_1 : decode cX5_isEmpty 1 = .ok (.getfield 23, 3) := by decide +kernel
theorem dX5_isEmpty_4 : decode cX5_isEmpty 4 = .ok (.ifCond .ne 7, 3) := by decide +kernel
theorem dX5_isEmpty_7 : decode cX5_isEmpty 7 = .ok (.iconst 1, 1) := by decide +kernel
theorem dX5_isEmpty_8 : decode cX5_isEmpty 8 = .ok (.goto 4, 3) := by decide +kernel
theorem dX5_isEmpty_11 : decode cX5_isEmpty 11 = .ok (.iconst 0, 1) := by decide +kernel
theorem dX5_isEmpty_12 : decode cX5_isEmpty 12 = .ok (.ireturn, 1) := by decide +kernel
theorem dX5_room_0 : decode cX5_room 0 = .ok (.aload_n 0, 1) := by decide +kernel
theorem dX5_room_1 : decode cX5_room 1 = .ok (.getfield 13, 3) := by decide +kernel
theorem dX5_room_4 : decode cX5_room 4 = .ok (.arraylength, 1) := by decide +kernel
theorem dX5_room_5 : decode cX5_room 5 = .ok (.aload_n 0, 1) := by decide +kernel
theorem dX5_room_6 : decode cX5_room 6 = .ok (.getfield 23, 3) := by decide +kernel
theorem dX5_room_9 : decode cX5_room 9 = .ok (.isub, 1) := by decide +kernel
theorem dX5_room_10 : decode cX5_room 10 = .ok (.ireturn, 1) := by decide +kernel
theorem dX5_clear_0 : decode cX5_clear 0 = .ok (.aload_n 0, 1) := by decide +kernel
theorem dX5_clear_1 : decode cX5_clear 1 = .ok (.iconst 0, 1) := by decide +kernel
theorem dX5_clear_2 : decode cX5_clear 2 = .ok (.putfield 19, 3) := by decide +kernel
theorem dX5_clear_5 : decode cX5_clear 5 = .ok (.aload_n 0, 1) := by decide +kernel
theorem dX5_clear_6 : decode cX5_clear 6 = .ok (.iconst 0, 1) := by decide +kernel
theorem dX5_clear_7 : decode cX5_clear 7 = .ok (.putfield 23, 3) := by decide +kernel
theorem dX5_clear_10 : decode cX5_clear 10 = .ok (.return_, 1) := by decide +kernel
set_option maxRecDepth 20000 in
theorem ggX5_at_X5_cellOf : GoodIn wsX5_at wsX5_cellOf := goodIn_r _ [7, 8, 2, 9, 10, 11] (by decide +kernel) (by decide +kernel)
set_option maxRecDepth 20000 in
theorem gX5_at_X5_cellOf : GoodIn wsX5_at (wsV RX5 26 RX5 yX5_cellOf wsX5_cellOf) := goodIn_app (goodIn_of _ (by decide +kernel)) ggX5_at_X5_cellOf
theorem dX5_at_0 : decode cX5_at 0 = .ok (.aload_n 0, 1) := by decide +kernel
theorem dX5_at_1 : decode cX5_at 1 = .ok (.iload_n 1, 1) := by decide +kernel
theorem dX5_at_2 : decode cX5_at 2 = .ok (.invokevirtual 26, 3) := by decide +kernel
theorem dX5_at_5 : decode cX5_at 5 = .ok (.istore_n 2, 1) := by decide +kernel
theorem dX5_at_6 : decode cX5_at 6 = .ok (.iload_n 1, 1) := by decide +kernel
theorem dX5_at_7 : decode cX5_at 7 = .ok (.ifCond .lt 33, 3) := by decide +kernel
theorem dX5_at_10 : decode cX5_at 10 = .ok (.iload_n 1, 1) := by decide +kernel
theorem dX5_at_11 : decode cX5_at 11 = .ok (.aload_n 0, 1) := by decide +kernel
theorem dX5_at_12 : decode cX5_at 12 = .ok (.getfield 23, 3) := by decide +kernel
theorem dX5_at_15 : decode cX5_at 15 = .ok (.if_icmp .ge 25, 3) := by decide +kernel
theorem dX5_at_18 : decode cX5_at 18 = .ok (.iload_n 2, 1) := by decide +kernel
theorem dX5_at_19 : decode cX5_at 19 = .ok (.ifCond .lt 21, 3) := by decide +kernel
theorem dX5_at_22 : decode cX5_at 22 = .ok (.iload_n 2, 1) := by decide +kernel
theorem dX5_at_23 : decode cX5_at 23 = .ok (.aload_n 0, 1) := by decide +kernel
theorem dX5_at_24 : decode cX5_at 24 = .ok (.getfield 13, 3) := by decide +kernel
theorem dX5_at_27 : decode cX5_at 27 = .ok (.arraylength, 1) := by decide +kernel
theorem dX5_at_28 : decode cX5_at 28 = .ok (.if_icmp .ge 12, 3) := by decide +kernel
theorem dX5_at_31 : decode cX5_at 31 = .ok (.aload_n 0, 1) := by decide +kernel
theorem dX5_at_32 : decode cX5_at 32 = .ok (.getfield 13, 3) := by decide +kernel
theorem dX5_at_35 : decode cX5_at 35 = .ok (.iload_n 2, 1) := by decide +kernel
theorem dX5_at_36 : decode cX5_at 36 = .ok (.iaload, 1) := by decide +kernel
theorem dX5_at_37 : decode cX5_at 37 = .ok (.goto 4, 3) := by decide +kernel
theorem dX5_at_40 : decode cX5_at 40 = .ok (.iconst 0, 1) := by decide +kernel
theorem dX5_at_41 : decode cX5_at 41 = .ok (.ireturn, 1) := by decide +kernel
set_option maxRecDepth 20000 in
theorem ggX5_first_X5_at : GoodIn wsX5_first wsX5_at := goodIn_r _ [5, 6, 7, 8, 9, 10, 4, 11, 12, 13, 14, 15] (by decide +kernel) (by decide +kernel)
set_option maxRecDepth 20000 in
theorem gX5_first_X5_at : GoodIn wsX5_first (wsV RX5 30 RX5 yX5_at wsX5_at) := goodIn_app (goodIn_of _ (by decide +kernel)) ggX5_first_X5_at
theorem dX5_first_0 : decode cX5_first 0 = .ok (.aload_n 0, 1) := by decide +kernel
theorem dX5_first_1 : decode cX5_first 1 = .ok (.iconst 0, 1) := by decide +kernel
theorem dX5_first_2 : decode cX5_first 2 = .ok (.invokevirtual 30, 3) := by decide +kernel
theorem dX5_first_5 : decode cX5_first 5 = .ok (.ireturn, 1) := by decide +kernel
set_option maxRecDepth 20000 in
theorem ggX5_setFirst_X5_setAt : GoodIn wsX5_setFirst wsX5_setAt := goodIn_r _ [5, 6, 7, 8, 9, 10, 4, 11, 12, 13, 14, 15] (by decide +kernel) (by decide +kernel)
set_option maxRecDepth 20000 in
theorem gX5_setFirst_X5_setAt : GoodIn wsX5_setFirst (wsV RX5 33 RX5 yX5_setAt wsX5_setAt) := goodIn_app (goodIn_of _ (by decide +kernel)) ggX5_setFirst_X5_setAt
theorem dX5_setFirst_0 : decode cX5_setFirst 0 = .ok (.aload_n 0, 1) := by decide +kernel
theorem dX5_setFirst_1 : decode cX5_setFirst 1 = .ok (.iconst 0, 1) := by decide +kernel
theorem dX5_setFirst_2 : decode cX5_setFirst 2 = .ok (.iload_n 1, 1) := by decide +kernel
theorem dX5_setFirst_3 : decode cX5_setFirst 3 = .ok (.invokevirtual 33, 3) := by decide +kernel
theorem dX5_setFirst_6 : decode cX5_setFirst 6 = .ok (.return_, 1) := by decide +kernel
set_option maxRecDepth 20000 in
theorem ggX5_setAt_X5_cellOf : GoodIn wsX5_setAt wsX5_cellOf := goodIn_r _ [7, 8, 2, 9, 10, 11] (by decide +kernel) (by decide +kernel)
set_option maxRecDepth 20000 in
theorem gX5_setAt_X5_cellOf : GoodIn wsX5_setAt (wsV RX5 26 RX5 yX5_cellOf wsX5_cellOf) := goodIn_app (goodIn_of _ (by decide +kernel)) ggX5_setAt_X5_cellOf
theorem dX5_setAt_0 : decode cX5_setAt 0 = .ok (.aload_n 0, 1) := by decide +kernel
theorem dX5_setAt_1 : decode cX5_setAt 1 = .ok (.iload_n 1, 1) := by decide +kernel
theorem dX5_setAt_2 : decode cX5_setAt 2 = .ok (.invokevirtual 26, 3) := by decide +kernel
theorem dX5_setAt_5 : decode cX5_setAt 5 = .ok (.istore_n 3, 1) := by decide +kernel
theorem dX5_setAt_6 : decode cX5_setAt 6 = .ok (.iload_n 1, 1) := by decide +kernel
theorem dX5_setAt_7 : decode cX5_setAt 7 = .ok (.ifCond .lt 31, 3) := by decide +kernel
theorem dX5_setAt_10 : decode cX5_setAt 10 = .ok (.iload_n 1, 1) := by decide +kernel
theorem dX5_setAt_11 : decode cX5_setAt 11 = .ok (.aload_n 0, 1) := by decide +kernel
theorem dX5_setAt_12 : decode cX5_setAt 12 = .ok (.getfield 23, 3) := by decide +kernel
theorem dX5_setAt_15 : decode cX5_setAt 15 = .ok (.if_icmp .ge 23, 3) := by decide +kernel
theorem dX5_setAt_18 : decode cX5_setAt 18 = .ok (.iload_n 3, 1) := by decide +kernel
theorem dX5_setAt_19 : decode cX5_setAt 19 = .ok (.ifCond .lt 19, 3) := by decide +kernel
theorem dX5_setAt_22 : decode cX5_setAt 22 = .ok (.iload_n 3, 1) := by decide +kernel
theorem dX5_setAt_23 : decode cX5_setAt 23 = .ok (.aload_n 0, 1) := by decide +kernel
theorem dX5_setAt_24 : decode cX5_setAt 24 = .ok (.getfield 13, 3) := by decide +kernel
theorem dX5_setAt_27 : decode cX5_setAt 27 = .ok (.arraylength, 1) := by decide +kernel
theorem dX5_setAt_28 : decode cX5_setAt 28 = .ok (.if_icmp .ge 10, 3) := by decide +kernel
theorem dX5_setAt_31 : decode cX5_setAt 31 = .ok (.aload_n 0, 1) := by decide +kernel
theorem dX5_setAt_32 : decode cX5_setAt 32 = .ok (.getfield 13, 3) := by decide +kernel
theorem dX5_setAt_35 : decode cX5_setAt 35 = .ok (.iload_n 3, 1) := by decide +kernel
theorem dX5_setAt_36 : decode cX5_setAt 36 = .ok (.iload_n 2, 1) := by decide +kernel
theorem dX5_setAt_37 : decode cX5_setAt 37 = .ok (.iastore, 1) := by decide +kernel
theorem dX5_setAt_38 : decode cX5_setAt 38 = .ok (.return_, 1) := by decide +kernel
set_option maxRecDepth 20000 in
theorem ggX5_add_X5_setAt : GoodIn wsX5_add wsX5_setAt := goodIn_r _ [7, 1, 2, 8, 9, 10, 6, 11, 12, 13, 14, 15] (by decide +kernel) (by decide +kernel)
set_option maxRecDepth 20000 in
theorem gX5_add_X5_setAt : GoodIn wsX5_add (wsV RX5 33 RX5 yX5_setAt wsX5_setAt) := goodIn_app (goodIn_of _ (by decide +kernel)) ggX5_add_X5_setAt
theorem dX5_add_0 : decode cX5_add 0 = .ok (.aload_n 0, 1) := by decide +kernel
theorem dX5_add_1 : decode cX5_add 1 = .ok (.getfield 23, 3) := by decide +kernel
theorem dX5_add_4 : decode cX5_add 4 = .ok (.aload_n 0, 1) := by decide +kernel
theorem dX5_add_5 : decode cX5_add 5 = .ok (.getfield 13, 3) := by decide +kernel
theorem dX5_add_8 : decode cX5_add 8 = .ok (.arraylength, 1) := by decide +kernel
theorem dX5_add_9 : decode cX5_add 9 = .ok (.if_icmp .ge 24, 3) := by decide +kernel
theorem dX5_add_12 : decode cX5_add 12 = .ok (.aload_n 0, 1) := by decide +kernel
theorem dX5_add_13 : decode cX5_add 13 = .ok (.dup, 1) := by decide +kernel
theorem dX5_add_14 : decode cX5_add 14 = .ok (.getfield 23, 3) := by decide +kernel
theorem dX5_add_17 : decode cX5_add 17 = .ok (.iconst 1, 1) := by decide +kernel
theorem dX5_add_18 : decode cX5_add 18 = .ok (.iadd, 1) := by decide +kernel
theorem dX5_add_19 : decode cX5_add 19 = .ok (.putfield 23, 3) := by decide +kernel
theorem dX5_add_22 : decode cX5_add 22 = .ok (.aload_n 0, 1) := by decide +kernel
theorem dX5_add_23 : decode cX5_add 23 = .ok (.aload_n 0, 1) := by decide +kernel
theorem dX5_add_24 : decode cX5_add 24 = .ok (.getfield 23, 3) := by decide +kernel
theorem dX5_add_27 : decode cX5_add 27 = .ok (.iconst 1, 1) := by decide +kernel
theorem dX5_add_28 : decode cX5_add 28 = .ok (.isub, 1) := by decide +kernel
theorem dX5_add_29 : decode cX5_add 29 = .ok (.iload_n 1, 1) := by decide +kernel
theorem dX5_add_30 : decode cX5_add 30 = .ok (.invokevirtual 33, 3) := by decide +kernel
theorem dX5_add_33 : decode cX5_add 33 = .ok (.return_, 1) := by decide +kernel
set_option maxRecDepth 20000 in
theorem ggX5_dropFirst_X5_cellOf : GoodIn wsX5_dropFirst wsX5_cellOf := goodIn_r _ [7, 2, 8, 9, 10, 11] (by decide +kernel) (by decide +kernel)
set_option maxRecDepth 20000 in
theorem gX5_dropFirst_X5_cellOf : GoodIn wsX5_dropFirst (wsV RX5 26 RX5 yX5_cellOf wsX5_cellOf) := goodIn_app (goodIn_of _ (by decide +kernel)) ggX5_dropFirst_X5_cellOf
theorem dX5_dropFirst_0 : decode cX5_dropFirst 0 = .ok (.aload_n 0, 1) := by decide +kernel
theorem dX5_dropFirst_1 : decode cX5_dropFirst 1 = .ok (.getfield 23, 3) := by decide +kernel
theorem dX5_dropFirst_4 : decode cX5_dropFirst 4 = .ok (.ifCond .le 22, 3) := by decide +kernel
theorem dX5_dropFirst_7 : decode cX5_dropFirst 7 = .ok (.aload_n 0, 1) := by decide +kernel
theorem dX5_dropFirst_8 : decode cX5_dropFirst 8 = .ok (.aload_n 0, 1) := by decide +kernel
theorem dX5_dropFirst_9 : decode cX5_dropFirst 9 = .ok (.iconst 1, 1) := by decide +kernel
theorem dX5_dropFirst_10 : decode cX5_dropFirst 10 = .ok (.invokevirtual 26, 3) := by decide +kernel
theorem dX5_dropFirst_13 : decode cX5_dropFirst 13 = .ok (.putfield 19, 3) := by decide +kernel
theorem dX5_dropFirst_16 : decode cX5_dropFirst 16 = .ok (.aload_n 0, 1) := by decide +kernel
theorem dX5_dropFirst_17 : decode cX5_dropFirst 17 = .ok (.dup, 1) := by decide +kernel
theorem dX5_dropFirst_18 : decode cX5_dropFirst 18 = .ok (.getfield 23, 3) := by decide +kernel
theorem dX5_dropFirst_21 : decode cX5_dropFirst 21 = .ok (.iconst 1, 1) := by decide +kernel
theorem dX5_dropFirst_22 : decode cX5_dropFirst 22 = .ok (.isub, 1) := by decide +kernel
theorem dX5_dropFirst_23 : decode cX5_dropFirst 23 = .ok (.putfield 23, 3) := by decide +kernel
theorem dX5_dropFirst_26 : decode cX5_dropFirst 26 = .ok (.return_, 1) := by decide +kernel
theorem dX5_cellOf_0 : decode cX5_cellOf 0 = .ok (.aload_n 0, 1) := by decide +kernel
theorem dX5_cellOf_1 : decode cX5_cellOf 1 = .ok (.getfield 19, 3) := by decide +kernel
theorem dX5_cellOf_4 : decode cX5_cellOf 4 = .ok (.iload_n 1, 1) := by decide +kernel
theorem dX5_cellOf_5 : decode cX5_cellOf 5 = .ok (.iadd, 1) := by decide +kernel
theorem dX5_cellOf_6 : decode cX5_cellOf 6 = .ok (.istore_n 2, 1) := by decide +kernel
theorem dX5_cellOf_7 : decode cX5_cellOf 7 = .ok (.iload_n 2, 1) := by decide +kernel
theorem dX5_cellOf_8 : decode cX5_cellOf 8 = .ok (.aload_n 0, 1) := by decide +kernel
theorem dX5_cellOf_9 : decode cX5_cellOf 9 = .ok (.getfield 13, 3) := by decide +kernel
theorem dX5_cellOf_12 : decode cX5_cellOf 12 = .ok (.arraylength, 1) := by decide +kernel
theorem dX5_cellOf_13 : decode cX5_cellOf 13 = .ok (.if_icmp .lt 13, 3) := by decide +kernel
theorem dX5_cellOf_16 : decode cX5_cellOf 16 = .ok (.iload_n 2, 1) := by decide +kernel
theorem dX5_cellOf_17 : decode cX5_cellOf 17 = .ok (.aload_n 0, 1) := by decide +kernel
theorem dX5_cellOf_18 : decode cX5_cellOf 18 = .ok (.getfield 13, 3) := by decide +kernel
theorem dX5_cellOf_21 : decode cX5_cellOf 21 = .ok (.arraylength, 1) := by decide +kernel
theorem dX5_cellOf_22 : decode cX5_cellOf 22 = .ok (.isub, 1) := by decide +kernel
theorem dX5_cellOf_23 : decode cX5_cellOf 23 = .ok (.goto 4, 3) := by decide +kernel
theorem dX5_cellOf_26 : decode cX5_cellOf 26 = .ok (.iload_n 2, 1) := by decide +kernel
theorem dX5_cellOf_27 : decode cX5_cellOf 27 = .ok (.ireturn, 1) := by decide +kernel
theorem dX6_init_0 : decode cX6_init 0 = .ok (.aload_n 0, 1) := by decide +kernel
theorem dX6_init_1 : decode cX6_init 1 = .ok (.invokespecial 3, 3) := by decide +kernel
theorem dX6_init_4 : decode cX6_init 4 = .ok (.return_, 1) := by decide +kernel
theorem dX6_clear_0 : decode cX6_clear 0 = .ok (.aload_n 0, 1) := by decide +kernel
theorem dX6_clear_1 : decode cX6_clear 1 = .ok (.iconst 0, 1) := by decide +kernel
theorem dX6_clear_2 : decode cX6_clear 2 = .ok (.putfield 9, 3) := by decide +kernel
theorem dX6_clear_5 : decode cX6_clear 5 = .ok (.aload_n 0, 1) := by decide +kernel
theorem dX6_clear_6 : decode cX6_clear 6 = .ok (.iconst 0, 1) := by decide +kernel
theorem dX6_clear_7 : decode cX6_clear 7 = .ok (.putfield 15, 3) := by decide +kernel
theorem dX6_clear_10 : decode cX6_clear 10 = .ok (.aload_n 0, 1) := by decide +kernel
theorem dX6_clear_11 : decode cX6_clear 11 = .ok (.iconst 0, 1) := by decide +kernel
theorem dX6_clear_12 : decode cX6_clear 12 = .ok (.putfield 18, 3) := by decide +kernel
theorem dX6_clear_15 : decode cX6_clear 15 = .ok (.aload_n 0, 1) := by decide +kernel
theorem dX6_clear_16 : decode cX6_clear 16 = .ok (.iconst 0, 1) := by decide +kernel
theorem dX6_clear_17 : decode cX6_clear 17 = .ok (.putfield 21, 3) := by decide +kernel
theorem dX6_clear_20 : decode cX6_clear 20 = .ok (.return_, 1) := by decide +kernel
theorem dX6_isBusy_0 : decode cX6_isBusy 0 = .ok (.aload_n 0, 1) := by decide +kernel
theorem dX6_isBusy_1 : decode cX6_isBusy 1 = .ok (.getfield 21, 3) := by decide +kernel
theorem dX6_isBusy_4 : decode cX6_isBusy 4 = .ok (.ireturn, 1) := by decide +kernel
theorem dX6_begin_0 : decode cX6_begin 0 = .ok (.aload_n 0, 1) := by decide +kernel
theorem dX6_begin_1 : decode cX6_begin 1 = .ok (.iload_n 1, 1) := by decide +kernel
theorem dX6_begin_2 : decode cX6_begin 2 = .ok (.putfield 9, 3) := by decide +kernel
theorem dX6_begin_5 : decode cX6_begin 5 = .ok (.aload_n 0, 1) := by decide +kernel
theorem dX6_begin_6 : decode cX6_begin 6 = .ok (.iload_n 2, 1) := by decide +kernel
theorem dX6_begin_7 : decode cX6_begin 7 = .ok (.putfield 15, 3) := by decide +kernel
theorem dX6_begin_10 : decode cX6_begin 10 = .ok (.aload_n 0, 1) := by decide +kernel
theorem dX6_begin_11 : decode cX6_begin 11 = .ok (.iconst 0, 1) := by decide +kernel
theorem dX6_begin_12 : decode cX6_begin 12 = .ok (.putfield 18, 3) := by decide +kernel
theorem dX6_begin_15 : decode cX6_begin 15 = .ok (.aload_n 0, 1) := by decide +kernel
theorem dX6_begin_16 : decode cX6_begin 16 = .ok (.iconst 1, 1) := by decide +kernel
theorem dX6_begin_17 : decode cX6_begin 17 = .ok (.putfield 21, 3) := by decide +kernel
theorem dX6_begin_20 : decode cX6_begin 20 = .ok (.return_, 1) := by decide +kernel
set_option maxRecDepth 20000 in
theorem ggX6_next_X7_pieceIsHigh : GoodIn wsX6_next wsX7_pieceIsHigh := goodIn_r _ [8, 9, 10, 7, 11, 12, 13, 14, 15, 16, 17, 18, 19, 20, 21, 22, 23, 24] (by decide +kernel) (by decide +kernel)
set_option maxRecDepth 20000 in
theorem gX6_next_X7_pieceIsHigh : GoodIn wsX6_next (va_wsS RX6 25 yX7_pieceIsHigh wsX7_pieceIsHigh) := goodIn_app (goodIn_of _ (by decide +kernel)) ggX6_next_X7_pieceIsHigh
set_option maxRecDepth 20000 in
theorem ggX6_next_X7_beats : GoodIn wsX6_next wsX7_beats := goodIn_r _ [27, 28, 29, 7, 30, 9, 10, 11, 12, 13, 14, 31, 32, 33] (by decide +kernel) (by decide +kernel)
set_option maxRecDepth 20000 in
theorem gX6_next_X7_beats : GoodIn wsX6_next (va_wsS RX6 31 yX7_beats wsX7_beats) := goodIn_app (goodIn_of _ (by decide +kernel)) ggX6_next_X7_beats
theorem dX6_next_0 : decode cX6_next 0 = .ok (.aload_n 0, 1) := by decide +kernel
theorem dX6_next_1 : decode cX6_next 1 = .ok (.getfield 21, 3) := by decide +kernel
theorem dX6_next_4 : decode cX6_next 4 = .ok (.ifCond .ne 5, 3) := by decide +kernel
theorem dX6_next_7 : decode cX6_next 7 = .ok (.iconst 1, 1) := by decide +kernel
theorem dX6_next_8 : decode cX6_next 8 = .ok (.ireturn, 1) := by decide +kernel
theorem dX6_next_9 : decode cX6_next 9 = .ok (.aload_n 0, 1) := by decide +kernel
theorem dX6_next_10 : decode cX6_next 10 = .ok (.getfield 9, 3) := by decide +kernel
theorem dX6_next_13 : decode cX6_next 13 = .ok (.aload_n 0, 1) := by decide +kernel
theorem dX6_next_14 : decode cX6_next 14 = .ok (.getfield 15, 3) := by decide +kernel
theorem dX6_next_17 : decode cX6_next 17 = .ok (.aload_n 0, 1) := by decide +kernel
theorem dX6_next_18 : decode cX6_next 18 = .ok (.getfield 18, 3) := by decide +kernel
theorem dX6_next_21 : decode cX6_next 21 = .ok (.bipush 16, 2) := by decide +kernel
theorem dX6_next_23 : decode cX6_next 23 = .ok (.idiv, 1) := by decide +kernel
theorem dX6_next_24 : decode cX6_next 24 = .ok (.invokestatic 25, 3) := by decide +kernel
theorem dX6_next_27 : decode cX6_next 27 = .ok (.istore_n 1, 1) := by decide +kernel
theorem dX6_next_28 : decode cX6_next 28 = .ok (.aload_n 0, 1) := by decide +kernel
theorem dX6_next_29 : decode cX6_next 29 = .ok (.dup, 1) := by decide +kernel
theorem dX6_next_30 : decode cX6_next 30 = .ok (.getfield 18, 3) := by decide +kernel
theorem dX6_next_33 : decode cX6_next 33 = .ok (.iconst 1, 1) := by decide +kernel
theorem dX6_next_34 : decode cX6_next 34 = .ok (.iadd, 1) := by decide +kernel
theorem dX6_next_35 : decode cX6_next 35 = .ok (.putfield 18, 3) := by decide +kernel
theorem dX6_next_38 : decode cX6_next 38 = .ok (.aload_n 0, 1) := by decide +kernel
theorem dX6_next_39 : decode cX6_next 39 = .ok (.aload_n 0, 1) := by decide +kernel
theorem dX6_next_40 : decode cX6_next 40 = .ok (.getfield 18, 3) := by decide +kernel
theorem dX6_next_43 : decode cX6_next 43 = .ok (.aload_n 0, 1) := by decide +kernel
theorem dX6_next_44 : decode cX6_next 44 = .ok (.getfield 9, 3) := by decide +kernel
theorem dX6_next_47 : decode cX6_next 47 = .ok (.invokestatic 31, 3) := by decide +kernel
theorem dX6_next_50 : decode cX6_next 50 = .ok (.if_icmp .ge 7, 3) := by decide +kernel
theorem dX6_next_53 : decode cX6_next 53 = .ok (.iconst 1, 1) := by decide +kernel
theorem dX6_next_54 : decode cX6_next 54 = .ok (.goto 4, 3) := by decide +kernel
theorem dX6_next_57 : decode cX6_next 57 = .ok (.iconst 0, 1) := by decide +kernel
theorem dX6_next_58 : decode cX6_next 58 = .ok (.putfield 21, 3) := by decide +kernel
theorem dX6_next_61 : decode cX6_next 61 = .ok (.iload_n 1, 1) := by decide +kernel
theorem dX6_next_62 : decode cX6_next 62 = .ok (.ireturn, 1) := by decide +kernel
theorem dX7_dataBits_0 : decode cX7_dataBits 0 = .ok (.iconst 5, 1) := by decide +kernel
theorem dX7_dataBits_1 : decode cX7_dataBits 1 = .ok (.iload_n 0, 1) := by decide +kernel
theorem dX7_dataBits_2 : decode cX7_dataBits 2 = .ok (.iconst 3, 1) := by decide +kernel
theorem dX7_dataBits_3 : decode cX7_dataBits 3 = .ok (.iand, 1) := by decide +kernel
theorem dX7_dataBits_4 : decode cX7_dataBits 4 = .ok (.iadd, 1) := by decide +kernel
theorem dX7_dataBits_5 : decode cX7_dataBits 5 = .ok (.ireturn, 1) := by decide +kernel
theorem dX7_hasParity_0 : decode cX7_hasParity 0 = .ok (.iload_n 0, 1) := by decide +kernel
theorem dX7_hasParity_1 : decode cX7_hasParity 1 = .ok (.bipush 8, 2) := by decide +kernel
theorem dX7_hasParity_3 : decode cX7_hasParity 3 = .ok (.iand, 1) := by decide +kernel
theorem dX7_hasParity_4 : decode cX7_hasParity 4 = .ok (.ifCond .eq 7, 3) := by decide +kernel
theorem dX7_hasParity_7 : decode cX7_hasParity 7 = .ok (.iconst 1, 1) := by decide +kernel
theorem dX7_hasParity_8 : decode cX7_hasParity 8 = .ok (.goto 4, 3) := by decide +kernel
theorem dX7_hasParity_11 : decode cX7_hasParity 11 = .ok (.iconst 0, 1) := by decide +kernel
theorem dX7_hasParity_12 : decode cX7_hasParity 12 = .ok (.ireturn, 1) := by decide +kernel
set_option maxRecDepth 20000 in
theorem ggX7_pieces_X7_dataBits : GoodIn wsX7_pieces wsX7_dataBits := goodIn_r _ [4] (by decide +kernel) (by decide +kernel)
set_option maxRecDepth 20000 in
theorem gX7_pieces_X7_dataBits : GoodIn wsX7_pieces (va_wsS RX7 11 yX7_dataBits wsX7_dataBits) := goodIn_app (goodIn_of _ (by decide +kernel)) ggX7_pieces_X7_dataBits
set_option maxRecDepth 20000 in
theorem ggX7_pieces_X7_hasParity : GoodIn wsX7_pieces wsX7_hasParity := goodIn_r _ [7] (by decide +kernel) (by decide +kernel)
set_option maxRecDepth 20000 in
theorem gX7_pieces_X7_hasParity : GoodIn wsX7_pieces (va_wsS RX7 15 yX7_hasParity wsX7_hasParity) := goodIn_app (goodIn_of _ (by decide +kernel)) ggX7_pieces_X7_hasParity
theorem dX7_pieces_0 : decode cX7_pieces 0 = .ok (.iload_n 0, 1) := by decide +kernel
theorem dX7_pieces_1 : decode cX7_pieces 1 = .ok (.invokestatic 11, 3) := by decide +kernel
theorem dX7_pieces_4 : decode cX7_pieces 4 = .ok (.iload_n 0, 1) := by decide +kernel
theorem dX7_pieces_5 : decode cX7_pieces 5 = .ok (.invokestatic 15, 3) := by decide +kernel
theorem dX7_pieces_8 : decode cX7_pieces 8 = .ok (.ifCond .eq 7, 3) := by decide +kernel
theorem dX7_pieces_11 : decode cX7_pieces 11 = .ok (.iconst 3, 1) := by decide +kernel
theorem dX7_pieces_12 : decode cX7_pieces 12 = .ok (.goto 4, 3) := by decide +kernel
theorem dX7_pieces_15 : decode cX7_pieces 15 = .ok (.iconst 2, 1) := by decide +kernel
theorem dX7_pieces_16 : decode cX7_pieces 16 = .ok (.iadd, 1) := by decide +kernel
theorem dX7_pieces_17 : decode cX7_pieces 17 = .ok (.ireturn, 1) := by decide +kernel
set_option maxRecDepth 20000 in
theorem ggX7_stopBeats_X7_dataBits : GoodIn wsX7_stopBeats wsX7_dataBits := goodIn_r _ [4] (by decide +kernel) (by decide +kernel)
set_option maxRecDepth 20000 in
theorem gX7_stopBeats_X7_dataBits : GoodIn wsX7_stopBeats (va_wsS RX7 11 yX7_dataBits wsX7_dataBits) := goodIn_app (goodIn_of _ (by decide +kernel)) ggX7_stopBeats_X7_dataBits
theorem dX7_stopBeats_0 : decode cX7_stopBeats 0 = .ok (.iload_n 0, 1) := by decide +kernel
theorem dX7_stopBeats_1 : decode cX7_stopBeats 1 = .ok (.iconst 4, 1) := by decide +kernel
theorem dX7_stopBeats_2 : decode cX7_stopBeats 2 = .ok (.iand, 1) := by decide +kernel
theorem dX7_stopBeats_3 : decode cX7_stopBeats 3 = .ok (.ifCond .ne 6, 3) := by decide +kernel
theorem dX7_stopBeats_6 : decode cX7_stopBeats 6 = .ok (.bipush 16, 2) := by decide +kernel
theorem dX7_stopBeats_8 : decode cX7_stopBeats 8 = .ok (.ireturn, 1) := by decide +kernel
theorem dX7_stopBeats_9 : decode cX7_stopBeats 9 = .ok (.iload_n 0, 1) := by decide +kernel
theorem dX7_stopBeats_10 : decode cX7_stopBeats 10 = .ok (.invokestatic 11, 3) := by decide +kernel
theorem dX7_stopBeats_13 : decode cX7_stopBeats 13 = .ok (.iconst 5, 1) := by decide +kernel
theorem dX7_stopBeats_14 : decode cX7_stopBeats 14 = .ok (.if_icmp .ne 8, 3) := by decide +kernel
theorem dX7_stopBeats_17 : decode cX7_stopBeats 17 = .ok (.bipush 24, 2) := by decide +kernel
theorem dX7_stopBeats_19 : decode cX7_stopBeats 19 = .ok (.goto 5, 3) := by decide +kernel
theorem dX7_stopBeats_22 : decode cX7_stopBeats 22 = .ok (.bipush 32, 2) := by decide +kernel
theorem dX7_stopBeats_24 : decode cX7_stopBeats 24 = .ok (.ireturn, 1) := by decide +kernel
set_option maxRecDepth 20000 in
theorem ggX7_pieceBeats_X7_pieces : GoodIn wsX7_pieceBeats wsX7_pieces := goodIn_r _ [4, 5, 6, 3, 7, 8, 9, 10] (by decide +kernel) (by decide +kernel)
set_option maxRecDepth 20000 in
theorem gX7_pieceBeats_X7_pieces : GoodIn wsX7_pieceBeats (va_wsS RX7 19 yX7_pieces wsX7_pieces) := goodIn_app (goodIn_of _ (by decide +kernel)) ggX7_pieceBeats_X7_pieces
set_option maxRecDepth 20000 in
theorem ggX7_pieceBeats_X7_stopBeats : GoodIn wsX7_pieceBeats wsX7_stopBeats := goodIn_r _ [13, 5, 6, 3, 7] (by decide +kernel) (by decide +kernel)
set_option maxRecDepth 20000 in
theorem gX7_pieceBeats_X7_stopBeats : GoodIn wsX7_pieceBeats (va_wsS RX7 22 yX7_stopBeats wsX7_stopBeats) := goodIn_app (goodIn_of _ (by decide +kernel)) ggX7_pieceBeats_X7_stopBeats
theorem dX7_pieceBeats_0 : decode cX7_pieceBeats 0 = .ok (.iload_n 1, 1) := by decide +kernel
theorem dX7_pieceBeats_1 : decode cX7_pieceBeats 1 = .ok (.iload_n 0, 1) := by decide +kernel
theorem dX7_pieceBeats_2 : decode cX7_pieceBeats 2 = .ok (.invokestatic 19, 3) := by decide +kernel
theorem dX7_pieceBeats_5 : decode cX7_pieceBeats 5 = .ok (.iconst 1, 1) := by decide +kernel
theorem dX7_pieceBeats_6 : decode cX7_pieceBeats 6 = .ok (.isub, 1) := by decide +kernel
theorem dX7_pieceBeats_7 : decode cX7_pieceBeats 7 = .ok (.if_icmp .ne 10, 3) := by decide +kernel
theorem dX7_pieceBeats_10 : decode cX7_pieceBeats 10 = .ok (.iload_n 0, 1) := by decide +kernel
theorem dX7_pieceBeats_11 : decode cX7_pieceBeats 11 = .ok (.invokestatic 22, 3) := by decide +kernel
theorem dX7_pieceBeats_14 : decode cX7_pieceBeats 14 = .ok (.goto 5, 3) := by decide +kernel
theorem dX7_pieceBeats_17 : decode cX7_pieceBeats 17 = .ok (.bipush 16, 2) := by decide +kernel
theorem dX7_pieceBeats_19 : decode cX7_pieceBeats 19 = .ok (.ireturn, 1) := by decide +kernel
set_option maxRecDepth 20000 in
theorem ggX7_beats_X7_pieces : GoodIn wsX7_beats wsX7_pieces := goodIn_r _ [4, 5, 6, 3, 7, 8, 9, 10] (by decide +kernel) (by decide +kernel)
set_option maxRecDepth 20000 in
theorem gX7_beats_X7_pieces : GoodIn wsX7_beats (va_wsS RX7 19 yX7_pieces wsX7_pieces) := goodIn_app (goodIn_of _ (by decide +kernel)) ggX7_beats_X7_pieces
set_option maxRecDepth 20000 in
theorem ggX7_beats_X7_stopBeats : GoodIn wsX7_beats wsX7_stopBeats := goodIn_r _ [13, 5, 6, 3, 7] (by decide +kernel) (by decide +kernel)
set_option maxRecDepth 20000 in
theorem gX7_beats_X7_stopBeats : GoodIn wsX7_beats (va_wsS RX7 22 yX7_stopBeats wsX7_stopBeats) := goodIn_app (goodIn_of _ (by decide +kernel)) ggX7_beats_X7_stopBeats
theorem dX7_beats_0 : decode cX7_beats 0 = .ok (.iload_n 0, 1) := by decide +kernel
theorem dX7_beats_1 : decode cX7_beats 1 = .ok (.invokestatic 19, 3) := by decide +kernel
theorem dX7_beats_4 : decode cX7_beats 4 = .ok (.iconst 1, 1) := by decide +kernel
theorem dX7_beats_5 : decode cX7_beats 5 = .ok (.isub, 1) := by decide +kernel
theorem dX7_beats_6 : decode cX7_beats 6 = .ok (.bipush 16, 2) := by decide +kernel
theorem dX7_beats_8 : decode cX7_beats 8 = .ok (.imul, 1) := by decide +kernel
theorem dX7_beats_9 : decode cX7_beats 9 = .ok (.iload_n 0, 1) := by decide +kernel
theorem dX7_beats_10 : decode cX7_beats 10 = .ok (.invokestatic 22, 3) := by decide +kernel
theorem dX7_beats_13 : decode cX7_beats 13 = .ok (.iadd, 1) := by decide +kernel
theorem dX7_beats_14 : decode cX7_beats 14 = .ok (.ireturn, 1) := by decide +kernel
set_option maxRecDepth 20000 in
theorem ggX7_parityIsHigh_X7_dataBits : GoodIn wsX7_parityIsHigh wsX7_dataBits := goodIn_r _ [4] (by decide +kernel) (by decide +kernel)
set_option maxRecDepth 20000 in
theorem gX7_parityIsHigh_X7_dataBits : GoodIn wsX7_parityIsHigh (va_wsS RX7 11 yX7_dataBits wsX7_dataBits) := goodIn_app (goodIn_of _ (by decide +kernel)) ggX7_parityIsHigh_X7_dataBits
set_option maxRecDepth 20000 in
theorem ggX7_parityIsHigh_J6_bitCount_0f7a4 : GoodIn wsX7_parityIsHigh wsJ6_bitCount_0f7a4 := goodIn_r _ [8, 9, 10, 11] (by decide +kernel) (by decide +kernel)
set_option maxRecDepth 20000 in
theorem gX7_parityIsHigh_J6_bitCount_0f7a4 : GoodIn wsX7_parityIsHigh (va_wsS RX7 25 yJ6_bitCount_0f7a4 wsJ6_bitCount_0f7a4) := goodIn_app (goodIn_of _ (by decide +kernel)) ggX7_parityIsHigh_J6_bitCount_0f7a4
theorem dX7_parityIsHigh_0 : decode cX7_parityIsHigh 0 = .ok (.iload_n 0, 1) := by decide +kernel
theorem dX7_parityIsHigh_1 : decode cX7_parityIsHigh 1 = .ok (.bipush 16, 2) := by decide +kernel
theorem dX7_parityIsHigh_3 : decode cX7_parityIsHigh 3 = .ok (.iand, 1) := by decide +kernel
theorem dX7_parityIsHigh_4 : decode cX7_parityIsHigh 4 = .ok (.ifCond .eq 7, 3) := by decide +kernel
theorem dX7_parityIsHigh_7 : decode cX7_parityIsHigh 7 = .ok (.iconst 1, 1) := by decide +kernel
theorem dX7_parityIsHigh_8 : decode cX7_parityIsHigh 8 = .ok (.goto 4, 3) := by decide +kernel
theorem dX7_parityIsHigh_11 : decode cX7_parityIsHigh 11 = .ok (.iconst 0, 1) := by decide +kernel
theorem dX7_parityIsHigh_12 : decode cX7_parityIsHigh 12 = .ok (.istore_n 2, 1) := by decide +kernel
theorem dX7_parityIsHigh_13 : decode cX7_parityIsHigh 13 = .ok (.iload_n 0, 1) := by decide +kernel
theorem dX7_parityIsHigh_14 : decode cX7_parityIsHigh 14 = .ok (.bipush 32, 2) := by decide +kernel
theorem dX7_parityIsHigh_16 : decode cX7_parityIsHigh 16 = .ok (.iand, 1) := by decide +kernel
theorem dX7_parityIsHigh_17 : decode cX7_parityIsHigh 17 = .ok (.ifCond .eq 13, 3) := by decide +kernel
theorem dX7_parityIsHigh_20 : decode cX7_parityIsHigh 20 = .ok (.iload_n 2, 1) := by decide +kernel
theorem dX7_parityIsHigh_21 : decode cX7_parityIsHigh 21 = .ok (.ifCond .ne 7, 3) := by decide +kernel
theorem dX7_parityIsHigh_24 : decode cX7_parityIsHigh 24 = .ok (.iconst 1, 1) := by decide +kernel
theorem dX7_parityIsHigh_25 : decode cX7_parityIsHigh 25 = .ok (.goto 4, 3) := by decide +kernel
theorem dX7_parityIsHigh_28 : decode cX7_parityIsHigh 28 = .ok (.iconst 0, 1) := by decide +kernel
theorem dX7_parityIsHigh_29 : decode cX7_parityIsHigh 29 = .ok (.ireturn, 1) := by decide +kernel
theorem dX7_parityIsHigh_30 : decode cX7_parityIsHigh 30 = .ok (.iload_n 1, 1) := by decide +kernel
theorem dX7_parityIsHigh_31 : decode cX7_parityIsHigh 31 = .ok (.iconst 1, 1) := by decide +kernel
theorem dX7_parityIsHigh_32 : decode cX7_parityIsHigh 32 = .ok (.iload_n 0, 1) := by decide +kernel
theorem dX7_parityIsHigh_33 : decode cX7_parityIsHigh 33 = .ok (.invokestatic 11, 3) := by decide +kernel
theorem dX7_parityIsHigh_36 : decode cX7_parityIsHigh 36 = .ok (.ishl, 1) := by decide +kernel
theorem dX7_parityIsHigh_37 : decode cX7_parityIsHigh 37 = .ok (.iconst 1, 1) := by decide +kernel
theorem dX7_parityIsHigh_38 : decode cX7_parityIsHigh 38 = .ok (.isub, 1) := by decide +kernel
theorem dX7_parityIsHigh_39 : decode cX7_parityIsHigh 39 = .ok (.iand, 1) := by decide +kernel
theorem dX7_parityIsHigh_40 : decode cX7_parityIsHigh 40 = .ok (.istore_n 3, 1) := by decide +kernel
theorem dX7_parityIsHigh_41 : decode cX7_parityIsHigh 41 = .ok (.iload_n 3, 1) := by decide +kernel
theorem dX7_parityIsHigh_42 : decode cX7_parityIsHigh 42 = .ok (.invokestatic 25, 3) := by decide +kernel
theorem dX7_parityIsHigh_45 : decode cX7_parityIsHigh 45 = .ok (.iconst 1, 1) := by decide +kernel
theorem dX7_parityIsHigh_46 : decode cX7_parityIsHigh 46 = .ok (.iand, 1) := by decide +kernel
theorem dX7_parityIsHigh_47 : decode cX7_parityIsHigh 47 = .ok (.ifCond .eq 7, 3) := by decide +kernel
theorem dX7_parityIsHigh_50 : decode cX7_parityIsHigh 50 = .ok (.iconst 1, 1) := by decide +kernel
theorem dX7_parityIsHigh_51 : decode cX7_parityIsHigh 51 = .ok (.goto 4, 3) := by decide +kernel
theorem dX7_parityIsHigh_54 : decode cX7_parityIsHigh 54 = .ok (.iconst 0, 1) := by decide +kernel
theorem dX7_parityIsHigh_55 : decode cX7_parityIsHigh 55 = .ok (.istore 4, 2) := by decide +kernel
theorem dX7_parityIsHigh_57 : decode cX7_parityIsHigh 57 = .ok (.iload_n 2, 1) := by decide +kernel
theorem dX7_parityIsHigh_58 : decode cX7_parityIsHigh 58 = .ok (.iload 4, 2) := by decide +kernel
theorem dX7_parityIsHigh_60 : decode cX7_parityIsHigh 60 = .ok (.if_icmp .ne 7, 3) := by decide +kernel
theorem dX7_parityIsHigh_63 : decode cX7_parityIsHigh 63 = .ok (.iconst 1, 1) := by decide +kernel
theorem dX7_parityIsHigh_64 : decode cX7_parityIsHigh 64 = .ok (.goto 4, 3) := by decide +kernel
theorem dX7_parityIsHigh_67 : decode cX7_parityIsHigh 67 = .ok (.iconst 0, 1) := by decide +kernel
theorem dX7_parityIsHigh_68 : decode cX7_parityIsHigh 68 = .ok (.ireturn, 1) := by decide +kernel
set_option maxRecDepth 20000 in
theorem ggX7_pieceIsHigh_X7_dataBits : GoodIn wsX7_pieceIsHigh wsX7_dataBits := goodIn_r _ [4] (by decide +kernel) (by decide +kernel)
set_option maxRecDepth 20000 in
theorem gX7_pieceIsHigh_X7_dataBits : GoodIn wsX7_pieceIsHigh (va_wsS RX7 11 yX7_dataBits wsX7_dataBits) := goodIn_app (goodIn_of _ (by decide +kernel)) ggX7_pieceIsHigh_X7_dataBits
set_option maxRecDepth 20000 in
theorem ggX7_pieceIsHigh_X7_hasParity : GoodIn wsX7_pieceIsHigh wsX7_hasParity := goodIn_r _ [7] (by decide +kernel) (by decide +kernel)
set_option maxRecDepth 20000 in
theorem gX7_pieceIsHigh_X7_hasParity : GoodIn wsX7_pieceIsHigh (va_wsS RX7 15 yX7_hasParity wsX7_hasParity) := goodIn_app (goodIn_of _ (by decide +kernel)) ggX7_pieceIsHigh_X7_hasParity
set_option maxRecDepth 20000 in
theorem ggX7_pieceIsHigh_X7_parityIsHigh : GoodIn wsX7_pieceIsHigh wsX7_parityIsHigh := goodIn_r _ [10, 1, 2, 3, 4, 11, 12, 13, 14, 15, 16, 17] (by decide +kernel) (by decide +kernel)
set_option maxRecDepth 20000 in
theorem gX7_pieceIsHigh_X7_parityIsHigh : GoodIn wsX7_pieceIsHigh (va_wsS RX7 30 yX7_parityIsHigh wsX7_parityIsHigh) := goodIn_app (goodIn_of _ (by decide +kernel)) ggX7_pieceIsHigh_X7_parityIsHigh
theorem dX7_pieceIsHigh_0 : decode cX7_pieceIsHigh 0 = .ok (.iload_n 0, 1) := by decide +kernel
theorem dX7_pieceIsHigh_1 : decode cX7_pieceIsHigh 1 = .ok (.invokestatic 11, 3) := by decide +kernel
theorem dX7_pieceIsHigh_4 : decode cX7_pieceIsHigh 4 = .ok (.istore_n 3, 1) := by decide +kernel
theorem dX7_pieceIsHigh_5 : decode cX7_pieceIsHigh 5 = .ok (.iload_n 2, 1) := by decide +kernel
theorem dX7_pieceIsHigh_6 : decode cX7_pieceIsHigh 6 = .ok (.ifCond .gt 5, 3) := by decide +kernel
theorem dX7_pieceIsHigh_9 : decode cX7_pieceIsHigh 9 = .ok (.iconst 0, 1) := by decide +kernel
theorem dX7_pieceIsHigh_10 : decode cX7_pieceIsHigh 10 = .ok (.ireturn, 1) := by decide +kernel
theorem dX7_pieceIsHigh_11 : decode cX7_pieceIsHigh 11 = .ok (.iload_n 2, 1) := by decide +kernel
theorem dX7_pieceIsHigh_12 : decode cX7_pieceIsHigh 12 = .ok (.iload_n 3, 1) := by decide +kernel
theorem dX7_pieceIsHigh_13 : decode cX7_pieceIsHigh 13 = .ok (.if_icmp .gt 19, 3) := by decide +kernel
theorem dX7_pieceIsHigh_16 : decode cX7_pieceIsHigh 16 = .ok (.iload_n 1, 1) := by decide +kernel
theorem dX7_pieceIsHigh_17 : decode cX7_pieceIsHigh 17 = .ok (.iload_n 2, 1) := by decide +kernel
theorem dX7_pieceIsHigh_18 : decode cX7_pieceIsHigh 18 = .ok (.iconst 1, 1) := by decide +kernel
theorem dX7_pieceIsHigh_19 : decode cX7_pieceIsHigh 19 = .ok (.isub, 1) := by decide +kernel
theorem dX7_pieceIsHigh_20 : decode cX7_pieceIsHigh 20 = .ok (.ishr, 1) := by decide +kernel
theorem dX7_pieceIsHigh_21 : decode cX7_pieceIsHigh 21 = .ok (.iconst 1, 1) := by decide +kernel
theorem dX7_pieceIsHigh_22 : decode cX7_pieceIsHigh 22 = .ok (.iand, 1) := by decide +kernel
theorem dX7_pieceIsHigh_23 : decode cX7_pieceIsHigh 23 = .ok (.ifCond .eq 7, 3) := by decide +kernel
theorem dX7_pieceIsHigh_26 : decode cX7_pieceIsHigh 26 = .ok (.iconst 1, 1) := by decide +kernel
theorem dX7_pieceIsHigh_27 : decode cX7_pieceIsHigh 27 = .ok (.goto 4, 3) := by decide +kernel
theorem dX7_pieceIsHigh_30 : decode cX7_pieceIsHigh 30 = .ok (.iconst 0, 1) := by decide +kernel
theorem dX7_pieceIsHigh_31 : decode cX7_pieceIsHigh 31 = .ok (.ireturn, 1) := by decide +kernel
theorem dX7_pieceIsHigh_32 : decode cX7_pieceIsHigh 32 = .ok (.iload_n 2, 1) := by decide +kernel
theorem dX7_pieceIsHigh_33 : decode cX7_pieceIsHigh 33 = .ok (.iload_n 3, 1) := by decide +kernel
theorem dX7_pieceIsHigh_34 : decode cX7_pieceIsHigh 34 = .ok (.iconst 1, 1) := by decide +kernel
theorem dX7_pieceIsHigh_35 : decode cX7_pieceIsHigh 35 = .ok (.iadd, 1) := by decide +kernel
theorem dX7_pieceIsHigh_36 : decode cX7_pieceIsHigh 36 = .ok (.if_icmp .ne 16, 3) := by decide +kernel
theorem dX7_pieceIsHigh_39 : decode cX7_pieceIsHigh 39 = .ok (.iload_n 0, 1) := by decide +kernel
theorem dX7_pieceIsHigh_40 : decode cX7_pieceIsHigh 40 = .ok (.invokestatic 15, 3) := by decide +kernel
theorem dX7_pieceIsHigh_43 : decode cX7_pieceIsHigh 43 = .ok (.ifCond .eq 9, 3) := by decide +kernel
theorem dX7_pieceIsHigh_46 : decode cX7_pieceIsHigh 46 = .ok (.iload_n 0, 1) := by decide +kernel
theorem dX7_pieceIsHigh_47 : decode cX7_pieceIsHigh 47 = .ok (.iload_n 1, 1) := by decide +kernel
theorem dX7_pieceIsHigh_48 : decode cX7_pieceIsHigh 48 = .ok (.invokestatic 30, 3) := by decide +kernel
theorem dX7_pieceIsHigh_51 : decode cX7_pieceIsHigh 51 = .ok (.ireturn, 1) := by decide +kernel
theorem dX7_pieceIsHigh_52 : decode cX7_pieceIsHigh 52 = .ok (.iconst 1, 1) := by decide +kernel
theorem dX7_pieceIsHigh_53 : decode cX7_pieceIsHigh 53 = .ok (.ireturn, 1) := by decide +kernel
set_option maxRecDepth 20000 in
theorem ggX8_init_X0_init : GoodIn wsX8_init wsX0_init := goodIn_r _ [34, 35, 2, 3] (by decide +kernel) (by decide +kernel)
set_option maxRecDepth 20000 in
theorem gX8_init_X0_init_n11 : GoodIn wsX8_init (wsX0_init) := ggX8_init_X0_init
set_option maxRecDepth 20000 in
theorem ggX8_init_X5_init : GoodIn wsX8_init wsX5_init := goodIn_r _ [38, 39, 2, 3, 40, 41, 42, 43, 44, 45, 46, 47, 157, 158, 159] (by decide +kernel) (by decide +kernel)
set_option maxRecDepth 20000 in
theorem gX8_init_X5_init : GoodIn wsX8_init (wsX5_init) := ggX8_init_X5_init
set_option maxRecDepth 20000 in
theorem ggX8_init_X6_init : GoodIn wsX8_init wsX6_init := goodIn_r _ [49, 50, 2, 3] (by decide +kernel) (by decide +kernel)
set_option maxRecDepth 20000 in
theorem gX8_init_X6_init_n30 : GoodIn wsX8_init (wsX6_init) := ggX8_init_X6_init
set_option maxRecDepth 20000 in
theorem ggX8_init_X4_init : GoodIn wsX8_init wsX4_init := goodIn_r _ [52, 53, 2, 3] (by decide +kernel) (by decide +kernel)
set_option maxRecDepth 20000 in
theorem gX8_init_X4_init_n37 : GoodIn wsX8_init (wsX4_init) := ggX8_init_X4_init
set_option maxRecDepth 20000 in
theorem ggX8_init_X3_init : GoodIn wsX8_init wsX3_init := goodIn_r _ [55, 56, 2, 3] (by decide +kernel) (by decide +kernel)
set_option maxRecDepth 20000 in
theorem gX8_init_X3_init_n44 : GoodIn wsX8_init (wsX3_init) := ggX8_init_X3_init
set_option maxRecDepth 20000 in
theorem ggX8_init_X1_init : GoodIn wsX8_init wsX1_init := goodIn_r _ [58, 59, 2, 3, 60, 9, 10, 61, 62, 37, 38, 39, 40, 41, 42, 43, 44, 45, 46, 47, 157, 158, 159, 175, 176] (by decide +kernel) (by decide +kernel)
set_option maxRecDepth 20000 in
theorem gX8_init_X1_init_n51 : GoodIn wsX8_init (wsX1_init) := ggX8_init_X1_init
set_option maxRecDepth 20000 in
theorem ggX8_init_X2_init : GoodIn wsX8_init wsX2_init := goodIn_r _ [64, 65, 2, 3, 66, 9, 10, 67, 68, 37, 38, 39, 40, 41, 42, 43, 44, 45, 46, 47, 157, 158, 159, 177, 178] (by decide +kernel) (by decide +kernel)
set_option maxRecDepth 20000 in
theorem gX8_init_X2_init_n58 : GoodIn wsX8_init (wsX2_init) := ggX8_init_X2_init
set_option maxRecDepth 20000 in
theorem ggX8_init_X8_powerOn : GoodIn wsX8_init wsX8_powerOn := goodIn_r _ [73, 7, 11, 12, 16, 20, 24, 28, 32, 74, 75, 76, 77, 78, 79, 80, 81, 82, 83, 84, 85, 86, 6, 87, 88, 89, 90, 91, 92, 10, 93, 46, 47, 94, 95, 96, 15, 97, 98, 99, 100, 101, 102, 103, 104, 19, 105, 106, 107, 108, 109, 110, 111, 112, 113, 114, 115, 116, 117, 118, 119, 23, 120, 121, 122, 123, 124, 125, 126, 127, 27, 128, 61, 129, 130, 131, 132, 133, 31, 134, 67, 135, 136, 139, 140, 141, 142, 143, 144, 145, 146, 147, 148, 149, 150, 151, 152, 153, 154, 155, 156, 137, 138, 157, 158, 159, 160, 161, 162, 163, 164, 165, 166, 167, 168, 169, 170, 171, 172, 173, 174, 175, 176, 177, 178] (by decide +kernel) (by decide +kernel)
set_option maxRecDepth 20000 in
theorem gX8_init_X8_powerOn : GoodIn wsX8_init (wsV RX8 63 RX8 yX8_powerOn wsX8_powerOn) := goodIn_app (goodIn_of _ (by decide +kernel)) ggX8_init_X8_powerOn
theorem dX8_init_0 : decode cX8_init 0 = .ok (.aload_n 0, 1) := by decide +kernel
theorem dX8_init_1 : decode cX8_init 1 = .ok (.invokespecial 3, 3) := by decide +kernel
theorem dX8_init_4 : decode cX8_init 4 = .ok (.aload_n 0, 1) := by decide +kernel
theorem dX8_init_5 : decode cX8_init 5 = .ok (.new 9, 3) := by decide +kernel
theorem dX8_init_8 : decode cX8_init 8 = .ok (.dup, 1) := by decide +kernel
theorem dX8_init_9 : decode cX8_init 9 = .ok (.invokespecial 11, 3) := by decide +kernel
theorem dX8_init_12 : decode cX8_init 12 = .ok (.putfield 12, 3) := by decide +kernel
theorem dX8_init_15 : decode cX8_init 15 = .ok (.aload_n 0, 1) := by decide +kernel
theorem dX8_init_16 : decode cX8_init 16 = .ok (.new 16, 3) := by decide +kernel
theorem dX8_init_19 : decode cX8_init 19 = .ok (.dup, 1) := by decide +kernel
theorem dX8_init_20 : decode cX8_init 20 = .ok (.bipush 16, 2) := by decide +kernel
theorem dX8_init_22 : decode cX8_init 22 = .ok (.invokespecial 18, 3) := by decide +kernel
theorem dX8_init_25 : decode cX8_init 25 = .ok (.putfield 21, 3) := by decide +kernel
theorem dX8_init_28 : decode cX8_init 28 = .ok (.aload_n 0, 1) := by decide +kernel
theorem dX8_init_29 : decode cX8_init 29 = .ok (.new 16, 3) := by decide +kernel
theorem dX8_init_32 : decode cX8_init 32 = .ok (.dup, 1) := by decide +kernel
theorem dX8_init_33 : decode cX8_init 33 = .ok (.bipush 16, 2) := by decide +kernel
theorem dX8_init_35 : decode cX8_init 35 = .ok (.invokespecial 18, 3) := by decide +kernel
theorem dX8_init_38 : decode cX8_init 38 = .ok (.putfield 25, 3) := by decide +kernel
theorem dX8_init_41 : decode cX8_init 41 = .ok (.aload_n 0, 1) := by decide +kernel
theorem dX8_init_42 : decode cX8_init 42 = .ok (.new 28, 3) := by decide +kernel
theorem dX8_init_45 : decode cX8_init 45 = .ok (.dup, 1) := by decide +kernel
theorem dX8_init_46 : decode cX8_init 46 = .ok (.invokespecial 30, 3) := by decide +kernel
theorem dX8_init_49 : decode cX8_init 49 = .ok (.putfield 31, 3) := by decide +kernel
theorem dX8_init_52 : decode cX8_init 52 = .ok (.aload_n 0, 1) := by decide +kernel
theorem dX8_init_53 : decode cX8_init 53 = .ok (.new 35, 3) := by decide +kernel
theorem dX8_init_56 : decode cX8_init 56 = .ok (.dup, 1) := by decide +kernel
theorem dX8_init_57 : decode cX8_init 57 = .ok (.invokespecial 37, 3) := by decide +kernel
theorem dX8_init_60 : decode cX8_init 60 = .ok (.putfield 38, 3) := by decide +kernel
theorem dX8_init_63 : decode cX8_init 63 = .ok (.aload_n 0, 1) := by decide +kernel
theorem dX8_init_64 : decode cX8_init 64 = .ok (.new 42, 3) := by decide +kernel
theorem dX8_init_67 : decode cX8_init 67 = .ok (.dup, 1) := by decide +kernel
theorem dX8_init_68 : decode cX8_init 68 = .ok (.invokespecial 44, 3) := by decide +kernel
theorem dX8_init_71 : decode cX8_init 71 = .ok (.putfield 45, 3) := by decide +kernel
theorem dX8_init_74 : decode cX8_init 74 = .ok (.aload_n 0, 1) := by decide +kernel
theorem dX8_init_75 : decode cX8_init 75 = .ok (.new 49, 3) := by decide +kernel
theorem dX8_init_78 : decode cX8_init 78 = .ok (.dup, 1) := by decide +kernel
theorem dX8_init_79 : decode cX8_init 79 = .ok (.invokespecial 51, 3) := by decide +kernel
theorem dX8_init_82 : decode cX8_init 82 = .ok (.putfield 52, 3) := by decide +kernel
theorem dX8_init_85 : decode cX8_init 85 = .ok (.aload_n 0, 1) := by decide +kernel
theorem dX8_init_86 : decode cX8_init 86 = .ok (.new 56, 3) := by decide +kernel
theorem dX8_init_89 : decode cX8_init 89 = .ok (.dup, 1) := by decide +kernel
theorem dX8_init_90 : decode cX8_init 90 = .ok (.invokespecial 58, 3) := by decide +kernel
theorem dX8_init_93 : decode cX8_init 93 = .ok (.putfield 59, 3) := by decide +kernel
theorem dX8_init_96 : decode cX8_init 96 = .ok (.aload_n 0, 1) := by decide +kernel
theorem dX8_init_97 : decode cX8_init 97 = .ok (.invokevirtual 63, 3) := by decide +kernel
theorem dX8_init_100 : decode cX8_init 100 = .ok (.return_, 1) := by decide +kernel
set_option maxRecDepth 20000 in
theorem ggX8_write_X0_putByte : GoodIn wsX8_write wsX0_putByte := goodIn_r _ [9, 10, 11, 12, 117, 118] (by decide +kernel) (by decide +kernel)
set_option maxRecDepth 20000 in
theorem gX8_write_X0_putByte : GoodIn wsX8_write (wsV RX8 77 RX0 yX0_putByte wsX0_putByte) := goodIn_app (goodIn_of _ (by decide +kernel)) ggX8_write_X0_putByte
set_option maxRecDepth 20000 in
theorem ggX8_write_X8_putRegister : GoodIn wsX8_write wsX8_putRegister := goodIn_r _ [17, 3, 18, 19, 20, 21, 22, 16, 23, 24, 25, 26, 27, 28, 29, 30, 31, 32, 33, 34, 35, 36, 37, 38, 39, 40, 41, 42, 43, 44, 45, 46, 47, 48, 49, 50, 51, 52, 53, 54, 55, 56, 57, 58, 59, 60, 61, 62, 63, 64, 65, 66, 67, 68, 69, 70, 71, 72, 73, 74, 75, 76, 77, 78, 79, 80, 81, 82, 83, 84, 85, 86, 87, 88, 89, 90, 91, 92, 93, 94, 95, 96, 97, 98, 99, 100, 101, 102, 103, 104, 105, 106, 107, 108, 109, 110, 111, 112, 113, 114, 115, 116, 119, 120, 121, 122, 123, 124, 125] (by decide +kernel) (by decide +kernel)
set_option maxRecDepth 20000 in
theorem gX8_write_X8_putRegister : GoodIn wsX8_write (wsV RX8 81 RX8 yX8_putRegister wsX8_putRegister) := goodIn_app (goodIn_of _ (by decide +kernel)) ggX8_write_X8_putRegister
theorem dX8_write_0 : decode cX8_write 0 = .ok (.iload_n 1, 1) := by decide +kernel
theorem dX8_write_1 : decode cX8_write 1 = .ok (.ifCond .lt 9, 3) := by decide +kernel
theorem dX8_write_4 : decode cX8_write 4 = .ok (.iload_n 1, 1) := by decide +kernel
theorem dX8_write_5 : decode cX8_write 5 = .ok (.bipush 7, 2) := by decide +kernel
theorem dX8_write_7 : decode cX8_write 7 = .ok (.if_icmp .le 13, 3) := by decide +kernel
theorem dX8_write_10 : decode cX8_write 10 = .ok (.new 66, 3) := by decide +kernel
theorem dX8_write_13 : decode cX8_write 13 = .ok (.dup, 1) := by decide +kernel
theorem dX8_write_14 : decode cX8_write 14 = .ok (.ldc 68, 2) := by decide +kernel
theorem dX8_write_16 : decode cX8_write 16 = .ok (.invokespecial 70, 3) := by decide +kernel
theorem dX8_write_19 : decode cX8_write 19 = .ok (.athrow, 1) := by decide +kernel
theorem dX8_write_20 : decode cX8_write 20 = .ok (.iload_n 2, 1) := by decide +kernel
theorem dX8_write_21 : decode cX8_write 21 = .ok (.sipush 255, 3) := by decide +kernel
theorem dX8_write_24 : decode cX8_write 24 = .ok (.iand, 1) := by decide +kernel
theorem dX8_write_25 : decode cX8_write 25 = .ok (.istore_n 3, 1) := by decide +kernel
theorem dX8_write_26 : decode cX8_write 26 = .ok (.iload_n 1, 1) := by decide +kernel
theorem dX8_write_27 : decode cX8_write 27 = .ok (.iconst 1, 1) := by decide +kernel
theorem dX8_write_28 : decode cX8_write 28 = .ok (.if_icmp .gt 26, 3) := by decide +kernel
theorem dX8_write_31 : decode cX8_write 31 = .ok (.aload_n 0, 1) := by decide +kernel
theorem dX8_write_32 : decode cX8_write 32 = .ok (.getfield 73, 3) := by decide +kernel
theorem dX8_write_35 : decode cX8_write 35 = .ok (.sipush 128, 3) := by decide +kernel
theorem dX8_write_38 : decode cX8_write 38 = .ok (.iand, 1) := by decide +kernel
theorem dX8_write_39 : decode cX8_write 39 = .ok (.ifCond .eq 15, 3) := by decide +kernel
theorem dX8_write_42 : decode cX8_write 42 = .ok (.aload_n 0, 1) := by decide +kernel
theorem dX8_write_43 : decode cX8_write 43 = .ok (.getfield 12, 3) := by decide +kernel
theorem dX8_write_46 : decode cX8_write 46 = .ok (.iload_n 1, 1) := by decide +kernel
theorem dX8_write_47 : decode cX8_write 47 = .ok (.iload_n 3, 1) := by decide +kernel
theorem dX8_write_48 : decode cX8_write 48 = .ok (.invokevirtual 77, 3) := by decide +kernel
theorem dX8_write_51 : decode cX8_write 51 = .ok (.goto 9, 3) := by decide +kernel
theorem dX8_write_54 : decode cX8_write 54 = .ok (.aload_n 0, 1) := by decide +kernel
theorem dX8_write_55 : decode cX8_write 55 = .ok (.iload_n 1, 1) := by decide +kernel
theorem dX8_write_56 : decode cX8_write 56 = .ok (.iload_n 3, 1) := by decide +kernel
theorem dX8_write_57 : decode cX8_write 57 = .ok (.invokevirtual 81, 3) := by decide +kernel
theorem dX8_write_60 : decode cX8_write 60 = .ok (.return_, 1) := by decide +kernel
set_option maxRecDepth 20000 in
theorem ggX8_read_X0_tellByte : GoodIn wsX8_read wsX0_tellByte := goodIn_r _ [9, 10, 134, 135] (by decide +kernel) (by decide +kernel)
set_option maxRecDepth 20000 in
theorem gX8_read_X0_tellByte : GoodIn wsX8_read (wsV RX8 84 RX0 yX0_tellByte wsX0_tellByte) := goodIn_app (goodIn_of _ (by decide +kernel)) ggX8_read_X0_tellByte
set_option maxRecDepth 20000 in
theorem ggX8_read_X8_tellRegister : GoodIn wsX8_read wsX8_tellRegister := goodIn_r _ [15, 16, 3, 17, 18, 19, 20, 21, 14, 22, 23, 24, 25, 26, 27, 28, 29, 30, 31, 32, 33, 34, 35, 36, 37, 38, 39, 40, 41, 42, 43, 44, 45, 46, 47, 48, 49, 50, 51, 52, 53, 54, 55, 56, 57, 58, 59, 60, 61, 62, 63, 64, 65, 66, 67, 68, 69, 70, 71, 72, 73, 74, 75, 76, 77, 78, 79, 80, 81, 82, 83, 84, 85, 86, 87, 88, 89, 90, 91, 92, 93, 94, 95, 96, 97, 98, 99, 100, 101, 102, 103, 104, 105, 106, 107, 108, 109, 110, 111, 112, 113, 114, 115, 116, 117, 118, 119, 120, 121, 122, 123, 124, 125, 126, 127, 128, 129, 130, 131, 132, 133, 136, 137, 138, 139, 140, 141, 142, 143, 144, 145, 146] (by decide +kernel) (by decide +kernel)
set_option maxRecDepth 20000 in
theorem gX8_read_X8_tellRegister : GoodIn wsX8_read (wsV RX8 88 RX8 yX8_tellRegister wsX8_tellRegister) := goodIn_app (goodIn_of _ (by decide +kernel)) ggX8_read_X8_tellRegister
theorem dX8_read_0 : decode cX8_read 0 = .ok (.iload_n 1, 1) := by decide +kernel
theorem dX8_read_1 : decode cX8_read 1 = .ok (.ifCond .lt 9, 3) := by decide +kernel
theorem dX8_read_4 : decode cX8_read 4 = .ok (.iload_n 1, 1) := by decide +kernel
theorem dX8_read_5 : decode cX8_read 5 = .ok (.bipush 7, 2) := by decide +kernel
theorem dX8_read_7 : decode cX8_read 7 = .ok (.if_icmp .le 13, 3) := by decide +kernel
theorem dX8_read_10 : decode cX8_read 10 = .ok (.new 66, 3) := by decide +kernel
theorem dX8_read_13 : decode cX8_read 13 = .ok (.dup, 1) := by decide +kernel
theorem dX8_read_14 : decode cX8_read 14 = .ok (.ldc 68, 2) := by decide +kernel
theorem dX8_read_16 : decode cX8_read 16 = .ok (.invokespecial 70, 3) := by decide +kernel
theorem dX8_read_19 : decode cX8_read 19 = .ok (.athrow, 1) := by decide +kernel
theorem dX8_read_20 : decode cX8_read 20 = .ok (.iload_n 1, 1) := by decide +kernel
theorem dX8_read_21 : decode cX8_read 21 = .ok (.iconst 1, 1) := by decide +kernel
theorem dX8_read_22 : decode cX8_read 22 = .ok (.if_icmp .gt 23, 3) := by decide +kernel
theorem dX8_read_25 : decode cX8_read 25 = .ok (.aload_n 0, 1) := by decide +kernel
theorem dX8_read_26 : decode cX8_read 26 = .ok (.getfield 73, 3) := by decide +kernel
theorem dX8_read_29 : decode cX8_read 29 = .ok (.sipush 128, 3) := by decide +kernel
theorem dX8_read_32 : decode cX8_read 32 = .ok (.iand, 1) := by decide +kernel
theorem dX8_read_33 : decode cX8_read 33 = .ok (.ifCond .eq 12, 3) := by decide +kernel
theorem dX8_read_36 : decode cX8_read 36 = .ok (.aload_n 0, 1) := by decide +kernel
theorem dX8_read_37 : decode cX8_read 37 = .ok (.getfield 12, 3) := by decide +kernel
theorem dX8_read_40 : decode cX8_read 40 = .ok (.iload_n 1, 1) := by decide +kernel
theorem dX8_read_41 : decode cX8_read 41 = .ok (.invokevirtual 84, 3) := by decide +kernel
theorem dX8_read_44 : decode cX8_read 44 = .ok (.ireturn, 1) := by decide +kernel
theorem dX8_read_45 : decode cX8_read 45 = .ok (.aload_n 0, 1) := by decide +kernel
theorem dX8_read_46 : decode cX8_read 46 = .ok (.iload_n 1, 1) := by decide +kernel
theorem dX8_read_47 : decode cX8_read 47 = .ok (.invokevirtual 88, 3) := by decide +kernel
theorem dX8_read_50 : decode cX8_read 50 = .ok (.ireturn, 1) := by decide +kernel
set_option maxRecDepth 20000 in
theorem ggX8_clock_X0_pass : GoodIn wsX8_clock wsX0_pass := goodIn_r _ [7, 8, 9, 231, 232] (by decide +kernel) (by decide +kernel)
set_option maxRecDepth 20000 in
theorem gX8_clock_X0_pass : GoodIn wsX8_clock (wsV RX8 92 RX0 yX0_pass wsX0_pass) := goodIn_app (goodIn_of _ (by decide +kernel)) ggX8_clock_X0_pass
set_option maxRecDepth 20000 in
theorem ggX8_clock_X8_beat : GoodIn wsX8_clock wsX8_beat := goodIn_r _ [14, 15, 16, 17, 18, 19, 20, 21, 22, 23, 13, 24, 25, 26, 27, 28, 29, 30, 31, 32, 33, 34, 35, 36, 37, 38, 39, 40, 41, 42, 43, 44, 45, 46, 47, 48, 49, 50, 51, 52, 53, 54, 55, 56, 57, 58, 59, 60, 61, 62, 63, 64, 65, 66, 67, 68, 69, 70, 71, 72, 73, 74, 75, 76, 77, 78, 79, 80, 81, 82, 83, 84, 85, 86, 87, 88, 89, 90, 91, 92, 93, 94, 95, 96, 97, 98, 99, 100, 101, 102, 103, 104, 105, 106, 107, 108, 109, 110, 111, 112, 113, 114, 115, 116, 117, 118, 119, 120, 121, 122, 123, 124, 125, 126, 127, 128, 129, 130, 131, 132, 133, 134, 135, 136, 137, 138, 139, 140, 141, 142, 143, 144, 145, 146, 147, 148, 149, 150, 151, 152, 153, 154, 155, 156, 157, 158, 159, 160, 161, 162, 163, 164, 165, 166, 167, 168, 169, 170, 171, 172, 173, 174, 175, 176, 177, 178, 179, 180, 181, 182, 183, 184, 185, 186, 187, 188, 189, 190, 191, 192, 193, 194, 195, 196, 197, 198, 199, 200, 201, 202, 203, 204, 205, 206, 207, 208, 209, 210, 211, 212, 213, 214, 215, 216, 217, 218, 219, 220, 221, 222, 223, 224, 225, 226, 227, 228, 229, 230, 233, 234, 235, 236, 237, 238, 239, 240, 241, 242, 243, 244, 245, 246, 247, 248, 249, 250, 251, 252, 253, 254] (by decide +kernel) (by decide +kernel)
set_option maxRecDepth 20000 in
theorem gX8_clock_X8_beat : GoodIn wsX8_clock (wsV RX8 95 RX8 yX8_beat wsX8_beat) := goodIn_app (goodIn_of _ (by decide +kernel)) ggX8_clock_X8_beat
theorem dX8_clock_0 : decode cX8_clock 0 = .ok (.iload_n 1, 1) := by decide +kernel
theorem dX8_clock_1 : decode cX8_clock 1 = .ok (.ifCond .lt 9, 3) := by decide +kernel
theorem dX8_clock_4 : decode cX8_clock 4 = .ok (.iload_n 1, 1) := by decide +kernel
theorem dX8_clock_5 : decode cX8_clock 5 = .ok (.ldc 91, 2) := by decide +kernel
theorem dX8_clock_7 : decode cX8_clock 7 = .ok (.if_icmp .le 5, 3) := by decide +kernel
theorem dX8_clock_10 : decode cX8_clock 10 = .ok (.iconst (-1), 1) := by decide +kernel
theorem dX8_clock_11 : decode cX8_clock 11 = .ok (.ireturn, 1) := by decide +kernel
theorem dX8_clock_12 : decode cX8_clock 12 = .ok (.aload_n 0, 1) := by decide +kernel
theorem dX8_clock_13 : decode cX8_clock 13 = .ok (.getfield 12, 3) := by decide +kernel
theorem dX8_clock_16 : decode cX8_clock 16 = .ok (.iload_n 1, 1) := by decide +kernel
theorem dX8_clock_17 : decode cX8_clock 17 = .ok (.invokevirtual 92, 3) := by decide +kernel
theorem dX8_clock_20 : decode cX8_clock 20 = .ok (.istore_n 2, 1) := by decide +kernel
theorem dX8_clock_21 : decode cX8_clock 21 = .ok (.iconst 0, 1) := by decide +kernel
theorem dX8_clock_22 : decode cX8_clock 22 = .ok (.istore_n 3, 1) := by decide +kernel
theorem dX8_clock_23 : decode cX8_clock 23 = .ok (.iload_n 3, 1) := by decide +kernel
theorem dX8_clock_24 : decode cX8_clock 24 = .ok (.iload_n 2, 1) := by decide +kernel
theorem dX8_clock_25 : decode cX8_clock 25 = .ok (.if_icmp .ge 13, 3) := by decide +kernel
theorem dX8_clock_28 : decode cX8_clock 28 = .ok (.aload_n 0, 1) := by decide +kernel
theorem dX8_clock_29 : decode cX8_clock 29 = .ok (.invokevirtual 95, 3) := by decide +kernel
theorem dX8_clock_32 : decode cX8_clock 32 = .ok (.iinc 3 1, 3) := by decide +kernel
theorem dX8_clock_35 : decode cX8_clock 35 = .ok (.goto (-12), 3) := by decide +kernel
theorem dX8_clock_38 : decode cX8_clock 38 = .ok (.iload_n 2, 1) := by decide +kernel
theorem dX8_clock_39 : decode cX8_clock 39 = .ok (.ireturn, 1) := by decide +kernel
set_option maxRecDepth 20000 in
theorem ggX8_wave_X1_room : GoodIn wsX8_wave wsX1_room := goodIn_r _ [6, 7, 8, 9, 10, 11, 12, 13, 14, 58, 59, 60, 61, 62] (by decide +kernel) (by decide +kernel)
set_option maxRecDepth 20000 in
theorem gX8_wave_X1_room : GoodIn wsX8_wave (wsV RX8 98 RX1 yX1_room wsX1_room) := goodIn_app (goodIn_of _ (by decide +kernel)) ggX8_wave_X1_room
set_option maxRecDepth 20000 in
theorem ggX8_wave_X1_append : GoodIn wsX8_wave wsX1_append := goodIn_r _ [18, 7, 19, 20, 21, 11, 22, 14, 13, 23, 24, 25, 26, 27, 28, 29, 30, 31, 58, 59, 60, 61, 62] (by decide +kernel) (by decide +kernel)
set_option maxRecDepth 20000 in
theorem gX8_wave_X1_append : GoodIn wsX8_wave (wsV RX8 102 RX1 yX1_append wsX1_append) := goodIn_app (goodIn_of _ (by decide +kernel)) ggX8_wave_X1_append
set_option maxRecDepth 20000 in
theorem ggX8_wave_X1_pieces : GoodIn wsX8_wave wsX1_pieces := goodIn_r _ [35, 7, 36, 37, 38, 11, 39, 14, 58, 59, 60, 61, 62] (by decide +kernel) (by decide +kernel)
set_option maxRecDepth 20000 in
theorem gX8_wave_X1_pieces : GoodIn wsX8_wave (wsV RX8 106 RX1 yX1_pieces wsX1_pieces) := goodIn_app (goodIn_of _ (by decide +kernel)) ggX8_wave_X1_pieces
theorem dX8_wave_0 : decode cX8_wave 0 = .ok (.iload_n 2, 1) := by decide +kernel
theorem dX8_wave_1 : decode cX8_wave 1 = .ok (.iconst 1, 1) := by decide +kernel
theorem dX8_wave_2 : decode cX8_wave 2 = .ok (.if_icmp .lt 21, 3) := by decide +kernel
theorem dX8_wave_5 : decode cX8_wave 5 = .ok (.iload_n 2, 1) := by decide +kernel
theorem dX8_wave_6 : decode cX8_wave 6 = .ok (.sipush 4000, 3) := by decide +kernel
theorem dX8_wave_9 : decode cX8_wave 9 = .ok (.if_icmp .gt 14, 3) := by decide +kernel
theorem dX8_wave_12 : decode cX8_wave 12 = .ok (.aload_n 0, 1) := by decide +kernel
theorem dX8_wave_13 : decode cX8_wave 13 = .ok (.getfield 52, 3) := by decide +kernel
theorem dX8_wave_16 : decode cX8_wave 16 = .ok (.invokevirtual 98, 3) := by decide +kernel
theorem dX8_wave_19 : decode cX8_wave 19 = .ok (.iconst 1, 1) := by decide +kernel
theorem dX8_wave_20 : decode cX8_wave 20 = .ok (.if_icmp .ge 5, 3) := by decide +kernel
theorem dX8_wave_23 : decode cX8_wave 23 = .ok (.iconst (-1), 1) := by decide +kernel
theorem dX8_wave_24 : decode cX8_wave 24 = .ok (.ireturn, 1) := by decide +kernel
theorem dX8_wave_25 : decode cX8_wave 25 = .ok (.aload_n 0, 1) := by decide +kernel
theorem dX8_wave_26 : decode cX8_wave 26 = .ok (.getfield 52, 3) := by decide +kernel
theorem dX8_wave_29 : decode cX8_wave 29 = .ok (.iload_n 1, 1) := by decide +kernel
theorem dX8_wave_30 : decode cX8_wave 30 = .ok (.iload_n 2, 1) := by decide +kernel
theorem dX8_wave_31 : decode cX8_wave 31 = .ok (.invokevirtual 102, 3) := by decide +kernel
theorem dX8_wave_34 : decode cX8_wave 34 = .ok (.aload_n 0, 1) := by decide +kernel
theorem dX8_wave_35 : decode cX8_wave 35 = .ok (.getfield 52, 3) := by decide +kernel
theorem dX8_wave_38 : decode cX8_wave 38 = .ok (.invokevirtual 106, 3) := by decide +kernel
theorem dX8_wave_41 : decode cX8_wave 41 = .ok (.ireturn, 1) := by decide +kernel
set_option maxRecDepth 20000 in
theorem ggX8_frame_X7_pieces : GoodIn wsX8_frame wsX7_pieces := goodIn_r _ [6, 7, 8, 5, 9, 10, 11, 12] (by decide +kernel) (by decide +kernel)
set_option maxRecDepth 20000 in
theorem gX8_frame_X7_pieces : GoodIn wsX8_frame (va_wsS RX8 109 yX7_pieces wsX7_pieces) := goodIn_app (goodIn_of _ (by decide +kernel)) ggX8_frame_X7_pieces
set_option maxRecDepth 20000 in
theorem ggX8_frame_X1_room : GoodIn wsX8_frame wsX1_room := goodIn_r _ [17, 18, 19, 20, 21, 22, 23, 24, 25, 81, 82, 83, 84, 85] (by decide +kernel) (by decide +kernel)
set_option maxRecDepth 20000 in
theorem gX8_frame_X1_room : GoodIn wsX8_frame (wsV RX8 98 RX1 yX1_room wsX1_room) := goodIn_app (goodIn_of _ (by decide +kernel)) ggX8_frame_X1_room
set_option maxRecDepth 20000 in
theorem ggX8_frame_X7_pieceIsHigh : GoodIn wsX8_frame wsX7_pieceIsHigh := goodIn_r _ [28, 7, 8, 5, 9, 10, 11, 12, 29, 30, 31, 32, 33, 34, 35, 36, 37, 38] (by decide +kernel) (by decide +kernel)
set_option maxRecDepth 20000 in
theorem gX8_frame_X7_pieceIsHigh : GoodIn wsX8_frame (va_wsS RX8 113 yX7_pieceIsHigh wsX7_pieceIsHigh) := goodIn_app (goodIn_of _ (by decide +kernel)) ggX8_frame_X7_pieceIsHigh
set_option maxRecDepth 20000 in
theorem ggX8_frame_X7_pieceBeats : GoodIn wsX8_frame wsX7_pieceBeats := goodIn_r _ [41, 42, 4, 5, 6, 7, 8, 9, 10, 11, 12, 43, 44, 45] (by decide +kernel) (by decide +kernel)
set_option maxRecDepth 20000 in
theorem gX8_frame_X7_pieceBeats : GoodIn wsX8_frame (va_wsS RX8 117 yX7_pieceBeats wsX7_pieceBeats) := goodIn_app (goodIn_of _ (by decide +kernel)) ggX8_frame_X7_pieceBeats
set_option maxRecDepth 20000 in
theorem ggX8_frame_X1_append : GoodIn wsX8_frame wsX1_append := goodIn_r _ [49, 18, 50, 51, 52, 22, 53, 25, 24, 54, 55, 56, 57, 58, 59, 60, 61, 62, 81, 82, 83, 84, 85] (by decide +kernel) (by decide +kernel)
set_option maxRecDepth 20000 in
theorem gX8_frame_X1_append : GoodIn wsX8_frame (wsV RX8 102 RX1 yX1_append wsX1_append) := goodIn_app (goodIn_of _ (by decide +kernel)) ggX8_frame_X1_append
theorem dX8_frame_0 : decode cX8_frame 0 = .ok (.aload_n 0, 1) := by decide +kernel
theorem dX8_frame_1 : decode cX8_frame 1 = .ok (.getfield 73, 3) := by decide +kernel
theorem dX8_frame_4 : decode cX8_frame 4 = .ok (.invokestatic 109, 3) := by decide +kernel
theorem dX8_frame_7 : decode cX8_frame 7 = .ok (.istore_n 3, 1) := by decide +kernel
theorem dX8_frame_8 : decode cX8_frame 8 = .ok (.aload_n 0, 1) := by decide +kernel
theorem dX8_frame_9 : decode cX8_frame 9 = .ok (.getfield 52, 3) := by decide +kernel
theorem dX8_frame_12 : decode cX8_frame 12 = .ok (.invokevirtual 98, 3) := by decide +kernel
theorem dX8_frame_15 : decode cX8_frame 15 = .ok (.iload_n 3, 1) := by decide +kernel
theorem dX8_frame_16 : decode cX8_frame 16 = .ok (.if_icmp .ge 5, 3) := by decide +kernel
theorem dX8_frame_19 : decode cX8_frame 19 = .ok (.iconst (-1), 1) := by decide +kernel
theorem dX8_frame_20 : decode cX8_frame 20 = .ok (.ireturn, 1) := by decide +kernel
theorem dX8_frame_21 : decode cX8_frame 21 = .ok (.iconst 0, 1) := by decide +kernel
theorem dX8_frame_22 : decode cX8_frame 22 = .ok (.istore 4, 2) := by decide +kernel
theorem dX8_frame_24 : decode cX8_frame 24 = .ok (.iload 4, 2) := by decide +kernel
theorem dX8_frame_26 : decode cX8_frame 26 = .ok (.iload_n 3, 1) := by decide +kernel
theorem dX8_frame_27 : decode cX8_frame 27 = .ok (.if_icmp .ge 58, 3) := by decide +kernel
theorem dX8_frame_30 : decode cX8_frame 30 = .ok (.aload_n 0, 1) := by decide +kernel
theorem dX8_frame_31 : decode cX8_frame 31 = .ok (.getfield 73, 3) := by decide +kernel
theorem dX8_frame_34 : decode cX8_frame 34 = .ok (.iload_n 1, 1) := by decide +kernel
theorem dX8_frame_35 : decode cX8_frame 35 = .ok (.iload 4, 2) := by decide +kernel
theorem dX8_frame_37 : decode cX8_frame 37 = .ok (.invokestatic 113, 3) := by decide +kernel
theorem dX8_frame_40 : decode cX8_frame 40 = .ok (.istore 5, 2) := by decide +kernel
theorem dX8_frame_42 : decode cX8_frame 42 = .ok (.aload_n 0, 1) := by decide +kernel
theorem dX8_frame_43 : decode cX8_frame 43 = .ok (.getfield 52, 3) := by decide +kernel
theorem dX8_frame_46 : decode cX8_frame 46 = .ok (.iload 5, 2) := by decide +kernel
theorem dX8_frame_48 : decode cX8_frame 48 = .ok (.iload 4, 2) := by decide +kernel
theorem dX8_frame_50 : decode cX8_frame 50 = .ok (.iload_n 2, 1) := by decide +kernel
theorem dX8_frame_51 : decode cX8_frame 51 = .ok (.if_icmp .ne 7, 3) := by decide +kernel
theorem dX8_frame_54 : decode cX8_frame 54 = .ok (.iconst 1, 1) := by decide +kernel
theorem dX8_frame_55 : decode cX8_frame 55 = .ok (.goto 4, 3) := by decide +kernel
theorem dX8_frame_58 : decode cX8_frame 58 = .ok (.iconst 0, 1) := by decide +kernel
theorem dX8_frame_59 : decode cX8_frame 59 = .ok (.if_icmp .eq 7, 3) := by decide +kernel
theorem dX8_frame_62 : decode cX8_frame 62 = .ok (.iconst 1, 1) := by decide +kernel
theorem dX8_frame_63 : decode cX8_frame 63 = .ok (.goto 4, 3) := by decide +kernel
theorem dX8_frame_66 : decode cX8_frame 66 = .ok (.iconst 0, 1) := by decide +kernel
theorem dX8_frame_67 : decode cX8_frame 67 = .ok (.aload_n 0, 1) := by decide +kernel
theorem dX8_frame_68 : decode cX8_frame 68 = .ok (.getfield 73, 3) := by decide +kernel
theorem dX8_frame_71 : decode cX8_frame 71 = .ok (.iload 4, 2) := by decide +kernel
theorem dX8_frame_73 : decode cX8_frame 73 = .ok (.invokestatic 117, 3) := by decide +kernel
theorem dX8_frame_76 : decode cX8_frame 76 = .ok (.invokevirtual 102, 3) := by decide +kernel
theorem dX8_frame_79 : decode cX8_frame 79 = .ok (.iinc 4 1, 3) := by decide +kernel
theorem dX8_frame_82 : decode cX8_frame 82 = .ok (.goto (-58), 3) := by decide +kernel
theorem dX8_frame_85 : decode cX8_frame 85 = .ok (.iload_n 3, 1) := by decide +kernel
theorem dX8_frame_86 : decode cX8_frame 86 = .ok (.ireturn, 1) := by decide +kernel
set_option maxRecDepth 20000 in
theorem ggX8_inputs_X3_putPins : GoodIn wsX8_inputs wsX3_putPins := goodIn_r _ [6, 7, 8, 9, 10, 5, 11, 12, 13, 14, 15, 16, 17, 18, 19, 20, 21, 22, 41, 42, 43, 44] (by decide +kernel) (by decide +kernel)
set_option maxRecDepth 20000 in
theorem gX8_inputs_X3_putPins : GoodIn wsX8_inputs (wsV RX8 121 RX3 yX3_putPins wsX3_putPins) := goodIn_app (goodIn_of _ (by decide +kernel)) ggX8_inputs_X3_putPins
theorem dX8_inputs_0 : decode cX8_inputs 0 = .ok (.iload_n 1, 1) := by decide +kernel
theorem dX8_inputs_1 : decode cX8_inputs 1 = .ok (.ifCond .lt 9, 3) := by decide +kernel
theorem dX8_inputs_4 : decode cX8_inputs 4 = .ok (.iload_n 1, 1) := by decide +kernel
theorem dX8_inputs_5 : decode cX8_inputs 5 = .ok (.bipush 15, 2) := by decide +kernel
theorem dX8_inputs_7 : decode cX8_inputs 7 = .ok (.if_icmp .le 5, 3) := by decide +kernel
theorem dX8_inputs_10 : decode cX8_inputs 10 = .ok (.iconst 0, 1) := by decide +kernel
theorem dX8_inputs_11 : decode cX8_inputs 11 = .ok (.ireturn, 1) := by decide +kernel
theorem dX8_inputs_12 : decode cX8_inputs 12 = .ok (.aload_n 0, 1) := by decide +kernel
theorem dX8_inputs_13 : decode cX8_inputs 13 = .ok (.getfield 45, 3) := by decide +kernel
theorem dX8_inputs_16 : decode cX8_inputs 16 = .ok (.iload_n 1, 1) := by decide +kernel
theorem dX8_inputs_17 : decode cX8_inputs 17 = .ok (.invokevirtual 121, 3) := by decide +kernel
theorem dX8_inputs_20 : decode cX8_inputs 20 = .ok (.iconst 1, 1) := by decide +kernel
theorem dX8_inputs_21 : decode cX8_inputs 21 = .ok (.ireturn, 1) := by decide +kernel
set_option maxRecDepth 20000 in
theorem ggX8_reset_X8_powerOn : GoodIn wsX8_reset wsX8_powerOn := goodIn_r _ [5, 6, 7, 8, 9, 10, 11, 12, 13, 14, 15, 16, 17, 18, 19, 20, 21, 22, 23, 24, 25, 26, 27, 28, 29, 30, 31, 32, 33, 34, 35, 36, 37, 38, 39, 40, 41, 42, 43, 44, 45, 46, 47, 48, 49, 50, 51, 52, 53, 54, 55, 56, 57, 58, 59, 60, 61, 62, 63, 64, 65, 66, 67, 68, 69, 70, 71, 72, 73, 74, 75, 76, 77, 78, 79, 80, 81, 82, 83, 84, 85, 86, 87, 88, 89, 90, 91, 92, 93, 94, 95, 96, 97, 98, 99, 100, 101, 102, 103, 104, 105, 106, 107, 108, 109, 110, 111, 112, 113, 114, 115, 116, 117, 118, 119, 120, 121, 122, 123, 124, 125, 126, 127, 128, 129] (by decide +kernel) (by decide +kernel)
set_option maxRecDepth 20000 in
theorem gX8_reset_X8_powerOn : GoodIn wsX8_reset (wsV RX8 63 RX8 yX8_powerOn wsX8_powerOn) := goodIn_app (goodIn_of _ (by decide +kernel)) ggX8_reset_X8_powerOn
theorem dX8_reset_0 : decode cX8_reset 0 = .ok (.aload_n 0, 1) := by decide +kernel
theorem dX8_reset_1 : decode cX8_reset 1 = .ok (.invokevirtual 63, 3) := by decide +kernel
theorem dX8_reset_4 : decode cX8_reset 4 = .ok (.return_, 1) := by decide +kernel
set_option maxRecDepth 20000 in
theorem ggX8_count_X5_size : GoodIn wsX8_count wsX5_size := goodIn_r _ [12, 13, 116, 117, 118] (by decide +kernel) (by decide +kernel)
set_option maxRecDepth 20000 in
theorem gX8_count_X5_size : GoodIn wsX8_count (wsV RX8 124 RX5 yX5_size wsX5_size) := goodIn_app (goodIn_of _ (by decide +kernel)) ggX8_count_X5_size
set_option maxRecDepth 20000 in
theorem ggX8_count_X8_reason : GoodIn wsX8_count wsX8_reason := goodIn_r _ [18, 19, 1, 20, 21, 22, 23, 24, 25, 26, 27, 17, 28, 29, 30, 31, 32, 33, 34, 35, 36, 11, 37, 38, 39, 40, 41, 13, 42, 43, 44, 45, 46, 47, 8, 9, 10, 12, 48, 49, 50, 51, 52, 53, 98, 99, 100, 101, 102, 103, 104, 105, 106, 107, 108, 109, 110, 111, 112, 113, 114, 115, 116, 117, 118, 119, 120, 121, 122] (by decide +kernel) (by decide +kernel)
set_option maxRecDepth 20000 in
theorem gX8_count_X8_reason : GoodIn wsX8_count (wsV RX8 130 RX8 yX8_reason wsX8_reason) := goodIn_app (goodIn_of _ (by decide +kernel)) ggX8_count_X8_reason
set_option maxRecDepth 20000 in
theorem ggX8_count_X2_isHigh : GoodIn wsX8_count wsX2_isHigh := goodIn_r _ [58, 59, 60, 61, 62, 11, 63, 13, 64, 65, 66, 57, 67, 68, 69, 70, 71, 72, 9, 10, 12, 73, 39, 40, 41, 42, 43, 44, 45, 46, 47, 123, 124, 116, 117, 118] (by decide +kernel) (by decide +kernel)
set_option maxRecDepth 20000 in
theorem gX8_count_X2_isHigh : GoodIn wsX8_count (wsV RX8 133 RX2 yX2_isHigh wsX2_isHigh) := goodIn_app (goodIn_of _ (by decide +kernel)) ggX8_count_X2_isHigh
set_option maxRecDepth 20000 in
theorem ggX8_count_X1_pieces : GoodIn wsX8_count wsX1_pieces := goodIn_r _ [78, 79, 80, 9, 10, 11, 12, 13, 125, 126, 116, 117, 118] (by decide +kernel) (by decide +kernel)
set_option maxRecDepth 20000 in
theorem gX8_count_X1_pieces : GoodIn wsX8_count (wsV RX8 106 RX1 yX1_pieces wsX1_pieces) := goodIn_app (goodIn_of _ (by decide +kernel)) ggX8_count_X1_pieces
set_option maxRecDepth 20000 in
theorem ggX8_count_X2_runsInAll : GoodIn wsX8_count wsX2_runsInAll := goodIn_r _ [84, 85, 123, 124] (by decide +kernel) (by decide +kernel)
set_option maxRecDepth 20000 in
theorem gX8_count_X2_runsInAll : GoodIn wsX8_count (wsV RX8 137 RX2 yX2_runsInAll wsX2_runsInAll) := goodIn_app (goodIn_of _ (by decide +kernel)) ggX8_count_X2_runsInAll
set_option maxRecDepth 20000 in
theorem ggX8_count_X6_isBusy : GoodIn wsX8_count wsX6_isBusy := goodIn_r _ [90, 91, 127, 128, 129, 130] (by decide +kernel) (by decide +kernel)
set_option maxRecDepth 20000 in
theorem gX8_count_X6_isBusy : GoodIn wsX8_count (wsV RX8 140 RX6 yX6_isBusy wsX6_isBusy) := goodIn_app (goodIn_of _ (by decide +kernel)) ggX8_count_X6_isBusy
set_option maxRecDepth 20000 in
theorem ggX8_count_X4_isBusy : GoodIn wsX8_count wsX4_isBusy := goodIn_r _ [96, 97, 131, 132, 133, 134, 135, 136, 137] (by decide +kernel) (by decide +kernel)
set_option maxRecDepth 20000 in
theorem gX8_count_X4_isBusy : GoodIn wsX8_count (wsV RX8 143 RX4 yX4_isBusy wsX4_isBusy) := goodIn_app (goodIn_of _ (by decide +kernel)) ggX8_count_X4_isBusy
theorem dX8_count_0 : decode cX8_count 0 = .ok (.iload_n 1, 1) := by decide +kernel
theorem dX8_count_1 : decode cX8_count 1 = .ok (.tableswitch 150 0 8 #[51, 59, 67, 72, 86, 102, 110, 118, 134], 51) := by decide +kernel
theorem dX8_count_52 : decode cX8_count 52 = .ok (.aload_n 0, 1) := by decide +kernel
theorem dX8_count_53 : decode cX8_count 53 = .ok (.getfield 21, 3) := by decide +kernel
theorem dX8_count_56 : decode cX8_count 56 = .ok (.invokevirtual 124, 3) := by decide +kernel
theorem dX8_count_59 : decode cX8_count 59 = .ok (.ireturn, 1) := by decide +kernel
theorem dX8_count_60 : decode cX8_count 60 = .ok (.aload_n 0, 1) := by decide +kernel
theorem dX8_count_61 : decode cX8_count 61 = .ok (.getfield 25, 3) := by decide +kernel
theorem dX8_count_64 : decode cX8_count 64 = .ok (.invokevirtual 124, 3) := by decide +kernel
theorem dX8_count_67 : decode cX8_count 67 = .ok (.ireturn, 1) := by decide +kernel
theorem dX8_count_68 : decode cX8_count 68 = .ok (.aload_n 0, 1) := by decide +kernel
theorem dX8_count_69 : decode cX8_count 69 = .ok (.getfield 127, 3) := by decide +kernel
theorem dX8_count_72 : decode cX8_count 72 = .ok (.ireturn, 1) := by decide +kernel
theorem dX8_count_73 : decode cX8_count 73 = .ok (.aload_n 0, 1) := by decide +kernel
theorem dX8_count_74 : decode cX8_count 74 = .ok (.invokevirtual 130, 3) := by decide +kernel
theorem dX8_count_77 : decode cX8_count 77 = .ok (.iconst 1, 1) := by decide +kernel
theorem dX8_count_78 : decode cX8_count 78 = .ok (.if_icmp .ne 7, 3) := by decide +kernel
theorem dX8_count_81 : decode cX8_count 81 = .ok (.iconst 0, 1) := by decide +kernel
theorem dX8_count_82 : decode cX8_count 82 = .ok (.goto 4, 3) := by decide +kernel
theorem dX8_count_85 : decode cX8_count 85 = .ok (.iconst 1, 1) := by decide +kernel
theorem dX8_count_86 : decode cX8_count 86 = .ok (.ireturn, 1) := by decide +kernel
theorem dX8_count_87 : decode cX8_count 87 = .ok (.aload_n 0, 1) := by decide +kernel
theorem dX8_count_88 : decode cX8_count 88 = .ok (.getfield 59, 3) := by decide +kernel
theorem dX8_count_91 : decode cX8_count 91 = .ok (.invokevirtual 133, 3) := by decide +kernel
theorem dX8_count_94 : decode cX8_count 94 = .ok (.ifCond .eq 7, 3) := by decide +kernel
theorem dX8_count_97 : decode cX8_count 97 = .ok (.iconst 1, 1) := by decide +kernel
theorem dX8_count_98 : decode cX8_count 98 = .ok (.goto 4, 3) := by decide +kernel
theorem dX8_count_101 : decode cX8_count 101 = .ok (.iconst 0, 1) := by decide +kernel
theorem dX8_count_102 : decode cX8_count 102 = .ok (.ireturn, 1) := by decide +kernel
theorem dX8_count_103 : decode cX8_count 103 = .ok (.aload_n 0, 1) := by decide +kernel
theorem dX8_count_104 : decode cX8_count 104 = .ok (.getfield 52, 3) := by decide +kernel
theorem dX8_count_107 : decode cX8_count 107 = .ok (.invokevirtual 106, 3) := by decide +kernel
theorem dX8_count_110 : decode cX8_count 110 = .ok (.ireturn, 1) := by decide +kernel
theorem dX8_count_111 : decode cX8_count 111 = .ok (.aload_n 0, 1) := by decide +kernel
theorem dX8_count_112 : decode cX8_count 112 = .ok (.getfield 59, 3) := by decide +kernel
theorem dX8_count_115 : decode cX8_count 115 = .ok (.invokevirtual 137, 3) := by decide +kernel
theorem dX8_count_118 : decode cX8_count 118 = .ok (.ireturn, 1) := by decide +kernel
theorem dX8_count_119 : decode cX8_count 119 = .ok (.aload_n 0, 1) := by decide +kernel
theorem dX8_count_120 : decode cX8_count 120 = .ok (.getfield 31, 3) := by decide +kernel
theorem dX8_count_123 : decode cX8_count 123 = .ok (.invokevirtual 140, 3) := by decide +kernel
theorem dX8_count_126 : decode cX8_count 126 = .ok (.ifCond .eq 7, 3) := by decide +kernel
theorem dX8_count_129 : decode cX8_count 129 = .ok (.iconst 1, 1) := by decide +kernel
theorem dX8_count_130 : decode cX8_count 130 = .ok (.goto 4, 3) := by decide +kernel
theorem dX8_count_133 : decode cX8_count 133 = .ok (.iconst 0, 1) := by decide +kernel
theorem dX8_count_134 : decode cX8_count 134 = .ok (.ireturn, 1) := by decide +kernel
theorem dX8_count_135 : decode cX8_count 135 = .ok (.aload_n 0, 1) := by decide +kernel
theorem dX8_count_136 : decode cX8_count 136 = .ok (.getfield 38, 3) := by decide +kernel
theorem dX8_count_139 : decode cX8_count 139 = .ok (.invokevirtual 143, 3) := by decide +kernel
theorem dX8_count_142 : decode cX8_count 142 = .ok (.ifCond .eq 7, 3) := by decide +kernel
theorem dX8_count_145 : decode cX8_count 145 = .ok (.iconst 1, 1) := by decide +kernel
theorem dX8_count_146 : decode cX8_count 146 = .ok (.goto 4, 3) := by decide +kernel
theorem dX8_count_149 : decode cX8_count 149 = .ok (.iconst 0, 1) := by decide +kernel
theorem dX8_count_150 : decode cX8_count 150 = .ok (.ireturn, 1) := by decide +kernel
theorem dX8_count_151 : decode cX8_count 151 = .ok (.iconst (-1), 1) := by decide +kernel
theorem dX8_count_152 : decode cX8_count 152 = .ok (.ireturn, 1) := by decide +kernel
set_option maxRecDepth 20000 in
theorem ggX8_run_X2_runsKept : GoodIn wsX8_run wsX2_runsKept := goodIn_r _ [6, 7, 8, 9, 10, 11, 12, 13, 54, 55, 56, 57, 58] (by decide +kernel) (by decide +kernel)
set_option maxRecDepth 20000 in
theorem gX8_run_X2_runsKept : GoodIn wsX8_run (wsV RX8 144 RX2 yX2_runsKept wsX2_runsKept) := goodIn_app (goodIn_of _ (by decide +kernel)) ggX8_run_X2_runsKept
set_option maxRecDepth 20000 in
theorem ggX8_run_X2_runIsHigh : GoodIn wsX8_run wsX2_runIsHigh := goodIn_r _ [17, 18, 19, 20, 5, 21, 7, 8, 9, 10, 11, 12, 13, 22, 23, 24, 25, 26, 27, 28, 29, 30, 31, 54, 55, 56, 57, 58] (by decide +kernel) (by decide +kernel)
set_option maxRecDepth 20000 in
theorem gX8_run_X2_runIsHigh : GoodIn wsX8_run (wsV RX8 147 RX2 yX2_runIsHigh wsX2_runIsHigh) := goodIn_app (goodIn_of _ (by decide +kernel)) ggX8_run_X2_runIsHigh
set_option maxRecDepth 20000 in
theorem ggX8_run_X2_runBeats : GoodIn wsX8_run wsX2_runBeats := goodIn_r _ [35, 18, 19, 20, 5, 21, 7, 8, 9, 10, 11, 12, 13, 22, 23, 24, 25, 26, 27, 28, 29, 30, 31, 54, 55, 56, 57, 58] (by decide +kernel) (by decide +kernel)
set_option maxRecDepth 20000 in
theorem gX8_run_X2_runBeats : GoodIn wsX8_run (wsV RX8 151 RX2 yX2_runBeats wsX2_runBeats) := goodIn_app (goodIn_of _ (by decide +kernel)) ggX8_run_X2_runBeats
theorem dX8_run_0 : decode cX8_run 0 = .ok (.iload_n 1, 1) := by decide +kernel
theorem dX8_run_1 : decode cX8_run 1 = .ok (.ifCond .lt 14, 3) := by decide +kernel
theorem dX8_run_4 : decode cX8_run 4 = .ok (.iload_n 1, 1) := by decide +kernel
theorem dX8_run_5 : decode cX8_run 5 = .ok (.aload_n 0, 1) := by decide +kernel
theorem dX8_run_6 : decode cX8_run 6 = .ok (.getfield 59, 3) := by decide +kernel
theorem dX8_run_9 : decode cX8_run 9 = .ok (.invokevirtual 144, 3) := by decide +kernel
theorem dX8_run_12 : decode cX8_run 12 = .ok (.if_icmp .lt 5, 3) := by decide +kernel
theorem dX8_run_15 : decode cX8_run 15 = .ok (.iconst (-1), 1) := by decide +kernel
theorem dX8_run_16 : decode cX8_run 16 = .ok (.ireturn, 1) := by decide +kernel
theorem dX8_run_17 : decode cX8_run 17 = .ok (.iload_n 2, 1) := by decide +kernel
theorem dX8_run_18 : decode cX8_run 18 = .ok (.lookupswitch 52 #[(0, 26), (1, 43)], 26) := by decide +kernel
theorem dX8_run_44 : decode cX8_run 44 = .ok (.aload_n 0, 1) := by decide +kernel
theorem dX8_run_45 : decode cX8_run 45 = .ok (.getfield 59, 3) := by decide +kernel
theorem dX8_run_48 : decode cX8_run 48 = .ok (.iload_n 1, 1) := by decide +kernel
theorem dX8_run_49 : decode cX8_run 49 = .ok (.invokevirtual 147, 3) := by decide +kernel
theorem dX8_run_52 : decode cX8_run 52 = .ok (.ifCond .eq 7, 3) := by decide +kernel
theorem dX8_run_55 : decode cX8_run 55 = .ok (.iconst 1, 1) := by decide +kernel
theorem dX8_run_56 : decode cX8_run 56 = .ok (.goto 4, 3) := by decide +kernel
theorem dX8_run_59 : decode cX8_run 59 = .ok (.iconst 0, 1) := by decide +kernel
theorem dX8_run_60 : decode cX8_run 60 = .ok (.ireturn, 1) := by decide +kernel
theorem dX8_run_61 : decode cX8_run 61 = .ok (.aload_n 0, 1) := by decide +kernel
theorem dX8_run_62 : decode cX8_run 62 = .ok (.getfield 59, 3) := by decide +kernel
theorem dX8_run_65 : decode cX8_run 65 = .ok (.iload_n 1, 1) := by decide +kernel
theorem dX8_run_66 : decode cX8_run 66 = .ok (.invokevirtual 151, 3) := by decide +kernel
theorem dX8_run_69 : decode cX8_run 69 = .ok (.ireturn, 1) := by decide +kernel
theorem dX8_run_70 : decode cX8_run 70 = .ok (.iconst (-1), 1) := by decide +kernel
theorem dX8_run_71 : decode cX8_run 71 = .ok (.ireturn, 1) := by decide +kernel
set_option maxRecDepth 20000 in
theorem ggX8_powerOn_X0_clear : GoodIn wsX8_powerOn wsX0_clear := goodIn_r _ [23, 24, 25, 101, 102] (by decide +kernel) (by decide +kernel)
set_option maxRecDepth 20000 in
theorem gX8_powerOn_X0_clear : GoodIn wsX8_powerOn (wsV RX8 154 RX0 yX0_clear wsX0_clear) := goodIn_app (goodIn_of _ (by decide +kernel)) ggX8_powerOn_X0_clear
set_option maxRecDepth 20000 in
theorem ggX8_powerOn_X5_clear : GoodIn wsX8_powerOn wsX5_clear := goodIn_r _ [30, 31, 32, 103, 104, 105] (by decide +kernel) (by decide +kernel)
set_option maxRecDepth 20000 in
theorem gX8_powerOn_X5_clear : GoodIn wsX8_powerOn (wsV RX8 157 RX5 yX5_clear wsX5_clear) := goodIn_app (goodIn_of _ (by decide +kernel)) ggX8_powerOn_X5_clear
set_option maxRecDepth 20000 in
theorem ggX8_powerOn_X6_clear : GoodIn wsX8_powerOn wsX6_clear := goodIn_r _ [37, 38, 39, 40, 41, 106, 107, 108, 109] (by decide +kernel) (by decide +kernel)
set_option maxRecDepth 20000 in
theorem gX8_powerOn_X6_clear : GoodIn wsX8_powerOn (wsV RX8 158 RX6 yX6_clear wsX6_clear) := goodIn_app (goodIn_of _ (by decide +kernel)) ggX8_powerOn_X6_clear
set_option maxRecDepth 20000 in
theorem ggX8_powerOn_X4_clear : GoodIn wsX8_powerOn wsX4_clear := goodIn_r _ [46, 47, 48, 49, 50, 51, 45, 52, 53, 54, 55, 56, 57, 110, 111, 112, 113, 114, 115, 116] (by decide +kernel) (by decide +kernel)
set_option maxRecDepth 20000 in
theorem gX8_powerOn_X4_clear : GoodIn wsX8_powerOn (wsV RX8 159 RX4 yX4_clear wsX4_clear) := goodIn_app (goodIn_of _ (by decide +kernel)) ggX8_powerOn_X4_clear
set_option maxRecDepth 20000 in
theorem ggX8_powerOn_X3_clear : GoodIn wsX8_powerOn wsX3_clear := goodIn_r _ [62, 63, 64, 65, 66, 117, 118, 119, 120] (by decide +kernel) (by decide +kernel)
set_option maxRecDepth 20000 in
theorem gX8_powerOn_X3_clear : GoodIn wsX8_powerOn (wsV RX8 160 RX3 yX3_clear wsX3_clear) := goodIn_app (goodIn_of _ (by decide +kernel)) ggX8_powerOn_X3_clear
set_option maxRecDepth 20000 in
theorem ggX8_powerOn_X1_clear : GoodIn wsX8_powerOn wsX1_clear := goodIn_r _ [71, 72, 73, 74, 27, 28, 29, 30, 31, 32, 121, 122, 103, 104, 105] (by decide +kernel) (by decide +kernel)
set_option maxRecDepth 20000 in
theorem gX8_powerOn_X1_clear : GoodIn wsX8_powerOn (wsV RX8 161 RX1 yX1_clear wsX1_clear) := goodIn_app (goodIn_of _ (by decide +kernel)) ggX8_powerOn_X1_clear
set_option maxRecDepth 20000 in
theorem ggX8_powerOn_X2_clear : GoodIn wsX8_powerOn wsX2_clear := goodIn_r _ [79, 80, 81, 82, 27, 28, 29, 30, 31, 32, 123, 124, 103, 104, 105] (by decide +kernel) (by decide +kernel)
set_option maxRecDepth 20000 in
theorem gX8_powerOn_X2_clear : GoodIn wsX8_powerOn (wsV RX8 162 RX2 yX2_clear wsX2_clear) := goodIn_app (goodIn_of _ (by decide +kernel)) ggX8_powerOn_X2_clear
theorem dX8_powerOn_0 : decode cX8_powerOn 0 = .ok (.aload_n 0, 1) := by decide +kernel
theorem dX8_powerOn_1 : decode cX8_powerOn 1 = .ok (.getfield 12, 3) := by decide +kernel
theorem dX8_powerOn_4 : decode cX8_powerOn 4 = .ok (.invokevirtual 154, 3) := by decide +kernel
theorem dX8_powerOn_7 : decode cX8_powerOn 7 = .ok (.aload_n 0, 1) := by decide +kernel
theorem dX8_powerOn_8 : decode cX8_powerOn 8 = .ok (.getfield 21, 3) := by decide +kernel
theorem dX8_powerOn_11 : decode cX8_powerOn 11 = .ok (.invokevirtual 157, 3) := by decide +kernel
theorem dX8_powerOn_14 : decode cX8_powerOn 14 = .ok (.aload_n 0, 1) := by decide +kernel
theorem dX8_powerOn_15 : decode cX8_powerOn 15 = .ok (.getfield 25, 3) := by decide +kernel
theorem dX8_powerOn_18 : decode cX8_powerOn 18 = .ok (.invokevirtual 157, 3) := by decide +kernel
theorem dX8_powerOn_21 : decode cX8_powerOn 21 = .ok (.aload_n 0, 1) := by decide +kernel
theorem dX8_powerOn_22 : decode cX8_powerOn 22 = .ok (.getfield 31, 3) := by decide +kernel
theorem dX8_powerOn_25 : decode cX8_powerOn 25 = .ok (.invokevirtual 158, 3) := by decide +kernel
theorem dX8_powerOn_28 : decode cX8_powerOn 28 = .ok (.aload_n 0, 1) := by decide +kernel
theorem dX8_powerOn_29 : decode cX8_powerOn 29 = .ok (.getfield 38, 3) := by decide +kernel
theorem dX8_powerOn_32 : decode cX8_powerOn 32 = .ok (.invokevirtual 159, 3) := by decide +kernel
theorem dX8_powerOn_35 : decode cX8_powerOn 35 = .ok (.aload_n 0, 1) := by decide +kernel
theorem dX8_powerOn_36 : decode cX8_powerOn 36 = .ok (.getfield 45, 3) := by decide +kernel
theorem dX8_powerOn_39 : decode cX8_powerOn 39 = .ok (.invokevirtual 160, 3) := by decide +kernel
theorem dX8_powerOn_42 : decode cX8_powerOn 42 = .ok (.aload_n 0, 1) := by decide +kernel
theorem dX8_powerOn_43 : decode cX8_powerOn 43 = .ok (.getfield 52, 3) := by decide +kernel
theorem dX8_powerOn_46 : decode cX8_powerOn 46 = .ok (.invokevirtual 161, 3) := by decide +kernel
theorem dX8_powerOn_49 : decode cX8_powerOn 49 = .ok (.aload_n 0, 1) := by decide +kernel
theorem dX8_powerOn_50 : decode cX8_powerOn 50 = .ok (.getfield 59, 3) := by decide +kernel
theorem dX8_powerOn_53 : decode cX8_powerOn 53 = .ok (.invokevirtual 162, 3) := by decide +kernel
theorem dX8_powerOn_56 : decode cX8_powerOn 56 = .ok (.aload_n 0, 1) := by decide +kernel
theorem dX8_powerOn_57 : decode cX8_powerOn 57 = .ok (.iconst 0, 1) := by decide +kernel
theorem dX8_powerOn_58 : decode cX8_powerOn 58 = .ok (.putfield 163, 3) := by decide +kernel
theorem dX8_powerOn_61 : decode cX8_powerOn 61 = .ok (.aload_n 0, 1) := by decide +kernel
theorem dX8_powerOn_62 : decode cX8_powerOn 62 = .ok (.iconst 0, 1) := by decide +kernel
theorem dX8_powerOn_63 : decode cX8_powerOn 63 = .ok (.putfield 73, 3) := by decide +kernel
theorem dX8_powerOn_66 : decode cX8_powerOn 66 = .ok (.aload_n 0, 1) := by decide +kernel
theorem dX8_powerOn_67 : decode cX8_powerOn 67 = .ok (.iconst 0, 1) := by decide +kernel
theorem dX8_powerOn_68 : decode cX8_powerOn 68 = .ok (.putfield 166, 3) := by decide +kernel
theorem dX8_powerOn_71 : decode cX8_powerOn 71 = .ok (.aload_n 0, 1) := by decide +kernel
theorem dX8_powerOn_72 : decode cX8_powerOn 72 = .ok (.iconst 1, 1) := by decide +kernel
theorem dX8_powerOn_73 : decode cX8_powerOn 73 = .ok (.putfield 169, 3) := by decide +kernel
theorem dX8_powerOn_76 : decode cX8_powerOn 76 = .ok (.aload_n 0, 1) := by decide +kernel
theorem dX8_powerOn_77 : decode cX8_powerOn 77 = .ok (.iconst 0, 1) := by decide +kernel
theorem dX8_powerOn_78 : decode cX8_powerOn 78 = .ok (.putfield 172, 3) := by decide +kernel
theorem dX8_powerOn_81 : decode cX8_powerOn 81 = .ok (.aload_n 0, 1) := by decide +kernel
theorem dX8_powerOn_82 : decode cX8_powerOn 82 = .ok (.iconst 0, 1) := by decide +kernel
theorem dX8_powerOn_83 : decode cX8_powerOn 83 = .ok (.putfield 176, 3) := by decide +kernel
theorem dX8_powerOn_86 : decode cX8_powerOn 86 = .ok (.aload_n 0, 1) := by decide +kernel
theorem dX8_powerOn_87 : decode cX8_powerOn 87 = .ok (.iconst 0, 1) := by decide +kernel
theorem dX8_powerOn_88 : decode cX8_powerOn 88 = .ok (.putfield 179, 3) := by decide +kernel
theorem dX8_powerOn_91 : decode cX8_powerOn 91 = .ok (.aload_n 0, 1) := by decide +kernel
theorem dX8_powerOn_92 : decode cX8_powerOn 92 = .ok (.iconst 0, 1) := by decide +kernel
theorem dX8_powerOn_93 : decode cX8_powerOn 93 = .ok (.putfield 182, 3) := by decide +kernel
theorem dX8_powerOn_96 : decode cX8_powerOn 96 = .ok (.aload_n 0, 1) := by decide +kernel
theorem dX8_powerOn_97 : decode cX8_powerOn 97 = .ok (.iconst 0, 1) := by decide +kernel
theorem dX8_powerOn_98 : decode cX8_powerOn 98 = .ok (.putfield 127, 3) := by decide +kernel
theorem dX8_powerOn_101 : decode cX8_powerOn 101 = .ok (.aload_n 0, 1) := by decide +kernel
theorem dX8_powerOn_102 : decode cX8_powerOn 102 = .ok (.iconst 0, 1) := by decide +kernel
theorem dX8_powerOn_103 : decode cX8_powerOn 103 = .ok (.putfield 185, 3) := by decide +kernel
theorem dX8_powerOn_106 : decode cX8_powerOn 106 = .ok (.return_, 1) := by decide +kernel
set_option maxRecDepth 20000 in
theorem ggX8_putRegister_X8_putCharacter : GoodIn wsX8_putRegister wsX8_putCharacter := goodIn_r _ [8, 9, 10, 11, 12, 13, 14, 15, 16, 17, 18, 19, 20, 7, 21, 22, 23, 24, 25, 26, 27, 28, 29, 30, 31, 32, 33, 34, 35, 36, 37, 38, 39, 84, 85, 86, 87, 88, 89, 90, 91, 92, 93, 94, 95, 96, 97, 98, 99, 100, 101, 102, 103, 104] (by decide +kernel) (by decide +kernel)
set_option maxRecDepth 20000 in
theorem gX8_putRegister_X8_putCharacter : GoodIn wsX8_putRegister (wsV RX8 188 RX8 yX8_putCharacter wsX8_putCharacter) := goodIn_app (goodIn_of _ (by decide +kernel)) ggX8_putRegister_X8_putCharacter
set_option maxRecDepth 20000 in
theorem ggX8_putRegister_X8_putWanted : GoodIn wsX8_putRegister wsX8_putWanted := goodIn_r _ [43, 44, 9, 11, 45, 46, 47, 15, 48, 17, 84, 85, 86, 87, 88, 89, 90, 91, 92, 93, 94, 95, 96, 97, 98, 99, 100, 101, 102, 103, 104] (by decide +kernel) (by decide +kernel)
set_option maxRecDepth 20000 in
theorem gX8_putRegister_X8_putWanted : GoodIn wsX8_putRegister (wsV RX8 191 RX8 yX8_putWanted wsX8_putWanted) := goodIn_app (goodIn_of _ (by decide +kernel)) ggX8_putRegister_X8_putWanted
set_option maxRecDepth 20000 in
theorem ggX8_putRegister_X8_putRowControl : GoodIn wsX8_putRegister wsX8_putRowControl := goodIn_r _ [52, 10, 53, 54, 9, 55, 56, 57, 58, 15, 59, 35, 17, 60, 61, 7, 62, 84, 85, 86, 87, 88, 89, 90, 91, 92, 93, 94, 95, 96, 97, 98, 99, 100, 101, 102, 103, 104] (by decide +kernel) (by decide +kernel)
set_option maxRecDepth 20000 in
theorem gX8_putRegister_X8_putRowControl : GoodIn wsX8_putRegister (wsV RX8 194 RX8 yX8_putRowControl wsX8_putRowControl) := goodIn_app (goodIn_of _ (by decide +kernel)) ggX8_putRegister_X8_putRowControl
set_option maxRecDepth 20000 in
theorem ggX8_putRegister_X3_putOutputs : GoodIn wsX8_putRegister wsX3_putOutputs := goodIn_r _ [67, 68, 69, 70, 71, 66, 72, 73, 74, 75, 76, 77, 78, 79, 80, 81, 82, 83, 105, 106, 107, 108] (by decide +kernel) (by decide +kernel)
set_option maxRecDepth 20000 in
theorem gX8_putRegister_X3_putOutputs : GoodIn wsX8_putRegister (wsV RX8 197 RX3 yX3_putOutputs wsX3_putOutputs) := goodIn_app (goodIn_of _ (by decide +kernel)) ggX8_putRegister_X3_putOutputs
theorem dX8_putRegister_0 : decode cX8_putRegister 0 = .ok (.iload_n 1, 1) := by decide +kernel
theorem dX8_putRegister_1 : decode cX8_putRegister 1 = .ok (.tableswitch 104 0 7 #[47, 55, 66, 74, 82, 104, 104, 96], 47) := by decide +kernel
theorem dX8_putRegister_48 : decode cX8_putRegister 48 = .ok (.aload_n 0, 1) := by decide +kernel
theorem dX8_putRegister_49 : decode cX8_putRegister 49 = .ok (.iload_n 2, 1) := by decide +kernel
theorem dX8_putRegister_50 : decode cX8_putRegister 50 = .ok (.invokevirtual 188, 3) := by decide +kernel
theorem dX8_putRegister_53 : decode cX8_putRegister 53 = .ok (.goto 52, 3) := by decide +kernel
theorem dX8_putRegister_56 : decode cX8_putRegister 56 = .ok (.aload_n 0, 1) := by decide +kernel
theorem dX8_putRegister_57 : decode cX8_putRegister 57 = .ok (.iload_n 2, 1) := by decide +kernel
theorem dX8_putRegister_58 : decode cX8_putRegister 58 = .ok (.bipush 15, 2) := by decide +kernel
theorem dX8_putRegister_60 : decode cX8_putRegister 60 = .ok (.iand, 1) := by decide +kernel
theorem dX8_putRegister_61 : decode cX8_putRegister 61 = .ok (.invokevirtual 191, 3) := by decide +kernel
theorem dX8_putRegister_64 : decode cX8_putRegister 64 = .ok (.goto 41, 3) := by decide +kernel
theorem dX8_putRegister_67 : decode cX8_putRegister 67 = .ok (.aload_n 0, 1) := by decide +kernel
theorem dX8_putRegister_68 : decode cX8_putRegister 68 = .ok (.iload_n 2, 1) := by decide +kernel
theorem dX8_putRegister_69 : decode cX8_putRegister 69 = .ok (.invokevirtual 194, 3) := by decide +kernel
theorem dX8_putRegister_72 : decode cX8_putRegister 72 = .ok (.goto 33, 3) := by decide +kernel
theorem dX8_putRegister_75 : decode cX8_putRegister 75 = .ok (.aload_n 0, 1) := by decide +kernel
theorem dX8_putRegister_76 : decode cX8_putRegister 76 = .ok (.iload_n 2, 1) := by decide +kernel
theorem dX8_putRegister_77 : decode cX8_putRegister 77 = .ok (.putfield 73, 3) := by decide +kernel
theorem dX8_putRegister_80 : decode cX8_putRegister 80 = .ok (.goto 25, 3) := by decide +kernel
theorem dX8_putRegister_83 : decode cX8_putRegister 83 = .ok (.aload_n 0, 1) := by decide +kernel
theorem dX8_putRegister_84 : decode cX8_putRegister 84 = .ok (.getfield 45, 3) := by decide +kernel
theorem dX8_putRegister_87 : decode cX8_putRegister 87 = .ok (.iload_n 2, 1) := by decide +kernel
theorem dX8_putRegister_88 : decode cX8_putRegister 88 = .ok (.bipush 31, 2) := by decide +kernel
theorem dX8_putRegister_90 : decode cX8_putRegister 90 = .ok (.iand, 1) := by decide +kernel
theorem dX8_putRegister_91 : decode cX8_putRegister 91 = .ok (.invokevirtual 197, 3) := by decide +kernel
theorem dX8_putRegister_94 : decode cX8_putRegister 94 = .ok (.goto 11, 3) := by decide +kernel
theorem dX8_putRegister_97 : decode cX8_putRegister 97 = .ok (.aload_n 0, 1) := by decide +kernel
theorem dX8_putRegister_98 : decode cX8_putRegister 98 = .ok (.iload_n 2, 1) := by decide +kernel
theorem dX8_putRegister_99 : decode cX8_putRegister 99 = .ok (.putfield 166, 3) := by decide +kernel
theorem dX8_putRegister_102 : decode cX8_putRegister 102 = .ok (.goto 3, 3) := by decide +kernel
theorem dX8_putRegister_105 : decode cX8_putRegister 105 = .ok (.return_, 1) := by decide +kernel
set_option maxRecDepth 20000 in
theorem ggX8_tellRegister_X8_takeCharacter : GoodIn wsX8_tellRegister wsX8_takeCharacter := goodIn_r _ [9, 10, 11, 12, 13, 14, 15, 16, 17, 18, 19, 20, 21, 22, 23, 24, 25, 26, 27, 28, 29, 30, 31, 32, 33, 103, 104, 105, 106, 107, 108, 109, 110, 111, 112, 113, 114, 115, 116, 117, 118, 119, 120, 121, 122, 123] (by decide +kernel) (by decide +kernel)
set_option maxRecDepth 20000 in
theorem gX8_tellRegister_X8_takeCharacter : GoodIn wsX8_tellRegister (wsV RX8 200 RX8 yX8_takeCharacter wsX8_takeCharacter) := goodIn_app (goodIn_of _ (by decide +kernel)) ggX8_tellRegister_X8_takeCharacter
set_option maxRecDepth 20000 in
theorem ggX8_tellRegister_X8_tellReason : GoodIn wsX8_tellRegister wsX8_tellReason := goodIn_r _ [37, 38, 39, 40, 41, 42, 8, 43, 44, 10, 45, 11, 3, 46, 47, 48, 49, 1, 50, 51, 52, 53, 14, 15, 16, 17, 18, 19, 20, 21, 22, 23, 24, 25, 26, 27, 28, 29, 54, 55, 56, 57, 58, 59, 60, 61, 62, 63, 103, 104, 105, 106, 107, 108, 109, 110, 111, 112, 113, 114, 115, 116, 117, 118, 119, 120, 121, 122, 123, 124, 125, 126, 127] (by decide +kernel) (by decide +kernel)
set_option maxRecDepth 20000 in
theorem gX8_tellRegister_X8_tellReason : GoodIn wsX8_tellRegister (wsV RX8 203 RX8 yX8_tellReason wsX8_tellReason) := goodIn_app (goodIn_of _ (by decide +kernel)) ggX8_tellRegister_X8_tellReason
set_option maxRecDepth 20000 in
theorem ggX8_tellRegister_X3_outputs : GoodIn wsX8_tellRegister wsX3_outputs := goodIn_r _ [67, 68, 124, 125, 126, 127] (by decide +kernel) (by decide +kernel)
set_option maxRecDepth 20000 in
theorem gX8_tellRegister_X3_outputs : GoodIn wsX8_tellRegister (wsV RX8 206 RX3 yX3_outputs wsX3_outputs) := goodIn_app (goodIn_of _ (by decide +kernel)) ggX8_tellRegister_X3_outputs
set_option maxRecDepth 20000 in
theorem ggX8_tellRegister_X8_tellLineState : GoodIn wsX8_tellRegister wsX8_tellLineState := goodIn_r _ [72, 10, 44, 73, 74, 39, 50, 51, 52, 8, 53, 14, 15, 16, 17, 18, 19, 20, 21, 22, 23, 24, 25, 26, 27, 28, 29, 75, 76, 77, 78, 79, 80, 81, 82, 83, 84, 85, 86, 87, 88, 54, 55, 56, 57, 89, 90, 91, 92, 93, 94, 95, 96, 97, 103, 104, 105, 106, 107, 108, 109, 110, 111, 112, 113, 114, 115, 116, 117, 118, 119, 120, 121, 122, 123, 128, 129, 130, 131] (by decide +kernel) (by decide +kernel)
set_option maxRecDepth 20000 in
theorem gX8_tellRegister_X8_tellLineState : GoodIn wsX8_tellRegister (wsV RX8 209 RX8 yX8_tellLineState wsX8_tellLineState) := goodIn_app (goodIn_of _ (by decide +kernel)) ggX8_tellRegister_X8_tellLineState
set_option maxRecDepth 20000 in
theorem ggX8_tellRegister_X3_tellState : GoodIn wsX8_tellRegister wsX3_tellState := goodIn_r _ [101, 102, 63, 124, 125, 126, 127] (by decide +kernel) (by decide +kernel)
set_option maxRecDepth 20000 in
theorem gX8_tellRegister_X3_tellState : GoodIn wsX8_tellRegister (wsV RX8 212 RX3 yX3_tellState wsX3_tellState) := goodIn_app (goodIn_of _ (by decide +kernel)) ggX8_tellRegister_X3_tellState
theorem dX8_tellRegister_0 : decode cX8_tellRegister 0 = .ok (.iload_n 1, 1) := by decide +kernel
theorem dX8_tellRegister_1 : decode cX8_tellRegister 1 = .ok (.tableswitch 84 0 6 #[43, 48, 53, 58, 63, 71, 76], 43) := by decide +kernel
theorem dX8_tellRegister_44 : decode cX8_tellRegister 44 = .ok (.aload_n 0, 1) := by decide +kernel
theorem dX8_tellRegister_45 : decode cX8_tellRegister 45 = .ok (.invokevirtual 200, 3) := by decide +kernel
theorem dX8_tellRegister_48 : decode cX8_tellRegister 48 = .ok (.ireturn, 1) := by decide +kernel
theorem dX8_tellRegister_49 : decode cX8_tellRegister 49 = .ok (.aload_n 0, 1) := by decide +kernel
theorem dX8_tellRegister_50 : decode cX8_tellRegister 50 = .ok (.getfield 163, 3) := by decide +kernel
theorem dX8_tellRegister_53 : decode cX8_tellRegister 53 = .ok (.ireturn, 1) := by decide +kernel
theorem dX8_tellRegister_54 : decode cX8_tellRegister 54 = .ok (.aload_n 0, 1) := by decide +kernel
theorem dX8_tellRegister_55 : decode cX8_tellRegister 55 = .ok (.invokevirtual 203, 3) := by decide +kernel
theorem dX8_tellRegister_58 : decode cX8_tellRegister 58 = .ok (.ireturn, 1) := by decide +kernel
theorem dX8_tellRegister_59 : decode cX8_tellRegister 59 = .ok (.aload_n 0, 1) := by decide +kernel
theorem dX8_tellRegister_60 : decode cX8_tellRegister 60 = .ok (.getfield 73, 3) := by decide +kernel
theorem dX8_tellRegister_63 : decode cX8_tellRegister 63 = .ok (.ireturn, 1) := by decide +kernel
theorem dX8_tellRegister_64 : decode cX8_tellRegister 64 = .ok (.aload_n 0, 1) := by decide +kernel
theorem dX8_tellRegister_65 : decode cX8_tellRegister 65 = .ok (.getfield 45, 3) := by decide +kernel
theorem dX8_tellRegister_68 : decode cX8_tellRegister 68 = .ok (.invokevirtual 206, 3) := by decide +kernel
theorem dX8_tellRegister_71 : decode cX8_tellRegister 71 = .ok (.ireturn, 1) := by decide +kernel
theorem dX8_tellRegister_72 : decode cX8_tellRegister 72 = .ok (.aload_n 0, 1) := by decide +kernel
theorem dX8_tellRegister_73 : decode cX8_tellRegister 73 = .ok (.invokevirtual 209, 3) := by decide +kernel
theorem dX8_tellRegister_76 : decode cX8_tellRegister 76 = .ok (.ireturn, 1) := by decide +kernel
theorem dX8_tellRegister_77 : decode cX8_tellRegister 77 = .ok (.aload_n 0, 1) := by decide +kernel
theorem dX8_tellRegister_78 : decode cX8_tellRegister 78 = .ok (.getfield 45, 3) := by decide +kernel
theorem dX8_tellRegister_81 : decode cX8_tellRegister 81 = .ok (.invokevirtual 212, 3) := by decide +kernel
theorem dX8_tellRegister_84 : decode cX8_tellRegister 84 = .ok (.ireturn, 1) := by decide +kernel
theorem dX8_tellRegister_85 : decode cX8_tellRegister 85 = .ok (.aload_n 0, 1) := by decide +kernel
theorem dX8_tellRegister_86 : decode cX8_tellRegister 86 = .ok (.getfield 166, 3) := by decide +kernel
theorem dX8_tellRegister_89 : decode cX8_tellRegister 89 = .ok (.ireturn, 1) := by decide +kernel
theorem dX8_rowRoom_0 : decode cX8_rowRoom 0 = .ok (.aload_n 0, 1) := by decide +kernel
theorem dX8_rowRoom_1 : decode cX8_rowRoom 1 = .ok (.getfield 172, 3) := by decide +kernel
theorem dX8_rowRoom_4 : decode cX8_rowRoom 4 = .ok (.ifCond .eq 8, 3) := by decide +kernel
theorem dX8_rowRoom_7 : decode cX8_rowRoom 7 = .ok (.bipush 16, 2) := by decide +kernel
theorem dX8_rowRoom_9 : decode cX8_rowRoom 9 = .ok (.goto 4, 3) := by decide +kernel
theorem dX8_rowRoom_12 : decode cX8_rowRoom 12 = .ok (.iconst 1, 1) := by decide +kernel
theorem dX8_rowRoom_13 : decode cX8_rowRoom 13 = .ok (.ireturn, 1) := by decide +kernel
set_option maxRecDepth 20000 in
theorem ggX8_putCharacter_X5_size : GoodIn wsX8_putCharacter wsX5_size := goodIn_r _ [8, 9, 51, 52, 53] (by decide +kernel) (by decide +kernel)
set_option maxRecDepth 20000 in
theorem gX8_putCharacter_X5_size : GoodIn wsX8_putCharacter (wsV RX8 124 RX5 yX5_size wsX5_size) := goodIn_app (goodIn_of _ (by decide +kernel)) ggX8_putCharacter_X5_size
set_option maxRecDepth 20000 in
theorem ggX8_putCharacter_X8_rowRoom : GoodIn wsX8_putCharacter wsX8_rowRoom := goodIn_r _ [14, 2, 33, 34, 35, 36, 37, 38, 39, 40, 41, 42, 43, 44, 45, 46, 47, 48, 49, 50] (by decide +kernel) (by decide +kernel)
set_option maxRecDepth 20000 in
theorem gX8_putCharacter_X8_rowRoom : GoodIn wsX8_putCharacter (wsV RX8 215 RX8 yX8_rowRoom wsX8_rowRoom) := goodIn_app (goodIn_of _ (by decide +kernel)) ggX8_putCharacter_X8_rowRoom
set_option maxRecDepth 20000 in
theorem ggX8_putCharacter_X5_add : GoodIn wsX8_putCharacter wsX5_add := goodIn_r _ [18, 9, 19, 20, 21, 22, 7, 23, 24, 25, 26, 27, 28, 51, 52, 53] (by decide +kernel) (by decide +kernel)
set_option maxRecDepth 20000 in
theorem gX8_putCharacter_X5_add : GoodIn wsX8_putCharacter (wsV RX8 218 RX5 yX5_add wsX5_add) := goodIn_app (goodIn_of _ (by decide +kernel)) ggX8_putCharacter_X5_add
set_option maxRecDepth 20000 in
theorem ggX8_putCharacter_X5_setFirst : GoodIn wsX8_putCharacter wsX5_setFirst := goodIn_r _ [32, 20, 21, 22, 7, 23, 9, 19, 24, 25, 26, 27, 28, 51, 52, 53] (by decide +kernel) (by decide +kernel)
set_option maxRecDepth 20000 in
theorem gX8_putCharacter_X5_setFirst : GoodIn wsX8_putCharacter (wsV RX8 221 RX5 yX5_setFirst wsX5_setFirst) := goodIn_app (goodIn_of _ (by decide +kernel)) ggX8_putCharacter_X5_setFirst
theorem dX8_putCharacter_0 : decode cX8_putCharacter 0 = .ok (.aload_n 0, 1) := by decide +kernel
theorem dX8_putCharacter_1 : decode cX8_putCharacter 1 = .ok (.getfield 25, 3) := by decide +kernel
theorem dX8_putCharacter_4 : decode cX8_putCharacter 4 = .ok (.invokevirtual 124, 3) := by decide +kernel
theorem dX8_putCharacter_7 : decode cX8_putCharacter 7 = .ok (.aload_n 0, 1) := by decide +kernel
theorem dX8_putCharacter_8 : decode cX8_putCharacter 8 = .ok (.invokevirtual 215, 3) := by decide +kernel
theorem dX8_putCharacter_11 : decode cX8_putCharacter 11 = .ok (.if_icmp .ge 14, 3) := by decide +kernel
theorem dX8_putCharacter_14 : decode cX8_putCharacter 14 = .ok (.aload_n 0, 1) := by decide +kernel
theorem dX8_putCharacter_15 : decode cX8_putCharacter 15 = .ok (.getfield 25, 3) := by decide +kernel
theorem dX8_putCharacter_18 : decode cX8_putCharacter 18 = .ok (.iload_n 1, 1) := by decide +kernel
theorem dX8_putCharacter_19 : decode cX8_putCharacter 19 = .ok (.invokevirtual 218, 3) := by decide +kernel
theorem dX8_putCharacter_22 : decode cX8_putCharacter 22 = .ok (.goto 18, 3) := by decide +kernel
theorem dX8_putCharacter_25 : decode cX8_putCharacter 25 = .ok (.aload_n 0, 1) := by decide +kernel
theorem dX8_putCharacter_26 : decode cX8_putCharacter 26 = .ok (.getfield 172, 3) := by decide +kernel
theorem dX8_putCharacter_29 : decode cX8_putCharacter 29 = .ok (.ifCond .ne 11, 3) := by decide +kernel
theorem dX8_putCharacter_32 : decode cX8_putCharacter 32 = .ok (.aload_n 0, 1) := by decide +kernel
theorem dX8_putCharacter_33 : decode cX8_putCharacter 33 = .ok (.getfield 25, 3) := by decide +kernel
theorem dX8_putCharacter_36 : decode cX8_putCharacter 36 = .ok (.iload_n 1, 1) := by decide +kernel
theorem dX8_putCharacter_37 : decode cX8_putCharacter 37 = .ok (.invokevirtual 221, 3) := by decide +kernel
theorem dX8_putCharacter_40 : decode cX8_putCharacter 40 = .ok (.aload_n 0, 1) := by decide +kernel
theorem dX8_putCharacter_41 : decode cX8_putCharacter 41 = .ok (.iconst 0, 1) := by decide +kernel
theorem dX8_putCharacter_42 : decode cX8_putCharacter 42 = .ok (.putfield 179, 3) := by decide +kernel
theorem dX8_putCharacter_45 : decode cX8_putCharacter 45 = .ok (.return_, 1) := by decide +kernel
set_option maxRecDepth 20000 in
theorem ggX8_takeCharacter_X5_first : GoodIn wsX8_takeCharacter wsX5_first := goodIn_r _ [9, 10, 11, 12, 8, 13, 14, 15, 16, 17, 18, 19, 20, 43, 44, 45] (by decide +kernel) (by decide +kernel)
set_option maxRecDepth 20000 in
theorem gX8_takeCharacter_X5_first : GoodIn wsX8_takeCharacter (wsV RX8 224 RX5 yX5_first wsX5_first) := goodIn_app (goodIn_of _ (by decide +kernel)) ggX8_takeCharacter_X5_first
set_option maxRecDepth 20000 in
theorem ggX8_takeCharacter_X5_dropFirst : GoodIn wsX8_takeCharacter wsX5_dropFirst := goodIn_r _ [24, 14, 20, 16, 17, 18, 8, 19, 15, 43, 44, 45] (by decide +kernel) (by decide +kernel)
set_option maxRecDepth 20000 in
theorem gX8_takeCharacter_X5_dropFirst : GoodIn wsX8_takeCharacter (wsV RX8 227 RX5 yX5_dropFirst wsX5_dropFirst) := goodIn_app (goodIn_of _ (by decide +kernel)) ggX8_takeCharacter_X5_dropFirst
theorem dX8_takeCharacter_0 : decode cX8_takeCharacter 0 = .ok (.aload_n 0, 1) := by decide +kernel
theorem dX8_takeCharacter_1 : decode cX8_takeCharacter 1 = .ok (.getfield 21, 3) := by decide +kernel
theorem dX8_takeCharacter_4 : decode cX8_takeCharacter 4 = .ok (.invokevirtual 224, 3) := by decide +kernel
theorem dX8_takeCharacter_7 : decode cX8_takeCharacter 7 = .ok (.sipush 255, 3) := by decide +kernel
theorem dX8_takeCharacter_10 : decode cX8_takeCharacter 10 = .ok (.iand, 1) := by decide +kernel
theorem dX8_takeCharacter_11 : decode cX8_takeCharacter 11 = .ok (.istore_n 1, 1) := by decide +kernel
theorem dX8_takeCharacter_12 : decode cX8_takeCharacter 12 = .ok (.aload_n 0, 1) := by decide +kernel
theorem dX8_takeCharacter_13 : decode cX8_takeCharacter 13 = .ok (.getfield 21, 3) := by decide +kernel
theorem dX8_takeCharacter_16 : decode cX8_takeCharacter 16 = .ok (.invokevirtual 227, 3) := by decide +kernel
theorem dX8_takeCharacter_19 : decode cX8_takeCharacter 19 = .ok (.aload_n 0, 1) := by decide +kernel
theorem dX8_takeCharacter_20 : decode cX8_takeCharacter 20 = .ok (.iconst 0, 1) := by decide +kernel
theorem dX8_takeCharacter_21 : decode cX8_takeCharacter 21 = .ok (.putfield 182, 3) := by decide +kernel
theorem dX8_takeCharacter_24 : decode cX8_takeCharacter 24 = .ok (.aload_n 0, 1) := by decide +kernel
theorem dX8_takeCharacter_25 : decode cX8_takeCharacter 25 = .ok (.aload_n 0, 1) := by decide +kernel
theorem dX8_takeCharacter_26 : decode cX8_takeCharacter 26 = .ok (.getfield 127, 3) := by decide +kernel
theorem dX8_takeCharacter_29 : decode cX8_takeCharacter 29 = .ok (.putfield 185, 3) := by decide +kernel
theorem dX8_takeCharacter_32 : decode cX8_takeCharacter 32 = .ok (.iload_n 1, 1) := by decide +kernel
theorem dX8_takeCharacter_33 : decode cX8_takeCharacter 33 = .ok (.ireturn, 1) := by decide +kernel
set_option maxRecDepth 20000 in
theorem ggX8_putWanted_X5_isEmpty : GoodIn wsX8_putWanted wsX5_isEmpty := goodIn_r _ [8, 9, 28, 29, 30] (by decide +kernel) (by decide +kernel)
set_option maxRecDepth 20000 in
theorem gX8_putWanted_X5_isEmpty : GoodIn wsX8_putWanted (wsV RX8 230 RX5 yX5_isEmpty wsX5_isEmpty) := goodIn_app (goodIn_of _ (by decide +kernel)) ggX8_putWanted_X5_isEmpty
theorem dX8_putWanted_0 : decode cX8_putWanted 0 = .ok (.iload_n 1, 1) := by decide +kernel
theorem dX8_putWanted_1 : decode cX8_putWanted 1 = .ok (.aload_n 0, 1) := by decide +kernel
theorem dX8_putWanted_2 : decode cX8_putWanted 2 = .ok (.getfield 163, 3) := by decide +kernel
theorem dX8_putWanted_5 : decode cX8_putWanted 5 = .ok (.iconst (-1), 1) := by decide +kernel
theorem dX8_putWanted_6 : decode cX8_putWanted 6 = .ok (.ixor, 1) := by decide +kernel
theorem dX8_putWanted_7 : decode cX8_putWanted 7 = .ok (.iand, 1) := by decide +kernel
theorem dX8_putWanted_8 : decode cX8_putWanted 8 = .ok (.iconst 2, 1) := by decide +kernel
theorem dX8_putWanted_9 : decode cX8_putWanted 9 = .ok (.iand, 1) := by decide +kernel
theorem dX8_putWanted_10 : decode cX8_putWanted 10 = .ok (.ifCond .eq 7, 3) := by decide +kernel
theorem dX8_putWanted_13 : decode cX8_putWanted 13 = .ok (.iconst 1, 1) := by decide +kernel
theorem dX8_putWanted_14 : decode cX8_putWanted 14 = .ok (.goto 4, 3) := by decide +kernel
theorem dX8_putWanted_17 : decode cX8_putWanted 17 = .ok (.iconst 0, 1) := by decide +kernel
theorem dX8_putWanted_18 : decode cX8_putWanted 18 = .ok (.istore_n 2, 1) := by decide +kernel
theorem dX8_putWanted_19 : decode cX8_putWanted 19 = .ok (.iload_n 2, 1) := by decide +kernel
theorem dX8_putWanted_20 : decode cX8_putWanted 20 = .ok (.ifCond .eq 18, 3) := by decide +kernel
theorem dX8_putWanted_23 : decode cX8_putWanted 23 = .ok (.aload_n 0, 1) := by decide +kernel
theorem dX8_putWanted_24 : decode cX8_putWanted 24 = .ok (.getfield 25, 3) := by decide +kernel
theorem dX8_putWanted_27 : decode cX8_putWanted 27 = .ok (.invokevirtual 230, 3) := by decide +kernel
theorem dX8_putWanted_30 : decode cX8_putWanted 30 = .ok (.ifCond .eq 8, 3) := by decide +kernel
theorem dX8_putWanted_33 : decode cX8_putWanted 33 = .ok (.aload_n 0, 1) := by decide +kernel
theorem dX8_putWanted_34 : decode cX8_putWanted 34 = .ok (.iconst 1, 1) := by decide +kernel
theorem dX8_putWanted_35 : decode cX8_putWanted 35 = .ok (.putfield 179, 3) := by decide +kernel
theorem dX8_putWanted_38 : decode cX8_putWanted 38 = .ok (.aload_n 0, 1) := by decide +kernel
theorem dX8_putWanted_39 : decode cX8_putWanted 39 = .ok (.iload_n 1, 1) := by decide +kernel
theorem dX8_putWanted_40 : decode cX8_putWanted 40 = .ok (.putfield 163, 3) := by decide +kernel
theorem dX8_putWanted_43 : decode cX8_putWanted 43 = .ok (.return_, 1) := by decide +kernel
set_option maxRecDepth 20000 in
theorem ggX8_putRowControl_X5_clear : GoodIn wsX8_putRowControl wsX5_clear := goodIn_r _ [10, 11, 12, 35, 36, 37] (by decide +kernel) (by decide +kernel)
set_option maxRecDepth 20000 in
theorem gX8_putRowControl_X5_clear : GoodIn wsX8_putRowControl (wsV RX8 157 RX5 yX5_clear wsX5_clear) := goodIn_app (goodIn_of _ (by decide +kernel)) ggX8_putRowControl_X5_clear
set_option maxRecDepth 20000 in
theorem ggX8_putRowControl_X8_levelOf : GoodIn wsX8_putRowControl wsX8_levelOf := goodIn_r _ [16] (by decide +kernel) (by decide +kernel)
set_option maxRecDepth 20000 in
theorem gX8_putRowControl_X8_levelOf : GoodIn wsX8_putRowControl (va_wsS RX8 233 yX8_levelOf wsX8_levelOf) := goodIn_app (goodIn_of _ (by decide +kernel)) ggX8_putRowControl_X8_levelOf
theorem dX8_putRowControl_0 : decode cX8_putRowControl 0 = .ok (.iload_n 1, 1) := by decide +kernel
theorem dX8_putRowControl_1 : decode cX8_putRowControl 1 = .ok (.iconst 1, 1) := by decide +kernel
theorem dX8_putRowControl_2 : decode cX8_putRowControl 2 = .ok (.iand, 1) := by decide +kernel
theorem dX8_putRowControl_3 : decode cX8_putRowControl 3 = .ok (.ifCond .eq 7, 3) := by decide +kernel
theorem dX8_putRowControl_6 : decode cX8_putRowControl 6 = .ok (.iconst 1, 1) := by decide +kernel
theorem dX8_putRowControl_7 : decode cX8_putRowControl 7 = .ok (.goto 4, 3) := by decide +kernel
theorem dX8_putRowControl_10 : decode cX8_putRowControl 10 = .ok (.iconst 0, 1) := by decide +kernel
theorem dX8_putRowControl_11 : decode cX8_putRowControl 11 = .ok (.istore_n 2, 1) := by decide +kernel
theorem dX8_putRowControl_12 : decode cX8_putRowControl 12 = .ok (.iload_n 2, 1) := by decide +kernel
theorem dX8_putRowControl_13 : decode cX8_putRowControl 13 = .ok (.aload_n 0, 1) := by decide +kernel
theorem dX8_putRowControl_14 : decode cX8_putRowControl 14 = .ok (.getfield 172, 3) := by decide +kernel
theorem dX8_putRowControl_17 : decode cX8_putRowControl 17 = .ok (.if_icmp .eq 7, 3) := by decide +kernel
theorem dX8_putRowControl_20 : decode cX8_putRowControl 20 = .ok (.iconst 1, 1) := by decide +kernel
theorem dX8_putRowControl_21 : decode cX8_putRowControl 21 = .ok (.goto 4, 3) := by decide +kernel
theorem dX8_putRowControl_24 : decode cX8_putRowControl 24 = .ok (.iconst 0, 1) := by decide +kernel
theorem dX8_putRowControl_25 : decode cX8_putRowControl 25 = .ok (.istore_n 3, 1) := by decide +kernel
theorem dX8_putRowControl_26 : decode cX8_putRowControl 26 = .ok (.aload_n 0, 1) := by decide +kernel
theorem dX8_putRowControl_27 : decode cX8_putRowControl 27 = .ok (.iload_n 2, 1) := by decide +kernel
theorem dX8_putRowControl_28 : decode cX8_putRowControl 28 = .ok (.putfield 172, 3) := by decide +kernel
theorem dX8_putRowControl_31 : decode cX8_putRowControl 31 = .ok (.iload_n 3, 1) := by decide +kernel
theorem dX8_putRowControl_32 : decode cX8_putRowControl 32 = .ok (.ifCond .ne 13, 3) := by decide +kernel
theorem dX8_putRowControl_35 : decode cX8_putRowControl 35 = .ok (.iload_n 2, 1) := by decide +kernel
theorem dX8_putRowControl_36 : decode cX8_putRowControl 36 = .ok (.ifCond .eq 21, 3) := by decide +kernel
theorem dX8_putRowControl_39 : decode cX8_putRowControl 39 = .ok (.iload_n 1, 1) := by decide +kernel
theorem dX8_putRowControl_40 : decode cX8_putRowControl 40 = .ok (.iconst 2, 1) := by decide +kernel
theorem dX8_putRowControl_41 : decode cX8_putRowControl 41 = .ok (.iand, 1) := by decide +kernel
theorem dX8_putRowControl_42 : decode cX8_putRowControl 42 = .ok (.ifCond .eq 15, 3) := by decide +kernel
theorem dX8_putRowControl_45 : decode cX8_putRowControl 45 = .ok (.aload_n 0, 1) := by decide +kernel
theorem dX8_putRowControl_46 : decode cX8_putRowControl 46 = .ok (.getfield 21, 3) := by decide +kernel
theorem dX8_putRowControl_49 : decode cX8_putRowControl 49 = .ok (.invokevirtual 157, 3) := by decide +kernel
theorem dX8_putRowControl_52 : decode cX8_putRowControl 52 = .ok (.aload_n 0, 1) := by decide +kernel
theorem dX8_putRowControl_53 : decode cX8_putRowControl 53 = .ok (.iconst 0, 1) := by decide +kernel
theorem dX8_putRowControl_54 : decode cX8_putRowControl 54 = .ok (.putfield 182, 3) := by decide +kernel
theorem dX8_putRowControl_57 : decode cX8_putRowControl 57 = .ok (.iload_n 3, 1) := by decide +kernel
theorem dX8_putRowControl_58 : decode cX8_putRowControl 58 = .ok (.ifCond .ne 13, 3) := by decide +kernel
theorem dX8_putRowControl_61 : decode cX8_putRowControl 61 = .ok (.iload_n 2, 1) := by decide +kernel
theorem dX8_putRowControl_62 : decode cX8_putRowControl 62 = .ok (.ifCond .eq 16, 3) := by decide +kernel
theorem dX8_putRowControl_65 : decode cX8_putRowControl 65 = .ok (.iload_n 1, 1) := by decide +kernel
theorem dX8_putRowControl_66 : decode cX8_putRowControl 66 = .ok (.iconst 4, 1) := by decide +kernel
theorem dX8_putRowControl_67 : decode cX8_putRowControl 67 = .ok (.iand, 1) := by decide +kernel
theorem dX8_putRowControl_68 : decode cX8_putRowControl 68 = .ok (.ifCond .eq 10, 3) := by decide +kernel
theorem dX8_putRowControl_71 : decode cX8_putRowControl 71 = .ok (.aload_n 0, 1) := by decide +kernel
theorem dX8_putRowControl_72 : decode cX8_putRowControl 72 = .ok (.getfield 25, 3) := by decide +kernel
theorem dX8_putRowControl_75 : decode cX8_putRowControl 75 = .ok (.invokevirtual 157, 3) := by decide +kernel
theorem dX8_putRowControl_78 : decode cX8_putRowControl 78 = .ok (.iload_n 2, 1) := by decide +kernel
theorem dX8_putRowControl_79 : decode cX8_putRowControl 79 = .ok (.ifCond .eq 14, 3) := by decide +kernel
theorem dX8_putRowControl_82 : decode cX8_putRowControl 82 = .ok (.aload_n 0, 1) := by decide +kernel
theorem dX8_putRowControl_83 : decode cX8_putRowControl 83 = .ok (.iload_n 1, 1) := by decide +kernel
theorem dX8_putRowControl_84 : decode cX8_putRowControl 84 = .ok (.bipush 6, 2) := by decide +kernel
theorem dX8_putRowControl_86 : decode cX8_putRowControl 86 = .ok (.ishr, 1) := by decide +kernel
theorem dX8_putRowControl_87 : decode cX8_putRowControl 87 = .ok (.invokestatic 233, 3) := by decide +kernel
theorem dX8_putRowControl_90 : decode cX8_putRowControl 90 = .ok (.putfield 169, 3) := by decide +kernel
theorem dX8_putRowControl_93 : decode cX8_putRowControl 93 = .ok (.return_, 1) := by decide +kernel
theorem dX8_levelOf_0 : decode cX8_levelOf 0 = .ok (.iload_n 0, 1) := by decide +kernel
theorem dX8_levelOf_1 : decode cX8_levelOf 1 = .ok (.tableswitch 34 0 2 #[27, 29, 31], 27) := by decide +kernel
theorem dX8_levelOf_28 : decode cX8_levelOf 28 = .ok (.iconst 1, 1) := by decide +kernel
theorem dX8_levelOf_29 : decode cX8_levelOf 29 = .ok (.ireturn, 1) := by decide +kernel
theorem dX8_levelOf_30 : decode cX8_levelOf 30 = .ok (.iconst 4, 1) := by decide +kernel
theorem dX8_levelOf_31 : decode cX8_levelOf 31 = .ok (.ireturn, 1) := by decide +kernel
theorem dX8_levelOf_32 : decode cX8_levelOf 32 = .ok (.bipush 8, 2) := by decide +kernel
theorem dX8_levelOf_34 : decode cX8_levelOf 34 = .ok (.ireturn, 1) := by decide +kernel
theorem dX8_levelOf_35 : decode cX8_levelOf 35 = .ok (.bipush 14, 2) := by decide +kernel
theorem dX8_levelOf_37 : decode cX8_levelOf 37 = .ok (.ireturn, 1) := by decide +kernel
set_option maxRecDepth 20000 in
theorem ggX8_firstFaults_X5_first : GoodIn wsX8_firstFaults wsX5_first := goodIn_r _ [6, 7, 8, 9, 5, 10, 11, 12, 13, 14, 15, 16, 17, 36, 37, 38] (by decide +kernel) (by decide +kernel)
set_option maxRecDepth 20000 in
theorem gX8_firstFaults_X5_first : GoodIn wsX8_firstFaults (wsV RX8 224 RX5 yX5_first wsX5_first) := goodIn_app (goodIn_of _ (by decide +kernel)) ggX8_firstFaults_X5_first
theorem dX8_firstFaults_0 : decode cX8_firstFaults 0 = .ok (.aload_n 0, 1) := by decide +kernel
theorem dX8_firstFaults_1 : decode cX8_firstFaults 1 = .ok (.getfield 21, 3) := by decide +kernel
theorem dX8_firstFaults_4 : decode cX8_firstFaults 4 = .ok (.invokevirtual 224, 3) := by decide +kernel
theorem dX8_firstFaults_7 : decode cX8_firstFaults 7 = .ok (.bipush 8, 2) := by decide +kernel
theorem dX8_firstFaults_9 : decode cX8_firstFaults 9 = .ok (.ishr, 1) := by decide +kernel
theorem dX8_firstFaults_10 : decode cX8_firstFaults 10 = .ok (.bipush 28, 2) := by decide +kernel
theorem dX8_firstFaults_12 : decode cX8_firstFaults 12 = .ok (.iand, 1) := by decide +kernel
theorem dX8_firstFaults_13 : decode cX8_firstFaults 13 = .ok (.ireturn, 1) := by decide +kernel
set_option maxRecDepth 20000 in
theorem ggX8_someFault_X5_size : GoodIn wsX8_someFault wsX5_size := goodIn_r _ [6, 7, 36, 37, 38] (by decide +kernel) (by decide +kernel)
set_option maxRecDepth 20000 in
theorem gX8_someFault_X5_size : GoodIn wsX8_someFault (wsV RX8 124 RX5 yX5_size wsX5_size) := goodIn_app (goodIn_of _ (by decide +kernel)) ggX8_someFault_X5_size
set_option maxRecDepth 20000 in
theorem ggX8_someFault_X5_at : GoodIn wsX8_someFault wsX5_at := goodIn_r _ [11, 7, 12, 13, 14, 15, 5, 16, 17, 36, 37, 38] (by decide +kernel) (by decide +kernel)
set_option maxRecDepth 20000 in
theorem gX8_someFault_X5_at : GoodIn wsX8_someFault (wsV RX8 236 RX5 yX5_at wsX5_at) := goodIn_app (goodIn_of _ (by decide +kernel)) ggX8_someFault_X5_at
theorem dX8_someFault_0 : decode cX8_someFault 0 = .ok (.iconst 0, 1) := by decide +kernel
theorem dX8_someFault_1 : decode cX8_someFault 1 = .ok (.istore_n 1, 1) := by decide +kernel
theorem dX8_someFault_2 : decode cX8_someFault 2 = .ok (.iload_n 1, 1) := by decide +kernel
theorem dX8_someFault_3 : decode cX8_someFault 3 = .ok (.aload_n 0, 1) := by decide +kernel
theorem dX8_someFault_4 : decode cX8_someFault 4 = .ok (.getfield 21, 3) := by decide +kernel
theorem dX8_someFault_7 : decode cX8_someFault 7 = .ok (.invokevirtual 124, 3) := by decide +kernel
theorem dX8_someFault_10 : decode cX8_someFault 10 = .ok (.if_icmp .ge 25, 3) := by decide +kernel
theorem dX8_someFault_13 : decode cX8_someFault 13 = .ok (.aload_n 0, 1) := by decide +kernel
theorem dX8_someFault_14 : decode cX8_someFault 14 = .ok (.getfield 21, 3) := by decide +kernel
theorem dX8_someFault_17 : decode cX8_someFault 17 = .ok (.iload_n 1, 1) := by decide +kernel
theorem dX8_someFault_18 : decode cX8_someFault 18 = .ok (.invokevirtual 236, 3) := by decide +kernel
theorem dX8_someFault_21 : decode cX8_someFault 21 = .ok (.bipush 8, 2) := by decide +kernel
theorem dX8_someFault_23 : decode cX8_someFault 23 = .ok (.ishr, 1) := by decide +kernel
theorem dX8_someFault_24 : decode cX8_someFault 24 = .ok (.ifCond .eq 5, 3) := by decide +kernel
theorem dX8_someFault_27 : decode cX8_someFault 27 = .ok (.iconst 1, 1) := by decide +kernel
theorem dX8_someFault_28 : decode cX8_someFault 28 = .ok (.ireturn, 1) := by decide +kernel
theorem dX8_someFault_29 : decode cX8_someFault 29 = .ok (.iinc 1 1, 3) := by decide +kernel
theorem dX8_someFault_32 : decode cX8_someFault 32 = .ok (.goto (-30), 3) := by decide +kernel
theorem dX8_someFault_35 : decode cX8_someFault 35 = .ok (.iconst 0, 1) := by decide +kernel
theorem dX8_someFault_36 : decode cX8_someFault 36 = .ok (.ireturn, 1) := by decide +kernel
set_option maxRecDepth 20000 in
theorem ggX8_tellLineState_X8_firstFaults : GoodIn wsX8_tellLineState wsX8_firstFaults := goodIn_r _ [10, 1, 11, 12, 13, 14, 15, 16, 17, 18, 19, 20, 21, 22, 23, 24, 25, 26, 54, 55, 56, 57, 58, 59, 60, 61, 62, 63, 64, 65, 66, 67, 68, 69, 70, 71, 72, 73, 74] (by decide +kernel) (by decide +kernel)
set_option maxRecDepth 20000 in
theorem gX8_tellLineState_X8_firstFaults : GoodIn wsX8_tellLineState (wsV RX8 239 RX8 yX8_firstFaults wsX8_firstFaults) := goodIn_app (goodIn_of _ (by decide +kernel)) ggX8_tellLineState_X8_firstFaults
set_option maxRecDepth 20000 in
theorem ggX8_tellLineState_X5_isEmpty : GoodIn wsX8_tellLineState wsX5_isEmpty := goodIn_r _ [30, 20, 72, 73, 74] (by decide +kernel) (by decide +kernel)
set_option maxRecDepth 20000 in
theorem gX8_tellLineState_X5_isEmpty : GoodIn wsX8_tellLineState (wsV RX8 230 RX5 yX5_isEmpty wsX5_isEmpty) := goodIn_app (goodIn_of _ (by decide +kernel)) ggX8_tellLineState_X5_isEmpty
set_option maxRecDepth 20000 in
theorem ggX8_tellLineState_X6_isBusy : GoodIn wsX8_tellLineState wsX6_isBusy := goodIn_r _ [35, 36, 75, 76, 77, 78] (by decide +kernel) (by decide +kernel)
set_option maxRecDepth 20000 in
theorem gX8_tellLineState_X6_isBusy : GoodIn wsX8_tellLineState (wsV RX8 140 RX6 yX6_isBusy wsX6_isBusy) := goodIn_app (goodIn_of _ (by decide +kernel)) ggX8_tellLineState_X6_isBusy
set_option maxRecDepth 20000 in
theorem ggX8_tellLineState_X8_someFault : GoodIn wsX8_tellLineState wsX8_someFault := goodIn_r _ [40, 1, 41, 42, 43, 14, 44, 20, 45, 17, 18, 19, 21, 22, 23, 24, 25, 26, 54, 55, 56, 57, 58, 59, 60, 61, 62, 63, 64, 65, 66, 67, 68, 69, 70, 71, 72, 73, 74] (by decide +kernel) (by decide +kernel)
set_option maxRecDepth 20000 in
theorem gX8_tellLineState_X8_someFault : GoodIn wsX8_tellLineState (wsV RX8 242 RX8 yX8_someFault wsX8_someFault) := goodIn_app (goodIn_of _ (by decide +kernel)) ggX8_tellLineState_X8_someFault
set_option maxRecDepth 20000 in
theorem ggX8_tellLineState_X5_first : GoodIn wsX8_tellLineState wsX5_first := goodIn_r _ [15, 16, 17, 18, 14, 19, 20, 21, 22, 23, 24, 25, 26, 72, 73, 74] (by decide +kernel) (by decide +kernel)
set_option maxRecDepth 20000 in
theorem gX8_tellLineState_X5_first : GoodIn wsX8_tellLineState (wsV RX8 224 RX5 yX5_first wsX5_first) := goodIn_app (goodIn_of _ (by decide +kernel)) ggX8_tellLineState_X5_first
set_option maxRecDepth 20000 in
theorem ggX8_tellLineState_X5_setFirst : GoodIn wsX8_tellLineState wsX5_setFirst := goodIn_r _ [49, 50, 51, 52, 14, 53, 20, 21, 22, 23, 24, 25, 26, 72, 73, 74] (by decide +kernel) (by decide +kernel)
set_option maxRecDepth 20000 in
theorem gX8_tellLineState_X5_setFirst : GoodIn wsX8_tellLineState (wsV RX8 221 RX5 yX5_setFirst wsX5_setFirst) := goodIn_app (goodIn_of _ (by decide +kernel)) ggX8_tellLineState_X5_setFirst
theorem dX8_tellLineState_0 : decode cX8_tellLineState 0 = .ok (.aload_n 0, 1) := by decide +kernel
theorem dX8_tellLineState_1 : decode cX8_tellLineState 1 = .ok (.invokevirtual 239, 3) := by decide +kernel
theorem dX8_tellLineState_4 : decode cX8_tellLineState 4 = .ok (.istore_n 1, 1) := by decide +kernel
theorem dX8_tellLineState_5 : decode cX8_tellLineState 5 = .ok (.iload_n 1, 1) := by decide +kernel
theorem dX8_tellLineState_6 : decode cX8_tellLineState 6 = .ok (.aload_n 0, 1) := by decide +kernel
theorem dX8_tellLineState_7 : decode cX8_tellLineState 7 = .ok (.getfield 21, 3) := by decide +kernel
theorem dX8_tellLineState_10 : decode cX8_tellLineState 10 = .ok (.invokevirtual 230, 3) := by decide +kernel
theorem dX8_tellLineState_13 : decode cX8_tellLineState 13 = .ok (.ifCond .eq 7, 3) := by decide +kernel
theorem dX8_tellLineState_16 : decode cX8_tellLineState 16 = .ok (.iconst 0, 1) := by decide +kernel
theorem dX8_tellLineState_17 : decode cX8_tellLineState 17 = .ok (.goto 4, 3) := by decide +kernel
theorem dX8_tellLineState_20 : decode cX8_tellLineState 20 = .ok (.iconst 1, 1) := by decide +kernel
theorem dX8_tellLineState_21 : decode cX8_tellLineState 21 = .ok (.ior, 1) := by decide +kernel
theorem dX8_tellLineState_22 : decode cX8_tellLineState 22 = .ok (.istore_n 1, 1) := by decide +kernel
theorem dX8_tellLineState_23 : decode cX8_tellLineState 23 = .ok (.iload_n 1, 1) := by decide +kernel
theorem dX8_tellLineState_24 : decode cX8_tellLineState 24 = .ok (.aload_n 0, 1) := by decide +kernel
theorem dX8_tellLineState_25 : decode cX8_tellLineState 25 = .ok (.getfield 176, 3) := by decide +kernel
theorem dX8_tellLineState_28 : decode cX8_tellLineState 28 = .ok (.ifCond .eq 7, 3) := by decide +kernel
theorem dX8_tellLineState_31 : decode cX8_tellLineState 31 = .ok (.iconst 2, 1) := by decide +kernel
theorem dX8_tellLineState_32 : decode cX8_tellLineState 32 = .ok (.goto 4, 3) := by decide +kernel
theorem dX8_tellLineState_35 : decode cX8_tellLineState 35 = .ok (.iconst 0, 1) := by decide +kernel
theorem dX8_tellLineState_36 : decode cX8_tellLineState 36 = .ok (.ior, 1) := by decide +kernel
theorem dX8_tellLineState_37 : decode cX8_tellLineState 37 = .ok (.istore_n 1, 1) := by decide +kernel
theorem dX8_tellLineState_38 : decode cX8_tellLineState 38 = .ok (.iload_n 1, 1) := by decide +kernel
theorem dX8_tellLineState_39 : decode cX8_tellLineState 39 = .ok (.aload_n 0, 1) := by decide +kernel
theorem dX8_tellLineState_40 : decode cX8_tellLineState 40 = .ok (.getfield 25, 3) := by decide +kernel
theorem dX8_tellLineState_43 : decode cX8_tellLineState 43 = .ok (.invokevirtual 230, 3) := by decide +kernel
theorem dX8_tellLineState_46 : decode cX8_tellLineState 46 = .ok (.ifCond .eq 8, 3) := by decide +kernel
theorem dX8_tellLineState_49 : decode cX8_tellLineState 49 = .ok (.bipush 32, 2) := by decide +kernel
theorem dX8_tellLineState_51 : decode cX8_tellLineState 51 = .ok (.goto 4, 3) := by decide +kernel
theorem dX8_tellLineState_54 : decode cX8_tellLineState 54 = .ok (.iconst 0, 1) := by decide +kernel
theorem dX8_tellLineState_55 : decode cX8_tellLineState 55 = .ok (.ior, 1) := by decide +kernel
theorem dX8_tellLineState_56 : decode cX8_tellLineState 56 = .ok (.istore_n 1, 1) := by decide +kernel
theorem dX8_tellLineState_57 : decode cX8_tellLineState 57 = .ok (.iload_n 1, 1) := by decide +kernel
theorem dX8_tellLineState_58 : decode cX8_tellLineState 58 = .ok (.aload_n 0, 1) := by decide +kernel
theorem dX8_tellLineState_59 : decode cX8_tellLineState 59 = .ok (.getfield 25, 3) := by decide +kernel
theorem dX8_tellLineState_62 : decode cX8_tellLineState 62 = .ok (.invokevirtual 230, 3) := by decide +kernel
theorem dX8_tellLineState_65 : decode cX8_tellLineState 65 = .ok (.ifCond .eq 18, 3) := by decide +kernel
theorem dX8_tellLineState_68 : decode cX8_tellLineState 68 = .ok (.aload_n 0, 1) := by decide +kernel
theorem dX8_tellLineState_69 : decode cX8_tellLineState 69 = .ok (.getfield 31, 3) := by decide +kernel
theorem dX8_tellLineState_72 : decode cX8_tellLineState 72 = .ok (.invokevirtual 140, 3) := by decide +kernel
theorem dX8_tellLineState_75 : decode cX8_tellLineState 75 = .ok (.ifCond .ne 8, 3) := by decide +kernel
theorem dX8_tellLineState_78 : decode cX8_tellLineState 78 = .ok (.bipush 64, 2) := by decide +kernel
theorem dX8_tellLineState_80 : decode cX8_tellLineState 80 = .ok (.goto 4, 3) := by decide +kernel
theorem dX8_tellLineState_83 : decode cX8_tellLineState 83 = .ok (.iconst 0, 1) := by decide +kernel
theorem dX8_tellLineState_84 : decode cX8_tellLineState 84 = .ok (.ior, 1) := by decide +kernel
theorem dX8_tellLineState_85 : decode cX8_tellLineState 85 = .ok (.istore_n 1, 1) := by decide +kernel
theorem dX8_tellLineState_86 : decode cX8_tellLineState 86 = .ok (.iload_n 1, 1) := by decide +kernel
theorem dX8_tellLineState_87 : decode cX8_tellLineState 87 = .ok (.aload_n 0, 1) := by decide +kernel
theorem dX8_tellLineState_88 : decode cX8_tellLineState 88 = .ok (.getfield 172, 3) := by decide +kernel
theorem dX8_tellLineState_91 : decode cX8_tellLineState 91 = .ok (.ifCond .eq 16, 3) := by decide +kernel
theorem dX8_tellLineState_94 : decode cX8_tellLineState 94 = .ok (.aload_n 0, 1) := by decide +kernel
theorem dX8_tellLineState_95 : decode cX8_tellLineState 95 = .ok (.invokevirtual 242, 3) := by decide +kernel
theorem dX8_tellLineState_98 : decode cX8_tellLineState 98 = .ok (.ifCond .eq 9, 3) := by decide +kernel
theorem dX8_tellLineState_101 : decode cX8_tellLineState 101 = .ok (.sipush 128, 3) := by decide +kernel
theorem dX8_tellLineState_104 : decode cX8_tellLineState 104 = .ok (.goto 4, 3) := by decide +kernel
theorem dX8_tellLineState_107 : decode cX8_tellLineState 107 = .ok (.iconst 0, 1) := by decide +kernel
theorem dX8_tellLineState_108 : decode cX8_tellLineState 108 = .ok (.ior, 1) := by decide +kernel
theorem dX8_tellLineState_109 : decode cX8_tellLineState 109 = .ok (.istore_n 1, 1) := by decide +kernel
theorem dX8_tellLineState_110 : decode cX8_tellLineState 110 = .ok (.aload_n 0, 1) := by decide +kernel
theorem dX8_tellLineState_111 : decode cX8_tellLineState 111 = .ok (.iconst 0, 1) := by decide +kernel
theorem dX8_tellLineState_112 : decode cX8_tellLineState 112 = .ok (.putfield 176, 3) := by decide +kernel
theorem dX8_tellLineState_115 : decode cX8_tellLineState 115 = .ok (.aload_n 0, 1) := by decide +kernel
theorem dX8_tellLineState_116 : decode cX8_tellLineState 116 = .ok (.getfield 21, 3) := by decide +kernel
theorem dX8_tellLineState_119 : decode cX8_tellLineState 119 = .ok (.aload_n 0, 1) := by decide +kernel
theorem dX8_tellLineState_120 : decode cX8_tellLineState 120 = .ok (.getfield 21, 3) := by decide +kernel
theorem dX8_tellLineState_123 : decode cX8_tellLineState 123 = .ok (.invokevirtual 224, 3) := by decide +kernel
theorem dX8_tellLineState_126 : decode cX8_tellLineState 126 = .ok (.sipush 255, 3) := by decide +kernel
theorem dX8_tellLineState_129 : decode cX8_tellLineState 129 = .ok (.iand, 1) := by decide +kernel
theorem dX8_tellLineState_130 : decode cX8_tellLineState 130 = .ok (.invokevirtual 221, 3) := by decide +kernel
theorem dX8_tellLineState_133 : decode cX8_tellLineState 133 = .ok (.iload_n 1, 1) := by decide +kernel
theorem dX8_tellLineState_134 : decode cX8_tellLineState 134 = .ok (.ireturn, 1) := by decide +kernel
set_option maxRecDepth 20000 in
theorem ggX8_reason_X8_wants : GoodIn wsX8_reason wsX8_wants := goodIn_r _ [12, 13, 44, 45, 46, 47, 48, 49, 50, 51, 52, 53, 54, 55, 56, 57, 58, 59, 60, 61] (by decide +kernel) (by decide +kernel)
set_option maxRecDepth 20000 in
theorem gX8_reason_X8_wants : GoodIn wsX8_reason (wsV RX8 245 RX8 yX8_wants wsX8_wants) := goodIn_app (goodIn_of _ (by decide +kernel)) ggX8_reason_X8_wants
set_option maxRecDepth 20000 in
theorem ggX8_reason_X8_firstFaults : GoodIn wsX8_reason wsX8_firstFaults := goodIn_r _ [17, 2, 18, 19, 20, 21, 22, 23, 24, 25, 26, 27, 28, 29, 30, 31, 32, 33, 44, 45, 46, 47, 48, 49, 50, 51, 52, 53, 54, 55, 56, 57, 58, 59, 60, 61, 62, 63, 64] (by decide +kernel) (by decide +kernel)
set_option maxRecDepth 20000 in
theorem gX8_reason_X8_firstFaults : GoodIn wsX8_reason (wsV RX8 239 RX8 yX8_firstFaults wsX8_firstFaults) := goodIn_app (goodIn_of _ (by decide +kernel)) ggX8_reason_X8_firstFaults
set_option maxRecDepth 20000 in
theorem ggX8_reason_X5_size : GoodIn wsX8_reason wsX5_size := goodIn_r _ [37, 27, 62, 63, 64] (by decide +kernel) (by decide +kernel)
set_option maxRecDepth 20000 in
theorem gX8_reason_X5_size : GoodIn wsX8_reason (wsV RX8 124 RX5 yX5_size wsX5_size) := goodIn_app (goodIn_of _ (by decide +kernel)) ggX8_reason_X5_size
set_option maxRecDepth 20000 in
theorem ggX8_reason_X3_hasChanged : GoodIn wsX8_reason wsX3_hasChanged := goodIn_r _ [42, 43, 65, 66, 67, 68] (by decide +kernel) (by decide +kernel)
set_option maxRecDepth 20000 in
theorem gX8_reason_X3_hasChanged : GoodIn wsX8_reason (wsV RX8 248 RX3 yX3_hasChanged wsX3_hasChanged) := goodIn_app (goodIn_of _ (by decide +kernel)) ggX8_reason_X3_hasChanged
theorem dX8_reason_0 : decode cX8_reason 0 = .ok (.aload_n 0, 1) := by decide +kernel
theorem dX8_reason_1 : decode cX8_reason 1 = .ok (.iconst 4, 1) := by decide +kernel
theorem dX8_reason_2 : decode cX8_reason 2 = .ok (.invokevirtual 245, 3) := by decide +kernel
theorem dX8_reason_5 : decode cX8_reason 5 = .ok (.ifCond .eq 20, 3) := by decide +kernel
theorem dX8_reason_8 : decode cX8_reason 8 = .ok (.aload_n 0, 1) := by decide +kernel
theorem dX8_reason_9 : decode cX8_reason 9 = .ok (.getfield 176, 3) := by decide +kernel
theorem dX8_reason_12 : decode cX8_reason 12 = .ok (.ifCond .ne 10, 3) := by decide +kernel
theorem dX8_reason_15 : decode cX8_reason 15 = .ok (.aload_n 0, 1) := by decide +kernel
theorem dX8_reason_16 : decode cX8_reason 16 = .ok (.invokevirtual 239, 3) := by decide +kernel
theorem dX8_reason_19 : decode cX8_reason 19 = .ok (.ifCond .eq 6, 3) := by decide +kernel
theorem dX8_reason_22 : decode cX8_reason 22 = .ok (.bipush 6, 2) := by decide +kernel
theorem dX8_reason_24 : decode cX8_reason 24 = .ok (.ireturn, 1) := by decide +kernel
theorem dX8_reason_25 : decode cX8_reason 25 = .ok (.aload_n 0, 1) := by decide +kernel
theorem dX8_reason_26 : decode cX8_reason 26 = .ok (.iconst 1, 1) := by decide +kernel
theorem dX8_reason_27 : decode cX8_reason 27 = .ok (.invokevirtual 245, 3) := by decide +kernel
theorem dX8_reason_30 : decode cX8_reason 30 = .ok (.ifCond .eq 30, 3) := by decide +kernel
theorem dX8_reason_33 : decode cX8_reason 33 = .ok (.aload_n 0, 1) := by decide +kernel
theorem dX8_reason_34 : decode cX8_reason 34 = .ok (.getfield 21, 3) := by decide +kernel
theorem dX8_reason_37 : decode cX8_reason 37 = .ok (.invokevirtual 124, 3) := by decide +kernel
theorem dX8_reason_40 : decode cX8_reason 40 = .ok (.aload_n 0, 1) := by decide +kernel
theorem dX8_reason_41 : decode cX8_reason 41 = .ok (.getfield 172, 3) := by decide +kernel
theorem dX8_reason_44 : decode cX8_reason 44 = .ok (.ifCond .eq 10, 3) := by decide +kernel
theorem dX8_reason_47 : decode cX8_reason 47 = .ok (.aload_n 0, 1) := by decide +kernel
theorem dX8_reason_48 : decode cX8_reason 48 = .ok (.getfield 169, 3) := by decide +kernel
theorem dX8_reason_51 : decode cX8_reason 51 = .ok (.goto 4, 3) := by decide +kernel
theorem dX8_reason_54 : decode cX8_reason 54 = .ok (.iconst 1, 1) := by decide +kernel
theorem dX8_reason_55 : decode cX8_reason 55 = .ok (.if_icmp .lt 5, 3) := by decide +kernel
theorem dX8_reason_58 : decode cX8_reason 58 = .ok (.iconst 4, 1) := by decide +kernel
theorem dX8_reason_59 : decode cX8_reason 59 = .ok (.ireturn, 1) := by decide +kernel
theorem dX8_reason_60 : decode cX8_reason 60 = .ok (.aload_n 0, 1) := by decide +kernel
theorem dX8_reason_61 : decode cX8_reason 61 = .ok (.iconst 1, 1) := by decide +kernel
theorem dX8_reason_62 : decode cX8_reason 62 = .ok (.invokevirtual 245, 3) := by decide +kernel
theorem dX8_reason_65 : decode cX8_reason 65 = .ok (.ifCond .eq 20, 3) := by decide +kernel
theorem dX8_reason_68 : decode cX8_reason 68 = .ok (.aload_n 0, 1) := by decide +kernel
theorem dX8_reason_69 : decode cX8_reason 69 = .ok (.getfield 172, 3) := by decide +kernel
theorem dX8_reason_72 : decode cX8_reason 72 = .ok (.ifCond .eq 13, 3) := by decide +kernel
theorem dX8_reason_75 : decode cX8_reason 75 = .ok (.aload_n 0, 1) := by decide +kernel
theorem dX8_reason_76 : decode cX8_reason 76 = .ok (.getfield 182, 3) := by decide +kernel
theorem dX8_reason_79 : decode cX8_reason 79 = .ok (.ifCond .eq 6, 3) := by decide +kernel
theorem dX8_reason_82 : decode cX8_reason 82 = .ok (.bipush 12, 2) := by decide +kernel
theorem dX8_reason_84 : decode cX8_reason 84 = .ok (.ireturn, 1) := by decide +kernel
theorem dX8_reason_85 : decode cX8_reason 85 = .ok (.aload_n 0, 1) := by decide +kernel
theorem dX8_reason_86 : decode cX8_reason 86 = .ok (.iconst 2, 1) := by decide +kernel
theorem dX8_reason_87 : decode cX8_reason 87 = .ok (.invokevirtual 245, 3) := by decide +kernel
theorem dX8_reason_90 : decode cX8_reason 90 = .ok (.ifCond .eq 12, 3) := by decide +kernel
theorem dX8_reason_93 : decode cX8_reason 93 = .ok (.aload_n 0, 1) := by decide +kernel
theorem dX8_reason_94 : decode cX8_reason 94 = .ok (.getfield 179, 3) := by decide +kernel
theorem dX8_reason_97 : decode cX8_reason 97 = .ok (.ifCond .eq 5, 3) := by decide +kernel
theorem dX8_reason_100 : decode cX8_reason 100 = .ok (.iconst 2, 1) := by decide +kernel
theorem dX8_reason_101 : decode cX8_reason 101 = .ok (.ireturn, 1) := by decide +kernel
theorem dX8_reason_102 : decode cX8_reason 102 = .ok (.aload_n 0, 1) := by decide +kernel
theorem dX8_reason_103 : decode cX8_reason 103 = .ok (.bipush 8, 2) := by decide +kernel
theorem dX8_reason_105 : decode cX8_reason 105 = .ok (.invokevirtual 245, 3) := by decide +kernel
theorem dX8_reason_108 : decode cX8_reason 108 = .ok (.ifCond .eq 17, 3) := by decide +kernel
theorem dX8_reason_111 : decode cX8_reason 111 = .ok (.aload_n 0, 1) := by decide +kernel
theorem dX8_reason_112 : decode cX8_reason 112 = .ok (.getfield 45, 3) := by decide +kernel
theorem dX8_reason_115 : decode cX8_reason 115 = .ok (.invokevirtual 248, 3) := by decide +kernel
theorem dX8_reason_118 : decode cX8_reason 118 = .ok (.ifCond .eq 7, 3) := by decide +kernel
theorem dX8_reason_121 : decode cX8_reason 121 = .ok (.iconst 0, 1) := by decide +kernel
theorem dX8_reason_122 : decode cX8_reason 122 = .ok (.goto 4, 3) := by decide +kernel
theorem dX8_reason_125 : decode cX8_reason 125 = .ok (.iconst 1, 1) := by decide +kernel
theorem dX8_reason_126 : decode cX8_reason 126 = .ok (.ireturn, 1) := by decide +kernel
theorem dX8_wants_0 : decode cX8_wants 0 = .ok (.aload_n 0, 1) := by decide +kernel
theorem dX8_wants_1 : decode cX8_wants 1 = .ok (.getfield 163, 3) := by decide +kernel
theorem dX8_wants_4 : decode cX8_wants 4 = .ok (.iload_n 1, 1) := by decide +kernel
theorem dX8_wants_5 : decode cX8_wants 5 = .ok (.iand, 1) := by decide +kernel
theorem dX8_wants_6 : decode cX8_wants 6 = .ok (.ifCond .eq 7, 3) := by decide +kernel
theorem dX8_wants_9 : decode cX8_wants 9 = .ok (.iconst 1, 1) := by decide +kernel
theorem dX8_wants_10 : decode cX8_wants 10 = .ok (.goto 4, 3) := by decide +kernel
theorem dX8_wants_13 : decode cX8_wants 13 = .ok (.iconst 0, 1) := by decide +kernel
theorem dX8_wants_14 : decode cX8_wants 14 = .ok (.ireturn, 1) := by decide +kernel
set_option maxRecDepth 20000 in
theorem ggX8_tellReason_X8_reason : GoodIn wsX8_tellReason wsX8_reason := goodIn_r _ [7, 8, 9, 2, 10, 11, 1, 12, 13, 14, 15, 6, 16, 17, 18, 19, 20, 21, 22, 23, 24, 25, 26, 27, 28, 29, 30, 31, 32, 33, 34, 35, 36, 37, 38, 39, 40, 41, 42, 43, 44, 45, 46, 47, 48, 49, 50, 51, 52, 53, 54, 55, 56, 57, 58, 59, 60, 61, 62, 63, 64, 65, 66, 67, 68, 69, 70, 71, 72] (by decide +kernel) (by decide +kernel)
set_option maxRecDepth 20000 in
theorem gX8_tellReason_X8_reason : GoodIn wsX8_tellReason (wsV RX8 130 RX8 yX8_reason wsX8_reason) := goodIn_app (goodIn_of _ (by decide +kernel)) ggX8_tellReason_X8_reason
theorem dX8_tellReason_0 : decode cX8_tellReason 0 = .ok (.aload_n 0, 1) := by decide +kernel
theorem dX8_tellReason_1 : decode cX8_tellReason 1 = .ok (.invokevirtual 130, 3) := by decide +kernel
theorem dX8_tellReason_4 : decode cX8_tellReason 4 = .ok (.istore_n 1, 1) := by decide +kernel
theorem dX8_tellReason_5 : decode cX8_tellReason 5 = .ok (.iload_n 1, 1) := by decide +kernel
theorem dX8_tellReason_6 : decode cX8_tellReason 6 = .ok (.iconst 2, 1) := by decide +kernel
theorem dX8_tellReason_7 : decode cX8_tellReason 7 = .ok (.if_icmp .ne 8, 3) := by decide +kernel
theorem dX8_tellReason_10 : decode cX8_tellReason 10 = .ok (.aload_n 0, 1) := by decide +kernel
theorem dX8_tellReason_11 : decode cX8_tellReason 11 = .ok (.iconst 0, 1) := by decide +kernel
theorem dX8_tellReason_12 : decode cX8_tellReason 12 = .ok (.putfield 179, 3) := by decide +kernel
theorem dX8_tellReason_15 : decode cX8_tellReason 15 = .ok (.aload_n 0, 1) := by decide +kernel
theorem dX8_tellReason_16 : decode cX8_tellReason 16 = .ok (.getfield 172, 3) := by decide +kernel
theorem dX8_tellReason_19 : decode cX8_tellReason 19 = .ok (.ifCond .eq 11, 3) := by decide +kernel
theorem dX8_tellReason_22 : decode cX8_tellReason 22 = .ok (.iload_n 1, 1) := by decide +kernel
theorem dX8_tellReason_23 : decode cX8_tellReason 23 = .ok (.sipush 192, 3) := by decide +kernel
theorem dX8_tellReason_26 : decode cX8_tellReason 26 = .ok (.ior, 1) := by decide +kernel
theorem dX8_tellReason_27 : decode cX8_tellReason 27 = .ok (.goto 4, 3) := by decide +kernel
theorem dX8_tellReason_30 : decode cX8_tellReason 30 = .ok (.iload_n 1, 1) := by decide +kernel
theorem dX8_tellReason_31 : decode cX8_tellReason 31 = .ok (.ireturn, 1) := by decide +kernel
set_option maxRecDepth 20000 in
theorem ggX8_beat_X8_stepSender : GoodIn wsX8_beat wsX8_stepSender := goodIn_r _ [11, 12, 13, 4, 14, 15, 16, 17, 18, 19, 20, 21, 22, 23, 24, 25, 26, 27, 28, 29, 30, 31, 32, 33, 34, 35, 36, 37, 38, 39, 40, 41, 42, 43, 44, 45, 46, 47, 48, 49, 50, 51, 52, 53, 54, 55, 56, 57, 58, 59, 60, 61, 62, 63, 64, 65, 66, 67, 68, 69, 70, 71, 72, 73, 74, 75, 76, 77, 78, 79, 80, 81, 82, 83, 84, 200, 201, 202, 203, 204, 205, 206, 207, 208, 209, 210, 211, 212, 213, 214, 215, 216, 217, 218, 219, 220, 221, 222, 223, 224] (by decide +kernel) (by decide +kernel)
set_option maxRecDepth 20000 in
theorem gX8_beat_X8_stepSender : GoodIn wsX8_beat (wsV RX8 251 RX8 yX8_stepSender wsX8_stepSender) := goodIn_app (goodIn_of _ (by decide +kernel)) ggX8_beat_X8_stepSender
set_option maxRecDepth 20000 in
theorem ggX8_beat_X3_loops : GoodIn wsX8_beat wsX3_loops := goodIn_r _ [89, 90, 225, 226, 227, 228] (by decide +kernel) (by decide +kernel)
set_option maxRecDepth 20000 in
theorem gX8_beat_X3_loops : GoodIn wsX8_beat (wsV RX8 254 RX3 yX3_loops wsX3_loops) := goodIn_app (goodIn_of _ (by decide +kernel)) ggX8_beat_X3_loops
set_option maxRecDepth 20000 in
theorem ggX8_beat_X2_append : GoodIn wsX8_beat wsX2_append := goodIn_r _ [95, 96, 97, 98, 22, 23, 24, 25, 26, 99, 100, 101, 94, 102, 103, 104, 105, 106, 107, 108, 109, 110, 111, 32, 33, 34, 35, 36, 37, 38, 39, 40, 112, 113, 114, 115, 116, 117, 118, 119, 120, 49, 50, 51, 121, 122, 123, 124, 125, 229, 230, 222, 223, 224] (by decide +kernel) (by decide +kernel)
set_option maxRecDepth 20000 in
theorem gX8_beat_X2_append : GoodIn wsX8_beat (wsV RX8 257 RX2 yX2_append wsX2_append) := goodIn_app (goodIn_of _ (by decide +kernel)) ggX8_beat_X2_append
set_option maxRecDepth 20000 in
theorem ggX8_beat_X1_next : GoodIn wsX8_beat wsX1_next := goodIn_r _ [130, 131, 132, 133, 22, 23, 24, 25, 26, 134, 28, 29, 30, 31, 32, 33, 34, 35, 36, 37, 38, 39, 40, 135, 136, 137, 138, 125, 113, 114, 115, 139, 49, 50, 51, 231, 232, 222, 223, 224] (by decide +kernel) (by decide +kernel)
set_option maxRecDepth 20000 in
theorem gX8_beat_X1_next : GoodIn wsX8_beat (wsV RX8 260 RX1 yX1_next wsX1_next) := goodIn_app (goodIn_of _ (by decide +kernel)) ggX8_beat_X1_next
set_option maxRecDepth 20000 in
theorem ggX8_beat_X4_step : GoodIn wsX8_beat wsX4_step := goodIn_r _ [144, 145, 146, 147, 148, 149, 143, 150, 151, 152, 153, 154, 155, 156, 157, 158, 159, 160, 161, 162, 163, 164, 165, 166, 167, 168, 169, 170, 171, 172, 61, 58, 62, 173, 64, 65, 174, 175, 176, 177, 178, 67, 68, 60, 69, 70, 71, 72, 73, 74, 75, 233, 234, 235, 236, 237, 238, 239] (by decide +kernel) (by decide +kernel)
set_option maxRecDepth 20000 in
theorem gX8_beat_X4_step : GoodIn wsX8_beat (wsV RX8 263 RX4 yX4_step wsX4_step) := goodIn_app (goodIn_of _ (by decide +kernel)) ggX8_beat_X4_step
set_option maxRecDepth 20000 in
theorem ggX8_beat_X8_addReceived : GoodIn wsX8_beat wsX8_addReceived := goodIn_r _ [182, 183, 184, 185, 1, 186, 187, 108, 109, 24, 110, 26, 188, 189, 190, 10, 191, 192, 122, 123, 124, 35, 125, 113, 114, 115, 36, 37, 38, 39, 40, 193, 136, 137, 138, 200, 201, 202, 203, 204, 205, 206, 207, 208, 209, 210, 211, 212, 213, 214, 215, 216, 217, 222, 223, 224] (by decide +kernel) (by decide +kernel)
set_option maxRecDepth 20000 in
theorem gX8_beat_X8_addReceived : GoodIn wsX8_beat (wsV RX8 267 RX8 yX8_addReceived wsX8_addReceived) := goodIn_app (goodIn_of _ (by decide +kernel)) ggX8_beat_X8_addReceived
set_option maxRecDepth 20000 in
theorem ggX8_beat_X8_stepLate : GoodIn wsX8_beat wsX8_stepLate := goodIn_r _ [197, 185, 183, 1, 186, 4, 198, 21, 22, 23, 24, 25, 26, 199, 77, 58, 78, 79, 80, 81, 60, 61, 62, 63, 64, 65, 82, 83, 84, 200, 201, 202, 203, 204, 205, 206, 207, 208, 209, 210, 211, 212, 213, 214, 215, 216, 217, 222, 223, 224] (by decide +kernel) (by decide +kernel)
set_option maxRecDepth 20000 in
theorem gX8_beat_X8_stepLate : GoodIn wsX8_beat (wsV RX8 270 RX8 yX8_stepLate wsX8_stepLate) := goodIn_app (goodIn_of _ (by decide +kernel)) ggX8_beat_X8_stepLate
theorem dX8_beat_0 : decode cX8_beat 0 = .ok (.aload_n 0, 1) := by decide +kernel
theorem dX8_beat_1 : decode cX8_beat 1 = .ok (.dup, 1) := by decide +kernel
theorem dX8_beat_2 : decode cX8_beat 2 = .ok (.getfield 127, 3) := by decide +kernel
theorem dX8_beat_5 : decode cX8_beat 5 = .ok (.iconst 1, 1) := by decide +kernel
theorem dX8_beat_6 : decode cX8_beat 6 = .ok (.iadd, 1) := by decide +kernel
theorem dX8_beat_7 : decode cX8_beat 7 = .ok (.putfield 127, 3) := by decide +kernel
theorem dX8_beat_10 : decode cX8_beat 10 = .ok (.aload_n 0, 1) := by decide +kernel
theorem dX8_beat_11 : decode cX8_beat 11 = .ok (.invokevirtual 251, 3) := by decide +kernel
theorem dX8_beat_14 : decode cX8_beat 14 = .ok (.istore_n 1, 1) := by decide +kernel
theorem dX8_beat_15 : decode cX8_beat 15 = .ok (.aload_n 0, 1) := by decide +kernel
theorem dX8_beat_16 : decode cX8_beat 16 = .ok (.getfield 45, 3) := by decide +kernel
theorem dX8_beat_19 : decode cX8_beat 19 = .ok (.invokevirtual 254, 3) := by decide +kernel
theorem dX8_beat_22 : decode cX8_beat 22 = .ok (.istore_n 2, 1) := by decide +kernel
theorem dX8_beat_23 : decode cX8_beat 23 = .ok (.aload_n 0, 1) := by decide +kernel
theorem dX8_beat_24 : decode cX8_beat 24 = .ok (.getfield 59, 3) := by decide +kernel
theorem dX8_beat_27 : decode cX8_beat 27 = .ok (.iload_n 2, 1) := by decide +kernel
theorem dX8_beat_28 : decode cX8_beat 28 = .ok (.ifCond .ne 17, 3) := by decide +kernel
theorem dX8_beat_31 : decode cX8_beat 31 = .ok (.iload_n 1, 1) := by decide +kernel
theorem dX8_beat_32 : decode cX8_beat 32 = .ok (.ifCond .eq 17, 3) := by decide +kernel
theorem dX8_beat_35 : decode cX8_beat 35 = .ok (.aload_n 0, 1) := by decide +kernel
theorem dX8_beat_36 : decode cX8_beat 36 = .ok (.getfield 73, 3) := by decide +kernel
theorem dX8_beat_39 : decode cX8_beat 39 = .ok (.bipush 64, 2) := by decide +kernel
theorem dX8_beat_41 : decode cX8_beat 41 = .ok (.iand, 1) := by decide +kernel
theorem dX8_beat_42 : decode cX8_beat 42 = .ok (.ifCond .ne 7, 3) := by decide +kernel
theorem dX8_beat_45 : decode cX8_beat 45 = .ok (.iconst 1, 1) := by decide +kernel
theorem dX8_beat_46 : decode cX8_beat 46 = .ok (.goto 4, 3) := by decide +kernel
theorem dX8_beat_49 : decode cX8_beat 49 = .ok (.iconst 0, 1) := by decide +kernel
theorem dX8_beat_50 : decode cX8_beat 50 = .ok (.invokevirtual 257, 3) := by decide +kernel
theorem dX8_beat_53 : decode cX8_beat 53 = .ok (.aload_n 0, 1) := by decide +kernel
theorem dX8_beat_54 : decode cX8_beat 54 = .ok (.getfield 52, 3) := by decide +kernel
theorem dX8_beat_57 : decode cX8_beat 57 = .ok (.invokevirtual 260, 3) := by decide +kernel
theorem dX8_beat_60 : decode cX8_beat 60 = .ok (.istore_n 3, 1) := by decide +kernel
theorem dX8_beat_61 : decode cX8_beat 61 = .ok (.aload_n 0, 1) := by decide +kernel
theorem dX8_beat_62 : decode cX8_beat 62 = .ok (.getfield 38, 3) := by decide +kernel
theorem dX8_beat_65 : decode cX8_beat 65 = .ok (.iload_n 2, 1) := by decide +kernel
theorem dX8_beat_66 : decode cX8_beat 66 = .ok (.ifCond .eq 7, 3) := by decide +kernel
theorem dX8_beat_69 : decode cX8_beat 69 = .ok (.iload_n 1, 1) := by decide +kernel
theorem dX8_beat_70 : decode cX8_beat 70 = .ok (.goto 4, 3) := by decide +kernel
theorem dX8_beat_73 : decode cX8_beat 73 = .ok (.iload_n 3, 1) := by decide +kernel
theorem dX8_beat_74 : decode cX8_beat 74 = .ok (.aload_n 0, 1) := by decide +kernel
theorem dX8_beat_75 : decode cX8_beat 75 = .ok (.getfield 73, 3) := by decide +kernel
theorem dX8_beat_78 : decode cX8_beat 78 = .ok (.invokevirtual 263, 3) := by decide +kernel
theorem dX8_beat_81 : decode cX8_beat 81 = .ok (.istore 4, 2) := by decide +kernel
theorem dX8_beat_83 : decode cX8_beat 83 = .ok (.iload 4, 2) := by decide +kernel
theorem dX8_beat_85 : decode cX8_beat 85 = .ok (.iconst (-1), 1) := by decide +kernel
theorem dX8_beat_86 : decode cX8_beat 86 = .ok (.if_icmp .eq 9, 3) := by decide +kernel
theorem dX8_beat_89 : decode cX8_beat 89 = .ok (.aload_n 0, 1) := by decide +kernel
theorem dX8_beat_90 : decode cX8_beat 90 = .ok (.iload 4, 2) := by decide +kernel
theorem dX8_beat_92 : decode cX8_beat 92 = .ok (.invokevirtual 267, 3) := by decide +kernel
theorem dX8_beat_95 : decode cX8_beat 95 = .ok (.aload_n 0, 1) := by decide +kernel
theorem dX8_beat_96 : decode cX8_beat 96 = .ok (.invokevirtual 270, 3) := by decide +kernel
theorem dX8_beat_99 : decode cX8_beat 99 = .ok (.return_, 1) := by decide +kernel
set_option maxRecDepth 20000 in
theorem ggX8_stepSender_X6_isBusy : GoodIn wsX8_stepSender wsX6_isBusy := goodIn_r _ [9, 10, 93, 94, 95, 96] (by decide +kernel) (by decide +kernel)
set_option maxRecDepth 20000 in
theorem gX8_stepSender_X6_isBusy : GoodIn wsX8_stepSender (wsV RX8 140 RX6 yX6_isBusy wsX6_isBusy) := goodIn_app (goodIn_of _ (by decide +kernel)) ggX8_stepSender_X6_isBusy
set_option maxRecDepth 20000 in
theorem ggX8_stepSender_X5_isEmpty : GoodIn wsX8_stepSender wsX5_isEmpty := goodIn_r _ [15, 16, 97, 98, 99] (by decide +kernel) (by decide +kernel)
set_option maxRecDepth 20000 in
theorem gX8_stepSender_X5_isEmpty : GoodIn wsX8_stepSender (wsV RX8 230 RX5 yX5_isEmpty wsX5_isEmpty) := goodIn_app (goodIn_of _ (by decide +kernel)) ggX8_stepSender_X5_isEmpty
set_option maxRecDepth 20000 in
theorem ggX8_stepSender_X5_first : GoodIn wsX8_stepSender wsX5_first := goodIn_r _ [20, 21, 22, 23, 14, 24, 16, 25, 26, 27, 28, 29, 30, 97, 98, 99] (by decide +kernel) (by decide +kernel)
set_option maxRecDepth 20000 in
theorem gX8_stepSender_X5_first : GoodIn wsX8_stepSender (wsV RX8 224 RX5 yX5_first wsX5_first) := goodIn_app (goodIn_of _ (by decide +kernel)) ggX8_stepSender_X5_first
set_option maxRecDepth 20000 in
theorem ggX8_stepSender_X6_begin : GoodIn wsX8_stepSender wsX6_begin := goodIn_r _ [34, 35, 36, 37, 10, 93, 94, 95, 96] (by decide +kernel) (by decide +kernel)
set_option maxRecDepth 20000 in
theorem gX8_stepSender_X6_begin : GoodIn wsX8_stepSender (wsV RX8 273 RX6 yX6_begin wsX6_begin) := goodIn_app (goodIn_of _ (by decide +kernel)) ggX8_stepSender_X6_begin
set_option maxRecDepth 20000 in
theorem ggX8_stepSender_X5_dropFirst : GoodIn wsX8_stepSender wsX5_dropFirst := goodIn_r _ [41, 16, 30, 26, 27, 28, 14, 29, 25, 97, 98, 99] (by decide +kernel) (by decide +kernel)
set_option maxRecDepth 20000 in
theorem gX8_stepSender_X5_dropFirst : GoodIn wsX8_stepSender (wsV RX8 227 RX5 yX5_dropFirst wsX5_dropFirst) := goodIn_app (goodIn_of _ (by decide +kernel)) ggX8_stepSender_X5_dropFirst
set_option maxRecDepth 20000 in
theorem ggX8_stepSender_X6_next : GoodIn wsX8_stepSender wsX6_next := goodIn_r _ [45, 10, 35, 36, 37, 46, 47, 48, 49, 50, 51, 52, 53, 54, 55, 56, 57, 58, 59, 60, 61, 62, 63, 64, 65, 66, 67, 68, 69, 70, 71, 72, 73, 74, 93, 94, 95, 96] (by decide +kernel) (by decide +kernel)
set_option maxRecDepth 20000 in
theorem gX8_stepSender_X6_next : GoodIn wsX8_stepSender (wsV RX8 276 RX6 yX6_next wsX6_next) := goodIn_app (goodIn_of _ (by decide +kernel)) ggX8_stepSender_X6_next
theorem dX8_stepSender_0 : decode cX8_stepSender 0 = .ok (.aload_n 0, 1) := by decide +kernel
theorem dX8_stepSender_1 : decode cX8_stepSender 1 = .ok (.getfield 31, 3) := by decide +kernel
theorem dX8_stepSender_4 : decode cX8_stepSender 4 = .ok (.invokevirtual 140, 3) := by decide +kernel
theorem dX8_stepSender_7 : decode cX8_stepSender 7 = .ok (.ifCond .ne 53, 3) := by decide +kernel
theorem dX8_stepSender_10 : decode cX8_stepSender 10 = .ok (.aload_n 0, 1) := by decide +kernel
theorem dX8_stepSender_11 : decode cX8_stepSender 11 = .ok (.getfield 25, 3) := by decide +kernel
theorem dX8_stepSender_14 : decode cX8_stepSender 14 = .ok (.invokevirtual 230, 3) := by decide +kernel
theorem dX8_stepSender_17 : decode cX8_stepSender 17 = .ok (.ifCond .ne 43, 3) := by decide +kernel
theorem dX8_stepSender_20 : decode cX8_stepSender 20 = .ok (.aload_n 0, 1) := by decide +kernel
theorem dX8_stepSender_21 : decode cX8_stepSender 21 = .ok (.getfield 31, 3) := by decide +kernel
theorem dX8_stepSender_24 : decode cX8_stepSender 24 = .ok (.aload_n 0, 1) := by decide +kernel
theorem dX8_stepSender_25 : decode cX8_stepSender 25 = .ok (.getfield 73, 3) := by decide +kernel
theorem dX8_stepSender_28 : decode cX8_stepSender 28 = .ok (.aload_n 0, 1) := by decide +kernel
theorem dX8_stepSender_29 : decode cX8_stepSender 29 = .ok (.getfield 25, 3) := by decide +kernel
theorem dX8_stepSender_32 : decode cX8_stepSender 32 = .ok (.invokevirtual 224, 3) := by decide +kernel
theorem dX8_stepSender_35 : decode cX8_stepSender 35 = .ok (.invokevirtual 273, 3) := by decide +kernel
theorem dX8_stepSender_38 : decode cX8_stepSender 38 = .ok (.aload_n 0, 1) := by decide +kernel
theorem dX8_stepSender_39 : decode cX8_stepSender 39 = .ok (.getfield 25, 3) := by decide +kernel
theorem dX8_stepSender_42 : decode cX8_stepSender 42 = .ok (.invokevirtual 227, 3) := by decide +kernel
theorem dX8_stepSender_45 : decode cX8_stepSender 45 = .ok (.aload_n 0, 1) := by decide +kernel
theorem dX8_stepSender_46 : decode cX8_stepSender 46 = .ok (.getfield 25, 3) := by decide +kernel
theorem dX8_stepSender_49 : decode cX8_stepSender 49 = .ok (.invokevirtual 230, 3) := by decide +kernel
theorem dX8_stepSender_52 : decode cX8_stepSender 52 = .ok (.ifCond .eq 8, 3) := by decide +kernel
theorem dX8_stepSender_55 : decode cX8_stepSender 55 = .ok (.aload_n 0, 1) := by decide +kernel
theorem dX8_stepSender_56 : decode cX8_stepSender 56 = .ok (.iconst 1, 1) := by decide +kernel
theorem dX8_stepSender_57 : decode cX8_stepSender 57 = .ok (.putfield 179, 3) := by decide +kernel
theorem dX8_stepSender_60 : decode cX8_stepSender 60 = .ok (.aload_n 0, 1) := by decide +kernel
theorem dX8_stepSender_61 : decode cX8_stepSender 61 = .ok (.getfield 31, 3) := by decide +kernel
theorem dX8_stepSender_64 : decode cX8_stepSender 64 = .ok (.invokevirtual 276, 3) := by decide +kernel
theorem dX8_stepSender_67 : decode cX8_stepSender 67 = .ok (.ireturn, 1) := by decide +kernel
set_option maxRecDepth 20000 in
theorem ggX8_addReceived_X5_size : GoodIn wsX8_addReceived wsX5_size := goodIn_r _ [10, 11, 53, 54, 55] (by decide +kernel) (by decide +kernel)
set_option maxRecDepth 20000 in
theorem gX8_addReceived_X5_size : GoodIn wsX8_addReceived (wsV RX8 124 RX5 yX5_size wsX5_size) := goodIn_app (goodIn_of _ (by decide +kernel)) ggX8_addReceived_X5_size
set_option maxRecDepth 20000 in
theorem ggX8_addReceived_X8_rowRoom : GoodIn wsX8_addReceived wsX8_rowRoom := goodIn_r _ [16, 3, 35, 36, 37, 38, 39, 40, 41, 42, 43, 44, 45, 46, 47, 48, 49, 50, 51, 52] (by decide +kernel) (by decide +kernel)
set_option maxRecDepth 20000 in
theorem gX8_addReceived_X8_rowRoom : GoodIn wsX8_addReceived (wsV RX8 215 RX8 yX8_rowRoom wsX8_rowRoom) := goodIn_app (goodIn_of _ (by decide +kernel)) ggX8_addReceived_X8_rowRoom
set_option maxRecDepth 20000 in
theorem ggX8_addReceived_X5_add : GoodIn wsX8_addReceived wsX5_add := goodIn_r _ [20, 11, 21, 22, 23, 24, 9, 25, 26, 27, 28, 29, 30, 53, 54, 55] (by decide +kernel) (by decide +kernel)
set_option maxRecDepth 20000 in
theorem gX8_addReceived_X5_add : GoodIn wsX8_addReceived (wsV RX8 218 RX5 yX5_add wsX5_add) := goodIn_app (goodIn_of _ (by decide +kernel)) ggX8_addReceived_X5_add
set_option maxRecDepth 20000 in
theorem ggX8_addReceived_X5_setFirst : GoodIn wsX8_addReceived wsX5_setFirst := goodIn_r _ [34, 22, 23, 24, 9, 25, 11, 21, 26, 27, 28, 29, 30, 53, 54, 55] (by decide +kernel) (by decide +kernel)
set_option maxRecDepth 20000 in
theorem gX8_addReceived_X5_setFirst : GoodIn wsX8_addReceived (wsV RX8 221 RX5 yX5_setFirst wsX5_setFirst) := goodIn_app (goodIn_of _ (by decide +kernel)) ggX8_addReceived_X5_setFirst
theorem dX8_addReceived_0 : decode cX8_addReceived 0 = .ok (.aload_n 0, 1) := by decide +kernel
theorem dX8_addReceived_1 : decode cX8_addReceived 1 = .ok (.getfield 21, 3) := by decide +kernel
theorem dX8_addReceived_4 : decode cX8_addReceived 4 = .ok (.invokevirtual 124, 3) := by decide +kernel
theorem dX8_addReceived_7 : decode cX8_addReceived 7 = .ok (.aload_n 0, 1) := by decide +kernel
theorem dX8_addReceived_8 : decode cX8_addReceived 8 = .ok (.invokevirtual 215, 3) := by decide +kernel
theorem dX8_addReceived_11 : decode cX8_addReceived 11 = .ok (.if_icmp .ge 14, 3) := by decide +kernel
theorem dX8_addReceived_14 : decode cX8_addReceived 14 = .ok (.aload_n 0, 1) := by decide +kernel
theorem dX8_addReceived_15 : decode cX8_addReceived 15 = .ok (.getfield 21, 3) := by decide +kernel
theorem dX8_addReceived_18 : decode cX8_addReceived 18 = .ok (.iload_n 1, 1) := by decide +kernel
theorem dX8_addReceived_19 : decode cX8_addReceived 19 = .ok (.invokevirtual 218, 3) := by decide +kernel
theorem dX8_addReceived_22 : decode cX8_addReceived 22 = .ok (.goto 23, 3) := by decide +kernel
theorem dX8_addReceived_25 : decode cX8_addReceived 25 = .ok (.aload_n 0, 1) := by decide +kernel
theorem dX8_addReceived_26 : decode cX8_addReceived 26 = .ok (.iconst 1, 1) := by decide +kernel
theorem dX8_addReceived_27 : decode cX8_addReceived 27 = .ok (.putfield 176, 3) := by decide +kernel
theorem dX8_addReceived_30 : decode cX8_addReceived 30 = .ok (.aload_n 0, 1) := by decide +kernel
theorem dX8_addReceived_31 : decode cX8_addReceived 31 = .ok (.getfield 172, 3) := by decide +kernel
theorem dX8_addReceived_34 : decode cX8_addReceived 34 = .ok (.ifCond .ne 11, 3) := by decide +kernel
theorem dX8_addReceived_37 : decode cX8_addReceived 37 = .ok (.aload_n 0, 1) := by decide +kernel
theorem dX8_addReceived_38 : decode cX8_addReceived 38 = .ok (.getfield 21, 3) := by decide +kernel
theorem dX8_addReceived_41 : decode cX8_addReceived 41 = .ok (.iload_n 1, 1) := by decide +kernel
theorem dX8_addReceived_42 : decode cX8_addReceived 42 = .ok (.invokevirtual 221, 3) := by decide +kernel
theorem dX8_addReceived_45 : decode cX8_addReceived 45 = .ok (.aload_n 0, 1) := by decide +kernel
theorem dX8_addReceived_46 : decode cX8_addReceived 46 = .ok (.aload_n 0, 1) := by decide +kernel
theorem dX8_addReceived_47 : decode cX8_addReceived 47 = .ok (.getfield 127, 3) := by decide +kernel
theorem dX8_addReceived_50 : decode cX8_addReceived 50 = .ok (.putfield 185, 3) := by decide +kernel
theorem dX8_addReceived_53 : decode cX8_addReceived 53 = .ok (.return_, 1) := by decide +kernel
set_option maxRecDepth 20000 in
theorem ggX8_stepLate_X5_isEmpty : GoodIn wsX8_stepLate wsX5_isEmpty := goodIn_r _ [11, 12, 47, 48, 49] (by decide +kernel) (by decide +kernel)
set_option maxRecDepth 20000 in
theorem gX8_stepLate_X5_isEmpty : GoodIn wsX8_stepLate (wsV RX8 230 RX5 yX5_isEmpty wsX5_isEmpty) := goodIn_app (goodIn_of _ (by decide +kernel)) ggX8_stepLate_X5_isEmpty
set_option maxRecDepth 20000 in
theorem ggX8_stepLate_X7_beats : GoodIn wsX8_stepLate wsX7_beats := goodIn_r _ [16, 17, 18, 15, 19, 20, 21, 22, 23, 24, 25, 26, 27, 28] (by decide +kernel) (by decide +kernel)
set_option maxRecDepth 20000 in
theorem gX8_stepLate_X7_beats : GoodIn wsX8_stepLate (va_wsS RX8 277 yX7_beats wsX7_beats) := goodIn_app (goodIn_of _ (by decide +kernel)) ggX8_stepLate_X7_beats
theorem dX8_stepLate_0 : decode cX8_stepLate 0 = .ok (.aload_n 0, 1) := by decide +kernel
theorem dX8_stepLate_1 : decode cX8_stepLate 1 = .ok (.getfield 172, 3) := by decide +kernel
theorem dX8_stepLate_4 : decode cX8_stepLate 4 = .ok (.ifCond .eq 13, 3) := by decide +kernel
theorem dX8_stepLate_7 : decode cX8_stepLate 7 = .ok (.aload_n 0, 1) := by decide +kernel
theorem dX8_stepLate_8 : decode cX8_stepLate 8 = .ok (.getfield 21, 3) := by decide +kernel
theorem dX8_stepLate_11 : decode cX8_stepLate 11 = .ok (.invokevirtual 230, 3) := by decide +kernel
theorem dX8_stepLate_14 : decode cX8_stepLate 14 = .ok (.ifCond .eq 4, 3) := by decide +kernel
theorem dX8_stepLate_17 : decode cX8_stepLate 17 = .ok (.return_, 1) := by decide +kernel
theorem dX8_stepLate_18 : decode cX8_stepLate 18 = .ok (.aload_n 0, 1) := by decide +kernel
theorem dX8_stepLate_19 : decode cX8_stepLate 19 = .ok (.getfield 127, 3) := by decide +kernel
theorem dX8_stepLate_22 : decode cX8_stepLate 22 = .ok (.aload_n 0, 1) := by decide +kernel
theorem dX8_stepLate_23 : decode cX8_stepLate 23 = .ok (.getfield 185, 3) := by decide +kernel
theorem dX8_stepLate_26 : decode cX8_stepLate 26 = .ok (.isub, 1) := by decide +kernel
theorem dX8_stepLate_27 : decode cX8_stepLate 27 = .ok (.iconst 4, 1) := by decide +kernel
theorem dX8_stepLate_28 : decode cX8_stepLate 28 = .ok (.aload_n 0, 1) := by decide +kernel
theorem dX8_stepLate_29 : decode cX8_stepLate 29 = .ok (.getfield 73, 3) := by decide +kernel
theorem dX8_stepLate_32 : decode cX8_stepLate 32 = .ok (.invokestatic 277, 3) := by decide +kernel
theorem dX8_stepLate_35 : decode cX8_stepLate 35 = .ok (.imul, 1) := by decide +kernel
theorem dX8_stepLate_36 : decode cX8_stepLate 36 = .ok (.if_icmp .lt 8, 3) := by decide +kernel
theorem dX8_stepLate_39 : decode cX8_stepLate 39 = .ok (.aload_n 0, 1) := by decide +kernel
theorem dX8_stepLate_40 : decode cX8_stepLate 40 = .ok (.iconst 1, 1) := by decide +kernel
theorem dX8_stepLate_41 : decode cX8_stepLate 41 = .ok (.putfield 182, 3) := by decide +kernel
theorem dX8_stepLate_44 : decode cX8_stepLate 44 = .ok (.return_, 1) := by decide +kernel
set_option maxRecDepth 20000 in
theorem ggX9_init_X9_reset : GoodIn wsX9_init wsX9_reset := goodIn_r _ [17, 18, 19, 20, 21, 22, 23, 24, 25, 26, 27, 28, 29, 30, 31, 32, 33, 34, 35, 36, 37, 38, 39, 40, 41, 42, 43, 44, 45, 46, 47, 48, 49, 50, 51, 52, 53, 54, 55, 56, 57, 58, 59, 60, 61, 62, 63, 64, 65, 66, 67, 68, 69, 70, 71, 72, 73, 74, 75, 76, 77, 78, 79, 80, 81, 82, 83] (by decide +kernel) (by decide +kernel)
set_option maxRecDepth 20000 in
theorem gX9_init_X9_reset : GoodIn wsX9_init (wsV RX9 32 RX9 yX9_reset wsX9_reset) := goodIn_app (goodIn_of _ (by decide +kernel)) ggX9_init_X9_reset
theorem dX9_init_0 : decode cX9_init 0 = .ok (.aload_n 0, 1) := by decide +kernel
theorem dX9_init_1 : decode cX9_init 1 = .ok (.invokespecial 1, 3) := by decide +kernel
theorem dX9_init_4 : decode cX9_init 4 = .ok (.aload_n 0, 1) := by decide +kernel
theorem dX9_init_5 : decode cX9_init 5 = .ok (.bipush 16, 2) := by decide +kernel
theorem dX9_init_7 : decode cX9_init 7 = .ok (.newarray .int, 2) := by decide +kernel
theorem dX9_init_9 : decode cX9_init 9 = .ok (.putfield 9, 3) := by decide +kernel
theorem dX9_init_12 : decode cX9_init 12 = .ok (.aload_n 0, 1) := by decide +kernel
theorem dX9_init_13 : decode cX9_init 13 = .ok (.bipush 16, 2) := by decide +kernel
theorem dX9_init_15 : decode cX9_init 15 = .ok (.newarray .int, 2) := by decide +kernel
theorem dX9_init_17 : decode cX9_init 17 = .ok (.putfield 13, 3) := by decide +kernel
theorem dX9_init_20 : decode cX9_init 20 = .ok (.aload_n 0, 1) := by decide +kernel
theorem dX9_init_21 : decode cX9_init 21 = .ok (.bipush 16, 2) := by decide +kernel
theorem dX9_init_23 : decode cX9_init 23 = .ok (.newarray .int, 2) := by decide +kernel
theorem dX9_init_25 : decode cX9_init 25 = .ok (.putfield 16, 3) := by decide +kernel
theorem dX9_init_28 : decode cX9_init 28 = .ok (.aload_n 0, 1) := by decide +kernel
theorem dX9_init_29 : decode cX9_init 29 = .ok (.sipush 500, 3) := by decide +kernel
theorem dX9_init_32 : decode cX9_init 32 = .ok (.newarray .boolean, 2) := by decide +kernel
theorem dX9_init_34 : decode cX9_init 34 = .ok (.putfield 19, 3) := by decide +kernel
theorem dX9_init_37 : decode cX9_init 37 = .ok (.aload_n 0, 1) := by decide +kernel
theorem dX9_init_38 : decode cX9_init 38 = .ok (.sipush 500, 3) := by decide +kernel
theorem dX9_init_41 : decode cX9_init 41 = .ok (.newarray .int, 2) := by decide +kernel
theorem dX9_init_43 : decode cX9_init 43 = .ok (.putfield 23, 3) := by decide +kernel
theorem dX9_init_46 : decode cX9_init 46 = .ok (.aload_n 0, 1) := by decide +kernel
theorem dX9_init_47 : decode cX9_init 47 = .ok (.bipush 40, 2) := by decide +kernel
theorem dX9_init_49 : decode cX9_init 49 = .ok (.newarray .boolean, 2) := by decide +kernel
theorem dX9_init_51 : decode cX9_init 51 = .ok (.putfield 26, 3) := by decide +kernel
theorem dX9_init_54 : decode cX9_init 54 = .ok (.aload_n 0, 1) := by decide +kernel
theorem dX9_init_55 : decode cX9_init 55 = .ok (.bipush 40, 2) := by decide +kernel
theorem dX9_init_57 : decode cX9_init 57 = .ok (.newarray .int, 2) := by decide +kernel
theorem dX9_init_59 : decode cX9_init 59 = .ok (.putfield 29, 3) := by decide +kernel
theorem dX9_init_62 : decode cX9_init 62 = .ok (.aload_n 0, 1) := by decide +kernel
theorem dX9_init_63 : decode cX9_init 63 = .ok (.invokevirtual 32, 3) := by decide +kernel
theorem dX9_init_66 : decode cX9_init 66 = .ok (.return_, 1) := by decide +kernel
theorem dX9_thrown_0 : decode cX9_thrown 0 = .ok (.aload_n 0, 1) := by decide +kernel
theorem dX9_thrown_1 : decode cX9_thrown 1 = .ok (.getfield 35, 3) := by decide +kernel
theorem dX9_thrown_4 : decode cX9_thrown 4 = .ok (.ireturn, 1) := by decide +kernel
theorem dX9_reset_0 : decode cX9_reset 0 = .ok (.aload_n 0, 1) := by decide +kernel
theorem dX9_reset_1 : decode cX9_reset 1 = .ok (.iconst 0, 1) := by decide +kernel
theorem dX9_reset_2 : decode cX9_reset 2 = .ok (.putfield 35, 3) := by decide +kernel
theorem dX9_reset_5 : decode cX9_reset 5 = .ok (.aload_n 0, 1) := by decide +kernel
theorem dX9_reset_6 : decode cX9_reset 6 = .ok (.iconst 0, 1) := by decide +kernel
theorem dX9_reset_7 : decode cX9_reset 7 = .ok (.putfield 39, 3) := by decide +kernel
theorem dX9_reset_10 : decode cX9_reset 10 = .ok (.aload_n 0, 1) := by decide +kernel
theorem dX9_reset_11 : decode cX9_reset 11 = .ok (.iconst 0, 1) := by decide +kernel
theorem dX9_reset_12 : decode cX9_reset 12 = .ok (.putfield 42, 3) := by decide +kernel
theorem dX9_reset_15 : decode cX9_reset 15 = .ok (.aload_n 0, 1) := by decide +kernel
theorem dX9_reset_16 : decode cX9_reset 16 = .ok (.iconst 0, 1) := by decide +kernel
theorem dX9_reset_17 : decode cX9_reset 17 = .ok (.putfield 45, 3) := by decide +kernel
theorem dX9_reset_20 : decode cX9_reset 20 = .ok (.aload_n 0, 1) := by decide +kernel
theorem dX9_reset_21 : decode cX9_reset 21 = .ok (.iconst 0, 1) := by decide +kernel
theorem dX9_reset_22 : decode cX9_reset 22 = .ok (.putfield 48, 3) := by decide +kernel
theorem dX9_reset_25 : decode cX9_reset 25 = .ok (.aload_n 0, 1) := by decide +kernel
theorem dX9_reset_26 : decode cX9_reset 26 = .ok (.iconst 1, 1) := by decide +kernel
theorem dX9_reset_27 : decode cX9_reset 27 = .ok (.putfield 52, 3) := by decide +kernel
theorem dX9_reset_30 : decode cX9_reset 30 = .ok (.aload_n 0, 1) := by decide +kernel
theorem dX9_reset_31 : decode cX9_reset 31 = .ok (.iconst 0, 1) := by decide +kernel
theorem dX9_reset_32 : decode cX9_reset 32 = .ok (.putfield 55, 3) := by decide +kernel
theorem dX9_reset_35 : decode cX9_reset 35 = .ok (.aload_n 0, 1) := by decide +kernel
theorem dX9_reset_36 : decode cX9_reset 36 = .ok (.iconst 0, 1) := by decide +kernel
theorem dX9_reset_37 : decode cX9_reset 37 = .ok (.putfield 58, 3) := by decide +kernel
theorem dX9_reset_40 : decode cX9_reset 40 = .ok (.aload_n 0, 1) := by decide +kernel
theorem dX9_reset_41 : decode cX9_reset 41 = .ok (.iconst 0, 1) := by decide +kernel
theorem dX9_reset_42 : decode cX9_reset 42 = .ok (.putfield 61, 3) := by decide +kernel
theorem dX9_reset_45 : decode cX9_reset 45 = .ok (.aload_n 0, 1) := by decide +kernel
theorem dX9_reset_46 : decode cX9_reset 46 = .ok (.iconst 0, 1) := by decide +kernel
theorem dX9_reset_47 : decode cX9_reset 47 = .ok (.putfield 64, 3) := by decide +kernel
theorem dX9_reset_50 : decode cX9_reset 50 = .ok (.aload_n 0, 1) := by decide +kernel
theorem dX9_reset_51 : decode cX9_reset 51 = .ok (.iconst 0, 1) := by decide +kernel
theorem dX9_reset_52 : decode cX9_reset 52 = .ok (.putfield 67, 3) := by decide +kernel
theorem dX9_reset_55 : decode cX9_reset 55 = .ok (.aload_n 0, 1) := by decide +kernel
theorem dX9_reset_56 : decode cX9_reset 56 = .ok (.iconst 0, 1) := by decide +kernel
theorem dX9_reset_57 : decode cX9_reset 57 = .ok (.putfield 70, 3) := by decide +kernel
theorem dX9_reset_60 : decode cX9_reset 60 = .ok (.aload_n 0, 1) := by decide +kernel
theorem dX9_reset_61 : decode cX9_reset 61 = .ok (.iconst 0, 1) := by decide +kernel
theorem dX9_reset_62 : decode cX9_reset 62 = .ok (.putfield 73, 3) := by decide +kernel
theorem dX9_reset_65 : decode cX9_reset 65 = .ok (.aload_n 0, 1) := by decide +kernel
theorem dX9_reset_66 : decode cX9_reset 66 = .ok (.iconst 0, 1) := by decide +kernel
theorem dX9_reset_67 : decode cX9_reset 67 = .ok (.putfield 76, 3) := by decide +kernel
theorem dX9_reset_70 : decode cX9_reset 70 = .ok (.aload_n 0, 1) := by decide +kernel
theorem dX9_reset_71 : decode cX9_reset 71 = .ok (.iconst 0, 1) := by decide +kernel
theorem dX9_reset_72 : decode cX9_reset 72 = .ok (.putfield 79, 3) := by decide +kernel
theorem dX9_reset_75 : decode cX9_reset 75 = .ok (.aload_n 0, 1) := by decide +kernel
theorem dX9_reset_76 : decode cX9_reset 76 = .ok (.iconst 0, 1) := by decide +kernel
theorem dX9_reset_77 : decode cX9_reset 77 = .ok (.putfield 82, 3) := by decide +kernel
theorem dX9_reset_80 : decode cX9_reset 80 = .ok (.aload_n 0, 1) := by decide +kernel
theorem dX9_reset_81 : decode cX9_reset 81 = .ok (.iconst 0, 1) := by decide +kernel
theorem dX9_reset_82 : decode cX9_reset 82 = .ok (.putfield 85, 3) := by decide +kernel
theorem dX9_reset_85 : decode cX9_reset 85 = .ok (.aload_n 0, 1) := by decide +kernel
theorem dX9_reset_86 : decode cX9_reset 86 = .ok (.iconst 0, 1) := by decide +kernel
theorem dX9_reset_87 : decode cX9_reset 87 = .ok (.putfield 88, 3) := by decide +kernel
theorem dX9_reset_90 : decode cX9_reset 90 = .ok (.aload_n 0, 1) := by decide +kernel
theorem dX9_reset_91 : decode cX9_reset 91 = .ok (.iconst 1, 1) := by decide +kernel
theorem dX9_reset_92 : decode cX9_reset 92 = .ok (.putfield 91, 3) := by decide +kernel
theorem dX9_reset_95 : decode cX9_reset 95 = .ok (.aload_n 0, 1) := by decide +kernel
theorem dX9_reset_96 : decode cX9_reset 96 = .ok (.iconst 0, 1) := by decide +kernel
theorem dX9_reset_97 : decode cX9_reset 97 = .ok (.putfield 94, 3) := by decide +kernel
theorem dX9_reset_100 : decode cX9_reset 100 = .ok (.aload_n 0, 1) := by decide +kernel
theorem dX9_reset_101 : decode cX9_reset 101 = .ok (.iconst 1, 1) := by decide +kernel
theorem dX9_reset_102 : decode cX9_reset 102 = .ok (.putfield 97, 3) := by decide +kernel
theorem dX9_reset_105 : decode cX9_reset 105 = .ok (.aload_n 0, 1) := by decide +kernel
theorem dX9_reset_106 : decode cX9_reset 106 = .ok (.iconst 0, 1) := by decide +kernel
theorem dX9_reset_107 : decode cX9_reset 107 = .ok (.putfield 100, 3) := by decide +kernel
theorem dX9_reset_110 : decode cX9_reset 110 = .ok (.aload_n 0, 1) := by decide +kernel
theorem dX9_reset_111 : decode cX9_reset 111 = .ok (.iconst 1, 1) := by decide +kernel
theorem dX9_reset_112 : decode cX9_reset 112 = .ok (.putfield 103, 3) := by decide +kernel
theorem dX9_reset_115 : decode cX9_reset 115 = .ok (.aload_n 0, 1) := by decide +kernel
theorem dX9_reset_116 : decode cX9_reset 116 = .ok (.iconst 0, 1) := by decide +kernel
theorem dX9_reset_117 : decode cX9_reset 117 = .ok (.putfield 106, 3) := by decide +kernel
theorem dX9_reset_120 : decode cX9_reset 120 = .ok (.aload_n 0, 1) := by decide +kernel
theorem dX9_reset_121 : decode cX9_reset 121 = .ok (.iconst 1, 1) := by decide +kernel
theorem dX9_reset_122 : decode cX9_reset 122 = .ok (.putfield 109, 3) := by decide +kernel
theorem dX9_reset_125 : decode cX9_reset 125 = .ok (.aload_n 0, 1) := by decide +kernel
theorem dX9_reset_126 : decode cX9_reset 126 = .ok (.iconst 0, 1) := by decide +kernel
theorem dX9_reset_127 : decode cX9_reset 127 = .ok (.putfield 112, 3) := by decide +kernel
theorem dX9_reset_130 : decode cX9_reset 130 = .ok (.return_, 1) := by decide +kernel
theorem dX9_dlab_0 : decode cX9_dlab 0 = .ok (.aload_n 0, 1) := by decide +kernel
theorem dX9_dlab_1 : decode cX9_dlab 1 = .ok (.getfield 55, 3) := by decide +kernel
theorem dX9_dlab_4 : decode cX9_dlab 4 = .ok (.sipush 128, 3) := by decide +kernel
theorem dX9_dlab_7 : decode cX9_dlab 7 = .ok (.iand, 1) := by decide +kernel
theorem dX9_dlab_8 : decode cX9_dlab 8 = .ok (.ifCond .eq 7, 3) := by decide +kernel
theorem dX9_dlab_11 : decode cX9_dlab 11 = .ok (.iconst 1, 1) := by decide +kernel
theorem dX9_dlab_12 : decode cX9_dlab 12 = .ok (.goto 4, 3) := by decide +kernel
theorem dX9_dlab_15 : decode cX9_dlab 15 = .ok (.iconst 0, 1) := by decide +kernel
theorem dX9_dlab_16 : decode cX9_dlab 16 = .ok (.ireturn, 1) := by decide +kernel
theorem dX9_loops_0 : decode cX9_loops 0 = .ok (.aload_n 0, 1) := by decide +kernel
theorem dX9_loops_1 : decode cX9_loops 1 = .ok (.getfield 58, 3) := by decide +kernel
theorem dX9_loops_4 : decode cX9_loops 4 = .ok (.bipush 16, 2) := by decide +kernel
theorem dX9_loops_6 : decode cX9_loops 6 = .ok (.iand, 1) := by decide +kernel
theorem dX9_loops_7 : decode cX9_loops 7 = .ok (.ifCond .eq 7, 3) := by decide +kernel
theorem dX9_loops_10 : decode cX9_loops 10 = .ok (.iconst 1, 1) := by decide +kernel
theorem dX9_loops_11 : decode cX9_loops 11 = .ok (.goto 4, 3) := by decide +kernel
theorem dX9_loops_14 : decode cX9_loops 14 = .ok (.iconst 0, 1) := by decide +kernel
theorem dX9_loops_15 : decode cX9_loops 15 = .ok (.ireturn, 1) := by decide +kernel
theorem dX9_room_0 : decode cX9_room 0 = .ok (.aload_n 0, 1) := by decide +kernel
theorem dX9_room_1 : decode cX9_room 1 = .ok (.getfield 48, 3) := by decide +kernel
theorem dX9_room_4 : decode cX9_room 4 = .ok (.ifCond .eq 8, 3) := by decide +kernel
theorem dX9_room_7 : decode cX9_room 7 = .ok (.bipush 16, 2) := by decide +kernel
theorem dX9_room_9 : decode cX9_room 9 = .ok (.goto 4, 3) := by decide +kernel
theorem dX9_room_12 : decode cX9_room 12 = .ok (.iconst 1, 1) := by decide +kernel
theorem dX9_room_13 : decode cX9_room 13 = .ok (.ireturn, 1) := by decide +kernel
theorem dX9_bitsOf_0 : decode cX9_bitsOf 0 = .ok (.iconst 5, 1) := by decide +kernel
theorem dX9_bitsOf_1 : decode cX9_bitsOf 1 = .ok (.iload_n 0, 1) := by decide +kernel
theorem dX9_bitsOf_2 : decode cX9_bitsOf 2 = .ok (.iconst 3, 1) := by decide +kernel
theorem dX9_bitsOf_3 : decode cX9_bitsOf 3 = .ok (.iand, 1) := by decide +kernel
theorem dX9_bitsOf_4 : decode cX9_bitsOf 4 = .ok (.iadd, 1) := by decide +kernel
theorem dX9_bitsOf_5 : decode cX9_bitsOf 5 = .ok (.ireturn, 1) := by decide +kernel
theorem dX9_hasParity_0 : decode cX9_hasParity 0 = .ok (.iload_n 0, 1) := by decide +kernel
theorem dX9_hasParity_1 : decode cX9_hasParity 1 = .ok (.bipush 8, 2) := by decide +kernel
theorem dX9_hasParity_3 : decode cX9_hasParity 3 = .ok (.iand, 1) := by decide +kernel
theorem dX9_hasParity_4 : decode cX9_hasParity 4 = .ok (.ifCond .eq 7, 3) := by decide +kernel
theorem dX9_hasParity_7 : decode cX9_hasParity 7 = .ok (.iconst 1, 1) := by decide +kernel
theorem dX9_hasParity_8 : decode cX9_hasParity 8 = .ok (.goto 4, 3) := by decide +kernel
theorem dX9_hasParity_11 : decode cX9_hasParity 11 = .ok (.iconst 0, 1) := by decide +kernel
theorem dX9_hasParity_12 : decode cX9_hasParity 12 = .ok (.ireturn, 1) := by decide +kernel
set_option maxRecDepth 20000 in
theorem ggX9_parityOf_X9_bitsOf : GoodIn wsX9_parityOf wsX9_bitsOf := goodIn_r _ [4] (by decide +kernel) (by decide +kernel)
set_option maxRecDepth 20000 in
theorem gX9_parityOf_X9_bitsOf : GoodIn wsX9_parityOf (va_wsS RX9 115 yX9_bitsOf wsX9_bitsOf) := goodIn_app (goodIn_of _ (by decide +kernel)) ggX9_parityOf_X9_bitsOf
set_option maxRecDepth 20000 in
theorem ggX9_parityOf_J6_bitCount_0f7a4 : GoodIn wsX9_parityOf wsJ6_bitCount_0f7a4 := goodIn_r _ [8, 9, 10, 11] (by decide +kernel) (by decide +kernel)
set_option maxRecDepth 20000 in
theorem gX9_parityOf_J6_bitCount_0f7a4 : GoodIn wsX9_parityOf (va_wsS RX9 119 yJ6_bitCount_0f7a4 wsJ6_bitCount_0f7a4) := goodIn_app (goodIn_of _ (by decide +kernel)) ggX9_parityOf_J6_bitCount_0f7a4
theorem dX9_parityOf_0 : decode cX9_parityOf 0 = .ok (.iload_n 0, 1) := by decide +kernel
theorem dX9_parityOf_1 : decode cX9_parityOf 1 = .ok (.bipush 32, 2) := by decide +kernel
theorem dX9_parityOf_3 : decode cX9_parityOf 3 = .ok (.iand, 1) := by decide +kernel
theorem dX9_parityOf_4 : decode cX9_parityOf 4 = .ok (.ifCond .eq 16, 3) := by decide +kernel
theorem dX9_parityOf_7 : decode cX9_parityOf 7 = .ok (.iload_n 0, 1) := by decide +kernel
theorem dX9_parityOf_8 : decode cX9_parityOf 8 = .ok (.bipush 16, 2) := by decide +kernel
theorem dX9_parityOf_10 : decode cX9_parityOf 10 = .ok (.iand, 1) := by decide +kernel
theorem dX9_parityOf_11 : decode cX9_parityOf 11 = .ok (.ifCond .eq 7, 3) := by decide +kernel
theorem dX9_parityOf_14 : decode cX9_parityOf 14 = .ok (.iconst 0, 1) := by decide +kernel
theorem dX9_parityOf_15 : decode cX9_parityOf 15 = .ok (.goto 4, 3) := by decide +kernel
theorem dX9_parityOf_18 : decode cX9_parityOf 18 = .ok (.iconst 1, 1) := by decide +kernel
theorem dX9_parityOf_19 : decode cX9_parityOf 19 = .ok (.ireturn, 1) := by decide +kernel
theorem dX9_parityOf_20 : decode cX9_parityOf 20 = .ok (.iload_n 1, 1) := by decide +kernel
theorem dX9_parityOf_21 : decode cX9_parityOf 21 = .ok (.iconst 1, 1) := by decide +kernel
theorem dX9_parityOf_22 : decode cX9_parityOf 22 = .ok (.iload_n 0, 1) := by decide +kernel
theorem dX9_parityOf_23 : decode cX9_parityOf 23 = .ok (.invokestatic 115, 3) := by decide +kernel
theorem dX9_parityOf_26 : decode cX9_parityOf 26 = .ok (.ishl, 1) := by decide +kernel
theorem dX9_parityOf_27 : decode cX9_parityOf 27 = .ok (.iconst 1, 1) := by decide +kernel
theorem dX9_parityOf_28 : decode cX9_parityOf 28 = .ok (.isub, 1) := by decide +kernel
theorem dX9_parityOf_29 : decode cX9_parityOf 29 = .ok (.iand, 1) := by decide +kernel
theorem dX9_parityOf_30 : decode cX9_parityOf 30 = .ok (.invokestatic 119, 3) := by decide +kernel
theorem dX9_parityOf_33 : decode cX9_parityOf 33 = .ok (.iconst 1, 1) := by decide +kernel
theorem dX9_parityOf_34 : decode cX9_parityOf 34 = .ok (.iand, 1) := by decide +kernel
theorem dX9_parityOf_35 : decode cX9_parityOf 35 = .ok (.istore_n 2, 1) := by decide +kernel
theorem dX9_parityOf_36 : decode cX9_parityOf 36 = .ok (.iload_n 0, 1) := by decide +kernel
theorem dX9_parityOf_37 : decode cX9_parityOf 37 = .ok (.bipush 16, 2) := by decide +kernel
theorem dX9_parityOf_39 : decode cX9_parityOf 39 = .ok (.iand, 1) := by decide +kernel
theorem dX9_parityOf_40 : decode cX9_parityOf 40 = .ok (.ifCond .eq 7, 3) := by decide +kernel
theorem dX9_parityOf_43 : decode cX9_parityOf 43 = .ok (.iload_n 2, 1) := by decide +kernel
theorem dX9_parityOf_44 : decode cX9_parityOf 44 = .ok (.goto 6, 3) := by decide +kernel
theorem dX9_parityOf_47 : decode cX9_parityOf 47 = .ok (.iconst 1, 1) := by decide +kernel
theorem dX9_parityOf_48 : decode cX9_parityOf 48 = .ok (.iload_n 2, 1) := by decide +kernel
theorem dX9_parityOf_49 : decode cX9_parityOf 49 = .ok (.isub, 1) := by decide +kernel
theorem dX9_parityOf_50 : decode cX9_parityOf 50 = .ok (.ireturn, 1) := by decide +kernel
set_option maxRecDepth 20000 in
theorem ggX9_stopOf_X9_bitsOf : GoodIn wsX9_stopOf wsX9_bitsOf := goodIn_r _ [4] (by decide +kernel) (by decide +kernel)
set_option maxRecDepth 20000 in
theorem gX9_stopOf_X9_bitsOf : GoodIn wsX9_stopOf (va_wsS RX9 115 yX9_bitsOf wsX9_bitsOf) := goodIn_app (goodIn_of _ (by decide +kernel)) ggX9_stopOf_X9_bitsOf
theorem dX9_stopOf_0 : decode cX9_stopOf 0 = .ok (.iload_n 0, 1) := by decide +kernel
theorem dX9_stopOf_1 : decode cX9_stopOf 1 = .ok (.iconst 4, 1) := by decide +kernel
theorem dX9_stopOf_2 : decode cX9_stopOf 2 = .ok (.iand, 1) := by decide +kernel
theorem dX9_stopOf_3 : decode cX9_stopOf 3 = .ok (.ifCond .ne 8, 3) := by decide +kernel
theorem dX9_stopOf_6 : decode cX9_stopOf 6 = .ok (.bipush 16, 2) := by decide +kernel
theorem dX9_stopOf_8 : decode cX9_stopOf 8 = .ok (.goto 18, 3) := by decide +kernel
theorem dX9_stopOf_11 : decode cX9_stopOf 11 = .ok (.iload_n 0, 1) := by decide +kernel
theorem dX9_stopOf_12 : decode cX9_stopOf 12 = .ok (.invokestatic 115, 3) := by decide +kernel
theorem dX9_stopOf_15 : decode cX9_stopOf 15 = .ok (.iconst 5, 1) := by decide +kernel
theorem dX9_stopOf_16 : decode cX9_stopOf 16 = .ok (.if_icmp .ne 8, 3) := by decide +kernel
theorem dX9_stopOf_19 : decode cX9_stopOf 19 = .ok (.bipush 24, 2) := by decide +kernel
theorem dX9_stopOf_21 : decode cX9_stopOf 21 = .ok (.goto 5, 3) := by decide +kernel
theorem dX9_stopOf_24 : decode cX9_stopOf 24 = .ok (.bipush 32, 2) := by decide +kernel
theorem dX9_stopOf_26 : decode cX9_stopOf 26 = .ok (.ireturn, 1) := by decide +kernel
set_option maxRecDepth 20000 in
theorem ggX9_frameOf_X9_bitsOf : GoodIn wsX9_frameOf wsX9_bitsOf := goodIn_r _ [4] (by decide +kernel) (by decide +kernel)
set_option maxRecDepth 20000 in
theorem gX9_frameOf_X9_bitsOf : GoodIn wsX9_frameOf (va_wsS RX9 115 yX9_bitsOf wsX9_bitsOf) := goodIn_app (goodIn_of _ (by decide +kernel)) ggX9_frameOf_X9_bitsOf
set_option maxRecDepth 20000 in
theorem ggX9_frameOf_X9_hasParity : GoodIn wsX9_frameOf wsX9_hasParity := goodIn_r _ [7] (by decide +kernel) (by decide +kernel)
set_option maxRecDepth 20000 in
theorem gX9_frameOf_X9_hasParity : GoodIn wsX9_frameOf (va_wsS RX9 124 yX9_hasParity wsX9_hasParity) := goodIn_app (goodIn_of _ (by decide +kernel)) ggX9_frameOf_X9_hasParity
set_option maxRecDepth 20000 in
theorem ggX9_frameOf_X9_stopOf : GoodIn wsX9_frameOf wsX9_stopOf := goodIn_r _ [10, 1, 2, 3, 4] (by decide +kernel) (by decide +kernel)
set_option maxRecDepth 20000 in
theorem gX9_frameOf_X9_stopOf : GoodIn wsX9_frameOf (va_wsS RX9 128 yX9_stopOf wsX9_stopOf) := goodIn_app (goodIn_of _ (by decide +kernel)) ggX9_frameOf_X9_stopOf
theorem dX9_frameOf_0 : decode cX9_frameOf 0 = .ok (.bipush 16, 2) := by decide +kernel
theorem dX9_frameOf_2 : decode cX9_frameOf 2 = .ok (.iconst 1, 1) := by decide +kernel
theorem dX9_frameOf_3 : decode cX9_frameOf 3 = .ok (.iload_n 0, 1) := by decide +kernel
theorem dX9_frameOf_4 : decode cX9_frameOf 4 = .ok (.invokestatic 115, 3) := by decide +kernel
theorem dX9_frameOf_7 : decode cX9_frameOf 7 = .ok (.iadd, 1) := by decide +kernel
theorem dX9_frameOf_8 : decode cX9_frameOf 8 = .ok (.iload_n 0, 1) := by decide +kernel
theorem dX9_frameOf_9 : decode cX9_frameOf 9 = .ok (.invokestatic 124, 3) := by decide +kernel
theorem dX9_frameOf_12 : decode cX9_frameOf 12 = .ok (.ifCond .eq 7, 3) := by decide +kernel
theorem dX9_frameOf_15 : decode cX9_frameOf 15 = .ok (.iconst 1, 1) := by decide +kernel
theorem dX9_frameOf_16 : decode cX9_frameOf 16 = .ok (.goto 4, 3) := by decide +kernel
theorem dX9_frameOf_19 : decode cX9_frameOf 19 = .ok (.iconst 0, 1) := by decide +kernel
theorem dX9_frameOf_20 : decode cX9_frameOf 20 = .ok (.iadd, 1) := by decide +kernel
theorem dX9_frameOf_21 : decode cX9_frameOf 21 = .ok (.imul, 1) := by decide +kernel
theorem dX9_frameOf_22 : decode cX9_frameOf 22 = .ok (.iload_n 0, 1) := by decide +kernel
theorem dX9_frameOf_23 : decode cX9_frameOf 23 = .ok (.invokestatic 128, 3) := by decide +kernel
theorem dX9_frameOf_26 : decode cX9_frameOf 26 = .ok (.iadd, 1) := by decide +kernel
theorem dX9_frameOf_27 : decode cX9_frameOf 27 = .ok (.ireturn, 1) := by decide +kernel
set_option maxRecDepth 20000 in
theorem ggX9_partOf_X9_bitsOf : GoodIn wsX9_partOf wsX9_bitsOf := goodIn_r _ [4] (by decide +kernel) (by decide +kernel)
set_option maxRecDepth 20000 in
theorem gX9_partOf_X9_bitsOf : GoodIn wsX9_partOf (va_wsS RX9 115 yX9_bitsOf wsX9_bitsOf) := goodIn_app (goodIn_of _ (by decide +kernel)) ggX9_partOf_X9_bitsOf
set_option maxRecDepth 20000 in
theorem ggX9_partOf_X9_hasParity : GoodIn wsX9_partOf wsX9_hasParity := goodIn_r _ [7] (by decide +kernel) (by decide +kernel)
set_option maxRecDepth 20000 in
theorem gX9_partOf_X9_hasParity : GoodIn wsX9_partOf (va_wsS RX9 124 yX9_hasParity wsX9_hasParity) := goodIn_app (goodIn_of _ (by decide +kernel)) ggX9_partOf_X9_hasParity
set_option maxRecDepth 20000 in
theorem ggX9_partOf_X9_parityOf : GoodIn wsX9_partOf wsX9_parityOf := goodIn_r _ [10, 1, 2, 3, 4, 11, 12, 13, 14, 15, 16, 17] (by decide +kernel) (by decide +kernel)
set_option maxRecDepth 20000 in
theorem gX9_partOf_X9_parityOf : GoodIn wsX9_partOf (va_wsS RX9 131 yX9_parityOf wsX9_parityOf) := goodIn_app (goodIn_of _ (by decide +kernel)) ggX9_partOf_X9_parityOf
theorem dX9_partOf_0 : decode cX9_partOf 0 = .ok (.iload_n 0, 1) := by decide +kernel
theorem dX9_partOf_1 : decode cX9_partOf 1 = .ok (.invokestatic 115, 3) := by decide +kernel
theorem dX9_partOf_4 : decode cX9_partOf 4 = .ok (.istore_n 3, 1) := by decide +kernel
theorem dX9_partOf_5 : decode cX9_partOf 5 = .ok (.iload_n 2, 1) := by decide +kernel
theorem dX9_partOf_6 : decode cX9_partOf 6 = .ok (.ifCond .ne 5, 3) := by decide +kernel
theorem dX9_partOf_9 : decode cX9_partOf 9 = .ok (.iconst 0, 1) := by decide +kernel
theorem dX9_partOf_10 : decode cX9_partOf 10 = .ok (.ireturn, 1) := by decide +kernel
theorem dX9_partOf_11 : decode cX9_partOf 11 = .ok (.iload_n 2, 1) := by decide +kernel
theorem dX9_partOf_12 : decode cX9_partOf 12 = .ok (.iload_n 3, 1) := by decide +kernel
theorem dX9_partOf_13 : decode cX9_partOf 13 = .ok (.if_icmp .gt 20, 3) := by decide +kernel
theorem dX9_partOf_16 : decode cX9_partOf 16 = .ok (.iload_n 1, 1) := by decide +kernel
theorem dX9_partOf_17 : decode cX9_partOf 17 = .ok (.iload_n 2, 1) := by decide +kernel
theorem dX9_partOf_18 : decode cX9_partOf 18 = .ok (.iconst 1, 1) := by decide +kernel
theorem dX9_partOf_19 : decode cX9_partOf 19 = .ok (.isub, 1) := by decide +kernel
theorem dX9_partOf_20 : decode cX9_partOf 20 = .ok (.ishr, 1) := by decide +kernel
theorem dX9_partOf_21 : decode cX9_partOf 21 = .ok (.iconst 1, 1) := by decide +kernel
theorem dX9_partOf_22 : decode cX9_partOf 22 = .ok (.iand, 1) := by decide +kernel
theorem dX9_partOf_23 : decode cX9_partOf 23 = .ok (.iconst 1, 1) := by decide +kernel
theorem dX9_partOf_24 : decode cX9_partOf 24 = .ok (.if_icmp .ne 7, 3) := by decide +kernel
theorem dX9_partOf_27 : decode cX9_partOf 27 = .ok (.iconst 1, 1) := by decide +kernel
theorem dX9_partOf_28 : decode cX9_partOf 28 = .ok (.goto 4, 3) := by decide +kernel
theorem dX9_partOf_31 : decode cX9_partOf 31 = .ok (.iconst 0, 1) := by decide +kernel
theorem dX9_partOf_32 : decode cX9_partOf 32 = .ok (.ireturn, 1) := by decide +kernel
theorem dX9_partOf_33 : decode cX9_partOf 33 = .ok (.iload_n 2, 1) := by decide +kernel
theorem dX9_partOf_34 : decode cX9_partOf 34 = .ok (.iload_n 3, 1) := by decide +kernel
theorem dX9_partOf_35 : decode cX9_partOf 35 = .ok (.iconst 1, 1) := by decide +kernel
theorem dX9_partOf_36 : decode cX9_partOf 36 = .ok (.iadd, 1) := by decide +kernel
theorem dX9_partOf_37 : decode cX9_partOf 37 = .ok (.if_icmp .gt 19, 3) := by decide +kernel
theorem dX9_partOf_40 : decode cX9_partOf 40 = .ok (.iload_n 0, 1) := by decide +kernel
theorem dX9_partOf_41 : decode cX9_partOf 41 = .ok (.invokestatic 124, 3) := by decide +kernel
theorem dX9_partOf_44 : decode cX9_partOf 44 = .ok (.ifCond .eq 12, 3) := by decide +kernel
theorem dX9_partOf_47 : decode cX9_partOf 47 = .ok (.iload_n 0, 1) := by decide +kernel
theorem dX9_partOf_48 : decode cX9_partOf 48 = .ok (.iload_n 1, 1) := by decide +kernel
theorem dX9_partOf_49 : decode cX9_partOf 49 = .ok (.invokestatic 131, 3) := by decide +kernel
theorem dX9_partOf_52 : decode cX9_partOf 52 = .ok (.iconst 1, 1) := by decide +kernel
theorem dX9_partOf_53 : decode cX9_partOf 53 = .ok (.if_icmp .ne 7, 3) := by decide +kernel
theorem dX9_partOf_56 : decode cX9_partOf 56 = .ok (.iconst 1, 1) := by decide +kernel
theorem dX9_partOf_57 : decode cX9_partOf 57 = .ok (.goto 4, 3) := by decide +kernel
theorem dX9_partOf_60 : decode cX9_partOf 60 = .ok (.iconst 0, 1) := by decide +kernel
theorem dX9_partOf_61 : decode cX9_partOf 61 = .ok (.ireturn, 1) := by decide +kernel
set_option maxRecDepth 20000 in
theorem ggX9_lines_X9_loops : GoodIn wsX9_lines wsX9_loops := goodIn_r _ [7, 2, 8, 9, 10, 11, 12, 13, 14, 15, 16, 17, 18, 19, 20, 21, 22, 23, 24, 25, 26, 27, 28, 29, 30, 31, 32, 33, 34, 35, 36, 37, 38, 39, 40, 41, 42, 43, 44, 45, 46, 47] (by decide +kernel) (by decide +kernel)
set_option maxRecDepth 20000 in
theorem gX9_lines_X9_loops : GoodIn wsX9_lines (wsV RX9 135 RX9 yX9_loops wsX9_loops) := goodIn_app (goodIn_of _ (by decide +kernel)) ggX9_lines_X9_loops
theorem dX9_lines_0 : decode cX9_lines 0 = .ok (.aload_n 0, 1) := by decide +kernel
theorem dX9_lines_1 : decode cX9_lines 1 = .ok (.invokevirtual 135, 3) := by decide +kernel
theorem dX9_lines_4 : decode cX9_lines 4 = .ok (.ifCond .ne 8, 3) := by decide +kernel
theorem dX9_lines_7 : decode cX9_lines 7 = .ok (.aload_n 0, 1) := by decide +kernel
theorem dX9_lines_8 : decode cX9_lines 8 = .ok (.getfield 64, 3) := by decide +kernel
theorem dX9_lines_11 : decode cX9_lines 11 = .ok (.ireturn, 1) := by decide +kernel
theorem dX9_lines_12 : decode cX9_lines 12 = .ok (.aload_n 0, 1) := by decide +kernel
theorem dX9_lines_13 : decode cX9_lines 13 = .ok (.getfield 58, 3) := by decide +kernel
theorem dX9_lines_16 : decode cX9_lines 16 = .ok (.iconst 1, 1) := by decide +kernel
theorem dX9_lines_17 : decode cX9_lines 17 = .ok (.ishr, 1) := by decide +kernel
theorem dX9_lines_18 : decode cX9_lines 18 = .ok (.iconst 1, 1) := by decide +kernel
theorem dX9_lines_19 : decode cX9_lines 19 = .ok (.iand, 1) := by decide +kernel
theorem dX9_lines_20 : decode cX9_lines 20 = .ok (.iconst 2, 1) := by decide +kernel
theorem dX9_lines_21 : decode cX9_lines 21 = .ok (.aload_n 0, 1) := by decide +kernel
theorem dX9_lines_22 : decode cX9_lines 22 = .ok (.getfield 58, 3) := by decide +kernel
theorem dX9_lines_25 : decode cX9_lines 25 = .ok (.iconst 1, 1) := by decide +kernel
theorem dX9_lines_26 : decode cX9_lines 26 = .ok (.iand, 1) := by decide +kernel
theorem dX9_lines_27 : decode cX9_lines 27 = .ok (.imul, 1) := by decide +kernel
theorem dX9_lines_28 : decode cX9_lines 28 = .ok (.iadd, 1) := by decide +kernel
theorem dX9_lines_29 : decode cX9_lines 29 = .ok (.aload_n 0, 1) := by decide +kernel
theorem dX9_lines_30 : decode cX9_lines 30 = .ok (.getfield 58, 3) := by decide +kernel
theorem dX9_lines_33 : decode cX9_lines 33 = .ok (.iconst 4, 1) := by decide +kernel
theorem dX9_lines_34 : decode cX9_lines 34 = .ok (.iand, 1) := by decide +kernel
theorem dX9_lines_35 : decode cX9_lines 35 = .ok (.iadd, 1) := by decide +kernel
theorem dX9_lines_36 : decode cX9_lines 36 = .ok (.aload_n 0, 1) := by decide +kernel
theorem dX9_lines_37 : decode cX9_lines 37 = .ok (.getfield 58, 3) := by decide +kernel
theorem dX9_lines_40 : decode cX9_lines 40 = .ok (.bipush 8, 2) := by decide +kernel
theorem dX9_lines_42 : decode cX9_lines 42 = .ok (.iand, 1) := by decide +kernel
theorem dX9_lines_43 : decode cX9_lines 43 = .ok (.iadd, 1) := by decide +kernel
theorem dX9_lines_44 : decode cX9_lines 44 = .ok (.ireturn, 1) := by decide +kernel
set_option maxRecDepth 20000 in
theorem ggX9_notice_X9_lines : GoodIn wsX9_notice wsX9_lines := goodIn_r _ [6, 7, 8, 9, 10, 11, 5, 12, 13, 14, 15, 16, 17, 18, 19, 20, 21, 22, 23, 24, 25, 26, 27, 28, 29, 30, 31, 32, 33, 34, 35, 36, 37, 38, 39, 40, 41, 42, 43, 44, 45, 46, 47, 48, 49, 50, 51, 52] (by decide +kernel) (by decide +kernel)
set_option maxRecDepth 20000 in
theorem gX9_notice_X9_lines : GoodIn wsX9_notice (wsV RX9 139 RX9 yX9_lines wsX9_lines) := goodIn_app (goodIn_of _ (by decide +kernel)) ggX9_notice_X9_lines
theorem dX9_notice_0 : decode cX9_notice 0 = .ok (.aload_n 0, 1) := by decide +kernel
theorem dX9_notice_1 : decode cX9_notice 1 = .ok (.invokevirtual 139, 3) := by decide +kernel
theorem dX9_notice_4 : decode cX9_notice 4 = .ok (.istore_n 2, 1) := by decide +kernel
theorem dX9_notice_5 : decode cX9_notice 5 = .ok (.iload_n 1, 1) := by decide +kernel
theorem dX9_notice_6 : decode cX9_notice 6 = .ok (.iload_n 2, 1) := by decide +kernel
theorem dX9_notice_7 : decode cX9_notice 7 = .ok (.ixor, 1) := by decide +kernel
theorem dX9_notice_8 : decode cX9_notice 8 = .ok (.istore_n 3, 1) := by decide +kernel
theorem dX9_notice_9 : decode cX9_notice 9 = .ok (.aload_n 0, 1) := by decide +kernel
theorem dX9_notice_10 : decode cX9_notice 10 = .ok (.dup, 1) := by decide +kernel
theorem dX9_notice_11 : decode cX9_notice 11 = .ok (.getfield 67, 3) := by decide +kernel
theorem dX9_notice_14 : decode cX9_notice 14 = .ok (.iload_n 3, 1) := by decide +kernel
theorem dX9_notice_15 : decode cX9_notice 15 = .ok (.bipush 11, 2) := by decide +kernel
theorem dX9_notice_17 : decode cX9_notice 17 = .ok (.iand, 1) := by decide +kernel
theorem dX9_notice_18 : decode cX9_notice 18 = .ok (.ior, 1) := by decide +kernel
theorem dX9_notice_19 : decode cX9_notice 19 = .ok (.putfield 67, 3) := by decide +kernel
theorem dX9_notice_22 : decode cX9_notice 22 = .ok (.iload_n 1, 1) := by decide +kernel
theorem dX9_notice_23 : decode cX9_notice 23 = .ok (.iconst 4, 1) := by decide +kernel
theorem dX9_notice_24 : decode cX9_notice 24 = .ok (.iand, 1) := by decide +kernel
theorem dX9_notice_25 : decode cX9_notice 25 = .ok (.ifCond .eq 19, 3) := by decide +kernel
theorem dX9_notice_28 : decode cX9_notice 28 = .ok (.iload_n 2, 1) := by decide +kernel
theorem dX9_notice_29 : decode cX9_notice 29 = .ok (.iconst 4, 1) := by decide +kernel
theorem dX9_notice_30 : decode cX9_notice 30 = .ok (.iand, 1) := by decide +kernel
theorem dX9_notice_31 : decode cX9_notice 31 = .ok (.ifCond .ne 13, 3) := by decide +kernel
theorem dX9_notice_34 : decode cX9_notice 34 = .ok (.aload_n 0, 1) := by decide +kernel
theorem dX9_notice_35 : decode cX9_notice 35 = .ok (.dup, 1) := by decide +kernel
theorem dX9_notice_36 : decode cX9_notice 36 = .ok (.getfield 67, 3) := by decide +kernel
theorem dX9_notice_39 : decode cX9_notice 39 = .ok (.iconst 4, 1) := by decide +kernel
theorem dX9_notice_40 : decode cX9_notice 40 = .ok (.ior, 1) := by decide +kernel
theorem dX9_notice_41 : decode cX9_notice 41 = .ok (.putfield 67, 3) := by decide +kernel
theorem dX9_notice_44 : decode cX9_notice 44 = .ok (.return_, 1) := by decide +kernel
set_option maxRecDepth 20000 in
theorem ggX9_inputs_X9_lines : GoodIn wsX9_inputs wsX9_lines := goodIn_r _ [7, 2, 8, 9, 10, 11, 6, 12, 18, 19, 20, 21, 22, 23, 24, 25, 26, 27, 28, 29, 30, 31, 32, 33, 34, 35, 36, 37, 38, 39, 40, 41, 42, 43, 44, 45, 46, 47, 48, 49, 50, 51, 52, 53, 54, 55, 56, 57] (by decide +kernel) (by decide +kernel)
set_option maxRecDepth 20000 in
theorem gX9_inputs_X9_lines : GoodIn wsX9_inputs (wsV RX9 139 RX9 yX9_lines wsX9_lines) := goodIn_app (goodIn_of _ (by decide +kernel)) ggX9_inputs_X9_lines
set_option maxRecDepth 20000 in
theorem ggX9_inputs_X9_notice : GoodIn wsX9_inputs wsX9_notice := goodIn_r _ [16, 17, 3, 4, 5, 6, 7, 2, 8, 9, 10, 11, 12, 18, 19, 20, 21, 22, 23, 24, 25, 26, 27, 28, 29, 30, 31, 32, 33, 34, 35, 36, 37, 38, 39, 40, 41, 42, 43, 44, 45, 46, 47, 48, 49, 50, 51, 52, 53, 54, 55, 56, 57] (by decide +kernel) (by decide +kernel)
set_option maxRecDepth 20000 in
theorem gX9_inputs_X9_notice : GoodIn wsX9_inputs (wsV RX9 143 RX9 yX9_notice wsX9_notice) := goodIn_app (goodIn_of _ (by decide +kernel)) ggX9_inputs_X9_notice
theorem dX9_inputs_0 : decode cX9_inputs 0 = .ok (.aload_n 0, 1) := by decide +kernel
theorem dX9_inputs_1 : decode cX9_inputs 1 = .ok (.iconst 0, 1) := by decide +kernel
theorem dX9_inputs_2 : decode cX9_inputs 2 = .ok (.putfield 35, 3) := by decide +kernel
theorem dX9_inputs_5 : decode cX9_inputs 5 = .ok (.iload_n 1, 1) := by decide +kernel
theorem dX9_inputs_6 : decode cX9_inputs 6 = .ok (.ifCond .lt 9, 3) := by decide +kernel
theorem dX9_inputs_9 : decode cX9_inputs 9 = .ok (.iload_n 1, 1) := by decide +kernel
theorem dX9_inputs_10 : decode cX9_inputs 10 = .ok (.bipush 15, 2) := by decide +kernel
theorem dX9_inputs_12 : decode cX9_inputs 12 = .ok (.if_icmp .le 5, 3) := by decide +kernel
theorem dX9_inputs_15 : decode cX9_inputs 15 = .ok (.iconst 0, 1) := by decide +kernel
theorem dX9_inputs_16 : decode cX9_inputs 16 = .ok (.ireturn, 1) := by decide +kernel
theorem dX9_inputs_17 : decode cX9_inputs 17 = .ok (.aload_n 0, 1) := by decide +kernel
theorem dX9_inputs_18 : decode cX9_inputs 18 = .ok (.invokevirtual 139, 3) := by decide +kernel
theorem dX9_inputs_21 : decode cX9_inputs 21 = .ok (.istore_n 2, 1) := by decide +kernel
theorem dX9_inputs_22 : decode cX9_inputs 22 = .ok (.aload_n 0, 1) := by decide +kernel
theorem dX9_inputs_23 : decode cX9_inputs 23 = .ok (.iload_n 1, 1) := by decide +kernel
theorem dX9_inputs_24 : decode cX9_inputs 24 = .ok (.putfield 64, 3) := by decide +kernel
theorem dX9_inputs_27 : decode cX9_inputs 27 = .ok (.aload_n 0, 1) := by decide +kernel
theorem dX9_inputs_28 : decode cX9_inputs 28 = .ok (.iload_n 2, 1) := by decide +kernel
theorem dX9_inputs_29 : decode cX9_inputs 29 = .ok (.invokevirtual 143, 3) := by decide +kernel
theorem dX9_inputs_32 : decode cX9_inputs 32 = .ok (.iconst 1, 1) := by decide +kernel
theorem dX9_inputs_33 : decode cX9_inputs 33 = .ok (.ireturn, 1) := by decide +kernel
theorem dX9_clearReceived_0 : decode cX9_clearReceived 0 = .ok (.aload_n 0, 1) := by decide +kernel
theorem dX9_clearReceived_1 : decode cX9_clearReceived 1 = .ok (.iconst 0, 1) := by decide +kernel
theorem dX9_clearReceived_2 : decode cX9_clearReceived 2 = .ok (.putfield 70, 3) := by decide +kernel
theorem dX9_clearReceived_5 : decode cX9_clearReceived 5 = .ok (.aload_n 0, 1) := by decide +kernel
theorem dX9_clearReceived_6 : decode cX9_clearReceived 6 = .ok (.iconst 0, 1) := by decide +kernel
theorem dX9_clearReceived_7 : decode cX9_clearReceived 7 = .ok (.putfield 82, 3) := by decide +kernel
theorem dX9_clearReceived_10 : decode cX9_clearReceived 10 = .ok (.aload_n 0, 1) := by decide +kernel
theorem dX9_clearReceived_11 : decode cX9_clearReceived 11 = .ok (.iconst 0, 1) := by decide +kernel
theorem dX9_clearReceived_12 : decode cX9_clearReceived 12 = .ok (.putfield 85, 3) := by decide +kernel
theorem dX9_clearReceived_15 : decode cX9_clearReceived 15 = .ok (.return_, 1) := by decide +kernel
set_option maxRecDepth 20000 in
theorem ggX9_write_X9_lines : GoodIn wsX9_write wsX9_lines := goodIn_r _ [18, 19, 12, 20, 21, 22, 17, 23, 44, 45, 46, 47, 48, 49, 50, 51, 52, 53, 54, 55, 56, 57, 58, 59, 60, 61, 62, 63, 64, 65, 66, 67, 68, 69, 70, 71, 72, 73, 74, 75, 76, 77, 78, 79, 80, 81, 82, 83] (by decide +kernel) (by decide +kernel)
set_option maxRecDepth 20000 in
theorem gX9_write_X9_lines : GoodIn wsX9_write (wsV RX9 139 RX9 yX9_lines wsX9_lines) := goodIn_app (goodIn_of _ (by decide +kernel)) ggX9_write_X9_lines
set_option maxRecDepth 20000 in
theorem ggX9_write_X9_dlab : GoodIn wsX9_write wsX9_dlab := goodIn_r _ [27, 11, 44, 45, 46, 47, 48, 49, 50, 51, 52, 53, 54, 55, 56, 57, 58, 59, 60, 61, 62, 63, 64, 65, 66, 67, 68, 69, 70, 71, 72, 73, 74, 75, 76, 77, 78, 79, 80, 81, 82, 83] (by decide +kernel) (by decide +kernel)
set_option maxRecDepth 20000 in
theorem gX9_write_X9_dlab : GoodIn wsX9_write (wsV RX9 147 RX9 yX9_dlab wsX9_dlab) := goodIn_app (goodIn_of _ (by decide +kernel)) ggX9_write_X9_dlab
set_option maxRecDepth 20000 in
theorem ggX9_write_X9_room : GoodIn wsX9_write wsX9_room := goodIn_r _ [31, 8, 44, 45, 46, 47, 48, 49, 50, 51, 52, 53, 54, 55, 56, 57, 58, 59, 60, 61, 62, 63, 64, 65, 66, 67, 68, 69, 70, 71, 72, 73, 74, 75, 76, 77, 78, 79, 80, 81, 82, 83] (by decide +kernel) (by decide +kernel)
set_option maxRecDepth 20000 in
theorem gX9_write_X9_room : GoodIn wsX9_write (wsV RX9 151 RX9 yX9_room wsX9_room) := goodIn_app (goodIn_of _ (by decide +kernel)) ggX9_write_X9_room
set_option maxRecDepth 20000 in
theorem ggX9_write_X9_clearReceived : GoodIn wsX9_write wsX9_clearReceived := goodIn_r _ [35, 36, 37, 38, 44, 45, 46, 47, 48, 49, 50, 51, 52, 53, 54, 55, 56, 57, 58, 59, 60, 61, 62, 63, 64, 65, 66, 67, 68, 69, 70, 71, 72, 73, 74, 75, 76, 77, 78, 79, 80, 81, 82, 83] (by decide +kernel) (by decide +kernel)
set_option maxRecDepth 20000 in
theorem gX9_write_X9_clearReceived : GoodIn wsX9_write (wsV RX9 154 RX9 yX9_clearReceived wsX9_clearReceived) := goodIn_app (goodIn_of _ (by decide +kernel)) ggX9_write_X9_clearReceived
set_option maxRecDepth 20000 in
theorem ggX9_write_X9_notice : GoodIn wsX9_write wsX9_notice := goodIn_r _ [42, 43, 14, 15, 16, 17, 18, 19, 12, 20, 21, 22, 23, 44, 45, 46, 47, 48, 49, 50, 51, 52, 53, 54, 55, 56, 57, 58, 59, 60, 61, 62, 63, 64, 65, 66, 67, 68, 69, 70, 71, 72, 73, 74, 75, 76, 77, 78, 79, 80, 81, 82, 83] (by decide +kernel) (by decide +kernel)
set_option maxRecDepth 20000 in
theorem gX9_write_X9_notice : GoodIn wsX9_write (wsV RX9 143 RX9 yX9_notice wsX9_notice) := goodIn_app (goodIn_of _ (by decide +kernel)) ggX9_write_X9_notice
theorem dX9_write_0 : decode cX9_write 0 = .ok (.aload_n 0, 1) := by decide +kernel
theorem dX9_write_1 : decode cX9_write 1 = .ok (.iconst 0, 1) := by decide +kernel
theorem dX9_write_2 : decode cX9_write 2 = .ok (.putfield 35, 3) := by decide +kernel
theorem dX9_write_5 : decode cX9_write 5 = .ok (.iload_n 1, 1) := by decide +kernel
theorem dX9_write_6 : decode cX9_write 6 = .ok (.ifCond .lt 9, 3) := by decide +kernel
theorem dX9_write_9 : decode cX9_write 9 = .ok (.iload_n 1, 1) := by decide +kernel
theorem dX9_write_10 : decode cX9_write 10 = .ok (.bipush 7, 2) := by decide +kernel
theorem dX9_write_12 : decode cX9_write 12 = .ok (.if_icmp .le 9, 3) := by decide +kernel
theorem dX9_write_15 : decode cX9_write 15 = .ok (.aload_n 0, 1) := by decide +kernel
theorem dX9_write_16 : decode cX9_write 16 = .ok (.iconst 1, 1) := by decide +kernel
theorem dX9_write_17 : decode cX9_write 17 = .ok (.putfield 35, 3) := by decide +kernel
theorem dX9_write_20 : decode cX9_write 20 = .ok (.return_, 1) := by decide +kernel
theorem dX9_write_21 : decode cX9_write 21 = .ok (.iload_n 2, 1) := by decide +kernel
theorem dX9_write_22 : decode cX9_write 22 = .ok (.sipush 255, 3) := by decide +kernel
theorem dX9_write_25 : decode cX9_write 25 = .ok (.iand, 1) := by decide +kernel
theorem dX9_write_26 : decode cX9_write 26 = .ok (.istore_n 3, 1) := by decide +kernel
theorem dX9_write_27 : decode cX9_write 27 = .ok (.aload_n 0, 1) := by decide +kernel
theorem dX9_write_28 : decode cX9_write 28 = .ok (.invokevirtual 139, 3) := by decide +kernel
theorem dX9_write_31 : decode cX9_write 31 = .ok (.istore 4, 2) := by decide +kernel
theorem dX9_write_33 : decode cX9_write 33 = .ok (.iload_n 1, 1) := by decide +kernel
theorem dX9_write_34 : decode cX9_write 34 = .ok (.tableswitch 341 0 7 #[46, 130, 200, 308, 316, 341, 341, 333], 46) := by decide +kernel
theorem dX9_write_80 : decode cX9_write 80 = .ok (.aload_n 0, 1) := by decide +kernel
theorem dX9_write_81 : decode cX9_write 81 = .ok (.invokevirtual 147, 3) := by decide +kernel
theorem dX9_write_84 : decode cX9_write 84 = .ok (.ifCond .eq 24, 3) := by decide +kernel
theorem dX9_write_87 : decode cX9_write 87 = .ok (.aload_n 0, 1) := by decide +kernel
theorem dX9_write_88 : decode cX9_write 88 = .ok (.aload_n 0, 1) := by decide +kernel
theorem dX9_write_89 : decode cX9_write 89 = .ok (.getfield 39, 3) := by decide +kernel
theorem dX9_write_92 : decode cX9_write 92 = .ok (.ldc 150, 2) := by decide +kernel
theorem dX9_write_94 : decode cX9_write 94 = .ok (.iand, 1) := by decide +kernel
theorem dX9_write_95 : decode cX9_write 95 = .ok (.iload_n 3, 1) := by decide +kernel
theorem dX9_write_96 : decode cX9_write 96 = .ok (.ior, 1) := by decide +kernel
theorem dX9_write_97 : decode cX9_write 97 = .ok (.putfield 39, 3) := by decide +kernel
theorem dX9_write_100 : decode cX9_write 100 = .ok (.aload_n 0, 1) := by decide +kernel
theorem dX9_write_101 : decode cX9_write 101 = .ok (.iconst 0, 1) := by decide +kernel
theorem dX9_write_102 : decode cX9_write 102 = .ok (.putfield 42, 3) := by decide +kernel
theorem dX9_write_105 : decode cX9_write 105 = .ok (.goto 270, 3) := by decide +kernel
theorem dX9_write_108 : decode cX9_write 108 = .ok (.aload_n 0, 1) := by decide +kernel
theorem dX9_write_109 : decode cX9_write 109 = .ok (.iconst 0, 1) := by decide +kernel
theorem dX9_write_110 : decode cX9_write 110 = .ok (.putfield 79, 3) := by decide +kernel
theorem dX9_write_113 : decode cX9_write 113 = .ok (.aload_n 0, 1) := by decide +kernel
theorem dX9_write_114 : decode cX9_write 114 = .ok (.getfield 76, 3) := by decide +kernel
theorem dX9_write_117 : decode cX9_write 117 = .ok (.aload_n 0, 1) := by decide +kernel
theorem dX9_write_118 : decode cX9_write 118 = .ok (.invokevirtual 151, 3) := by decide +kernel
theorem dX9_write_121 : decode cX9_write 121 = .ok (.if_icmp .ge 26, 3) := by decide +kernel
theorem dX9_write_124 : decode cX9_write 124 = .ok (.aload_n 0, 1) := by decide +kernel
theorem dX9_write_125 : decode cX9_write 125 = .ok (.getfield 16, 3) := by decide +kernel
theorem dX9_write_128 : decode cX9_write 128 = .ok (.aload_n 0, 1) := by decide +kernel
theorem dX9_write_129 : decode cX9_write 129 = .ok (.getfield 76, 3) := by decide +kernel
theorem dX9_write_132 : decode cX9_write 132 = .ok (.iload_n 3, 1) := by decide +kernel
theorem dX9_write_133 : decode cX9_write 133 = .ok (.iastore, 1) := by decide +kernel
theorem dX9_write_134 : decode cX9_write 134 = .ok (.aload_n 0, 1) := by decide +kernel
theorem dX9_write_135 : decode cX9_write 135 = .ok (.dup, 1) := by decide +kernel
theorem dX9_write_136 : decode cX9_write 136 = .ok (.getfield 76, 3) := by decide +kernel
theorem dX9_write_139 : decode cX9_write 139 = .ok (.iconst 1, 1) := by decide +kernel
theorem dX9_write_140 : decode cX9_write 140 = .ok (.iadd, 1) := by decide +kernel
theorem dX9_write_141 : decode cX9_write 141 = .ok (.putfield 76, 3) := by decide +kernel
theorem dX9_write_144 : decode cX9_write 144 = .ok (.goto 231, 3) := by decide +kernel
theorem dX9_write_147 : decode cX9_write 147 = .ok (.aload_n 0, 1) := by decide +kernel
theorem dX9_write_148 : decode cX9_write 148 = .ok (.getfield 48, 3) := by decide +kernel
theorem dX9_write_151 : decode cX9_write 151 = .ok (.ifCond .ne 224, 3) := by decide +kernel
theorem dX9_write_154 : decode cX9_write 154 = .ok (.aload_n 0, 1) := by decide +kernel
theorem dX9_write_155 : decode cX9_write 155 = .ok (.getfield 16, 3) := by decide +kernel
theorem dX9_write_158 : decode cX9_write 158 = .ok (.iconst 0, 1) := by decide +kernel
theorem dX9_write_159 : decode cX9_write 159 = .ok (.iload_n 3, 1) := by decide +kernel
theorem dX9_write_160 : decode cX9_write 160 = .ok (.iastore, 1) := by decide +kernel
theorem dX9_write_161 : decode cX9_write 161 = .ok (.goto 214, 3) := by decide +kernel
theorem dX9_write_164 : decode cX9_write 164 = .ok (.aload_n 0, 1) := by decide +kernel
theorem dX9_write_165 : decode cX9_write 165 = .ok (.invokevirtual 147, 3) := by decide +kernel
theorem dX9_write_168 : decode cX9_write 168 = .ok (.ifCond .eq 28, 3) := by decide +kernel
theorem dX9_write_171 : decode cX9_write 171 = .ok (.aload_n 0, 1) := by decide +kernel
theorem dX9_write_172 : decode cX9_write 172 = .ok (.aload_n 0, 1) := by decide +kernel
theorem dX9_write_173 : decode cX9_write 173 = .ok (.getfield 39, 3) := by decide +kernel
theorem dX9_write_176 : decode cX9_write 176 = .ok (.sipush 255, 3) := by decide +kernel
theorem dX9_write_179 : decode cX9_write 179 = .ok (.iand, 1) := by decide +kernel
theorem dX9_write_180 : decode cX9_write 180 = .ok (.iload_n 3, 1) := by decide +kernel
theorem dX9_write_181 : decode cX9_write 181 = .ok (.bipush 8, 2) := by decide +kernel
theorem dX9_write_183 : decode cX9_write 183 = .ok (.ishl, 1) := by decide +kernel
theorem dX9_write_184 : decode cX9_write 184 = .ok (.ior, 1) := by decide +kernel
theorem dX9_write_185 : decode cX9_write 185 = .ok (.putfield 39, 3) := by decide +kernel
theorem dX9_write_188 : decode cX9_write 188 = .ok (.aload_n 0, 1) := by decide +kernel
theorem dX9_write_189 : decode cX9_write 189 = .ok (.iconst 0, 1) := by decide +kernel
theorem dX9_write_190 : decode cX9_write 190 = .ok (.putfield 42, 3) := by decide +kernel
theorem dX9_write_193 : decode cX9_write 193 = .ok (.goto 182, 3) := by decide +kernel
theorem dX9_write_196 : decode cX9_write 196 = .ok (.iload_n 3, 1) := by decide +kernel
theorem dX9_write_197 : decode cX9_write 197 = .ok (.iconst 2, 1) := by decide +kernel
theorem dX9_write_198 : decode cX9_write 198 = .ok (.iand, 1) := by decide +kernel
theorem dX9_write_199 : decode cX9_write 199 = .ok (.ifCond .eq 24, 3) := by decide +kernel
theorem dX9_write_202 : decode cX9_write 202 = .ok (.aload_n 0, 1) := by decide +kernel
theorem dX9_write_203 : decode cX9_write 203 = .ok (.getfield 45, 3) := by decide +kernel
theorem dX9_write_206 : decode cX9_write 206 = .ok (.iconst 2, 1) := by decide +kernel
theorem dX9_write_207 : decode cX9_write 207 = .ok (.iand, 1) := by decide +kernel
theorem dX9_write_208 : decode cX9_write 208 = .ok (.ifCond .ne 15, 3) := by decide +kernel
theorem dX9_write_211 : decode cX9_write 211 = .ok (.aload_n 0, 1) := by decide +kernel
theorem dX9_write_212 : decode cX9_write 212 = .ok (.getfield 76, 3) := by decide +kernel
theorem dX9_write_215 : decode cX9_write 215 = .ok (.ifCond .ne 8, 3) := by decide +kernel
theorem dX9_write_218 : decode cX9_write 218 = .ok (.aload_n 0, 1) := by decide +kernel
theorem dX9_write_219 : decode cX9_write 219 = .ok (.iconst 1, 1) := by decide +kernel
theorem dX9_write_220 : decode cX9_write 220 = .ok (.putfield 79, 3) := by decide +kernel
theorem dX9_write_223 : decode cX9_write 223 = .ok (.aload_n 0, 1) := by decide +kernel
theorem dX9_write_224 : decode cX9_write 224 = .ok (.iload_n 3, 1) := by decide +kernel
theorem dX9_write_225 : decode cX9_write 225 = .ok (.bipush 15, 2) := by decide +kernel
theorem dX9_write_227 : decode cX9_write 227 = .ok (.iand, 1) := by decide +kernel
theorem dX9_write_228 : decode cX9_write 228 = .ok (.putfield 45, 3) := by decide +kernel
theorem dX9_write_231 : decode cX9_write 231 = .ok (.goto 144, 3) := by decide +kernel
theorem dX9_write_234 : decode cX9_write 234 = .ok (.iload_n 3, 1) := by decide +kernel
theorem dX9_write_235 : decode cX9_write 235 = .ok (.iconst 1, 1) := by decide +kernel
theorem dX9_write_236 : decode cX9_write 236 = .ok (.iand, 1) := by decide +kernel
theorem dX9_write_237 : decode cX9_write 237 = .ok (.ifCond .eq 7, 3) := by decide +kernel
theorem dX9_write_240 : decode cX9_write 240 = .ok (.iconst 1, 1) := by decide +kernel
theorem dX9_write_241 : decode cX9_write 241 = .ok (.goto 4, 3) := by decide +kernel
theorem dX9_write_244 : decode cX9_write 244 = .ok (.iconst 0, 1) := by decide +kernel
theorem dX9_write_245 : decode cX9_write 245 = .ok (.istore 5, 2) := by decide +kernel
theorem dX9_write_247 : decode cX9_write 247 = .ok (.iload 5, 2) := by decide +kernel
theorem dX9_write_249 : decode cX9_write 249 = .ok (.aload_n 0, 1) := by decide +kernel
theorem dX9_write_250 : decode cX9_write 250 = .ok (.getfield 48, 3) := by decide +kernel
theorem dX9_write_253 : decode cX9_write 253 = .ok (.if_icmp .eq 18, 3) := by decide +kernel
theorem dX9_write_256 : decode cX9_write 256 = .ok (.aload_n 0, 1) := by decide +kernel
theorem dX9_write_257 : decode cX9_write 257 = .ok (.iload 5, 2) := by decide +kernel
theorem dX9_write_259 : decode cX9_write 259 = .ok (.putfield 48, 3) := by decide +kernel
theorem dX9_write_262 : decode cX9_write 262 = .ok (.aload_n 0, 1) := by decide +kernel
theorem dX9_write_263 : decode cX9_write 263 = .ok (.invokevirtual 154, 3) := by decide +kernel
theorem dX9_write_266 : decode cX9_write 266 = .ok (.aload_n 0, 1) := by decide +kernel
theorem dX9_write_267 : decode cX9_write 267 = .ok (.iconst 0, 1) := by decide +kernel
theorem dX9_write_268 : decode cX9_write 268 = .ok (.putfield 76, 3) := by decide +kernel
theorem dX9_write_271 : decode cX9_write 271 = .ok (.iload 5, 2) := by decide +kernel
theorem dX9_write_273 : decode cX9_write 273 = .ok (.ifCond .eq 102, 3) := by decide +kernel
theorem dX9_write_276 : decode cX9_write 276 = .ok (.iload_n 3, 1) := by decide +kernel
theorem dX9_write_277 : decode cX9_write 277 = .ok (.iconst 2, 1) := by decide +kernel
theorem dX9_write_278 : decode cX9_write 278 = .ok (.iand, 1) := by decide +kernel
theorem dX9_write_279 : decode cX9_write 279 = .ok (.ifCond .eq 7, 3) := by decide +kernel
theorem dX9_write_282 : decode cX9_write 282 = .ok (.aload_n 0, 1) := by decide +kernel
theorem dX9_write_283 : decode cX9_write 283 = .ok (.invokevirtual 154, 3) := by decide +kernel
theorem dX9_write_286 : decode cX9_write 286 = .ok (.iload_n 3, 1) := by decide +kernel
theorem dX9_write_287 : decode cX9_write 287 = .ok (.iconst 4, 1) := by decide +kernel
theorem dX9_write_288 : decode cX9_write 288 = .ok (.iand, 1) := by decide +kernel
theorem dX9_write_289 : decode cX9_write 289 = .ok (.ifCond .eq 8, 3) := by decide +kernel
theorem dX9_write_292 : decode cX9_write 292 = .ok (.aload_n 0, 1) := by decide +kernel
theorem dX9_write_293 : decode cX9_write 293 = .ok (.iconst 0, 1) := by decide +kernel
theorem dX9_write_294 : decode cX9_write 294 = .ok (.putfield 76, 3) := by decide +kernel
theorem dX9_write_297 : decode cX9_write 297 = .ok (.iload_n 3, 1) := by decide +kernel
theorem dX9_write_298 : decode cX9_write 298 = .ok (.bipush 6, 2) := by decide +kernel
theorem dX9_write_300 : decode cX9_write 300 = .ok (.ishr, 1) := by decide +kernel
theorem dX9_write_301 : decode cX9_write 301 = .ok (.istore 6, 2) := by decide +kernel
theorem dX9_write_303 : decode cX9_write 303 = .ok (.aload_n 0, 1) := by decide +kernel
theorem dX9_write_304 : decode cX9_write 304 = .ok (.iload 6, 2) := by decide +kernel
theorem dX9_write_306 : decode cX9_write 306 = .ok (.ifCond .ne 7, 3) := by decide +kernel
theorem dX9_write_309 : decode cX9_write 309 = .ok (.iconst 1, 1) := by decide +kernel
theorem dX9_write_310 : decode cX9_write 310 = .ok (.goto 26, 3) := by decide +kernel
theorem dX9_write_313 : decode cX9_write 313 = .ok (.iload 6, 2) := by decide +kernel
theorem dX9_write_315 : decode cX9_write 315 = .ok (.iconst 1, 1) := by decide +kernel
theorem dX9_write_316 : decode cX9_write 316 = .ok (.if_icmp .ne 7, 3) := by decide +kernel
theorem dX9_write_319 : decode cX9_write 319 = .ok (.iconst 4, 1) := by decide +kernel
theorem dX9_write_320 : decode cX9_write 320 = .ok (.goto 16, 3) := by decide +kernel
theorem dX9_write_323 : decode cX9_write 323 = .ok (.iload 6, 2) := by decide +kernel
theorem dX9_write_325 : decode cX9_write 325 = .ok (.iconst 2, 1) := by decide +kernel
theorem dX9_write_326 : decode cX9_write 326 = .ok (.if_icmp .ne 8, 3) := by decide +kernel
theorem dX9_write_329 : decode cX9_write 329 = .ok (.bipush 8, 2) := by decide +kernel
theorem dX9_write_331 : decode cX9_write 331 = .ok (.goto 5, 3) := by decide +kernel
theorem dX9_write_334 : decode cX9_write 334 = .ok (.bipush 14, 2) := by decide +kernel
theorem dX9_write_336 : decode cX9_write 336 = .ok (.putfield 52, 3) := by decide +kernel
theorem dX9_write_339 : decode cX9_write 339 = .ok (.goto 36, 3) := by decide +kernel
theorem dX9_write_342 : decode cX9_write 342 = .ok (.aload_n 0, 1) := by decide +kernel
theorem dX9_write_343 : decode cX9_write 343 = .ok (.iload_n 3, 1) := by decide +kernel
theorem dX9_write_344 : decode cX9_write 344 = .ok (.putfield 55, 3) := by decide +kernel
theorem dX9_write_347 : decode cX9_write 347 = .ok (.goto 28, 3) := by decide +kernel
theorem dX9_write_350 : decode cX9_write 350 = .ok (.aload_n 0, 1) := by decide +kernel
theorem dX9_write_351 : decode cX9_write 351 = .ok (.iload_n 3, 1) := by decide +kernel
theorem dX9_write_352 : decode cX9_write 352 = .ok (.bipush 31, 2) := by decide +kernel
theorem dX9_write_354 : decode cX9_write 354 = .ok (.iand, 1) := by decide +kernel
theorem dX9_write_355 : decode cX9_write 355 = .ok (.putfield 58, 3) := by decide +kernel
theorem dX9_write_358 : decode cX9_write 358 = .ok (.aload_n 0, 1) := by decide +kernel
theorem dX9_write_359 : decode cX9_write 359 = .ok (.iload 4, 2) := by decide +kernel
theorem dX9_write_361 : decode cX9_write 361 = .ok (.invokevirtual 143, 3) := by decide +kernel
theorem dX9_write_364 : decode cX9_write 364 = .ok (.goto 11, 3) := by decide +kernel
theorem dX9_write_367 : decode cX9_write 367 = .ok (.aload_n 0, 1) := by decide +kernel
theorem dX9_write_368 : decode cX9_write 368 = .ok (.iload_n 3, 1) := by decide +kernel
theorem dX9_write_369 : decode cX9_write 369 = .ok (.putfield 61, 3) := by decide +kernel
theorem dX9_write_372 : decode cX9_write 372 = .ok (.goto 3, 3) := by decide +kernel
theorem dX9_write_375 : decode cX9_write 375 = .ok (.return_, 1) := by decide +kernel
theorem dX9_isMarked_0 : decode cX9_isMarked 0 = .ok (.aload_n 0, 1) := by decide +kernel
theorem dX9_isMarked_1 : decode cX9_isMarked 1 = .ok (.getfield 70, 3) := by decide +kernel
theorem dX9_isMarked_4 : decode cX9_isMarked 4 = .ok (.ifCond .le 16, 3) := by decide +kernel
theorem dX9_isMarked_7 : decode cX9_isMarked 7 = .ok (.aload_n 0, 1) := by decide +kernel
theorem dX9_isMarked_8 : decode cX9_isMarked 8 = .ok (.getfield 13, 3) := by decide +kernel
theorem dX9_isMarked_11 : decode cX9_isMarked 11 = .ok (.iconst 0, 1) := by decide +kernel
theorem dX9_isMarked_12 : decode cX9_isMarked 12 = .ok (.iaload, 1) := by decide +kernel
theorem dX9_isMarked_13 : decode cX9_isMarked 13 = .ok (.ifCond .eq 7, 3) := by decide +kernel
theorem dX9_isMarked_16 : decode cX9_isMarked 16 = .ok (.iconst 1, 1) := by decide +kernel
theorem dX9_isMarked_17 : decode cX9_isMarked 17 = .ok (.goto 4, 3) := by decide +kernel
theorem dX9_isMarked_20 : decode cX9_isMarked 20 = .ok (.iconst 0, 1) := by decide +kernel
theorem dX9_isMarked_21 : decode cX9_isMarked 21 = .ok (.ireturn, 1) := by decide +kernel
set_option maxRecDepth 20000 in
theorem ggX9_reason_X9_isMarked : GoodIn wsX9_reason wsX9_isMarked := goodIn_r _ [13, 3, 14, 15, 16, 17, 18, 19, 20, 21, 22, 23, 24, 25, 26, 27, 28, 29, 30, 31, 32, 33, 34, 35, 36, 37, 38, 39, 40, 41, 42, 43, 44, 45, 46, 47, 48, 49, 50, 51, 52, 53, 54] (by decide +kernel) (by decide +kernel)
set_option maxRecDepth 20000 in
theorem gX9_reason_X9_isMarked : GoodIn wsX9_reason (wsV RX9 157 RX9 yX9_isMarked wsX9_isMarked) := goodIn_app (goodIn_of _ (by decide +kernel)) ggX9_reason_X9_isMarked
theorem dX9_reason_0 : decode cX9_reason 0 = .ok (.aload_n 0, 1) := by decide +kernel
theorem dX9_reason_1 : decode cX9_reason 1 = .ok (.getfield 45, 3) := by decide +kernel
theorem dX9_reason_4 : decode cX9_reason 4 = .ok (.iconst 4, 1) := by decide +kernel
theorem dX9_reason_5 : decode cX9_reason 5 = .ok (.iand, 1) := by decide +kernel
theorem dX9_reason_6 : decode cX9_reason 6 = .ok (.ifCond .eq 20, 3) := by decide +kernel
theorem dX9_reason_9 : decode cX9_reason 9 = .ok (.aload_n 0, 1) := by decide +kernel
theorem dX9_reason_10 : decode cX9_reason 10 = .ok (.getfield 73, 3) := by decide +kernel
theorem dX9_reason_13 : decode cX9_reason 13 = .ok (.ifCond .ne 10, 3) := by decide +kernel
theorem dX9_reason_16 : decode cX9_reason 16 = .ok (.aload_n 0, 1) := by decide +kernel
theorem dX9_reason_17 : decode cX9_reason 17 = .ok (.invokevirtual 157, 3) := by decide +kernel
theorem dX9_reason_20 : decode cX9_reason 20 = .ok (.ifCond .eq 6, 3) := by decide +kernel
theorem dX9_reason_23 : decode cX9_reason 23 = .ok (.bipush 6, 2) := by decide +kernel
theorem dX9_reason_25 : decode cX9_reason 25 = .ok (.ireturn, 1) := by decide +kernel
theorem dX9_reason_26 : decode cX9_reason 26 = .ok (.aload_n 0, 1) := by decide +kernel
theorem dX9_reason_27 : decode cX9_reason 27 = .ok (.getfield 45, 3) := by decide +kernel
theorem dX9_reason_30 : decode cX9_reason 30 = .ok (.iconst 1, 1) := by decide +kernel
theorem dX9_reason_31 : decode cX9_reason 31 = .ok (.iand, 1) := by decide +kernel
theorem dX9_reason_32 : decode cX9_reason 32 = .ok (.ifCond .eq 44, 3) := by decide +kernel
theorem dX9_reason_35 : decode cX9_reason 35 = .ok (.aload_n 0, 1) := by decide +kernel
theorem dX9_reason_36 : decode cX9_reason 36 = .ok (.getfield 70, 3) := by decide +kernel
theorem dX9_reason_39 : decode cX9_reason 39 = .ok (.aload_n 0, 1) := by decide +kernel
theorem dX9_reason_40 : decode cX9_reason 40 = .ok (.getfield 48, 3) := by decide +kernel
theorem dX9_reason_43 : decode cX9_reason 43 = .ok (.ifCond .eq 10, 3) := by decide +kernel
theorem dX9_reason_46 : decode cX9_reason 46 = .ok (.aload_n 0, 1) := by decide +kernel
theorem dX9_reason_47 : decode cX9_reason 47 = .ok (.getfield 52, 3) := by decide +kernel
theorem dX9_reason_50 : decode cX9_reason 50 = .ok (.goto 4, 3) := by decide +kernel
theorem dX9_reason_53 : decode cX9_reason 53 = .ok (.iconst 1, 1) := by decide +kernel
theorem dX9_reason_54 : decode cX9_reason 54 = .ok (.if_icmp .lt 5, 3) := by decide +kernel
theorem dX9_reason_57 : decode cX9_reason 57 = .ok (.iconst 4, 1) := by decide +kernel
theorem dX9_reason_58 : decode cX9_reason 58 = .ok (.ireturn, 1) := by decide +kernel
theorem dX9_reason_59 : decode cX9_reason 59 = .ok (.aload_n 0, 1) := by decide +kernel
theorem dX9_reason_60 : decode cX9_reason 60 = .ok (.getfield 48, 3) := by decide +kernel
theorem dX9_reason_63 : decode cX9_reason 63 = .ok (.ifCond .eq 13, 3) := by decide +kernel
theorem dX9_reason_66 : decode cX9_reason 66 = .ok (.aload_n 0, 1) := by decide +kernel
theorem dX9_reason_67 : decode cX9_reason 67 = .ok (.getfield 82, 3) := by decide +kernel
theorem dX9_reason_70 : decode cX9_reason 70 = .ok (.ifCond .eq 6, 3) := by decide +kernel
theorem dX9_reason_73 : decode cX9_reason 73 = .ok (.bipush 12, 2) := by decide +kernel
theorem dX9_reason_75 : decode cX9_reason 75 = .ok (.ireturn, 1) := by decide +kernel
theorem dX9_reason_76 : decode cX9_reason 76 = .ok (.aload_n 0, 1) := by decide +kernel
theorem dX9_reason_77 : decode cX9_reason 77 = .ok (.getfield 45, 3) := by decide +kernel
theorem dX9_reason_80 : decode cX9_reason 80 = .ok (.iconst 2, 1) := by decide +kernel
theorem dX9_reason_81 : decode cX9_reason 81 = .ok (.iand, 1) := by decide +kernel
theorem dX9_reason_82 : decode cX9_reason 82 = .ok (.ifCond .eq 12, 3) := by decide +kernel
theorem dX9_reason_85 : decode cX9_reason 85 = .ok (.aload_n 0, 1) := by decide +kernel
theorem dX9_reason_86 : decode cX9_reason 86 = .ok (.getfield 79, 3) := by decide +kernel
theorem dX9_reason_89 : decode cX9_reason 89 = .ok (.ifCond .eq 5, 3) := by decide +kernel
theorem dX9_reason_92 : decode cX9_reason 92 = .ok (.iconst 2, 1) := by decide +kernel
theorem dX9_reason_93 : decode cX9_reason 93 = .ok (.ireturn, 1) := by decide +kernel
theorem dX9_reason_94 : decode cX9_reason 94 = .ok (.aload_n 0, 1) := by decide +kernel
theorem dX9_reason_95 : decode cX9_reason 95 = .ok (.getfield 45, 3) := by decide +kernel
theorem dX9_reason_98 : decode cX9_reason 98 = .ok (.bipush 8, 2) := by decide +kernel
theorem dX9_reason_100 : decode cX9_reason 100 = .ok (.iand, 1) := by decide +kernel
theorem dX9_reason_101 : decode cX9_reason 101 = .ok (.ifCond .eq 14, 3) := by decide +kernel
theorem dX9_reason_104 : decode cX9_reason 104 = .ok (.aload_n 0, 1) := by decide +kernel
theorem dX9_reason_105 : decode cX9_reason 105 = .ok (.getfield 67, 3) := by decide +kernel
theorem dX9_reason_108 : decode cX9_reason 108 = .ok (.ifCond .eq 7, 3) := by decide +kernel
theorem dX9_reason_111 : decode cX9_reason 111 = .ok (.iconst 0, 1) := by decide +kernel
theorem dX9_reason_112 : decode cX9_reason 112 = .ok (.goto 4, 3) := by decide +kernel
theorem dX9_reason_115 : decode cX9_reason 115 = .ok (.iconst 1, 1) := by decide +kernel
theorem dX9_reason_116 : decode cX9_reason 116 = .ok (.ireturn, 1) := by decide +kernel
theorem dX9_line_0 : decode cX9_line 0 = .ok (.aload_n 0, 1) := by decide +kernel
theorem dX9_line_1 : decode cX9_line 1 = .ok (.getfield 70, 3) := by decide +kernel
theorem dX9_line_4 : decode cX9_line 4 = .ok (.ifCond .le 7, 3) := by decide +kernel
theorem dX9_line_7 : decode cX9_line 7 = .ok (.iconst 1, 1) := by decide +kernel
theorem dX9_line_8 : decode cX9_line 8 = .ok (.goto 4, 3) := by decide +kernel
theorem dX9_line_11 : decode cX9_line 11 = .ok (.iconst 0, 1) := by decide +kernel
theorem dX9_line_12 : decode cX9_line 12 = .ok (.aload_n 0, 1) := by decide +kernel
theorem dX9_line_13 : decode cX9_line 13 = .ok (.getfield 73, 3) := by decide +kernel
theorem dX9_line_16 : decode cX9_line 16 = .ok (.ifCond .eq 7, 3) := by decide +kernel
theorem dX9_line_19 : decode cX9_line 19 = .ok (.iconst 2, 1) := by decide +kernel
theorem dX9_line_20 : decode cX9_line 20 = .ok (.goto 4, 3) := by decide +kernel
theorem dX9_line_23 : decode cX9_line 23 = .ok (.iconst 0, 1) := by decide +kernel
theorem dX9_line_24 : decode cX9_line 24 = .ok (.ior, 1) := by decide +kernel
theorem dX9_line_25 : decode cX9_line 25 = .ok (.aload_n 0, 1) := by decide +kernel
theorem dX9_line_26 : decode cX9_line 26 = .ok (.getfield 70, 3) := by decide +kernel
theorem dX9_line_29 : decode cX9_line 29 = .ok (.ifCond .le 12, 3) := by decide +kernel
theorem dX9_line_32 : decode cX9_line 32 = .ok (.aload_n 0, 1) := by decide +kernel
theorem dX9_line_33 : decode cX9_line 33 = .ok (.getfield 13, 3) := by decide +kernel
theorem dX9_line_36 : decode cX9_line 36 = .ok (.iconst 0, 1) := by decide +kernel
theorem dX9_line_37 : decode cX9_line 37 = .ok (.iaload, 1) := by decide +kernel
theorem dX9_line_38 : decode cX9_line 38 = .ok (.goto 4, 3) := by decide +kernel
theorem dX9_line_41 : decode cX9_line 41 = .ok (.iconst 0, 1) := by decide +kernel
theorem dX9_line_42 : decode cX9_line 42 = .ok (.ior, 1) := by decide +kernel
theorem dX9_line_43 : decode cX9_line 43 = .ok (.istore_n 1, 1) := by decide +kernel
theorem dX9_line_44 : decode cX9_line 44 = .ok (.iload_n 1, 1) := by decide +kernel
theorem dX9_line_45 : decode cX9_line 45 = .ok (.aload_n 0, 1) := by decide +kernel
theorem dX9_line_46 : decode cX9_line 46 = .ok (.getfield 76, 3) := by decide +kernel
theorem dX9_line_49 : decode cX9_line 49 = .ok (.ifCond .ne 8, 3) := by decide +kernel
theorem dX9_line_52 : decode cX9_line 52 = .ok (.bipush 32, 2) := by decide +kernel
theorem dX9_line_54 : decode cX9_line 54 = .ok (.goto 4, 3) := by decide +kernel
theorem dX9_line_57 : decode cX9_line 57 = .ok (.iconst 0, 1) := by decide +kernel
theorem dX9_line_58 : decode cX9_line 58 = .ok (.aload_n 0, 1) := by decide +kernel
theorem dX9_line_59 : decode cX9_line 59 = .ok (.getfield 76, 3) := by decide +kernel
theorem dX9_line_62 : decode cX9_line 62 = .ok (.ifCond .ne 15, 3) := by decide +kernel
theorem dX9_line_65 : decode cX9_line 65 = .ok (.aload_n 0, 1) := by decide +kernel
theorem dX9_line_66 : decode cX9_line 66 = .ok (.getfield 94, 3) := by decide +kernel
theorem dX9_line_69 : decode cX9_line 69 = .ok (.ifCond .ne 8, 3) := by decide +kernel
theorem dX9_line_72 : decode cX9_line 72 = .ok (.bipush 64, 2) := by decide +kernel
theorem dX9_line_74 : decode cX9_line 74 = .ok (.goto 4, 3) := by decide +kernel
theorem dX9_line_77 : decode cX9_line 77 = .ok (.iconst 0, 1) := by decide +kernel
theorem dX9_line_78 : decode cX9_line 78 = .ok (.ior, 1) := by decide +kernel
theorem dX9_line_79 : decode cX9_line 79 = .ok (.ior, 1) := by decide +kernel
theorem dX9_line_80 : decode cX9_line 80 = .ok (.istore_n 1, 1) := by decide +kernel
theorem dX9_line_81 : decode cX9_line 81 = .ok (.iconst 0, 1) := by decide +kernel
theorem dX9_line_82 : decode cX9_line 82 = .ok (.istore_n 2, 1) := by decide +kernel
theorem dX9_line_83 : decode cX9_line 83 = .ok (.iconst 0, 1) := by decide +kernel
theorem dX9_line_84 : decode cX9_line 84 = .ok (.istore_n 3, 1) := by decide +kernel
theorem dX9_line_85 : decode cX9_line 85 = .ok (.iload_n 3, 1) := by decide +kernel
theorem dX9_line_86 : decode cX9_line 86 = .ok (.aload_n 0, 1) := by decide +kernel
theorem dX9_line_87 : decode cX9_line 87 = .ok (.getfield 70, 3) := by decide +kernel
theorem dX9_line_90 : decode cX9_line 90 = .ok (.if_icmp .ge 28, 3) := by decide +kernel
theorem dX9_line_93 : decode cX9_line 93 = .ok (.iload_n 2, 1) := by decide +kernel
theorem dX9_line_94 : decode cX9_line 94 = .ok (.ifCond .ne 12, 3) := by decide +kernel
theorem dX9_line_97 : decode cX9_line 97 = .ok (.aload_n 0, 1) := by decide +kernel
theorem dX9_line_98 : decode cX9_line 98 = .ok (.getfield 13, 3) := by decide +kernel
theorem dX9_line_101 : decode cX9_line 101 = .ok (.iload_n 3, 1) := by decide +kernel
theorem dX9_line_102 : decode cX9_line 102 = .ok (.iaload, 1) := by decide +kernel
theorem dX9_line_103 : decode cX9_line 103 = .ok (.ifCond .eq 7, 3) := by decide +kernel
theorem dX9_line_106 : decode cX9_line 106 = .ok (.iconst 1, 1) := by decide +kernel
theorem dX9_line_107 : decode cX9_line 107 = .ok (.goto 4, 3) := by decide +kernel
theorem dX9_line_110 : decode cX9_line 110 = .ok (.iconst 0, 1) := by decide +kernel
theorem dX9_line_111 : decode cX9_line 111 = .ok (.istore_n 2, 1) := by decide +kernel
theorem dX9_line_112 : decode cX9_line 112 = .ok (.iinc 3 1, 3) := by decide +kernel
theorem dX9_line_115 : decode cX9_line 115 = .ok (.goto (-30), 3) := by decide +kernel
theorem dX9_line_118 : decode cX9_line 118 = .ok (.aload_n 0, 1) := by decide +kernel
theorem dX9_line_119 : decode cX9_line 119 = .ok (.getfield 48, 3) := by decide +kernel
theorem dX9_line_122 : decode cX9_line 122 = .ok (.ifCond .eq 13, 3) := by decide +kernel
theorem dX9_line_125 : decode cX9_line 125 = .ok (.iload_n 2, 1) := by decide +kernel
theorem dX9_line_126 : decode cX9_line 126 = .ok (.ifCond .eq 9, 3) := by decide +kernel
theorem dX9_line_129 : decode cX9_line 129 = .ok (.iload_n 1, 1) := by decide +kernel
theorem dX9_line_130 : decode cX9_line 130 = .ok (.sipush 128, 3) := by decide +kernel
theorem dX9_line_133 : decode cX9_line 133 = .ok (.ior, 1) := by decide +kernel
theorem dX9_line_134 : decode cX9_line 134 = .ok (.istore_n 1, 1) := by decide +kernel
theorem dX9_line_135 : decode cX9_line 135 = .ok (.aload_n 0, 1) := by decide +kernel
theorem dX9_line_136 : decode cX9_line 136 = .ok (.iconst 0, 1) := by decide +kernel
theorem dX9_line_137 : decode cX9_line 137 = .ok (.putfield 73, 3) := by decide +kernel
theorem dX9_line_140 : decode cX9_line 140 = .ok (.aload_n 0, 1) := by decide +kernel
theorem dX9_line_141 : decode cX9_line 141 = .ok (.getfield 70, 3) := by decide +kernel
theorem dX9_line_144 : decode cX9_line 144 = .ok (.ifCond .le 10, 3) := by decide +kernel
theorem dX9_line_147 : decode cX9_line 147 = .ok (.aload_n 0, 1) := by decide +kernel
theorem dX9_line_148 : decode cX9_line 148 = .ok (.getfield 13, 3) := by decide +kernel
theorem dX9_line_151 : decode cX9_line 151 = .ok (.iconst 0, 1) := by decide +kernel
theorem dX9_line_152 : decode cX9_line 152 = .ok (.iconst 0, 1) := by decide +kernel
theorem dX9_line_153 : decode cX9_line 153 = .ok (.iastore, 1) := by decide +kernel
theorem dX9_line_154 : decode cX9_line 154 = .ok (.iload_n 1, 1) := by decide +kernel
theorem dX9_line_155 : decode cX9_line 155 = .ok (.ireturn, 1) := by decide +kernel
theorem dX9_take_0 : decode cX9_take 0 = .ok (.aload_n 0, 1) := by decide +kernel
theorem dX9_take_1 : decode cX9_take 1 = .ok (.iconst 0, 1) := by decide +kernel
theorem dX9_take_2 : decode cX9_take 2 = .ok (.putfield 82, 3) := by decide +kernel
theorem dX9_take_5 : decode cX9_take 5 = .ok (.aload_n 0, 1) := by decide +kernel
theorem dX9_take_6 : decode cX9_take 6 = .ok (.iconst 0, 1) := by decide +kernel
theorem dX9_take_7 : decode cX9_take 7 = .ok (.putfield 85, 3) := by decide +kernel
theorem dX9_take_10 : decode cX9_take 10 = .ok (.aload_n 0, 1) := by decide +kernel
theorem dX9_take_11 : decode cX9_take 11 = .ok (.getfield 70, 3) := by decide +kernel
theorem dX9_take_14 : decode cX9_take 14 = .ok (.ifCond .ne 5, 3) := by decide +kernel
theorem dX9_take_17 : decode cX9_take 17 = .ok (.iconst 0, 1) := by decide +kernel
theorem dX9_take_18 : decode cX9_take 18 = .ok (.ireturn, 1) := by decide +kernel
theorem dX9_take_19 : decode cX9_take 19 = .ok (.aload_n 0, 1) := by decide +kernel
theorem dX9_take_20 : decode cX9_take 20 = .ok (.getfield 9, 3) := by decide +kernel
theorem dX9_take_23 : decode cX9_take 23 = .ok (.iconst 0, 1) := by decide +kernel
theorem dX9_take_24 : decode cX9_take 24 = .ok (.iaload, 1) := by decide +kernel
theorem dX9_take_25 : decode cX9_take 25 = .ok (.istore_n 1, 1) := by decide +kernel
theorem dX9_take_26 : decode cX9_take 26 = .ok (.aload_n 0, 1) := by decide +kernel
theorem dX9_take_27 : decode cX9_take 27 = .ok (.dup, 1) := by decide +kernel
theorem dX9_take_28 : decode cX9_take 28 = .ok (.getfield 70, 3) := by decide +kernel
theorem dX9_take_31 : decode cX9_take 31 = .ok (.iconst 1, 1) := by decide +kernel
theorem dX9_take_32 : decode cX9_take 32 = .ok (.isub, 1) := by decide +kernel
theorem dX9_take_33 : decode cX9_take 33 = .ok (.putfield 70, 3) := by decide +kernel
theorem dX9_take_36 : decode cX9_take 36 = .ok (.iconst 0, 1) := by decide +kernel
theorem dX9_take_37 : decode cX9_take 37 = .ok (.istore_n 2, 1) := by decide +kernel
theorem dX9_take_38 : decode cX9_take 38 = .ok (.iload_n 2, 1) := by decide +kernel
theorem dX9_take_39 : decode cX9_take 39 = .ok (.aload_n 0, 1) := by decide +kernel
theorem dX9_take_40 : decode cX9_take 40 = .ok (.getfield 70, 3) := by decide +kernel
theorem dX9_take_43 : decode cX9_take 43 = .ok (.if_icmp .ge 37, 3) := by decide +kernel
theorem dX9_take_46 : decode cX9_take 46 = .ok (.aload_n 0, 1) := by decide +kernel
theorem dX9_take_47 : decode cX9_take 47 = .ok (.getfield 9, 3) := by decide +kernel
theorem dX9_take_50 : decode cX9_take 50 = .ok (.iload_n 2, 1) := by decide +kernel
theorem dX9_take_51 : decode cX9_take 51 = .ok (.aload_n 0, 1) := by decide +kernel
theorem dX9_take_52 : decode cX9_take 52 = .ok (.getfield 9, 3) := by decide +kernel
theorem dX9_take_55 : decode cX9_take 55 = .ok (.iload_n 2, 1) := by decide +kernel
theorem dX9_take_56 : decode cX9_take 56 = .ok (.iconst 1, 1) := by decide +kernel
theorem dX9_take_57 : decode cX9_take 57 = .ok (.iadd, 1) := by decide +kernel
theorem dX9_take_58 : decode cX9_take 58 = .ok (.iaload, 1) := by decide +kernel
theorem dX9_take_59 : decode cX9_take 59 = .ok (.iastore, 1) := by decide +kernel
theorem dX9_take_60 : decode cX9_take 60 = .ok (.aload_n 0, 1) := by decide +kernel
theorem dX9_take_61 : decode cX9_take 61 = .ok (.getfield 13, 3) := by decide +kernel
theorem dX9_take_64 : decode cX9_take 64 = .ok (.iload_n 2, 1) := by decide +kernel
theorem dX9_take_65 : decode cX9_take 65 = .ok (.aload_n 0, 1) := by decide +kernel
theorem dX9_take_66 : decode cX9_take 66 = .ok (.getfield 13, 3) := by decide +kernel
theorem dX9_take_69 : decode cX9_take 69 = .ok (.iload_n 2, 1) := by decide +kernel
theorem dX9_take_70 : decode cX9_take 70 = .ok (.iconst 1, 1) := by decide +kernel
theorem dX9_take_71 : decode cX9_take 71 = .ok (.iadd, 1) := by decide +kernel
theorem dX9_take_72 : decode cX9_take 72 = .ok (.iaload, 1) := by decide +kernel
theorem dX9_take_73 : decode cX9_take 73 = .ok (.iastore, 1) := by decide +kernel
theorem dX9_take_74 : decode cX9_take 74 = .ok (.iinc 2 1, 3) := by decide +kernel
theorem dX9_take_77 : decode cX9_take 77 = .ok (.goto (-39), 3) := by decide +kernel
theorem dX9_take_80 : decode cX9_take 80 = .ok (.iload_n 1, 1) := by decide +kernel
theorem dX9_take_81 : decode cX9_take 81 = .ok (.ireturn, 1) := by decide +kernel
set_option maxRecDepth 20000 in
theorem ggX9_read_X9_dlab : GoodIn wsX9_read wsX9_dlab := goodIn_r _ [14, 6, 49, 50, 51, 52, 53, 54, 55, 56, 57, 58, 59, 60, 61, 62, 63, 64, 65, 66, 67, 68, 69, 70, 71, 72, 73, 74, 75, 76, 77, 78, 79, 80, 81, 82, 83, 84, 85, 86, 87, 88] (by decide +kernel) (by decide +kernel)
set_option maxRecDepth 20000 in
theorem gX9_read_X9_dlab : GoodIn wsX9_read (wsV RX9 147 RX9 yX9_dlab wsX9_dlab) := goodIn_app (goodIn_of _ (by decide +kernel)) ggX9_read_X9_dlab
set_option maxRecDepth 20000 in
theorem ggX9_read_X9_take : GoodIn wsX9_read wsX9_take := goodIn_r _ [18, 19, 20, 21, 22, 23, 49, 50, 51, 52, 53, 54, 55, 56, 57, 58, 59, 60, 61, 62, 63, 64, 65, 66, 67, 68, 69, 70, 71, 72, 73, 74, 75, 76, 77, 78, 79, 80, 81, 82, 83, 84, 85, 86, 87, 88] (by decide +kernel) (by decide +kernel)
set_option maxRecDepth 20000 in
theorem gX9_read_X9_take : GoodIn wsX9_read (wsV RX9 160 RX9 yX9_take wsX9_take) := goodIn_app (goodIn_of _ (by decide +kernel)) ggX9_read_X9_take
set_option maxRecDepth 20000 in
theorem ggX9_read_X9_reason : GoodIn wsX9_read wsX9_reason := goodIn_r _ [27, 3, 28, 21, 5, 29, 19, 4, 8, 30, 31, 32, 13, 33, 23, 49, 50, 51, 52, 53, 54, 55, 56, 57, 58, 59, 60, 61, 62, 63, 64, 65, 66, 67, 68, 69, 70, 71, 72, 73, 74, 75, 76, 77, 78, 79, 80, 81, 82, 83, 84, 85, 86, 87, 88] (by decide +kernel) (by decide +kernel)
set_option maxRecDepth 20000 in
theorem gX9_read_X9_reason : GoodIn wsX9_read (wsV RX9 163 RX9 yX9_reason wsX9_reason) := goodIn_app (goodIn_of _ (by decide +kernel)) ggX9_read_X9_reason
set_option maxRecDepth 20000 in
theorem ggX9_read_X9_line : GoodIn wsX9_read wsX9_line := goodIn_r _ [37, 21, 28, 23, 38, 39, 5, 49, 50, 51, 52, 53, 54, 55, 56, 57, 58, 59, 60, 61, 62, 63, 64, 65, 66, 67, 68, 69, 70, 71, 72, 73, 74, 75, 76, 77, 78, 79, 80, 81, 82, 83, 84, 85, 86, 87, 88] (by decide +kernel) (by decide +kernel)
set_option maxRecDepth 20000 in
theorem gX9_read_X9_line : GoodIn wsX9_read (wsV RX9 166 RX9 yX9_line wsX9_line) := goodIn_app (goodIn_of _ (by decide +kernel)) ggX9_read_X9_line
set_option maxRecDepth 20000 in
theorem ggX9_read_X9_lines : GoodIn wsX9_read wsX9_lines := goodIn_r _ [43, 44, 7, 45, 46, 47, 13, 48, 49, 50, 51, 52, 53, 54, 55, 56, 57, 58, 59, 60, 61, 62, 63, 64, 65, 66, 67, 68, 69, 70, 71, 72, 73, 74, 75, 76, 77, 78, 79, 80, 81, 82, 83, 84, 85, 86, 87, 88] (by decide +kernel) (by decide +kernel)
set_option maxRecDepth 20000 in
theorem gX9_read_X9_lines : GoodIn wsX9_read (wsV RX9 139 RX9 yX9_lines wsX9_lines) := goodIn_app (goodIn_of _ (by decide +kernel)) ggX9_read_X9_lines
theorem dX9_read_0 : decode cX9_read 0 = .ok (.aload_n 0, 1) := by decide +kernel
theorem dX9_read_1 : decode cX9_read 1 = .ok (.iconst 0, 1) := by decide +kernel
theorem dX9_read_2 : decode cX9_read 2 = .ok (.putfield 35, 3) := by decide +kernel
theorem dX9_read_5 : decode cX9_read 5 = .ok (.iload_n 1, 1) := by decide +kernel
theorem dX9_read_6 : decode cX9_read 6 = .ok (.tableswitch 162 0 7 #[46, 69, 91, 123, 128, 133, 138, 157], 46) := by decide +kernel
theorem dX9_read_52 : decode cX9_read 52 = .ok (.aload_n 0, 1) := by decide +kernel
theorem dX9_read_53 : decode cX9_read 53 = .ok (.invokevirtual 147, 3) := by decide +kernel
theorem dX9_read_56 : decode cX9_read 56 = .ok (.ifCond .eq 14, 3) := by decide +kernel
theorem dX9_read_59 : decode cX9_read 59 = .ok (.aload_n 0, 1) := by decide +kernel
theorem dX9_read_60 : decode cX9_read 60 = .ok (.getfield 39, 3) := by decide +kernel
theorem dX9_read_63 : decode cX9_read 63 = .ok (.sipush 255, 3) := by decide +kernel
theorem dX9_read_66 : decode cX9_read 66 = .ok (.iand, 1) := by decide +kernel
theorem dX9_read_67 : decode cX9_read 67 = .ok (.goto 7, 3) := by decide +kernel
theorem dX9_read_70 : decode cX9_read 70 = .ok (.aload_n 0, 1) := by decide +kernel
theorem dX9_read_71 : decode cX9_read 71 = .ok (.invokevirtual 160, 3) := by decide +kernel
theorem dX9_read_74 : decode cX9_read 74 = .ok (.ireturn, 1) := by decide +kernel
theorem dX9_read_75 : decode cX9_read 75 = .ok (.aload_n 0, 1) := by decide +kernel
theorem dX9_read_76 : decode cX9_read 76 = .ok (.invokevirtual 147, 3) := by decide +kernel
theorem dX9_read_79 : decode cX9_read 79 = .ok (.ifCond .eq 13, 3) := by decide +kernel
theorem dX9_read_82 : decode cX9_read 82 = .ok (.aload_n 0, 1) := by decide +kernel
theorem dX9_read_83 : decode cX9_read 83 = .ok (.getfield 39, 3) := by decide +kernel
theorem dX9_read_86 : decode cX9_read 86 = .ok (.bipush 8, 2) := by decide +kernel
theorem dX9_read_88 : decode cX9_read 88 = .ok (.ishr, 1) := by decide +kernel
theorem dX9_read_89 : decode cX9_read 89 = .ok (.goto 7, 3) := by decide +kernel
theorem dX9_read_92 : decode cX9_read 92 = .ok (.aload_n 0, 1) := by decide +kernel
theorem dX9_read_93 : decode cX9_read 93 = .ok (.getfield 45, 3) := by decide +kernel
theorem dX9_read_96 : decode cX9_read 96 = .ok (.ireturn, 1) := by decide +kernel
theorem dX9_read_97 : decode cX9_read 97 = .ok (.aload_n 0, 1) := by decide +kernel
theorem dX9_read_98 : decode cX9_read 98 = .ok (.invokevirtual 163, 3) := by decide +kernel
theorem dX9_read_101 : decode cX9_read 101 = .ok (.istore_n 2, 1) := by decide +kernel
theorem dX9_read_102 : decode cX9_read 102 = .ok (.iload_n 2, 1) := by decide +kernel
theorem dX9_read_103 : decode cX9_read 103 = .ok (.iconst 2, 1) := by decide +kernel
theorem dX9_read_104 : decode cX9_read 104 = .ok (.if_icmp .ne 8, 3) := by decide +kernel
theorem dX9_read_107 : decode cX9_read 107 = .ok (.aload_n 0, 1) := by decide +kernel
theorem dX9_read_108 : decode cX9_read 108 = .ok (.iconst 0, 1) := by decide +kernel
theorem dX9_read_109 : decode cX9_read 109 = .ok (.putfield 79, 3) := by decide +kernel
theorem dX9_read_112 : decode cX9_read 112 = .ok (.iload_n 2, 1) := by decide +kernel
theorem dX9_read_113 : decode cX9_read 113 = .ok (.aload_n 0, 1) := by decide +kernel
theorem dX9_read_114 : decode cX9_read 114 = .ok (.getfield 48, 3) := by decide +kernel
theorem dX9_read_117 : decode cX9_read 117 = .ok (.ifCond .eq 9, 3) := by decide +kernel
theorem dX9_read_120 : decode cX9_read 120 = .ok (.sipush 192, 3) := by decide +kernel
theorem dX9_read_123 : decode cX9_read 123 = .ok (.goto 4, 3) := by decide +kernel
theorem dX9_read_126 : decode cX9_read 126 = .ok (.iconst 0, 1) := by decide +kernel
theorem dX9_read_127 : decode cX9_read 127 = .ok (.ior, 1) := by decide +kernel
theorem dX9_read_128 : decode cX9_read 128 = .ok (.ireturn, 1) := by decide +kernel
theorem dX9_read_129 : decode cX9_read 129 = .ok (.aload_n 0, 1) := by decide +kernel
theorem dX9_read_130 : decode cX9_read 130 = .ok (.getfield 55, 3) := by decide +kernel
theorem dX9_read_133 : decode cX9_read 133 = .ok (.ireturn, 1) := by decide +kernel
theorem dX9_read_134 : decode cX9_read 134 = .ok (.aload_n 0, 1) := by decide +kernel
theorem dX9_read_135 : decode cX9_read 135 = .ok (.getfield 58, 3) := by decide +kernel
theorem dX9_read_138 : decode cX9_read 138 = .ok (.ireturn, 1) := by decide +kernel
theorem dX9_read_139 : decode cX9_read 139 = .ok (.aload_n 0, 1) := by decide +kernel
theorem dX9_read_140 : decode cX9_read 140 = .ok (.invokevirtual 166, 3) := by decide +kernel
theorem dX9_read_143 : decode cX9_read 143 = .ok (.ireturn, 1) := by decide +kernel
theorem dX9_read_144 : decode cX9_read 144 = .ok (.aload_n 0, 1) := by decide +kernel
theorem dX9_read_145 : decode cX9_read 145 = .ok (.getfield 67, 3) := by decide +kernel
theorem dX9_read_148 : decode cX9_read 148 = .ok (.aload_n 0, 1) := by decide +kernel
theorem dX9_read_149 : decode cX9_read 149 = .ok (.invokevirtual 139, 3) := by decide +kernel
theorem dX9_read_152 : decode cX9_read 152 = .ok (.iconst 4, 1) := by decide +kernel
theorem dX9_read_153 : decode cX9_read 153 = .ok (.ishl, 1) := by decide +kernel
theorem dX9_read_154 : decode cX9_read 154 = .ok (.ior, 1) := by decide +kernel
theorem dX9_read_155 : decode cX9_read 155 = .ok (.istore_n 2, 1) := by decide +kernel
theorem dX9_read_156 : decode cX9_read 156 = .ok (.aload_n 0, 1) := by decide +kernel
theorem dX9_read_157 : decode cX9_read 157 = .ok (.iconst 0, 1) := by decide +kernel
theorem dX9_read_158 : decode cX9_read 158 = .ok (.putfield 67, 3) := by decide +kernel
theorem dX9_read_161 : decode cX9_read 161 = .ok (.iload_n 2, 1) := by decide +kernel
theorem dX9_read_162 : decode cX9_read 162 = .ok (.ireturn, 1) := by decide +kernel
theorem dX9_read_163 : decode cX9_read 163 = .ok (.aload_n 0, 1) := by decide +kernel
theorem dX9_read_164 : decode cX9_read 164 = .ok (.getfield 61, 3) := by decide +kernel
theorem dX9_read_167 : decode cX9_read 167 = .ok (.ireturn, 1) := by decide +kernel
theorem dX9_read_168 : decode cX9_read 168 = .ok (.aload_n 0, 1) := by decide +kernel
theorem dX9_read_169 : decode cX9_read 169 = .ok (.iconst 1, 1) := by decide +kernel
theorem dX9_read_170 : decode cX9_read 170 = .ok (.putfield 35, 3) := by decide +kernel
theorem dX9_read_173 : decode cX9_read 173 = .ok (.iconst 0, 1) := by decide +kernel
theorem dX9_read_174 : decode cX9_read 174 = .ok (.ireturn, 1) := by decide +kernel
set_option maxRecDepth 20000 in
theorem ggX9_send_X9_partOf : GoodIn wsX9_send wsX9_partOf := goodIn_r _ [13, 14, 15, 12, 16, 17, 18, 19, 20, 21, 22, 23, 24, 25, 26, 27, 28, 29] (by decide +kernel) (by decide +kernel)
set_option maxRecDepth 20000 in
theorem gX9_send_X9_partOf : GoodIn wsX9_send (va_wsS RX9 178 yX9_partOf wsX9_partOf) := goodIn_app (goodIn_of _ (by decide +kernel)) ggX9_send_X9_partOf
set_option maxRecDepth 20000 in
theorem ggX9_send_X9_frameOf : GoodIn wsX9_send wsX9_frameOf := goodIn_r _ [32, 14, 15, 12, 16, 17, 18, 19, 33, 34, 35] (by decide +kernel) (by decide +kernel)
set_option maxRecDepth 20000 in
theorem gX9_send_X9_frameOf : GoodIn wsX9_send (va_wsS RX9 182 yX9_frameOf wsX9_frameOf) := goodIn_app (goodIn_of _ (by decide +kernel)) ggX9_send_X9_frameOf
theorem dX9_send_0 : decode cX9_send 0 = .ok (.aload_n 0, 1) := by decide +kernel
theorem dX9_send_1 : decode cX9_send 1 = .ok (.getfield 94, 3) := by decide +kernel
theorem dX9_send_4 : decode cX9_send 4 = .ok (.ifCond .ne 90, 3) := by decide +kernel
theorem dX9_send_7 : decode cX9_send 7 = .ok (.aload_n 0, 1) := by decide +kernel
theorem dX9_send_8 : decode cX9_send 8 = .ok (.getfield 76, 3) := by decide +kernel
theorem dX9_send_11 : decode cX9_send 11 = .ok (.ifCond .le 83, 3) := by decide +kernel
theorem dX9_send_14 : decode cX9_send 14 = .ok (.aload_n 0, 1) := by decide +kernel
theorem dX9_send_15 : decode cX9_send 15 = .ok (.aload_n 0, 1) := by decide +kernel
theorem dX9_send_16 : decode cX9_send 16 = .ok (.getfield 16, 3) := by decide +kernel
theorem dX9_send_19 : decode cX9_send 19 = .ok (.iconst 0, 1) := by decide +kernel
theorem dX9_send_20 : decode cX9_send 20 = .ok (.iaload, 1) := by decide +kernel
theorem dX9_send_21 : decode cX9_send 21 = .ok (.putfield 169, 3) := by decide +kernel
theorem dX9_send_24 : decode cX9_send 24 = .ok (.aload_n 0, 1) := by decide +kernel
theorem dX9_send_25 : decode cX9_send 25 = .ok (.dup, 1) := by decide +kernel
theorem dX9_send_26 : decode cX9_send 26 = .ok (.getfield 76, 3) := by decide +kernel
theorem dX9_send_29 : decode cX9_send 29 = .ok (.iconst 1, 1) := by decide +kernel
theorem dX9_send_30 : decode cX9_send 30 = .ok (.isub, 1) := by decide +kernel
theorem dX9_send_31 : decode cX9_send 31 = .ok (.putfield 76, 3) := by decide +kernel
theorem dX9_send_34 : decode cX9_send 34 = .ok (.iconst 0, 1) := by decide +kernel
theorem dX9_send_35 : decode cX9_send 35 = .ok (.istore_n 1, 1) := by decide +kernel
theorem dX9_send_36 : decode cX9_send 36 = .ok (.iload_n 1, 1) := by decide +kernel
theorem dX9_send_37 : decode cX9_send 37 = .ok (.aload_n 0, 1) := by decide +kernel
theorem dX9_send_38 : decode cX9_send 38 = .ok (.getfield 76, 3) := by decide +kernel
theorem dX9_send_41 : decode cX9_send 41 = .ok (.if_icmp .ge 23, 3) := by decide +kernel
theorem dX9_send_44 : decode cX9_send 44 = .ok (.aload_n 0, 1) := by decide +kernel
theorem dX9_send_45 : decode cX9_send 45 = .ok (.getfield 16, 3) := by decide +kernel
theorem dX9_send_48 : decode cX9_send 48 = .ok (.iload_n 1, 1) := by decide +kernel
theorem dX9_send_49 : decode cX9_send 49 = .ok (.aload_n 0, 1) := by decide +kernel
theorem dX9_send_50 : decode cX9_send 50 = .ok (.getfield 16, 3) := by decide +kernel
theorem dX9_send_53 : decode cX9_send 53 = .ok (.iload_n 1, 1) := by decide +kernel
theorem dX9_send_54 : decode cX9_send 54 = .ok (.iconst 1, 1) := by decide +kernel
theorem dX9_send_55 : decode cX9_send 55 = .ok (.iadd, 1) := by decide +kernel
theorem dX9_send_56 : decode cX9_send 56 = .ok (.iaload, 1) := by decide +kernel
theorem dX9_send_57 : decode cX9_send 57 = .ok (.iastore, 1) := by decide +kernel
theorem dX9_send_58 : decode cX9_send 58 = .ok (.iinc 1 1, 3) := by decide +kernel
theorem dX9_send_61 : decode cX9_send 61 = .ok (.goto (-25), 3) := by decide +kernel
theorem dX9_send_64 : decode cX9_send 64 = .ok (.aload_n 0, 1) := by decide +kernel
theorem dX9_send_65 : decode cX9_send 65 = .ok (.getfield 76, 3) := by decide +kernel
theorem dX9_send_68 : decode cX9_send 68 = .ok (.ifCond .ne 8, 3) := by decide +kernel
theorem dX9_send_71 : decode cX9_send 71 = .ok (.aload_n 0, 1) := by decide +kernel
theorem dX9_send_72 : decode cX9_send 72 = .ok (.iconst 1, 1) := by decide +kernel
theorem dX9_send_73 : decode cX9_send 73 = .ok (.putfield 79, 3) := by decide +kernel
theorem dX9_send_76 : decode cX9_send 76 = .ok (.aload_n 0, 1) := by decide +kernel
theorem dX9_send_77 : decode cX9_send 77 = .ok (.iconst 1, 1) := by decide +kernel
theorem dX9_send_78 : decode cX9_send 78 = .ok (.putfield 94, 3) := by decide +kernel
theorem dX9_send_81 : decode cX9_send 81 = .ok (.aload_n 0, 1) := by decide +kernel
theorem dX9_send_82 : decode cX9_send 82 = .ok (.aload_n 0, 1) := by decide +kernel
theorem dX9_send_83 : decode cX9_send 83 = .ok (.getfield 55, 3) := by decide +kernel
theorem dX9_send_86 : decode cX9_send 86 = .ok (.putfield 172, 3) := by decide +kernel
theorem dX9_send_89 : decode cX9_send 89 = .ok (.aload_n 0, 1) := by decide +kernel
theorem dX9_send_90 : decode cX9_send 90 = .ok (.iconst 0, 1) := by decide +kernel
theorem dX9_send_91 : decode cX9_send 91 = .ok (.putfield 175, 3) := by decide +kernel
theorem dX9_send_94 : decode cX9_send 94 = .ok (.aload_n 0, 1) := by decide +kernel
theorem dX9_send_95 : decode cX9_send 95 = .ok (.iconst 1, 1) := by decide +kernel
theorem dX9_send_96 : decode cX9_send 96 = .ok (.putfield 97, 3) := by decide +kernel
theorem dX9_send_99 : decode cX9_send 99 = .ok (.aload_n 0, 1) := by decide +kernel
theorem dX9_send_100 : decode cX9_send 100 = .ok (.getfield 94, 3) := by decide +kernel
theorem dX9_send_103 : decode cX9_send 103 = .ok (.ifCond .ne 4, 3) := by decide +kernel
theorem dX9_send_106 : decode cX9_send 106 = .ok (.return_, 1) := by decide +kernel
theorem dX9_send_107 : decode cX9_send 107 = .ok (.aload_n 0, 1) := by decide +kernel
theorem dX9_send_108 : decode cX9_send 108 = .ok (.aload_n 0, 1) := by decide +kernel
theorem dX9_send_109 : decode cX9_send 109 = .ok (.getfield 172, 3) := by decide +kernel
theorem dX9_send_112 : decode cX9_send 112 = .ok (.aload_n 0, 1) := by decide +kernel
theorem dX9_send_113 : decode cX9_send 113 = .ok (.getfield 169, 3) := by decide +kernel
theorem dX9_send_116 : decode cX9_send 116 = .ok (.aload_n 0, 1) := by decide +kernel
theorem dX9_send_117 : decode cX9_send 117 = .ok (.getfield 175, 3) := by decide +kernel
theorem dX9_send_120 : decode cX9_send 120 = .ok (.bipush 16, 2) := by decide +kernel
theorem dX9_send_122 : decode cX9_send 122 = .ok (.idiv, 1) := by decide +kernel
theorem dX9_send_123 : decode cX9_send 123 = .ok (.invokestatic 178, 3) := by decide +kernel
theorem dX9_send_126 : decode cX9_send 126 = .ok (.putfield 97, 3) := by decide +kernel
theorem dX9_send_129 : decode cX9_send 129 = .ok (.aload_n 0, 1) := by decide +kernel
theorem dX9_send_130 : decode cX9_send 130 = .ok (.dup, 1) := by decide +kernel
theorem dX9_send_131 : decode cX9_send 131 = .ok (.getfield 175, 3) := by decide +kernel
theorem dX9_send_134 : decode cX9_send 134 = .ok (.iconst 1, 1) := by decide +kernel
theorem dX9_send_135 : decode cX9_send 135 = .ok (.iadd, 1) := by decide +kernel
theorem dX9_send_136 : decode cX9_send 136 = .ok (.putfield 175, 3) := by decide +kernel
theorem dX9_send_139 : decode cX9_send 139 = .ok (.aload_n 0, 1) := by decide +kernel
theorem dX9_send_140 : decode cX9_send 140 = .ok (.getfield 175, 3) := by decide +kernel
theorem dX9_send_143 : decode cX9_send 143 = .ok (.aload_n 0, 1) := by decide +kernel
theorem dX9_send_144 : decode cX9_send 144 = .ok (.getfield 172, 3) := by decide +kernel
theorem dX9_send_147 : decode cX9_send 147 = .ok (.invokestatic 182, 3) := by decide +kernel
theorem dX9_send_150 : decode cX9_send 150 = .ok (.if_icmp .ne 8, 3) := by decide +kernel
theorem dX9_send_153 : decode cX9_send 153 = .ok (.aload_n 0, 1) := by decide +kernel
theorem dX9_send_154 : decode cX9_send 154 = .ok (.iconst 0, 1) := by decide +kernel
theorem dX9_send_155 : decode cX9_send 155 = .ok (.putfield 94, 3) := by decide +kernel
theorem dX9_send_158 : decode cX9_send 158 = .ok (.return_, 1) := by decide +kernel
theorem dX9_say_0 : decode cX9_say 0 = .ok (.aload_n 0, 1) := by decide +kernel
theorem dX9_say_1 : decode cX9_say 1 = .ok (.iload_n 1, 1) := by decide +kernel
theorem dX9_say_2 : decode cX9_say 2 = .ok (.putfield 109, 3) := by decide +kernel
theorem dX9_say_5 : decode cX9_say 5 = .ok (.aload_n 0, 1) := by decide +kernel
theorem dX9_say_6 : decode cX9_say 6 = .ok (.getfield 112, 3) := by decide +kernel
theorem dX9_say_9 : decode cX9_say 9 = .ok (.ifCond .le 40, 3) := by decide +kernel
theorem dX9_say_12 : decode cX9_say 12 = .ok (.aload_n 0, 1) := by decide +kernel
theorem dX9_say_13 : decode cX9_say 13 = .ok (.getfield 26, 3) := by decide +kernel
theorem dX9_say_16 : decode cX9_say 16 = .ok (.aload_n 0, 1) := by decide +kernel
theorem dX9_say_17 : decode cX9_say 17 = .ok (.getfield 112, 3) := by decide +kernel
theorem dX9_say_20 : decode cX9_say 20 = .ok (.iconst 1, 1) := by decide +kernel
theorem dX9_say_21 : decode cX9_say 21 = .ok (.isub, 1) := by decide +kernel
theorem dX9_say_22 : decode cX9_say 22 = .ok (.bipush 40, 2) := by decide +kernel
theorem dX9_say_24 : decode cX9_say 24 = .ok (.irem, 1) := by decide +kernel
theorem dX9_say_25 : decode cX9_say 25 = .ok (.baload, 1) := by decide +kernel
theorem dX9_say_26 : decode cX9_say 26 = .ok (.iload_n 1, 1) := by decide +kernel
theorem dX9_say_27 : decode cX9_say 27 = .ok (.if_icmp .ne 22, 3) := by decide +kernel
theorem dX9_say_30 : decode cX9_say 30 = .ok (.aload_n 0, 1) := by decide +kernel
theorem dX9_say_31 : decode cX9_say 31 = .ok (.getfield 29, 3) := by decide +kernel
theorem dX9_say_34 : decode cX9_say 34 = .ok (.aload_n 0, 1) := by decide +kernel
theorem dX9_say_35 : decode cX9_say 35 = .ok (.getfield 112, 3) := by decide +kernel
theorem dX9_say_38 : decode cX9_say 38 = .ok (.iconst 1, 1) := by decide +kernel
theorem dX9_say_39 : decode cX9_say 39 = .ok (.isub, 1) := by decide +kernel
theorem dX9_say_40 : decode cX9_say 40 = .ok (.bipush 40, 2) := by decide +kernel
theorem dX9_say_42 : decode cX9_say 42 = .ok (.irem, 1) := by decide +kernel
theorem dX9_say_43 : decode cX9_say 43 = .ok (.dup2, 1) := by decide +kernel
theorem dX9_say_44 : decode cX9_say 44 = .ok (.iaload, 1) := by decide +kernel
theorem dX9_say_45 : decode cX9_say 45 = .ok (.iconst 1, 1) := by decide +kernel
theorem dX9_say_46 : decode cX9_say 46 = .ok (.iadd, 1) := by decide +kernel
theorem dX9_say_47 : decode cX9_say 47 = .ok (.iastore, 1) := by decide +kernel
theorem dX9_say_48 : decode cX9_say 48 = .ok (.return_, 1) := by decide +kernel
theorem dX9_say_49 : decode cX9_say 49 = .ok (.aload_n 0, 1) := by decide +kernel
theorem dX9_say_50 : decode cX9_say 50 = .ok (.getfield 26, 3) := by decide +kernel
theorem dX9_say_53 : decode cX9_say 53 = .ok (.aload_n 0, 1) := by decide +kernel
theorem dX9_say_54 : decode cX9_say 54 = .ok (.getfield 112, 3) := by decide +kernel
theorem dX9_say_57 : decode cX9_say 57 = .ok (.bipush 40, 2) := by decide +kernel
theorem dX9_say_59 : decode cX9_say 59 = .ok (.irem, 1) := by decide +kernel
theorem dX9_say_60 : decode cX9_say 60 = .ok (.iload_n 1, 1) := by decide +kernel
theorem dX9_say_61 : decode cX9_say 61 = .ok (.bastore, 1) := by decide +kernel
theorem dX9_say_62 : decode cX9_say 62 = .ok (.aload_n 0, 1) := by decide +kernel
theorem dX9_say_63 : decode cX9_say 63 = .ok (.getfield 29, 3) := by decide +kernel
theorem dX9_say_66 : decode cX9_say 66 = .ok (.aload_n 0, 1) := by decide +kernel
theorem dX9_say_67 : decode cX9_say 67 = .ok (.getfield 112, 3) := by decide +kernel
theorem dX9_say_70 : decode cX9_say 70 = .ok (.bipush 40, 2) := by decide +kernel
theorem dX9_say_72 : decode cX9_say 72 = .ok (.irem, 1) := by decide +kernel
theorem dX9_say_73 : decode cX9_say 73 = .ok (.iconst 1, 1) := by decide +kernel
theorem dX9_say_74 : decode cX9_say 74 = .ok (.iastore, 1) := by decide +kernel
theorem dX9_say_75 : decode cX9_say 75 = .ok (.aload_n 0, 1) := by decide +kernel
theorem dX9_say_76 : decode cX9_say 76 = .ok (.dup, 1) := by decide +kernel
theorem dX9_say_77 : decode cX9_say 77 = .ok (.getfield 112, 3) := by decide +kernel
theorem dX9_say_80 : decode cX9_say 80 = .ok (.iconst 1, 1) := by decide +kernel
theorem dX9_say_81 : decode cX9_say 81 = .ok (.iadd, 1) := by decide +kernel
theorem dX9_say_82 : decode cX9_say 82 = .ok (.putfield 112, 3) := by decide +kernel
theorem dX9_say_85 : decode cX9_say 85 = .ok (.return_, 1) := by decide +kernel
theorem dX9_come_0 : decode cX9_come 0 = .ok (.aload_n 0, 1) := by decide +kernel
theorem dX9_come_1 : decode cX9_come 1 = .ok (.getfield 88, 3) := by decide +kernel
theorem dX9_come_4 : decode cX9_come 4 = .ok (.ifCond .ne 4, 3) := by decide +kernel
theorem dX9_come_7 : decode cX9_come 7 = .ok (.return_, 1) := by decide +kernel
theorem dX9_come_8 : decode cX9_come 8 = .ok (.aload_n 0, 1) := by decide +kernel
theorem dX9_come_9 : decode cX9_come 9 = .ok (.aload_n 0, 1) := by decide +kernel
theorem dX9_come_10 : decode cX9_come 10 = .ok (.getfield 19, 3) := by decide +kernel
theorem dX9_come_13 : decode cX9_come 13 = .ok (.iconst 0, 1) := by decide +kernel
theorem dX9_come_14 : decode cX9_come 14 = .ok (.baload, 1) := by decide +kernel
theorem dX9_come_15 : decode cX9_come 15 = .ok (.putfield 91, 3) := by decide +kernel
theorem dX9_come_18 : decode cX9_come 18 = .ok (.aload_n 0, 1) := by decide +kernel
theorem dX9_come_19 : decode cX9_come 19 = .ok (.getfield 23, 3) := by decide +kernel
theorem dX9_come_22 : decode cX9_come 22 = .ok (.iconst 0, 1) := by decide +kernel
theorem dX9_come_23 : decode cX9_come 23 = .ok (.dup2, 1) := by decide +kernel
theorem dX9_come_24 : decode cX9_come 24 = .ok (.iaload, 1) := by decide +kernel
theorem dX9_come_25 : decode cX9_come 25 = .ok (.iconst 1, 1) := by decide +kernel
theorem dX9_come_26 : decode cX9_come 26 = .ok (.isub, 1) := by decide +kernel
theorem dX9_come_27 : decode cX9_come 27 = .ok (.iastore, 1) := by decide +kernel
theorem dX9_come_28 : decode cX9_come 28 = .ok (.aload_n 0, 1) := by decide +kernel
theorem dX9_come_29 : decode cX9_come 29 = .ok (.getfield 23, 3) := by decide +kernel
theorem dX9_come_32 : decode cX9_come 32 = .ok (.iconst 0, 1) := by decide +kernel
theorem dX9_come_33 : decode cX9_come 33 = .ok (.iaload, 1) := by decide +kernel
theorem dX9_come_34 : decode cX9_come 34 = .ok (.ifCond .le 4, 3) := by decide +kernel
theorem dX9_come_37 : decode cX9_come 37 = .ok (.return_, 1) := by decide +kernel
theorem dX9_come_38 : decode cX9_come 38 = .ok (.aload_n 0, 1) := by decide +kernel
theorem dX9_come_39 : decode cX9_come 39 = .ok (.dup, 1) := by decide +kernel
theorem dX9_come_40 : decode cX9_come 40 = .ok (.getfield 88, 3) := by decide +kernel
theorem dX9_come_43 : decode cX9_come 43 = .ok (.iconst 1, 1) := by decide +kernel
theorem dX9_come_44 : decode cX9_come 44 = .ok (.isub, 1) := by decide +kernel
theorem dX9_come_45 : decode cX9_come 45 = .ok (.putfield 88, 3) := by decide +kernel
theorem dX9_come_48 : decode cX9_come 48 = .ok (.iconst 0, 1) := by decide +kernel
theorem dX9_come_49 : decode cX9_come 49 = .ok (.istore_n 1, 1) := by decide +kernel
theorem dX9_come_50 : decode cX9_come 50 = .ok (.iload_n 1, 1) := by decide +kernel
theorem dX9_come_51 : decode cX9_come 51 = .ok (.aload_n 0, 1) := by decide +kernel
theorem dX9_come_52 : decode cX9_come 52 = .ok (.getfield 88, 3) := by decide +kernel
theorem dX9_come_55 : decode cX9_come 55 = .ok (.if_icmp .ge 37, 3) := by decide +kernel
theorem dX9_come_58 : decode cX9_come 58 = .ok (.aload_n 0, 1) := by decide +kernel
theorem dX9_come_59 : decode cX9_come 59 = .ok (.getfield 19, 3) := by decide +kernel
theorem dX9_come_62 : decode cX9_come 62 = .ok (.iload_n 1, 1) := by decide +kernel
theorem dX9_come_63 : decode cX9_come 63 = .ok (.aload_n 0, 1) := by decide +kernel
theorem dX9_come_64 : decode cX9_come 64 = .ok (.getfield 19, 3) := by decide +kernel
theorem dX9_come_67 : decode cX9_come 67 = .ok (.iload_n 1, 1) := by decide +kernel
theorem dX9_come_68 : decode cX9_come 68 = .ok (.iconst 1, 1) := by decide +kernel
theorem dX9_come_69 : decode cX9_come 69 = .ok (.iadd, 1) := by decide +kernel
theorem dX9_come_70 : decode cX9_come 70 = .ok (.baload, 1) := by decide +kernel
theorem dX9_come_71 : decode cX9_come 71 = .ok (.bastore, 1) := by decide +kernel
theorem dX9_come_72 : decode cX9_come 72 = .ok (.aload_n 0, 1) := by decide +kernel
theorem dX9_come_73 : decode cX9_come 73 = .ok (.getfield 23, 3) := by decide +kernel
theorem dX9_come_76 : decode cX9_come 76 = .ok (.iload_n 1, 1) := by decide +kernel
theorem dX9_come_77 : decode cX9_come 77 = .ok (.aload_n 0, 1) := by decide +kernel
theorem dX9_come_78 : decode cX9_come 78 = .ok (.getfield 23, 3) := by decide +kernel
theorem dX9_come_81 : decode cX9_come 81 = .ok (.iload_n 1, 1) := by decide +kernel
theorem dX9_come_82 : decode cX9_come 82 = .ok (.iconst 1, 1) := by decide +kernel
theorem dX9_come_83 : decode cX9_come 83 = .ok (.iadd, 1) := by decide +kernel
theorem dX9_come_84 : decode cX9_come 84 = .ok (.iaload, 1) := by decide +kernel
theorem dX9_come_85 : decode cX9_come 85 = .ok (.iastore, 1) := by decide +kernel
theorem dX9_come_86 : decode cX9_come 86 = .ok (.iinc 1 1, 3) := by decide +kernel
theorem dX9_come_89 : decode cX9_come 89 = .ok (.goto (-39), 3) := by decide +kernel
theorem dX9_come_92 : decode cX9_come 92 = .ok (.return_, 1) := by decide +kernel
set_option maxRecDepth 20000 in
theorem ggX9_put_X9_room : GoodIn wsX9_put wsX9_room := goodIn_r _ [11, 3, 12, 13, 14, 15, 16, 17, 18, 19, 20, 21, 22, 23, 24, 25, 26, 27, 28, 29, 30, 31, 32, 33, 34, 35, 36, 37, 38, 39, 40, 41, 42, 43, 44, 45, 46, 47, 48, 49, 50, 51] (by decide +kernel) (by decide +kernel)
set_option maxRecDepth 20000 in
theorem gX9_put_X9_room : GoodIn wsX9_put (wsV RX9 151 RX9 yX9_room wsX9_room) := goodIn_app (goodIn_of _ (by decide +kernel)) ggX9_put_X9_room
theorem dX9_put_0 : decode cX9_put 0 = .ok (.aload_n 0, 1) := by decide +kernel
theorem dX9_put_1 : decode cX9_put 1 = .ok (.getfield 70, 3) := by decide +kernel
theorem dX9_put_4 : decode cX9_put 4 = .ok (.aload_n 0, 1) := by decide +kernel
theorem dX9_put_5 : decode cX9_put 5 = .ok (.invokevirtual 151, 3) := by decide +kernel
theorem dX9_put_8 : decode cX9_put 8 = .ok (.if_icmp .ne 21, 3) := by decide +kernel
theorem dX9_put_11 : decode cX9_put 11 = .ok (.aload_n 0, 1) := by decide +kernel
theorem dX9_put_12 : decode cX9_put 12 = .ok (.iconst 1, 1) := by decide +kernel
theorem dX9_put_13 : decode cX9_put 13 = .ok (.putfield 73, 3) := by decide +kernel
theorem dX9_put_16 : decode cX9_put 16 = .ok (.aload_n 0, 1) := by decide +kernel
theorem dX9_put_17 : decode cX9_put 17 = .ok (.getfield 48, 3) := by decide +kernel
theorem dX9_put_20 : decode cX9_put 20 = .ok (.ifCond .eq 4, 3) := by decide +kernel
theorem dX9_put_23 : decode cX9_put 23 = .ok (.return_, 1) := by decide +kernel
theorem dX9_put_24 : decode cX9_put 24 = .ok (.aload_n 0, 1) := by decide +kernel
theorem dX9_put_25 : decode cX9_put 25 = .ok (.iconst 0, 1) := by decide +kernel
theorem dX9_put_26 : decode cX9_put 26 = .ok (.putfield 70, 3) := by decide +kernel
theorem dX9_put_29 : decode cX9_put 29 = .ok (.aload_n 0, 1) := by decide +kernel
theorem dX9_put_30 : decode cX9_put 30 = .ok (.getfield 9, 3) := by decide +kernel
theorem dX9_put_33 : decode cX9_put 33 = .ok (.aload_n 0, 1) := by decide +kernel
theorem dX9_put_34 : decode cX9_put 34 = .ok (.getfield 70, 3) := by decide +kernel
theorem dX9_put_37 : decode cX9_put 37 = .ok (.iload_n 1, 1) := by decide +kernel
theorem dX9_put_38 : decode cX9_put 38 = .ok (.iastore, 1) := by decide +kernel
theorem dX9_put_39 : decode cX9_put 39 = .ok (.aload_n 0, 1) := by decide +kernel
theorem dX9_put_40 : decode cX9_put 40 = .ok (.getfield 13, 3) := by decide +kernel
theorem dX9_put_43 : decode cX9_put 43 = .ok (.aload_n 0, 1) := by decide +kernel
theorem dX9_put_44 : decode cX9_put 44 = .ok (.getfield 70, 3) := by decide +kernel
theorem dX9_put_47 : decode cX9_put 47 = .ok (.iload_n 2, 1) := by decide +kernel
theorem dX9_put_48 : decode cX9_put 48 = .ok (.iastore, 1) := by decide +kernel
theorem dX9_put_49 : decode cX9_put 49 = .ok (.aload_n 0, 1) := by decide +kernel
theorem dX9_put_50 : decode cX9_put 50 = .ok (.dup, 1) := by decide +kernel
theorem dX9_put_51 : decode cX9_put 51 = .ok (.getfield 70, 3) := by decide +kernel
theorem dX9_put_54 : decode cX9_put 54 = .ok (.iconst 1, 1) := by decide +kernel
theorem dX9_put_55 : decode cX9_put 55 = .ok (.iadd, 1) := by decide +kernel
theorem dX9_put_56 : decode cX9_put 56 = .ok (.putfield 70, 3) := by decide +kernel
theorem dX9_put_59 : decode cX9_put 59 = .ok (.aload_n 0, 1) := by decide +kernel
theorem dX9_put_60 : decode cX9_put 60 = .ok (.iconst (-1), 1) := by decide +kernel
theorem dX9_put_61 : decode cX9_put 61 = .ok (.putfield 85, 3) := by decide +kernel
theorem dX9_put_64 : decode cX9_put 64 = .ok (.return_, 1) := by decide +kernel
set_option maxRecDepth 20000 in
theorem ggX9_receive_X9_loops : GoodIn wsX9_receive wsX9_loops := goodIn_r _ [14, 15, 46, 47, 48, 49, 50, 51, 52, 53, 54, 55, 56, 57, 58, 59, 60, 61, 62, 63, 64, 65, 66, 67, 68, 69, 70, 71, 72, 73, 74, 75, 76, 77, 78, 79, 80, 81, 82, 83, 84, 85] (by decide +kernel) (by decide +kernel)
set_option maxRecDepth 20000 in
theorem gX9_receive_X9_loops : GoodIn wsX9_receive (wsV RX9 135 RX9 yX9_loops wsX9_loops) := goodIn_app (goodIn_of _ (by decide +kernel)) ggX9_receive_X9_loops
set_option maxRecDepth 20000 in
theorem ggX9_receive_X9_bitsOf : GoodIn wsX9_receive wsX9_bitsOf := goodIn_r _ [18] (by decide +kernel) (by decide +kernel)
set_option maxRecDepth 20000 in
theorem gX9_receive_X9_bitsOf : GoodIn wsX9_receive (va_wsS RX9 115 yX9_bitsOf wsX9_bitsOf) := goodIn_app (goodIn_of _ (by decide +kernel)) ggX9_receive_X9_bitsOf
set_option maxRecDepth 20000 in
theorem ggX9_receive_X9_hasParity : GoodIn wsX9_receive wsX9_hasParity := goodIn_r _ [21] (by decide +kernel) (by decide +kernel)
set_option maxRecDepth 20000 in
theorem gX9_receive_X9_hasParity : GoodIn wsX9_receive (va_wsS RX9 124 yX9_hasParity wsX9_hasParity) := goodIn_app (goodIn_of _ (by decide +kernel)) ggX9_receive_X9_hasParity
set_option maxRecDepth 20000 in
theorem ggX9_receive_X9_parityOf : GoodIn wsX9_receive wsX9_parityOf := goodIn_r _ [24, 16, 17, 13, 18, 25, 26, 27, 28, 29, 30, 31] (by decide +kernel) (by decide +kernel)
set_option maxRecDepth 20000 in
theorem gX9_receive_X9_parityOf : GoodIn wsX9_receive (va_wsS RX9 131 yX9_parityOf wsX9_parityOf) := goodIn_app (goodIn_of _ (by decide +kernel)) ggX9_receive_X9_parityOf
set_option maxRecDepth 20000 in
theorem ggX9_receive_X9_put : GoodIn wsX9_receive wsX9_put := goodIn_r _ [35, 36, 37, 38, 39, 40, 41, 42, 43, 44, 13, 45, 46, 47, 48, 49, 50, 51, 52, 53, 54, 55, 56, 57, 58, 59, 60, 61, 62, 63, 64, 65, 66, 67, 68, 69, 70, 71, 72, 73, 74, 75, 76, 77, 78, 79, 80, 81, 82, 83, 84, 85] (by decide +kernel) (by decide +kernel)
set_option maxRecDepth 20000 in
theorem gX9_receive_X9_put : GoodIn wsX9_receive (wsV RX9 197 RX9 yX9_put wsX9_put) := goodIn_app (goodIn_of _ (by decide +kernel)) ggX9_receive_X9_put
theorem dX9_receive_0 : decode cX9_receive 0 = .ok (.aload_n 0, 1) := by decide +kernel
theorem dX9_receive_1 : decode cX9_receive 1 = .ok (.invokevirtual 135, 3) := by decide +kernel
theorem dX9_receive_4 : decode cX9_receive 4 = .ok (.ifCond .eq 10, 3) := by decide +kernel
theorem dX9_receive_7 : decode cX9_receive 7 = .ok (.aload_n 0, 1) := by decide +kernel
theorem dX9_receive_8 : decode cX9_receive 8 = .ok (.getfield 97, 3) := by decide +kernel
theorem dX9_receive_11 : decode cX9_receive 11 = .ok (.goto 7, 3) := by decide +kernel
theorem dX9_receive_14 : decode cX9_receive 14 = .ok (.aload_n 0, 1) := by decide +kernel
theorem dX9_receive_15 : decode cX9_receive 15 = .ok (.getfield 91, 3) := by decide +kernel
theorem dX9_receive_18 : decode cX9_receive 18 = .ok (.istore_n 1, 1) := by decide +kernel
theorem dX9_receive_19 : decode cX9_receive 19 = .ok (.aload_n 0, 1) := by decide +kernel
theorem dX9_receive_20 : decode cX9_receive 20 = .ok (.getfield 100, 3) := by decide +kernel
theorem dX9_receive_23 : decode cX9_receive 23 = .ok (.ifCond .ne 51, 3) := by decide +kernel
theorem dX9_receive_26 : decode cX9_receive 26 = .ok (.iload_n 1, 1) := by decide +kernel
theorem dX9_receive_27 : decode cX9_receive 27 = .ok (.ifCond .eq 11, 3) := by decide +kernel
theorem dX9_receive_30 : decode cX9_receive 30 = .ok (.aload_n 0, 1) := by decide +kernel
theorem dX9_receive_31 : decode cX9_receive 31 = .ok (.iconst 1, 1) := by decide +kernel
theorem dX9_receive_32 : decode cX9_receive 32 = .ok (.putfield 103, 3) := by decide +kernel
theorem dX9_receive_35 : decode cX9_receive 35 = .ok (.goto 38, 3) := by decide +kernel
theorem dX9_receive_38 : decode cX9_receive 38 = .ok (.aload_n 0, 1) := by decide +kernel
theorem dX9_receive_39 : decode cX9_receive 39 = .ok (.getfield 103, 3) := by decide +kernel
theorem dX9_receive_42 : decode cX9_receive 42 = .ok (.ifCond .eq 31, 3) := by decide +kernel
theorem dX9_receive_45 : decode cX9_receive 45 = .ok (.aload_n 0, 1) := by decide +kernel
theorem dX9_receive_46 : decode cX9_receive 46 = .ok (.iconst 1, 1) := by decide +kernel
theorem dX9_receive_47 : decode cX9_receive 47 = .ok (.putfield 100, 3) := by decide +kernel
theorem dX9_receive_50 : decode cX9_receive 50 = .ok (.aload_n 0, 1) := by decide +kernel
theorem dX9_receive_51 : decode cX9_receive 51 = .ok (.aload_n 0, 1) := by decide +kernel
theorem dX9_receive_52 : decode cX9_receive 52 = .ok (.getfield 55, 3) := by decide +kernel
theorem dX9_receive_55 : decode cX9_receive 55 = .ok (.putfield 185, 3) := by decide +kernel
theorem dX9_receive_58 : decode cX9_receive 58 = .ok (.aload_n 0, 1) := by decide +kernel
theorem dX9_receive_59 : decode cX9_receive 59 = .ok (.iconst 0, 1) := by decide +kernel
theorem dX9_receive_60 : decode cX9_receive 60 = .ok (.putfield 188, 3) := by decide +kernel
theorem dX9_receive_63 : decode cX9_receive 63 = .ok (.aload_n 0, 1) := by decide +kernel
theorem dX9_receive_64 : decode cX9_receive 64 = .ok (.iconst 0, 1) := by decide +kernel
theorem dX9_receive_65 : decode cX9_receive 65 = .ok (.putfield 191, 3) := by decide +kernel
theorem dX9_receive_68 : decode cX9_receive 68 = .ok (.aload_n 0, 1) := by decide +kernel
theorem dX9_receive_69 : decode cX9_receive 69 = .ok (.iconst 0, 1) := by decide +kernel
theorem dX9_receive_70 : decode cX9_receive 70 = .ok (.putfield 194, 3) := by decide +kernel
theorem dX9_receive_73 : decode cX9_receive 73 = .ok (.return_, 1) := by decide +kernel
theorem dX9_receive_74 : decode cX9_receive 74 = .ok (.aload_n 0, 1) := by decide +kernel
theorem dX9_receive_75 : decode cX9_receive 75 = .ok (.dup, 1) := by decide +kernel
theorem dX9_receive_76 : decode cX9_receive 76 = .ok (.getfield 188, 3) := by decide +kernel
theorem dX9_receive_79 : decode cX9_receive 79 = .ok (.iconst 1, 1) := by decide +kernel
theorem dX9_receive_80 : decode cX9_receive 80 = .ok (.iadd, 1) := by decide +kernel
theorem dX9_receive_81 : decode cX9_receive 81 = .ok (.putfield 188, 3) := by decide +kernel
theorem dX9_receive_84 : decode cX9_receive 84 = .ok (.aload_n 0, 1) := by decide +kernel
theorem dX9_receive_85 : decode cX9_receive 85 = .ok (.getfield 188, 3) := by decide +kernel
theorem dX9_receive_88 : decode cX9_receive 88 = .ok (.bipush 16, 2) := by decide +kernel
theorem dX9_receive_90 : decode cX9_receive 90 = .ok (.irem, 1) := by decide +kernel
theorem dX9_receive_91 : decode cX9_receive 91 = .ok (.bipush 7, 2) := by decide +kernel
theorem dX9_receive_93 : decode cX9_receive 93 = .ok (.if_icmp .eq 4, 3) := by decide +kernel
theorem dX9_receive_96 : decode cX9_receive 96 = .ok (.return_, 1) := by decide +kernel
theorem dX9_receive_97 : decode cX9_receive 97 = .ok (.aload_n 0, 1) := by decide +kernel
theorem dX9_receive_98 : decode cX9_receive 98 = .ok (.getfield 188, 3) := by decide +kernel
theorem dX9_receive_101 : decode cX9_receive 101 = .ok (.bipush 16, 2) := by decide +kernel
theorem dX9_receive_103 : decode cX9_receive 103 = .ok (.idiv, 1) := by decide +kernel
theorem dX9_receive_104 : decode cX9_receive 104 = .ok (.istore_n 2, 1) := by decide +kernel
theorem dX9_receive_105 : decode cX9_receive 105 = .ok (.aload_n 0, 1) := by decide +kernel
theorem dX9_receive_106 : decode cX9_receive 106 = .ok (.getfield 185, 3) := by decide +kernel
theorem dX9_receive_109 : decode cX9_receive 109 = .ok (.invokestatic 115, 3) := by decide +kernel
theorem dX9_receive_112 : decode cX9_receive 112 = .ok (.istore_n 3, 1) := by decide +kernel
theorem dX9_receive_113 : decode cX9_receive 113 = .ok (.iload_n 2, 1) := by decide +kernel
theorem dX9_receive_114 : decode cX9_receive 114 = .ok (.ifCond .ne 18, 3) := by decide +kernel
theorem dX9_receive_117 : decode cX9_receive 117 = .ok (.iload_n 1, 1) := by decide +kernel
theorem dX9_receive_118 : decode cX9_receive 118 = .ok (.ifCond .eq 13, 3) := by decide +kernel
theorem dX9_receive_121 : decode cX9_receive 121 = .ok (.aload_n 0, 1) := by decide +kernel
theorem dX9_receive_122 : decode cX9_receive 122 = .ok (.iconst 0, 1) := by decide +kernel
theorem dX9_receive_123 : decode cX9_receive 123 = .ok (.putfield 100, 3) := by decide +kernel
theorem dX9_receive_126 : decode cX9_receive 126 = .ok (.aload_n 0, 1) := by decide +kernel
theorem dX9_receive_127 : decode cX9_receive 127 = .ok (.iconst 1, 1) := by decide +kernel
theorem dX9_receive_128 : decode cX9_receive 128 = .ok (.putfield 103, 3) := by decide +kernel
theorem dX9_receive_131 : decode cX9_receive 131 = .ok (.return_, 1) := by decide +kernel
theorem dX9_receive_132 : decode cX9_receive 132 = .ok (.iload_n 2, 1) := by decide +kernel
theorem dX9_receive_133 : decode cX9_receive 133 = .ok (.iload_n 3, 1) := by decide +kernel
theorem dX9_receive_134 : decode cX9_receive 134 = .ok (.if_icmp .gt 22, 3) := by decide +kernel
theorem dX9_receive_137 : decode cX9_receive 137 = .ok (.iload_n 1, 1) := by decide +kernel
theorem dX9_receive_138 : decode cX9_receive 138 = .ok (.ifCond .eq 17, 3) := by decide +kernel
theorem dX9_receive_141 : decode cX9_receive 141 = .ok (.aload_n 0, 1) := by decide +kernel
theorem dX9_receive_142 : decode cX9_receive 142 = .ok (.dup, 1) := by decide +kernel
theorem dX9_receive_143 : decode cX9_receive 143 = .ok (.getfield 191, 3) := by decide +kernel
theorem dX9_receive_146 : decode cX9_receive 146 = .ok (.iconst 1, 1) := by decide +kernel
theorem dX9_receive_147 : decode cX9_receive 147 = .ok (.iload_n 2, 1) := by decide +kernel
theorem dX9_receive_148 : decode cX9_receive 148 = .ok (.iconst 1, 1) := by decide +kernel
theorem dX9_receive_149 : decode cX9_receive 149 = .ok (.isub, 1) := by decide +kernel
theorem dX9_receive_150 : decode cX9_receive 150 = .ok (.ishl, 1) := by decide +kernel
theorem dX9_receive_151 : decode cX9_receive 151 = .ok (.ior, 1) := by decide +kernel
theorem dX9_receive_152 : decode cX9_receive 152 = .ok (.putfield 191, 3) := by decide +kernel
theorem dX9_receive_155 : decode cX9_receive 155 = .ok (.return_, 1) := by decide +kernel
theorem dX9_receive_156 : decode cX9_receive 156 = .ok (.iload_n 2, 1) := by decide +kernel
theorem dX9_receive_157 : decode cX9_receive 157 = .ok (.iload_n 3, 1) := by decide +kernel
theorem dX9_receive_158 : decode cX9_receive 158 = .ok (.iconst 1, 1) := by decide +kernel
theorem dX9_receive_159 : decode cX9_receive 159 = .ok (.iadd, 1) := by decide +kernel
theorem dX9_receive_160 : decode cX9_receive 160 = .ok (.if_icmp .ne 27, 3) := by decide +kernel
theorem dX9_receive_163 : decode cX9_receive 163 = .ok (.aload_n 0, 1) := by decide +kernel
theorem dX9_receive_164 : decode cX9_receive 164 = .ok (.getfield 185, 3) := by decide +kernel
theorem dX9_receive_167 : decode cX9_receive 167 = .ok (.invokestatic 124, 3) := by decide +kernel
theorem dX9_receive_170 : decode cX9_receive 170 = .ok (.ifCond .eq 17, 3) := by decide +kernel
theorem dX9_receive_173 : decode cX9_receive 173 = .ok (.aload_n 0, 1) := by decide +kernel
theorem dX9_receive_174 : decode cX9_receive 174 = .ok (.iload_n 1, 1) := by decide +kernel
theorem dX9_receive_175 : decode cX9_receive 175 = .ok (.ifCond .eq 7, 3) := by decide +kernel
theorem dX9_receive_178 : decode cX9_receive 178 = .ok (.iconst 1, 1) := by decide +kernel
theorem dX9_receive_179 : decode cX9_receive 179 = .ok (.goto 4, 3) := by decide +kernel
theorem dX9_receive_182 : decode cX9_receive 182 = .ok (.iconst 0, 1) := by decide +kernel
theorem dX9_receive_183 : decode cX9_receive 183 = .ok (.putfield 194, 3) := by decide +kernel
theorem dX9_receive_186 : decode cX9_receive 186 = .ok (.return_, 1) := by decide +kernel
theorem dX9_receive_187 : decode cX9_receive 187 = .ok (.iconst 0, 1) := by decide +kernel
theorem dX9_receive_188 : decode cX9_receive 188 = .ok (.istore 4, 2) := by decide +kernel
theorem dX9_receive_190 : decode cX9_receive 190 = .ok (.aload_n 0, 1) := by decide +kernel
theorem dX9_receive_191 : decode cX9_receive 191 = .ok (.getfield 185, 3) := by decide +kernel
theorem dX9_receive_194 : decode cX9_receive 194 = .ok (.invokestatic 124, 3) := by decide +kernel
theorem dX9_receive_197 : decode cX9_receive 197 = .ok (.ifCond .eq 27, 3) := by decide +kernel
theorem dX9_receive_200 : decode cX9_receive 200 = .ok (.aload_n 0, 1) := by decide +kernel
theorem dX9_receive_201 : decode cX9_receive 201 = .ok (.getfield 194, 3) := by decide +kernel
theorem dX9_receive_204 : decode cX9_receive 204 = .ok (.aload_n 0, 1) := by decide +kernel
theorem dX9_receive_205 : decode cX9_receive 205 = .ok (.getfield 185, 3) := by decide +kernel
theorem dX9_receive_208 : decode cX9_receive 208 = .ok (.aload_n 0, 1) := by decide +kernel
theorem dX9_receive_209 : decode cX9_receive 209 = .ok (.getfield 191, 3) := by decide +kernel
theorem dX9_receive_212 : decode cX9_receive 212 = .ok (.invokestatic 131, 3) := by decide +kernel
theorem dX9_receive_215 : decode cX9_receive 215 = .ok (.if_icmp .eq 9, 3) := by decide +kernel
theorem dX9_receive_218 : decode cX9_receive 218 = .ok (.iload 4, 2) := by decide +kernel
theorem dX9_receive_220 : decode cX9_receive 220 = .ok (.iconst 4, 1) := by decide +kernel
theorem dX9_receive_221 : decode cX9_receive 221 = .ok (.ior, 1) := by decide +kernel
theorem dX9_receive_222 : decode cX9_receive 222 = .ok (.istore 4, 2) := by decide +kernel
theorem dX9_receive_224 : decode cX9_receive 224 = .ok (.iload_n 1, 1) := by decide +kernel
theorem dX9_receive_225 : decode cX9_receive 225 = .ok (.ifCond .ne 10, 3) := by decide +kernel
theorem dX9_receive_228 : decode cX9_receive 228 = .ok (.iload 4, 2) := by decide +kernel
theorem dX9_receive_230 : decode cX9_receive 230 = .ok (.bipush 8, 2) := by decide +kernel
theorem dX9_receive_232 : decode cX9_receive 232 = .ok (.ior, 1) := by decide +kernel
theorem dX9_receive_233 : decode cX9_receive 233 = .ok (.istore 4, 2) := by decide +kernel
theorem dX9_receive_235 : decode cX9_receive 235 = .ok (.iload_n 1, 1) := by decide +kernel
theorem dX9_receive_236 : decode cX9_receive 236 = .ok (.ifCond .ne 24, 3) := by decide +kernel
theorem dX9_receive_239 : decode cX9_receive 239 = .ok (.aload_n 0, 1) := by decide +kernel
theorem dX9_receive_240 : decode cX9_receive 240 = .ok (.getfield 191, 3) := by decide +kernel
theorem dX9_receive_243 : decode cX9_receive 243 = .ok (.ifCond .ne 17, 3) := by decide +kernel
theorem dX9_receive_246 : decode cX9_receive 246 = .ok (.aload_n 0, 1) := by decide +kernel
theorem dX9_receive_247 : decode cX9_receive 247 = .ok (.getfield 194, 3) := by decide +kernel
theorem dX9_receive_250 : decode cX9_receive 250 = .ok (.ifCond .ne 10, 3) := by decide +kernel
theorem dX9_receive_253 : decode cX9_receive 253 = .ok (.iload 4, 2) := by decide +kernel
theorem dX9_receive_255 : decode cX9_receive 255 = .ok (.bipush 16, 2) := by decide +kernel
theorem dX9_receive_257 : decode cX9_receive 257 = .ok (.ior, 1) := by decide +kernel
theorem dX9_receive_258 : decode cX9_receive 258 = .ok (.istore 4, 2) := by decide +kernel
theorem dX9_receive_260 : decode cX9_receive 260 = .ok (.aload_n 0, 1) := by decide +kernel
theorem dX9_receive_261 : decode cX9_receive 261 = .ok (.iconst 0, 1) := by decide +kernel
theorem dX9_receive_262 : decode cX9_receive 262 = .ok (.putfield 100, 3) := by decide +kernel
theorem dX9_receive_265 : decode cX9_receive 265 = .ok (.aload_n 0, 1) := by decide +kernel
theorem dX9_receive_266 : decode cX9_receive 266 = .ok (.iload_n 1, 1) := by decide +kernel
theorem dX9_receive_267 : decode cX9_receive 267 = .ok (.putfield 103, 3) := by decide +kernel
theorem dX9_receive_270 : decode cX9_receive 270 = .ok (.aload_n 0, 1) := by decide +kernel
theorem dX9_receive_271 : decode cX9_receive 271 = .ok (.aload_n 0, 1) := by decide +kernel
theorem dX9_receive_272 : decode cX9_receive 272 = .ok (.getfield 191, 3) := by decide +kernel
theorem dX9_receive_275 : decode cX9_receive 275 = .ok (.iload 4, 2) := by decide +kernel
theorem dX9_receive_277 : decode cX9_receive 277 = .ok (.invokevirtual 197, 3) := by decide +kernel
theorem dX9_receive_280 : decode cX9_receive 280 = .ok (.return_, 1) := by decide +kernel
set_option maxRecDepth 20000 in
theorem ggX9_beat_X9_send : GoodIn wsX9_beat wsX9_send := goodIn_r _ [11, 12, 13, 14, 15, 16, 3, 17, 18, 2, 19, 20, 10, 21, 22, 23, 24, 25, 26, 27, 28, 29, 30, 31, 32, 33, 34, 35, 36, 37, 38, 39, 40, 41, 42, 43, 87, 88, 89, 90, 91, 92, 93, 94, 95, 96, 97, 98, 99, 100, 101, 102, 103, 104, 105, 106, 107, 108, 109, 110, 111, 112, 113, 114, 115, 116, 117, 118, 119, 120, 121, 122, 123, 124, 125, 126] (by decide +kernel) (by decide +kernel)
set_option maxRecDepth 20000 in
theorem gX9_beat_X9_send : GoodIn wsX9_beat (wsV RX9 201 RX9 yX9_send wsX9_send) := goodIn_app (goodIn_of _ (by decide +kernel)) ggX9_beat_X9_send
set_option maxRecDepth 20000 in
theorem ggX9_beat_X9_loops : GoodIn wsX9_beat wsX9_loops := goodIn_r _ [47, 48, 87, 88, 89, 90, 91, 92, 93, 94, 95, 96, 97, 98, 99, 100, 101, 102, 103, 104, 105, 106, 107, 108, 109, 110, 111, 112, 113, 114, 115, 116, 117, 118, 119, 120, 121, 122, 123, 124, 125, 126] (by decide +kernel) (by decide +kernel)
set_option maxRecDepth 20000 in
theorem gX9_beat_X9_loops : GoodIn wsX9_beat (wsV RX9 135 RX9 yX9_loops wsX9_loops) := goodIn_app (goodIn_of _ (by decide +kernel)) ggX9_beat_X9_loops
set_option maxRecDepth 20000 in
theorem ggX9_beat_X9_say : GoodIn wsX9_beat wsX9_say := goodIn_r _ [52, 53, 54, 55, 56, 87, 88, 89, 90, 91, 92, 93, 94, 95, 96, 97, 98, 99, 100, 101, 102, 103, 104, 105, 106, 107, 108, 109, 110, 111, 112, 113, 114, 115, 116, 117, 118, 119, 120, 121, 122, 123, 124, 125, 126] (by decide +kernel) (by decide +kernel)
set_option maxRecDepth 20000 in
theorem gX9_beat_X9_say : GoodIn wsX9_beat (wsV RX9 204 RX9 yX9_say wsX9_say) := goodIn_app (goodIn_of _ (by decide +kernel)) ggX9_beat_X9_say
set_option maxRecDepth 20000 in
theorem ggX9_beat_X9_come : GoodIn wsX9_beat wsX9_come := goodIn_r _ [60, 61, 62, 63, 64, 87, 88, 89, 90, 91, 92, 93, 94, 95, 96, 97, 98, 99, 100, 101, 102, 103, 104, 105, 106, 107, 108, 109, 110, 111, 112, 113, 114, 115, 116, 117, 118, 119, 120, 121, 122, 123, 124, 125, 126] (by decide +kernel) (by decide +kernel)
set_option maxRecDepth 20000 in
theorem gX9_beat_X9_come : GoodIn wsX9_beat (wsV RX9 208 RX9 yX9_come wsX9_come) := goodIn_app (goodIn_of _ (by decide +kernel)) ggX9_beat_X9_come
set_option maxRecDepth 20000 in
theorem ggX9_beat_X9_receive : GoodIn wsX9_beat wsX9_receive := goodIn_r _ [68, 2, 63, 69, 70, 3, 71, 72, 73, 74, 44, 45, 46, 10, 47, 48, 22, 23, 24, 25, 26, 27, 28, 29, 30, 31, 32, 33, 34, 35, 36, 37, 75, 76, 77, 78, 4, 79, 80, 81, 82, 5, 83, 84, 85, 86, 87, 88, 89, 90, 91, 92, 93, 94, 95, 96, 97, 98, 99, 100, 101, 102, 103, 104, 105, 106, 107, 108, 109, 110, 111, 112, 113, 114, 115, 116, 117, 118, 119, 120, 121, 122, 123, 124, 125, 126] (by decide +kernel) (by decide +kernel)
set_option maxRecDepth 20000 in
theorem gX9_beat_X9_receive : GoodIn wsX9_beat (wsV RX9 211 RX9 yX9_receive wsX9_receive) := goodIn_app (goodIn_of _ (by decide +kernel)) ggX9_beat_X9_receive
set_option maxRecDepth 20000 in
theorem ggX9_beat_X9_frameOf : GoodIn wsX9_beat wsX9_frameOf := goodIn_r _ [40, 22, 23, 10, 24, 25, 26, 27, 41, 42, 43] (by decide +kernel) (by decide +kernel)
set_option maxRecDepth 20000 in
theorem gX9_beat_X9_frameOf : GoodIn wsX9_beat (va_wsS RX9 182 yX9_frameOf wsX9_frameOf) := goodIn_app (goodIn_of _ (by decide +kernel)) ggX9_beat_X9_frameOf
theorem dX9_beat_0 : decode cX9_beat 0 = .ok (.aload_n 0, 1) := by decide +kernel
theorem dX9_beat_1 : decode cX9_beat 1 = .ok (.dup, 1) := by decide +kernel
theorem dX9_beat_2 : decode cX9_beat 2 = .ok (.getfield 106, 3) := by decide +kernel
theorem dX9_beat_5 : decode cX9_beat 5 = .ok (.iconst 1, 1) := by decide +kernel
theorem dX9_beat_6 : decode cX9_beat 6 = .ok (.iadd, 1) := by decide +kernel
theorem dX9_beat_7 : decode cX9_beat 7 = .ok (.putfield 106, 3) := by decide +kernel
theorem dX9_beat_10 : decode cX9_beat 10 = .ok (.aload_n 0, 1) := by decide +kernel
theorem dX9_beat_11 : decode cX9_beat 11 = .ok (.invokevirtual 201, 3) := by decide +kernel
theorem dX9_beat_14 : decode cX9_beat 14 = .ok (.aload_n 0, 1) := by decide +kernel
theorem dX9_beat_15 : decode cX9_beat 15 = .ok (.aload_n 0, 1) := by decide +kernel
theorem dX9_beat_16 : decode cX9_beat 16 = .ok (.invokevirtual 135, 3) := by decide +kernel
theorem dX9_beat_19 : decode cX9_beat 19 = .ok (.ifCond .ne 20, 3) := by decide +kernel
theorem dX9_beat_22 : decode cX9_beat 22 = .ok (.aload_n 0, 1) := by decide +kernel
theorem dX9_beat_23 : decode cX9_beat 23 = .ok (.getfield 97, 3) := by decide +kernel
theorem dX9_beat_26 : decode cX9_beat 26 = .ok (.ifCond .eq 17, 3) := by decide +kernel
theorem dX9_beat_29 : decode cX9_beat 29 = .ok (.aload_n 0, 1) := by decide +kernel
theorem dX9_beat_30 : decode cX9_beat 30 = .ok (.getfield 55, 3) := by decide +kernel
theorem dX9_beat_33 : decode cX9_beat 33 = .ok (.bipush 64, 2) := by decide +kernel
theorem dX9_beat_35 : decode cX9_beat 35 = .ok (.iand, 1) := by decide +kernel
theorem dX9_beat_36 : decode cX9_beat 36 = .ok (.ifCond .ne 7, 3) := by decide +kernel
theorem dX9_beat_39 : decode cX9_beat 39 = .ok (.iconst 1, 1) := by decide +kernel
theorem dX9_beat_40 : decode cX9_beat 40 = .ok (.goto 4, 3) := by decide +kernel
theorem dX9_beat_43 : decode cX9_beat 43 = .ok (.iconst 0, 1) := by decide +kernel
theorem dX9_beat_44 : decode cX9_beat 44 = .ok (.invokevirtual 204, 3) := by decide +kernel
theorem dX9_beat_47 : decode cX9_beat 47 = .ok (.aload_n 0, 1) := by decide +kernel
theorem dX9_beat_48 : decode cX9_beat 48 = .ok (.invokevirtual 208, 3) := by decide +kernel
theorem dX9_beat_51 : decode cX9_beat 51 = .ok (.aload_n 0, 1) := by decide +kernel
theorem dX9_beat_52 : decode cX9_beat 52 = .ok (.invokevirtual 211, 3) := by decide +kernel
theorem dX9_beat_55 : decode cX9_beat 55 = .ok (.aload_n 0, 1) := by decide +kernel
theorem dX9_beat_56 : decode cX9_beat 56 = .ok (.getfield 70, 3) := by decide +kernel
theorem dX9_beat_59 : decode cX9_beat 59 = .ok (.ifCond .ne 4, 3) := by decide +kernel
theorem dX9_beat_62 : decode cX9_beat 62 = .ok (.return_, 1) := by decide +kernel
theorem dX9_beat_63 : decode cX9_beat 63 = .ok (.aload_n 0, 1) := by decide +kernel
theorem dX9_beat_64 : decode cX9_beat 64 = .ok (.dup, 1) := by decide +kernel
theorem dX9_beat_65 : decode cX9_beat 65 = .ok (.getfield 85, 3) := by decide +kernel
theorem dX9_beat_68 : decode cX9_beat 68 = .ok (.iconst 1, 1) := by decide +kernel
theorem dX9_beat_69 : decode cX9_beat 69 = .ok (.iadd, 1) := by decide +kernel
theorem dX9_beat_70 : decode cX9_beat 70 = .ok (.putfield 85, 3) := by decide +kernel
theorem dX9_beat_73 : decode cX9_beat 73 = .ok (.aload_n 0, 1) := by decide +kernel
theorem dX9_beat_74 : decode cX9_beat 74 = .ok (.getfield 85, 3) := by decide +kernel
theorem dX9_beat_77 : decode cX9_beat 77 = .ok (.iconst 4, 1) := by decide +kernel
theorem dX9_beat_78 : decode cX9_beat 78 = .ok (.aload_n 0, 1) := by decide +kernel
theorem dX9_beat_79 : decode cX9_beat 79 = .ok (.getfield 55, 3) := by decide +kernel
theorem dX9_beat_82 : decode cX9_beat 82 = .ok (.invokestatic 182, 3) := by decide +kernel
theorem dX9_beat_85 : decode cX9_beat 85 = .ok (.imul, 1) := by decide +kernel
theorem dX9_beat_86 : decode cX9_beat 86 = .ok (.if_icmp .lt 8, 3) := by decide +kernel
theorem dX9_beat_89 : decode cX9_beat 89 = .ok (.aload_n 0, 1) := by decide +kernel
theorem dX9_beat_90 : decode cX9_beat 90 = .ok (.iconst 1, 1) := by decide +kernel
theorem dX9_beat_91 : decode cX9_beat 91 = .ok (.putfield 82, 3) := by decide +kernel
theorem dX9_beat_94 : decode cX9_beat 94 = .ok (.return_, 1) := by decide +kernel
set_option maxRecDepth 20000 in
theorem ggX9_clock_X9_beat : GoodIn wsX9_clock wsX9_beat := goodIn_r _ [9, 10, 11, 12, 13, 14, 15, 16, 17, 18, 8, 19, 20, 21, 22, 23, 24, 25, 26, 27, 28, 29, 30, 31, 32, 33, 34, 35, 36, 37, 38, 39, 40, 41, 42, 43, 44, 45, 46, 47, 48, 49, 50, 51, 52, 53, 54, 55, 56, 57, 58, 59, 60, 61, 62, 63, 64, 65, 66, 67, 68, 69, 70, 71, 72, 73, 74, 75, 76, 77, 78, 79, 80, 81, 82, 83, 84, 85, 86, 87, 88, 89, 90, 91, 92, 93, 94, 95, 96, 97, 98, 99, 100, 101, 102, 103, 104, 105, 106, 107, 108, 109, 110, 111, 112, 113, 114, 115, 116, 117, 118, 119, 120, 121, 122, 123, 124, 125, 126, 127, 128, 129, 130, 131, 132, 133, 134] (by decide +kernel) (by decide +kernel)
set_option maxRecDepth 20000 in
theorem gX9_clock_X9_beat : GoodIn wsX9_clock (wsV RX9 215 RX9 yX9_beat wsX9_beat) := goodIn_app (goodIn_of _ (by decide +kernel)) ggX9_clock_X9_beat
theorem dX9_clock_0 : decode cX9_clock 0 = .ok (.aload_n 0, 1) := by decide +kernel
theorem dX9_clock_1 : decode cX9_clock 1 = .ok (.iconst 0, 1) := by decide +kernel
theorem dX9_clock_2 : decode cX9_clock 2 = .ok (.putfield 35, 3) := by decide +kernel
theorem dX9_clock_5 : decode cX9_clock 5 = .ok (.iload_n 1, 1) := by decide +kernel
theorem dX9_clock_6 : decode cX9_clock 6 = .ok (.ifCond .lt 9, 3) := by decide +kernel
theorem dX9_clock_9 : decode cX9_clock 9 = .ok (.iload_n 1, 1) := by decide +kernel
theorem dX9_clock_10 : decode cX9_clock 10 = .ok (.ldc 214, 2) := by decide +kernel
theorem dX9_clock_12 : decode cX9_clock 12 = .ok (.if_icmp .le 5, 3) := by decide +kernel
theorem dX9_clock_15 : decode cX9_clock 15 = .ok (.iconst (-1), 1) := by decide +kernel
theorem dX9_clock_16 : decode cX9_clock 16 = .ok (.ireturn, 1) := by decide +kernel
theorem dX9_clock_17 : decode cX9_clock 17 = .ok (.iconst 0, 1) := by decide +kernel
theorem dX9_clock_18 : decode cX9_clock 18 = .ok (.istore_n 2, 1) := by decide +kernel
theorem dX9_clock_19 : decode cX9_clock 19 = .ok (.iconst 0, 1) := by decide +kernel
theorem dX9_clock_20 : decode cX9_clock 20 = .ok (.istore_n 3, 1) := by decide +kernel
theorem dX9_clock_21 : decode cX9_clock 21 = .ok (.iload_n 3, 1) := by decide +kernel
theorem dX9_clock_22 : decode cX9_clock 22 = .ok (.iload_n 1, 1) := by decide +kernel
theorem dX9_clock_23 : decode cX9_clock 23 = .ok (.if_icmp .ge 52, 3) := by decide +kernel
theorem dX9_clock_26 : decode cX9_clock 26 = .ok (.aload_n 0, 1) := by decide +kernel
theorem dX9_clock_27 : decode cX9_clock 27 = .ok (.dup, 1) := by decide +kernel
theorem dX9_clock_28 : decode cX9_clock 28 = .ok (.getfield 42, 3) := by decide +kernel
theorem dX9_clock_31 : decode cX9_clock 31 = .ok (.iconst 1, 1) := by decide +kernel
theorem dX9_clock_32 : decode cX9_clock 32 = .ok (.iadd, 1) := by decide +kernel
theorem dX9_clock_33 : decode cX9_clock 33 = .ok (.putfield 42, 3) := by decide +kernel
theorem dX9_clock_36 : decode cX9_clock 36 = .ok (.aload_n 0, 1) := by decide +kernel
theorem dX9_clock_37 : decode cX9_clock 37 = .ok (.getfield 39, 3) := by decide +kernel
theorem dX9_clock_40 : decode cX9_clock 40 = .ok (.ifCond .eq 29, 3) := by decide +kernel
theorem dX9_clock_43 : decode cX9_clock 43 = .ok (.aload_n 0, 1) := by decide +kernel
theorem dX9_clock_44 : decode cX9_clock 44 = .ok (.getfield 42, 3) := by decide +kernel
theorem dX9_clock_47 : decode cX9_clock 47 = .ok (.aload_n 0, 1) := by decide +kernel
theorem dX9_clock_48 : decode cX9_clock 48 = .ok (.getfield 39, 3) := by decide +kernel
theorem dX9_clock_51 : decode cX9_clock 51 = .ok (.if_icmp .ge 6, 3) := by decide +kernel
theorem dX9_clock_54 : decode cX9_clock 54 = .ok (.goto 15, 3) := by decide +kernel
theorem dX9_clock_57 : decode cX9_clock 57 = .ok (.aload_n 0, 1) := by decide +kernel
theorem dX9_clock_58 : decode cX9_clock 58 = .ok (.iconst 0, 1) := by decide +kernel
theorem dX9_clock_59 : decode cX9_clock 59 = .ok (.putfield 42, 3) := by decide +kernel
theorem dX9_clock_62 : decode cX9_clock 62 = .ok (.aload_n 0, 1) := by decide +kernel
theorem dX9_clock_63 : decode cX9_clock 63 = .ok (.invokevirtual 215, 3) := by decide +kernel
theorem dX9_clock_66 : decode cX9_clock 66 = .ok (.iinc 2 1, 3) := by decide +kernel
theorem dX9_clock_69 : decode cX9_clock 69 = .ok (.iinc 3 1, 3) := by decide +kernel
theorem dX9_clock_72 : decode cX9_clock 72 = .ok (.goto (-51), 3) := by decide +kernel
theorem dX9_clock_75 : decode cX9_clock 75 = .ok (.iload_n 2, 1) := by decide +kernel
theorem dX9_clock_76 : decode cX9_clock 76 = .ok (.ireturn, 1) := by decide +kernel
theorem dX9_wave_0 : decode cX9_wave 0 = .ok (.aload_n 0, 1) := by decide +kernel
theorem dX9_wave_1 : decode cX9_wave 1 = .ok (.iconst 0, 1) := by decide +kernel
theorem dX9_wave_2 : decode cX9_wave 2 = .ok (.putfield 35, 3) := by decide +kernel
theorem dX9_wave_5 : decode cX9_wave 5 = .ok (.iload_n 2, 1) := by decide +kernel
theorem dX9_wave_6 : decode cX9_wave 6 = .ok (.iconst 1, 1) := by decide +kernel
theorem dX9_wave_7 : decode cX9_wave 7 = .ok (.if_icmp .lt 20, 3) := by decide +kernel
theorem dX9_wave_10 : decode cX9_wave 10 = .ok (.iload_n 2, 1) := by decide +kernel
theorem dX9_wave_11 : decode cX9_wave 11 = .ok (.sipush 4000, 3) := by decide +kernel
theorem dX9_wave_14 : decode cX9_wave 14 = .ok (.if_icmp .gt 13, 3) := by decide +kernel
theorem dX9_wave_17 : decode cX9_wave 17 = .ok (.aload_n 0, 1) := by decide +kernel
theorem dX9_wave_18 : decode cX9_wave 18 = .ok (.getfield 88, 3) := by decide +kernel
theorem dX9_wave_21 : decode cX9_wave 21 = .ok (.sipush 500, 3) := by decide +kernel
theorem dX9_wave_24 : decode cX9_wave 24 = .ok (.if_icmp .ne 5, 3) := by decide +kernel
theorem dX9_wave_27 : decode cX9_wave 27 = .ok (.iconst (-1), 1) := by decide +kernel
theorem dX9_wave_28 : decode cX9_wave 28 = .ok (.ireturn, 1) := by decide +kernel
theorem dX9_wave_29 : decode cX9_wave 29 = .ok (.aload_n 0, 1) := by decide +kernel
theorem dX9_wave_30 : decode cX9_wave 30 = .ok (.getfield 19, 3) := by decide +kernel
theorem dX9_wave_33 : decode cX9_wave 33 = .ok (.aload_n 0, 1) := by decide +kernel
theorem dX9_wave_34 : decode cX9_wave 34 = .ok (.getfield 88, 3) := by decide +kernel
theorem dX9_wave_37 : decode cX9_wave 37 = .ok (.iload_n 1, 1) := by decide +kernel
theorem dX9_wave_38 : decode cX9_wave 38 = .ok (.bastore, 1) := by decide +kernel
theorem dX9_wave_39 : decode cX9_wave 39 = .ok (.aload_n 0, 1) := by decide +kernel
theorem dX9_wave_40 : decode cX9_wave 40 = .ok (.getfield 23, 3) := by decide +kernel
theorem dX9_wave_43 : decode cX9_wave 43 = .ok (.aload_n 0, 1) := by decide +kernel
theorem dX9_wave_44 : decode cX9_wave 44 = .ok (.getfield 88, 3) := by decide +kernel
theorem dX9_wave_47 : decode cX9_wave 47 = .ok (.iload_n 2, 1) := by decide +kernel
theorem dX9_wave_48 : decode cX9_wave 48 = .ok (.iastore, 1) := by decide +kernel
theorem dX9_wave_49 : decode cX9_wave 49 = .ok (.aload_n 0, 1) := by decide +kernel
theorem dX9_wave_50 : decode cX9_wave 50 = .ok (.dup, 1) := by decide +kernel
theorem dX9_wave_51 : decode cX9_wave 51 = .ok (.getfield 88, 3) := by decide +kernel
theorem dX9_wave_54 : decode cX9_wave 54 = .ok (.iconst 1, 1) := by decide +kernel
theorem dX9_wave_55 : decode cX9_wave 55 = .ok (.iadd, 1) := by decide +kernel
theorem dX9_wave_56 : decode cX9_wave 56 = .ok (.putfield 88, 3) := by decide +kernel
theorem dX9_wave_59 : decode cX9_wave 59 = .ok (.aload_n 0, 1) := by decide +kernel
theorem dX9_wave_60 : decode cX9_wave 60 = .ok (.getfield 88, 3) := by decide +kernel
theorem dX9_wave_63 : decode cX9_wave 63 = .ok (.ireturn, 1) := by decide +kernel
set_option maxRecDepth 20000 in
theorem ggX9_frame_X9_bitsOf : GoodIn wsX9_frame wsX9_bitsOf := goodIn_r _ [9] (by decide +kernel) (by decide +kernel)
set_option maxRecDepth 20000 in
theorem gX9_frame_X9_bitsOf : GoodIn wsX9_frame (va_wsS RX9 115 yX9_bitsOf wsX9_bitsOf) := goodIn_app (goodIn_of _ (by decide +kernel)) ggX9_frame_X9_bitsOf
set_option maxRecDepth 20000 in
theorem ggX9_frame_X9_hasParity : GoodIn wsX9_frame wsX9_hasParity := goodIn_r _ [12] (by decide +kernel) (by decide +kernel)
set_option maxRecDepth 20000 in
theorem gX9_frame_X9_hasParity : GoodIn wsX9_frame (va_wsS RX9 124 yX9_hasParity wsX9_hasParity) := goodIn_app (goodIn_of _ (by decide +kernel)) ggX9_frame_X9_hasParity
set_option maxRecDepth 20000 in
theorem ggX9_frame_X9_partOf : GoodIn wsX9_frame wsX9_partOf := goodIn_r _ [15, 6, 7, 8, 9, 10, 11, 12, 16, 17, 18, 19, 20, 21, 22, 23, 24, 25] (by decide +kernel) (by decide +kernel)
set_option maxRecDepth 20000 in
theorem gX9_frame_X9_partOf : GoodIn wsX9_frame (va_wsS RX9 178 yX9_partOf wsX9_partOf) := goodIn_app (goodIn_of _ (by decide +kernel)) ggX9_frame_X9_partOf
set_option maxRecDepth 20000 in
theorem ggX9_frame_X9_stopOf : GoodIn wsX9_frame wsX9_stopOf := goodIn_r _ [28, 6, 7, 8, 9] (by decide +kernel) (by decide +kernel)
set_option maxRecDepth 20000 in
theorem gX9_frame_X9_stopOf : GoodIn wsX9_frame (va_wsS RX9 128 yX9_stopOf wsX9_stopOf) := goodIn_app (goodIn_of _ (by decide +kernel)) ggX9_frame_X9_stopOf
theorem dX9_frame_0 : decode cX9_frame 0 = .ok (.aload_n 0, 1) := by decide +kernel
theorem dX9_frame_1 : decode cX9_frame 1 = .ok (.iconst 0, 1) := by decide +kernel
theorem dX9_frame_2 : decode cX9_frame 2 = .ok (.putfield 35, 3) := by decide +kernel
theorem dX9_frame_5 : decode cX9_frame 5 = .ok (.iconst 2, 1) := by decide +kernel
theorem dX9_frame_6 : decode cX9_frame 6 = .ok (.aload_n 0, 1) := by decide +kernel
theorem dX9_frame_7 : decode cX9_frame 7 = .ok (.getfield 55, 3) := by decide +kernel
theorem dX9_frame_10 : decode cX9_frame 10 = .ok (.invokestatic 115, 3) := by decide +kernel
theorem dX9_frame_13 : decode cX9_frame 13 = .ok (.iadd, 1) := by decide +kernel
theorem dX9_frame_14 : decode cX9_frame 14 = .ok (.aload_n 0, 1) := by decide +kernel
theorem dX9_frame_15 : decode cX9_frame 15 = .ok (.getfield 55, 3) := by decide +kernel
theorem dX9_frame_18 : decode cX9_frame 18 = .ok (.invokestatic 124, 3) := by decide +kernel
theorem dX9_frame_21 : decode cX9_frame 21 = .ok (.ifCond .eq 7, 3) := by decide +kernel
theorem dX9_frame_24 : decode cX9_frame 24 = .ok (.iconst 1, 1) := by decide +kernel
theorem dX9_frame_25 : decode cX9_frame 25 = .ok (.goto 4, 3) := by decide +kernel
theorem dX9_frame_28 : decode cX9_frame 28 = .ok (.iconst 0, 1) := by decide +kernel
theorem dX9_frame_29 : decode cX9_frame 29 = .ok (.iadd, 1) := by decide +kernel
theorem dX9_frame_30 : decode cX9_frame 30 = .ok (.istore_n 3, 1) := by decide +kernel
theorem dX9_frame_31 : decode cX9_frame 31 = .ok (.aload_n 0, 1) := by decide +kernel
theorem dX9_frame_32 : decode cX9_frame 32 = .ok (.getfield 88, 3) := by decide +kernel
theorem dX9_frame_35 : decode cX9_frame 35 = .ok (.iload_n 3, 1) := by decide +kernel
theorem dX9_frame_36 : decode cX9_frame 36 = .ok (.iadd, 1) := by decide +kernel
theorem dX9_frame_37 : decode cX9_frame 37 = .ok (.sipush 500, 3) := by decide +kernel
theorem dX9_frame_40 : decode cX9_frame 40 = .ok (.if_icmp .le 5, 3) := by decide +kernel
theorem dX9_frame_43 : decode cX9_frame 43 = .ok (.iconst (-1), 1) := by decide +kernel
theorem dX9_frame_44 : decode cX9_frame 44 = .ok (.ireturn, 1) := by decide +kernel
theorem dX9_frame_45 : decode cX9_frame 45 = .ok (.iconst 0, 1) := by decide +kernel
theorem dX9_frame_46 : decode cX9_frame 46 = .ok (.istore 4, 2) := by decide +kernel
theorem dX9_frame_48 : decode cX9_frame 48 = .ok (.iload 4, 2) := by decide +kernel
theorem dX9_frame_50 : decode cX9_frame 50 = .ok (.iload_n 3, 1) := by decide +kernel
theorem dX9_frame_51 : decode cX9_frame 51 = .ok (.if_icmp .ge 106, 3) := by decide +kernel
theorem dX9_frame_54 : decode cX9_frame 54 = .ok (.iload 4, 2) := by decide +kernel
theorem dX9_frame_56 : decode cX9_frame 56 = .ok (.iload_n 3, 1) := by decide +kernel
theorem dX9_frame_57 : decode cX9_frame 57 = .ok (.iconst 1, 1) := by decide +kernel
theorem dX9_frame_58 : decode cX9_frame 58 = .ok (.isub, 1) := by decide +kernel
theorem dX9_frame_59 : decode cX9_frame 59 = .ok (.if_icmp .eq 16, 3) := by decide +kernel
theorem dX9_frame_62 : decode cX9_frame 62 = .ok (.aload_n 0, 1) := by decide +kernel
theorem dX9_frame_63 : decode cX9_frame 63 = .ok (.getfield 55, 3) := by decide +kernel
theorem dX9_frame_66 : decode cX9_frame 66 = .ok (.iload_n 1, 1) := by decide +kernel
theorem dX9_frame_67 : decode cX9_frame 67 = .ok (.iload 4, 2) := by decide +kernel
theorem dX9_frame_69 : decode cX9_frame 69 = .ok (.invokestatic 178, 3) := by decide +kernel
theorem dX9_frame_72 : decode cX9_frame 72 = .ok (.ifCond .eq 7, 3) := by decide +kernel
theorem dX9_frame_75 : decode cX9_frame 75 = .ok (.iconst 1, 1) := by decide +kernel
theorem dX9_frame_76 : decode cX9_frame 76 = .ok (.goto 4, 3) := by decide +kernel
theorem dX9_frame_79 : decode cX9_frame 79 = .ok (.iconst 0, 1) := by decide +kernel
theorem dX9_frame_80 : decode cX9_frame 80 = .ok (.istore 5, 2) := by decide +kernel
theorem dX9_frame_82 : decode cX9_frame 82 = .ok (.aload_n 0, 1) := by decide +kernel
theorem dX9_frame_83 : decode cX9_frame 83 = .ok (.getfield 19, 3) := by decide +kernel
theorem dX9_frame_86 : decode cX9_frame 86 = .ok (.aload_n 0, 1) := by decide +kernel
theorem dX9_frame_87 : decode cX9_frame 87 = .ok (.getfield 88, 3) := by decide +kernel
theorem dX9_frame_90 : decode cX9_frame 90 = .ok (.iload 5, 2) := by decide +kernel
theorem dX9_frame_92 : decode cX9_frame 92 = .ok (.iload 4, 2) := by decide +kernel
theorem dX9_frame_94 : decode cX9_frame 94 = .ok (.iload_n 2, 1) := by decide +kernel
theorem dX9_frame_95 : decode cX9_frame 95 = .ok (.if_icmp .ne 7, 3) := by decide +kernel
theorem dX9_frame_98 : decode cX9_frame 98 = .ok (.iconst 1, 1) := by decide +kernel
theorem dX9_frame_99 : decode cX9_frame 99 = .ok (.goto 4, 3) := by decide +kernel
theorem dX9_frame_102 : decode cX9_frame 102 = .ok (.iconst 0, 1) := by decide +kernel
theorem dX9_frame_103 : decode cX9_frame 103 = .ok (.if_icmp .eq 7, 3) := by decide +kernel
theorem dX9_frame_106 : decode cX9_frame 106 = .ok (.iconst 1, 1) := by decide +kernel
theorem dX9_frame_107 : decode cX9_frame 107 = .ok (.goto 4, 3) := by decide +kernel
theorem dX9_frame_110 : decode cX9_frame 110 = .ok (.iconst 0, 1) := by decide +kernel
theorem dX9_frame_111 : decode cX9_frame 111 = .ok (.bastore, 1) := by decide +kernel
theorem dX9_frame_112 : decode cX9_frame 112 = .ok (.aload_n 0, 1) := by decide +kernel
theorem dX9_frame_113 : decode cX9_frame 113 = .ok (.getfield 23, 3) := by decide +kernel
theorem dX9_frame_116 : decode cX9_frame 116 = .ok (.aload_n 0, 1) := by decide +kernel
theorem dX9_frame_117 : decode cX9_frame 117 = .ok (.getfield 88, 3) := by decide +kernel
theorem dX9_frame_120 : decode cX9_frame 120 = .ok (.iload 4, 2) := by decide +kernel
theorem dX9_frame_122 : decode cX9_frame 122 = .ok (.iload_n 3, 1) := by decide +kernel
theorem dX9_frame_123 : decode cX9_frame 123 = .ok (.iconst 1, 1) := by decide +kernel
theorem dX9_frame_124 : decode cX9_frame 124 = .ok (.isub, 1) := by decide +kernel
theorem dX9_frame_125 : decode cX9_frame 125 = .ok (.if_icmp .ne 13, 3) := by decide +kernel
theorem dX9_frame_128 : decode cX9_frame 128 = .ok (.aload_n 0, 1) := by decide +kernel
theorem dX9_frame_129 : decode cX9_frame 129 = .ok (.getfield 55, 3) := by decide +kernel
theorem dX9_frame_132 : decode cX9_frame 132 = .ok (.invokestatic 128, 3) := by decide +kernel
theorem dX9_frame_135 : decode cX9_frame 135 = .ok (.goto 5, 3) := by decide +kernel
theorem dX9_frame_138 : decode cX9_frame 138 = .ok (.bipush 16, 2) := by decide +kernel
theorem dX9_frame_140 : decode cX9_frame 140 = .ok (.iastore, 1) := by decide +kernel
theorem dX9_frame_141 : decode cX9_frame 141 = .ok (.aload_n 0, 1) := by decide +kernel
theorem dX9_frame_142 : decode cX9_frame 142 = .ok (.dup, 1) := by decide +kernel
theorem dX9_frame_143 : decode cX9_frame 143 = .ok (.getfield 88, 3) := by decide +kernel
theorem dX9_frame_146 : decode cX9_frame 146 = .ok (.iconst 1, 1) := by decide +kernel
theorem dX9_frame_147 : decode cX9_frame 147 = .ok (.iadd, 1) := by decide +kernel
theorem dX9_frame_148 : decode cX9_frame 148 = .ok (.putfield 88, 3) := by decide +kernel
theorem dX9_frame_151 : decode cX9_frame 151 = .ok (.iinc 4 1, 3) := by decide +kernel
theorem dX9_frame_154 : decode cX9_frame 154 = .ok (.goto (-106), 3) := by decide +kernel
theorem dX9_frame_157 : decode cX9_frame 157 = .ok (.iload_n 3, 1) := by decide +kernel
theorem dX9_frame_158 : decode cX9_frame 158 = .ok (.ireturn, 1) := by decide +kernel
set_option maxRecDepth 20000 in
theorem ggX9_count_X9_reason : GoodIn wsX9_count wsX9_reason := goodIn_r _ [14, 15, 16, 2, 17, 18, 19, 20, 21, 22, 23, 24, 13, 25, 26, 27, 28, 29, 30, 31, 32, 33, 34, 35, 36, 37, 38, 39, 40, 41, 42, 43, 44, 45, 46, 47, 48, 49, 50, 51, 52, 53, 54, 55, 56, 57, 58, 59, 60, 61, 62, 63, 64, 65, 66] (by decide +kernel) (by decide +kernel)
set_option maxRecDepth 20000 in
theorem gX9_count_X9_reason : GoodIn wsX9_count (wsV RX9 163 RX9 yX9_reason wsX9_reason) := goodIn_app (goodIn_of _ (by decide +kernel)) ggX9_count_X9_reason
theorem dX9_count_0 : decode cX9_count 0 = .ok (.aload_n 0, 1) := by decide +kernel
theorem dX9_count_1 : decode cX9_count 1 = .ok (.iconst 0, 1) := by decide +kernel
theorem dX9_count_2 : decode cX9_count 2 = .ok (.putfield 35, 3) := by decide +kernel
theorem dX9_count_5 : decode cX9_count 5 = .ok (.iload_n 1, 1) := by decide +kernel
theorem dX9_count_6 : decode cX9_count 6 = .ok (.tableswitch 128 0 8 #[50, 55, 60, 65, 79, 92, 97, 102, 115], 50) := by decide +kernel
theorem dX9_count_56 : decode cX9_count 56 = .ok (.aload_n 0, 1) := by decide +kernel
theorem dX9_count_57 : decode cX9_count 57 = .ok (.getfield 70, 3) := by decide +kernel
theorem dX9_count_60 : decode cX9_count 60 = .ok (.ireturn, 1) := by decide +kernel
theorem dX9_count_61 : decode cX9_count 61 = .ok (.aload_n 0, 1) := by decide +kernel
theorem dX9_count_62 : decode cX9_count 62 = .ok (.getfield 76, 3) := by decide +kernel
theorem dX9_count_65 : decode cX9_count 65 = .ok (.ireturn, 1) := by decide +kernel
theorem dX9_count_66 : decode cX9_count 66 = .ok (.aload_n 0, 1) := by decide +kernel
theorem dX9_count_67 : decode cX9_count 67 = .ok (.getfield 106, 3) := by decide +kernel
theorem dX9_count_70 : decode cX9_count 70 = .ok (.ireturn, 1) := by decide +kernel
theorem dX9_count_71 : decode cX9_count 71 = .ok (.aload_n 0, 1) := by decide +kernel
theorem dX9_count_72 : decode cX9_count 72 = .ok (.invokevirtual 163, 3) := by decide +kernel
theorem dX9_count_75 : decode cX9_count 75 = .ok (.iconst 1, 1) := by decide +kernel
theorem dX9_count_76 : decode cX9_count 76 = .ok (.if_icmp .ne 7, 3) := by decide +kernel
theorem dX9_count_79 : decode cX9_count 79 = .ok (.iconst 0, 1) := by decide +kernel
theorem dX9_count_80 : decode cX9_count 80 = .ok (.goto 4, 3) := by decide +kernel
theorem dX9_count_83 : decode cX9_count 83 = .ok (.iconst 1, 1) := by decide +kernel
theorem dX9_count_84 : decode cX9_count 84 = .ok (.ireturn, 1) := by decide +kernel
theorem dX9_count_85 : decode cX9_count 85 = .ok (.aload_n 0, 1) := by decide +kernel
theorem dX9_count_86 : decode cX9_count 86 = .ok (.getfield 109, 3) := by decide +kernel
theorem dX9_count_89 : decode cX9_count 89 = .ok (.ifCond .eq 7, 3) := by decide +kernel
theorem dX9_count_92 : decode cX9_count 92 = .ok (.iconst 1, 1) := by decide +kernel
theorem dX9_count_93 : decode cX9_count 93 = .ok (.goto 4, 3) := by decide +kernel
theorem dX9_count_96 : decode cX9_count 96 = .ok (.iconst 0, 1) := by decide +kernel
theorem dX9_count_97 : decode cX9_count 97 = .ok (.ireturn, 1) := by decide +kernel
theorem dX9_count_98 : decode cX9_count 98 = .ok (.aload_n 0, 1) := by decide +kernel
theorem dX9_count_99 : decode cX9_count 99 = .ok (.getfield 88, 3) := by decide +kernel
theorem dX9_count_102 : decode cX9_count 102 = .ok (.ireturn, 1) := by decide +kernel
theorem dX9_count_103 : decode cX9_count 103 = .ok (.aload_n 0, 1) := by decide +kernel
theorem dX9_count_104 : decode cX9_count 104 = .ok (.getfield 112, 3) := by decide +kernel
theorem dX9_count_107 : decode cX9_count 107 = .ok (.ireturn, 1) := by decide +kernel
theorem dX9_count_108 : decode cX9_count 108 = .ok (.aload_n 0, 1) := by decide +kernel
theorem dX9_count_109 : decode cX9_count 109 = .ok (.getfield 94, 3) := by decide +kernel
theorem dX9_count_112 : decode cX9_count 112 = .ok (.ifCond .eq 7, 3) := by decide +kernel
theorem dX9_count_115 : decode cX9_count 115 = .ok (.iconst 1, 1) := by decide +kernel
theorem dX9_count_116 : decode cX9_count 116 = .ok (.goto 4, 3) := by decide +kernel
theorem dX9_count_119 : decode cX9_count 119 = .ok (.iconst 0, 1) := by decide +kernel
theorem dX9_count_120 : decode cX9_count 120 = .ok (.ireturn, 1) := by decide +kernel
theorem dX9_count_121 : decode cX9_count 121 = .ok (.aload_n 0, 1) := by decide +kernel
theorem dX9_count_122 : decode cX9_count 122 = .ok (.getfield 100, 3) := by decide +kernel
theorem dX9_count_125 : decode cX9_count 125 = .ok (.ifCond .eq 7, 3) := by decide +kernel
theorem dX9_count_128 : decode cX9_count 128 = .ok (.iconst 1, 1) := by decide +kernel
theorem dX9_count_129 : decode cX9_count 129 = .ok (.goto 4, 3) := by decide +kernel
theorem dX9_count_132 : decode cX9_count 132 = .ok (.iconst 0, 1) := by decide +kernel
theorem dX9_count_133 : decode cX9_count 133 = .ok (.ireturn, 1) := by decide +kernel
theorem dX9_count_134 : decode cX9_count 134 = .ok (.iconst (-1), 1) := by decide +kernel
theorem dX9_count_135 : decode cX9_count 135 = .ok (.ireturn, 1) := by decide +kernel
theorem dX9_run_0 : decode cX9_run 0 = .ok (.aload_n 0, 1) := by decide +kernel
theorem dX9_run_1 : decode cX9_run 1 = .ok (.iconst 0, 1) := by decide +kernel
theorem dX9_run_2 : decode cX9_run 2 = .ok (.putfield 35, 3) := by decide +kernel
theorem dX9_run_5 : decode cX9_run 5 = .ok (.iload_n 1, 1) := by decide +kernel
theorem dX9_run_6 : decode cX9_run 6 = .ok (.ifCond .lt 26, 3) := by decide +kernel
theorem dX9_run_9 : decode cX9_run 9 = .ok (.iload_n 1, 1) := by decide +kernel
theorem dX9_run_10 : decode cX9_run 10 = .ok (.bipush 40, 2) := by decide +kernel
theorem dX9_run_12 : decode cX9_run 12 = .ok (.if_icmp .ge 20, 3) := by decide +kernel
theorem dX9_run_15 : decode cX9_run 15 = .ok (.iload_n 1, 1) := by decide +kernel
theorem dX9_run_16 : decode cX9_run 16 = .ok (.aload_n 0, 1) := by decide +kernel
theorem dX9_run_17 : decode cX9_run 17 = .ok (.getfield 112, 3) := by decide +kernel
theorem dX9_run_20 : decode cX9_run 20 = .ok (.if_icmp .ge 12, 3) := by decide +kernel
theorem dX9_run_23 : decode cX9_run 23 = .ok (.iload_n 2, 1) := by decide +kernel
theorem dX9_run_24 : decode cX9_run 24 = .ok (.ifCond .lt 8, 3) := by decide +kernel
theorem dX9_run_27 : decode cX9_run 27 = .ok (.iload_n 2, 1) := by decide +kernel
theorem dX9_run_28 : decode cX9_run 28 = .ok (.iconst 1, 1) := by decide +kernel
theorem dX9_run_29 : decode cX9_run 29 = .ok (.if_icmp .le 5, 3) := by decide +kernel
theorem dX9_run_32 : decode cX9_run 32 = .ok (.iconst (-1), 1) := by decide +kernel
theorem dX9_run_33 : decode cX9_run 33 = .ok (.ireturn, 1) := by decide +kernel
theorem dX9_run_34 : decode cX9_run 34 = .ok (.aload_n 0, 1) := by decide +kernel
theorem dX9_run_35 : decode cX9_run 35 = .ok (.getfield 112, 3) := by decide +kernel
theorem dX9_run_38 : decode cX9_run 38 = .ok (.iconst 1, 1) := by decide +kernel
theorem dX9_run_39 : decode cX9_run 39 = .ok (.isub, 1) := by decide +kernel
theorem dX9_run_40 : decode cX9_run 40 = .ok (.iload_n 1, 1) := by decide +kernel
theorem dX9_run_41 : decode cX9_run 41 = .ok (.isub, 1) := by decide +kernel
theorem dX9_run_42 : decode cX9_run 42 = .ok (.bipush 40, 2) := by decide +kernel
theorem dX9_run_44 : decode cX9_run 44 = .ok (.irem, 1) := by decide +kernel
theorem dX9_run_45 : decode cX9_run 45 = .ok (.istore_n 3, 1) := by decide +kernel
theorem dX9_run_46 : decode cX9_run 46 = .ok (.iload_n 2, 1) := by decide +kernel
theorem dX9_run_47 : decode cX9_run 47 = .ok (.iconst 1, 1) := by decide +kernel
theorem dX9_run_48 : decode cX9_run 48 = .ok (.if_icmp .ne 12, 3) := by decide +kernel
theorem dX9_run_51 : decode cX9_run 51 = .ok (.aload_n 0, 1) := by decide +kernel
theorem dX9_run_52 : decode cX9_run 52 = .ok (.getfield 29, 3) := by decide +kernel
theorem dX9_run_55 : decode cX9_run 55 = .ok (.iload_n 3, 1) := by decide +kernel
theorem dX9_run_56 : decode cX9_run 56 = .ok (.iaload, 1) := by decide +kernel
theorem dX9_run_57 : decode cX9_run 57 = .ok (.goto 17, 3) := by decide +kernel
theorem dX9_run_60 : decode cX9_run 60 = .ok (.aload_n 0, 1) := by decide +kernel
theorem dX9_run_61 : decode cX9_run 61 = .ok (.getfield 26, 3) := by decide +kernel
theorem dX9_run_64 : decode cX9_run 64 = .ok (.iload_n 3, 1) := by decide +kernel
theorem dX9_run_65 : decode cX9_run 65 = .ok (.baload, 1) := by decide +kernel
theorem dX9_run_66 : decode cX9_run 66 = .ok (.ifCond .eq 7, 3) := by decide +kernel
theorem dX9_run_69 : decode cX9_run 69 = .ok (.iconst 1, 1) := by decide +kernel
theorem dX9_run_70 : decode cX9_run 70 = .ok (.goto 4, 3) := by decide +kernel
theorem dX9_run_73 : decode cX9_run 73 = .ok (.iconst 0, 1) := by decide +kernel
theorem dX9_run_74 : decode cX9_run 74 = .ok (.ireturn, 1) := by decide +kernel
theorem dJ6_bitCount_0f7a4_0 : decode cJ6_bitCount_0f7a4 0 = .ok (.iload_n 0, 1) := by decide +kernel
theorem dJ6_bitCount_0f7a4_1 : decode cJ6_bitCount_0f7a4 1 = .ok (.iload_n 0, 1) := by decide +kernel
theorem dJ6_bitCount_0f7a4_2 : decode cJ6_bitCount_0f7a4 2 = .ok (.iconst 1, 1) := by decide +kernel
theorem dJ6_bitCount_0f7a4_3 : decode cJ6_bitCount_0f7a4 3 = .ok (.iushr, 1) := by decide +kernel
theorem dJ6_bitCount_0f7a4_4 : decode cJ6_bitCount_0f7a4 4 = .ok (.ldc_w 265, 3) := by decide +kernel
theorem dJ6_bitCount_0f7a4_7 : decode cJ6_bitCount_0f7a4 7 = .ok (.iand, 1) := by decide +kernel
theorem dJ6_bitCount_0f7a4_8 : decode cJ6_bitCount_0f7a4 8 = .ok (.isub, 1) := by decide +kernel
theorem dJ6_bitCount_0f7a4_9 : decode cJ6_bitCount_0f7a4 9 = .ok (.istore_n 0, 1) := by decide +kernel
theorem dJ6_bitCount_0f7a4_10 : decode cJ6_bitCount_0f7a4 10 = .ok (.iload_n 0, 1) := by decide +kernel
theorem dJ6_bitCount_0f7a4_11 : decode cJ6_bitCount_0f7a4 11 = .ok (.ldc_w 266, 3) := by decide +kernel
theorem dJ6_bitCount_0f7a4_14 : decode cJ6_bitCount_0f7a4 14 = .ok (.iand, 1) := by decide +kernel
theorem dJ6_bitCount_0f7a4_15 : decode cJ6_bitCount_0f7a4 15 = .ok (.iload_n 0, 1) := by decide +kernel
theorem dJ6_bitCount_0f7a4_16 : decode cJ6_bitCount_0f7a4 16 = .ok (.iconst 2, 1) := by decide +kernel
theorem dJ6_bitCount_0f7a4_17 : decode cJ6_bitCount_0f7a4 17 = .ok (.iushr, 1) := by decide +kernel
theorem dJ6_bitCount_0f7a4_18 : decode cJ6_bitCount_0f7a4 18 = .ok (.ldc_w 266, 3) := by decide +kernel
theorem dJ6_bitCount_0f7a4_21 : decode cJ6_bitCount_0f7a4 21 = .ok (.iand, 1) := by decide +kernel
theorem dJ6_bitCount_0f7a4_22 : decode cJ6_bitCount_0f7a4 22 = .ok (.iadd, 1) := by decide +kernel
theorem dJ6_bitCount_0f7a4_23 : decode cJ6_bitCount_0f7a4 23 = .ok (.istore_n 0, 1) := by decide +kernel
theorem dJ6_bitCount_0f7a4_24 : decode cJ6_bitCount_0f7a4 24 = .ok (.iload_n 0, 1) := by decide +kernel
theorem dJ6_bitCount_0f7a4_25 : decode cJ6_bitCount_0f7a4 25 = .ok (.iload_n 0, 1) := by decide +kernel
theorem dJ6_bitCount_0f7a4_26 : decode cJ6_bitCount_0f7a4 26 = .ok (.iconst 4, 1) := by decide +kernel
theorem dJ6_bitCount_0f7a4_27 : decode cJ6_bitCount_0f7a4 27 = .ok (.iushr, 1) := by decide +kernel
theorem dJ6_bitCount_0f7a4_28 : decode cJ6_bitCount_0f7a4 28 = .ok (.iadd, 1) := by decide +kernel
theorem dJ6_bitCount_0f7a4_29 : decode cJ6_bitCount_0f7a4 29 = .ok (.ldc_w 267, 3) := by decide +kernel
theorem dJ6_bitCount_0f7a4_32 : decode cJ6_bitCount_0f7a4 32 = .ok (.iand, 1) := by decide +kernel
theorem dJ6_bitCount_0f7a4_33 : decode cJ6_bitCount_0f7a4 33 = .ok (.istore_n 0, 1) := by decide +kernel
theorem dJ6_bitCount_0f7a4_34 : decode cJ6_bitCount_0f7a4 34 = .ok (.iload_n 0, 1) := by decide +kernel
theorem dJ6_bitCount_0f7a4_35 : decode cJ6_bitCount_0f7a4 35 = .ok (.iload_n 0, 1) := by decide +kernel
theorem dJ6_bitCount_0f7a4_36 : decode cJ6_bitCount_0f7a4 36 = .ok (.bipush 8, 2) := by decide +kernel
theorem dJ6_bitCount_0f7a4_38 : decode cJ6_bitCount_0f7a4 38 = .ok (.iushr, 1) := by decide +kernel
theorem dJ6_bitCount_0f7a4_39 : decode cJ6_bitCount_0f7a4 39 = .ok (.iadd, 1) := by decide +kernel
theorem dJ6_bitCount_0f7a4_40 : decode cJ6_bitCount_0f7a4 40 = .ok (.istore_n 0, 1) := by decide +kernel
theorem dJ6_bitCount_0f7a4_41 : decode cJ6_bitCount_0f7a4 41 = .ok (.iload_n 0, 1) := by decide +kernel
theorem dJ6_bitCount_0f7a4_42 : decode cJ6_bitCount_0f7a4 42 = .ok (.iload_n 0, 1) := by decide +kernel
theorem dJ6_bitCount_0f7a4_43 : decode cJ6_bitCount_0f7a4 43 = .ok (.bipush 16, 2) := by decide +kernel
theorem dJ6_bitCount_0f7a4_45 : decode cJ6_bitCount_0f7a4 45 = .ok (.iushr, 1) := by decide +kernel
theorem dJ6_bitCount_0f7a4_46 : decode cJ6_bitCount_0f7a4 46 = .ok (.iadd, 1) := by decide +kernel
theorem dJ6_bitCount_0f7a4_47 : decode cJ6_bitCount_0f7a4 47 = .ok (.istore_n 0, 1) := by decide +kernel
theorem dJ6_bitCount_0f7a4_48 : decode cJ6_bitCount_0f7a4 48 = .ok (.iload_n 0, 1) := by decide +kernel
theorem dJ6_bitCount_0f7a4_49 : decode cJ6_bitCount_0f7a4 49 = .ok (.bipush 63, 2) := by decide +kernel
theorem dJ6_bitCount_0f7a4_51 : decode cJ6_bitCount_0f7a4 51 = .ok (.iand, 1) := by decide +kernel
theorem dJ6_bitCount_0f7a4_52 : decode cJ6_bitCount_0f7a4 52 = .ok (.ireturn, 1) := by decide +kernel
theorem dJ9_max_7cf53_0 : decode cJ9_max_7cf53 0 = .ok (.iload_n 0, 1) := by decide +kernel
theorem dJ9_max_7cf53_1 : decode cJ9_max_7cf53 1 = .ok (.iload_n 1, 1) := by decide +kernel
theorem dJ9_max_7cf53_2 : decode cJ9_max_7cf53 2 = .ok (.if_icmp .lt 7, 3) := by decide +kernel
theorem dJ9_max_7cf53_5 : decode cJ9_max_7cf53 5 = .ok (.iload_n 0, 1) := by decide +kernel
theorem dJ9_max_7cf53_6 : decode cJ9_max_7cf53 6 = .ok (.goto 4, 3) := by decide +kernel
theorem dJ9_max_7cf53_9 : decode cJ9_max_7cf53 9 = .ok (.iload_n 1, 1) := by decide +kernel
theorem dJ9_max_7cf53_10 : decode cJ9_max_7cf53 10 = .ok (.ireturn, 1) := by decide +kernel
set_option maxRecDepth 20000 in
theorem ggL_write_X8_write : GoodIn wsL_write wsX8_write := goodIn_ca (goodIn_r _ [6, 7, 8, 9, 10, 11, 12, 13, 14, 15, 16, 17, 18, 19, 20, 21, 5, 22, 23, 24, 25, 26, 27, 28, 29, 30, 31, 32, 33, 34, 35, 36, 37, 38, 39, 40, 41, 42, 43, 44, 45, 46, 47, 48, 49, 50, 51, 52, 53, 54, 55, 56, 57, 58, 59, 60, 61, 62, 63, 64, 65, 66, 67, 68, 69, 70, 71, 72, 73, 74, 75, 76, 77, 78, 79, 80, 81, 82, 83, 84, 85, 86, 87, 88, 89, 90, 91, 92, 93, 94, 95, 96, 97, 98, 99, 100, 101, 102, 103, 104, 105, 106, 107, 108, 109, 110, 111, 112, 113, 114, 115, 116, 117, 118, 119, 120, 121, 122, 123, 124, 125, 126, 127, 128, 129, 130] (by decide +kernel) (by decide +kernel)) (goodIn_sub (fun _ h => List.mem_cons_of_mem _ (List.mem_append_right _ h)) (by decide +kernel))
set_option maxRecDepth 20000 in
theorem gL_write_X8_write : GoodIn wsL_write (wsV RL 7 RX8 yX8_write wsX8_write) := goodIn_app (goodIn_of _ (by decide +kernel)) ggL_write_X8_write
theorem dL_write_0 : decode cL_write 0 = .ok (.aload_n 0, 1) := by decide +kernel
theorem dL_write_1 : decode cL_write 1 = .ok (.iload_n 1, 1) := by decide +kernel
theorem dL_write_2 : decode cL_write 2 = .ok (.iload_n 2, 1) := by decide +kernel
theorem dL_write_3 : decode cL_write 3 = .ok (.invokevirtual 7, 3) := by decide +kernel
theorem dL_write_6 : decode cL_write 6 = .ok (.goto 6, 3) := by decide +kernel
theorem dL_write_9 : decode cL_write 9 = .ok (.astore_n 3, 1) := by decide +kernel
theorem dL_write_10 : decode cL_write 10 = .ok (.iconst 1, 1) := by decide +kernel
theorem dL_write_11 : decode cL_write 11 = .ok (.ireturn, 1) := by decide +kernel
theorem dL_write_12 : decode cL_write 12 = .ok (.iconst 0, 1) := by decide +kernel
theorem dL_write_13 : decode cL_write 13 = .ok (.ireturn, 1) := by decide +kernel
set_option maxRecDepth 20000 in
theorem ggL_read_X8_read : GoodIn wsL_read wsX8_read := goodIn_ca (goodIn_r _ [6, 7, 8, 9, 10, 11, 12, 13, 14, 15, 16, 17, 18, 19, 5, 20, 21, 22, 23, 24, 25, 26, 27, 28, 29, 30, 31, 32, 33, 34, 35, 36, 37, 38, 39, 40, 41, 42, 43, 44, 45, 46, 47, 48, 49, 50, 51, 52, 53, 54, 55, 56, 57, 58, 59, 60, 61, 62, 63, 64, 65, 66, 67, 68, 69, 70, 71, 72, 73, 74, 75, 76, 77, 78, 79, 80, 81, 82, 83, 84, 85, 86, 87, 88, 89, 90, 91, 92, 93, 94, 95, 96, 97, 98, 99, 100, 101, 102, 103, 104, 105, 106, 107, 108, 109, 110, 111, 112, 113, 114, 115, 116, 117, 118, 119, 120, 121, 122, 123, 124, 125, 126, 127, 128, 129, 130, 131, 132, 133, 134, 135, 136, 137, 138, 139, 140, 141, 142, 143, 144, 145, 146, 147, 148, 149, 150, 151] (by decide +kernel) (by decide +kernel)) (goodIn_sub (fun _ h => List.mem_cons_of_mem _ (List.mem_append_right _ h)) (by decide +kernel))
set_option maxRecDepth 20000 in
theorem gL_read_X8_read : GoodIn wsL_read (wsV RL 15 RX8 yX8_read wsX8_read) := goodIn_app (goodIn_of _ (by decide +kernel)) ggL_read_X8_read
theorem dL_read_0 : decode cL_read 0 = .ok (.aload_n 2, 1) := by decide +kernel
theorem dL_read_1 : decode cL_read 1 = .ok (.iconst 0, 1) := by decide +kernel
theorem dL_read_2 : decode cL_read 2 = .ok (.aload_n 0, 1) := by decide +kernel
theorem dL_read_3 : decode cL_read 3 = .ok (.iload_n 1, 1) := by decide +kernel
theorem dL_read_4 : decode cL_read 4 = .ok (.invokevirtual 15, 3) := by decide +kernel
theorem dL_read_7 : decode cL_read 7 = .ok (.i2l, 1) := by decide +kernel
theorem dL_read_8 : decode cL_read 8 = .ok (.lastore, 1) := by decide +kernel
theorem dL_read_9 : decode cL_read 9 = .ok (.goto 6, 3) := by decide +kernel
theorem dL_read_12 : decode cL_read 12 = .ok (.astore_n 3, 1) := by decide +kernel
theorem dL_read_13 : decode cL_read 13 = .ok (.iconst 1, 1) := by decide +kernel
theorem dL_read_14 : decode cL_read 14 = .ok (.ireturn, 1) := by decide +kernel
theorem dL_read_15 : decode cL_read 15 = .ok (.iconst 0, 1) := by decide +kernel
theorem dL_read_16 : decode cL_read 16 = .ok (.ireturn, 1) := by decide +kernel
set_option maxRecDepth 20000 in
theorem ggL_law_X8_init : GoodIn wsL_law wsX8_init := goodIn_r _ [9, 10, 11, 12, 13, 14, 15, 16, 17, 18, 19, 20, 21, 22, 23, 24, 25, 26, 27, 28, 29, 30, 31, 32, 33, 34, 35, 36, 37, 38, 39, 40, 41, 42, 43, 44, 45, 46, 47, 48, 49, 50, 51, 52, 53, 54, 55, 56, 57, 58, 59, 60, 61, 62, 63, 64, 65, 66, 67, 68, 69, 70, 71, 72, 73, 74, 75, 76, 77, 78, 79, 80, 2, 81, 82, 83, 84, 85, 86, 87, 88, 89, 90, 91, 92, 93, 94, 95, 96, 97, 98, 99, 100, 101, 102, 103, 104, 105, 106, 107, 108, 109, 110, 111, 112, 113, 114, 115, 116, 117, 118, 119, 120, 121, 122, 123, 124, 125, 126, 127, 128, 129, 130, 131, 132, 133, 134, 135, 136, 137, 138, 139, 140, 141, 142, 143, 144, 715, 716, 657, 658, 659, 660, 661, 662, 663, 664, 665, 666, 667, 668, 669, 670, 671, 672, 673, 674, 717, 718, 719, 720, 721, 722, 723, 724, 725, 726, 727, 728, 729, 730, 731, 732, 733, 734, 735, 736, 737, 738] (by decide +kernel) (by decide +kernel)
set_option maxRecDepth 20000 in
theorem gL_law_X8_init : GoodIn wsL_law (wsX8_init) := ggL_law_X8_init
set_option maxRecDepth 20000 in
theorem ggL_law_X9_init : GoodIn wsL_law wsX9_init := goodIn_r _ [147, 148, 11, 12, 53, 149, 150, 151, 152, 153, 154, 155, 156, 157, 158, 159, 5, 160, 161, 162, 163, 164, 165, 166, 167, 168, 169, 170, 171, 172, 173, 174, 175, 176, 177, 178, 179, 180, 181, 182, 183, 184, 185, 186, 675, 676, 677, 678, 679, 680, 681, 682, 683, 684, 685, 686, 687, 688, 689, 690, 691, 692, 693, 694, 695, 696, 697, 698, 699, 700, 701, 702, 703, 704, 705, 706, 707, 708, 709, 710, 711, 712, 713, 714] (by decide +kernel) (by decide +kernel)
set_option maxRecDepth 20000 in
theorem gL_law_X9_init : GoodIn wsL_law (wsX9_init) := ggL_law_X9_init
set_option maxRecDepth 20000 in
theorem ggL_law_L_write : GoodIn wsL_law wsL_write := goodIn_ca (goodIn_r _ [190, 191, 192, 193, 194, 2, 195, 196, 197, 83, 16, 198, 199, 200, 15, 201, 96, 202, 97, 203, 204, 205, 206, 33, 84, 207, 208, 209, 210, 21, 86, 88, 211, 212, 213, 19, 214, 56, 215, 216, 217, 218, 219, 220, 221, 222, 54, 223, 224, 225, 226, 227, 228, 229, 230, 55, 231, 232, 233, 234, 235, 236, 237, 238, 82, 239, 240, 241, 242, 243, 244, 245, 246, 20, 89, 85, 98, 99, 100, 101, 247, 248, 249, 250, 251, 252, 32, 253, 129, 254, 255, 256, 257, 130, 131, 132, 258, 259, 260, 261, 262, 263, 264, 265, 657, 658, 659, 660, 661, 662, 663, 664, 665, 666, 667, 668, 669, 670, 671, 672, 673, 674, 715, 716, 717, 718, 719, 731, 732, 733, 734] (by decide +kernel) (by decide +kernel)) (goodIn_sub (fun _ h => List.mem_append_right _ h) (by decide +kernel))
set_option maxRecDepth 20000 in
theorem gL_law_L_write : GoodIn wsL_law (va_wsS RL 23 yL_write wsL_write) := goodIn_app (goodIn_of _ (by decide +kernel)) ggL_law_L_write
set_option maxRecDepth 20000 in
theorem ggL_law_X9_write : GoodIn wsL_law wsX9_write := goodIn_r _ [269, 161, 162, 270, 163, 175, 174, 151, 165, 164, 166, 167, 168, 169, 271, 272, 273, 5, 274, 170, 275, 276, 277, 278, 279, 280, 281, 282, 283, 284, 285, 286, 287, 288, 289, 290, 172, 176, 177, 291, 292, 293, 294, 171, 675, 676, 677, 678, 679, 680, 681, 682, 683, 684, 685, 686, 687, 688, 689, 690, 691, 692, 693, 694, 695, 696, 697, 698, 699, 700, 701, 702, 703, 704, 705, 706, 707, 708, 709, 710, 711, 712, 713, 714] (by decide +kernel) (by decide +kernel)
set_option maxRecDepth 20000 in
theorem gL_law_X9_write : GoodIn wsL_law (wsV RL 28 RX9 yX9_write wsX9_write) := goodIn_app (goodIn_of _ (by decide +kernel)) ggL_law_X9_write
set_option maxRecDepth 20000 in
theorem ggL_law_X9_thrown : GoodIn wsL_law wsX9_thrown := goodIn_r _ [298, 161, 675, 676, 677, 678, 679, 680, 681, 682, 683, 684, 685, 686, 687, 688, 689, 690, 691, 692, 693, 694, 695, 696, 697, 698, 699, 700, 701, 702, 703, 704, 705, 706, 707, 708, 709, 710, 711, 712, 713, 714] (by decide +kernel) (by decide +kernel)
set_option maxRecDepth 20000 in
theorem gL_law_X9_thrown : GoodIn wsL_law (wsV RL 29 RX9 yX9_thrown wsX9_thrown) := goodIn_app (goodIn_of _ (by decide +kernel)) ggL_law_X9_thrown
set_option maxRecDepth 20000 in
theorem ggL_law_L_read : GoodIn wsL_law wsL_read := goodIn_ca (goodIn_r _ [301, 191, 302, 303, 304, 2, 305, 196, 197, 83, 16, 306, 307, 308, 15, 309, 96, 310, 311, 312, 313, 82, 33, 84, 314, 315, 316, 317, 20, 89, 90, 91, 318, 319, 320, 19, 321, 322, 323, 324, 325, 56, 54, 227, 228, 229, 230, 55, 326, 327, 328, 329, 330, 331, 332, 333, 88, 86, 334, 335, 336, 337, 87, 85, 338, 339, 340, 341, 342, 343, 344, 345, 211, 212, 213, 214, 346, 347, 348, 32, 349, 132, 350, 351, 352, 353, 129, 354, 355, 356, 357, 21, 25, 239, 240, 241, 242, 358, 359, 360, 24, 361, 109, 362, 363, 364, 365, 366, 231, 232, 233, 234, 223, 224, 225, 226, 367, 368, 369, 370, 131, 657, 658, 659, 660, 661, 662, 663, 664, 665, 666, 667, 668, 669, 670, 671, 672, 673, 674, 715, 716, 717, 718, 719, 731, 732, 733, 734, 720, 721, 722, 723] (by decide +kernel) (by decide +kernel)) (goodIn_sub (fun _ h => List.mem_append_right _ h) (by decide +kernel))
set_option maxRecDepth 20000 in
theorem gL_law_L_read : GoodIn wsL_law (va_wsS RL 33 yL_read wsL_read) := goodIn_app (goodIn_of _ (by decide +kernel)) ggL_law_L_read
set_option maxRecDepth 20000 in
theorem ggL_law_X9_read : GoodIn wsL_law wsX9_read := goodIn_r _ [374, 161, 162, 164, 175, 165, 167, 168, 171, 169, 279, 280, 281, 5, 282, 375, 376, 377, 378, 176, 177, 172, 149, 150, 379, 380, 381, 382, 173, 166, 383, 384, 385, 386, 387, 388, 389, 390, 174, 180, 271, 272, 273, 274, 170, 275, 276, 277, 278, 675, 676, 677, 678, 679, 680, 681, 682, 683, 684, 685, 686, 687, 688, 689, 690, 691, 692, 693, 694, 695, 696, 697, 698, 699, 700, 701, 702, 703, 704, 705, 706, 707, 708, 709, 710, 711, 712, 713, 714] (by decide +kernel) (by decide +kernel)
set_option maxRecDepth 20000 in
theorem gL_law_X9_read : GoodIn wsL_law (wsV RL 36 RX9 yX9_read wsX9_read) := goodIn_app (goodIn_of _ (by decide +kernel)) ggL_law_X9_read
set_option maxRecDepth 20000 in
theorem ggL_law_X8_clock : GoodIn wsL_law wsX8_clock := goodIn_r _ [394, 395, 16, 396, 397, 398, 15, 399, 96, 97, 400, 401, 402, 2, 403, 90, 33, 41, 83, 37, 29, 404, 405, 406, 407, 25, 21, 88, 358, 359, 360, 24, 361, 109, 239, 240, 241, 19, 242, 56, 318, 319, 320, 321, 322, 323, 324, 325, 54, 227, 228, 229, 230, 55, 408, 409, 410, 411, 106, 107, 108, 326, 327, 328, 329, 412, 413, 414, 415, 416, 417, 418, 419, 420, 421, 422, 423, 424, 425, 426, 427, 428, 429, 430, 431, 432, 433, 434, 435, 436, 437, 438, 439, 440, 441, 442, 443, 444, 445, 259, 260, 32, 261, 129, 446, 447, 448, 40, 449, 76, 143, 450, 451, 452, 453, 454, 455, 456, 457, 458, 459, 212, 213, 214, 460, 461, 224, 225, 226, 462, 463, 464, 465, 466, 467, 220, 221, 222, 223, 468, 469, 470, 36, 471, 70, 137, 472, 473, 474, 232, 233, 234, 475, 476, 477, 478, 28, 479, 114, 122, 480, 481, 482, 483, 115, 116, 117, 118, 119, 120, 121, 123, 124, 484, 485, 486, 487, 488, 489, 490, 491, 492, 493, 494, 495, 496, 497, 498, 499, 500, 501, 502, 503, 504, 505, 506, 20, 87, 86, 91, 211, 215, 216, 217, 218, 219, 231, 507, 508, 509, 510, 89, 511, 657, 658, 659, 660, 661, 662, 663, 664, 665, 666, 667, 668, 669, 670, 671, 672, 673, 674, 715, 716, 720, 721, 722, 723, 717, 718, 719, 731, 732, 733, 734, 737, 738, 735, 736, 724, 725, 726, 727, 728, 729, 730] (by decide +kernel) (by decide +kernel)
set_option maxRecDepth 20000 in
theorem gL_law_X8_clock : GoodIn wsL_law (wsV RL 37 RX8 yX8_clock wsX8_clock) := goodIn_app (goodIn_of _ (by decide +kernel)) ggL_law_X8_clock
set_option maxRecDepth 20000 in
theorem ggL_law_X9_clock : GoodIn wsL_law wsX9_clock := goodIn_r _ [515, 161, 516, 163, 162, 517, 518, 519, 5, 520, 184, 181, 167, 172, 177, 176, 521, 522, 523, 524, 180, 174, 151, 525, 175, 526, 527, 528, 529, 530, 531, 532, 533, 534, 535, 536, 537, 538, 539, 540, 430, 431, 432, 433, 434, 435, 541, 542, 543, 544, 545, 546, 275, 276, 277, 278, 168, 547, 548, 549, 550, 185, 186, 155, 156, 551, 552, 553, 554, 178, 153, 179, 154, 555, 556, 557, 558, 182, 183, 559, 560, 561, 562, 563, 564, 565, 566, 173, 165, 149, 150, 283, 284, 285, 286, 675, 676, 677, 678, 679, 680, 681, 682, 683, 684, 685, 686, 687, 688, 689, 690, 691, 692, 693, 694, 695, 696, 697, 698, 699, 700, 701, 702, 703, 704, 705, 706, 707, 708, 709, 710, 711, 712, 713, 714] (by decide +kernel) (by decide +kernel)
set_option maxRecDepth 20000 in
theorem gL_law_X9_clock : GoodIn wsL_law (wsV RL 40 RX9 yX9_clock wsX9_clock) := goodIn_app (goodIn_of _ (by decide +kernel)) ggL_law_X9_clock
set_option maxRecDepth 20000 in
theorem ggL_law_X8_wave : GoodIn wsL_law wsX8_wave := goodIn_r _ [570, 37, 571, 572, 573, 36, 574, 70, 575, 463, 464, 19, 465, 54, 56, 576, 577, 578, 579, 580, 220, 221, 222, 223, 224, 225, 226, 227, 228, 229, 230, 55, 581, 582, 583, 584, 585, 212, 213, 214, 657, 658, 659, 660, 661, 662, 663, 664, 665, 666, 667, 668, 669, 670, 671, 672, 673, 674, 735, 736, 717, 718, 719] (by decide +kernel) (by decide +kernel)
set_option maxRecDepth 20000 in
theorem gL_law_X8_wave : GoodIn wsL_law (wsV RL 41 RX8 yX8_wave wsX8_wave) := goodIn_app (goodIn_of _ (by decide +kernel)) ggL_law_X8_wave
set_option maxRecDepth 20000 in
theorem ggL_law_X9_wave : GoodIn wsL_law wsX9_wave := goodIn_r _ [589, 161, 178, 153, 154, 675, 676, 677, 678, 679, 680, 681, 682, 683, 684, 685, 686, 687, 688, 689, 690, 691, 692, 693, 694, 695, 696, 697, 698, 699, 700, 701, 702, 703, 704, 705, 706, 707, 708, 709, 710, 711, 712, 713, 714] (by decide +kernel) (by decide +kernel)
set_option maxRecDepth 20000 in
theorem gL_law_X9_wave : GoodIn wsL_law (wsV RL 45 RX9 yX9_wave wsX9_wave) := goodIn_app (goodIn_of _ (by decide +kernel)) ggL_law_X9_wave
set_option maxRecDepth 20000 in
theorem ggL_law_X8_frame : GoodIn wsL_law wsX8_frame := goodIn_r _ [593, 83, 37, 594, 440, 418, 441, 420, 421, 422, 423, 424, 425, 571, 572, 573, 36, 574, 70, 575, 463, 464, 19, 465, 54, 56, 595, 417, 419, 426, 427, 428, 429, 430, 431, 432, 433, 434, 435, 596, 597, 598, 439, 442, 443, 444, 576, 577, 578, 579, 580, 220, 221, 222, 223, 224, 225, 226, 227, 228, 229, 230, 55, 657, 658, 659, 660, 661, 662, 663, 664, 665, 666, 667, 668, 669, 670, 671, 672, 673, 674, 735, 736, 717, 718, 719] (by decide +kernel) (by decide +kernel)
set_option maxRecDepth 20000 in
theorem gL_law_X8_frame : GoodIn wsL_law (wsV RL 46 RX8 yX8_frame wsX8_frame) := goodIn_app (goodIn_of _ (by decide +kernel)) ggL_law_X8_frame
set_option maxRecDepth 20000 in
theorem ggL_law_X9_frame : GoodIn wsL_law wsX9_frame := goodIn_r _ [602, 161, 167, 178, 153, 154, 531, 532, 5, 533, 534, 535, 536, 528, 529, 530, 537, 538, 539, 540, 430, 431, 432, 433, 434, 435, 544, 545, 546, 675, 676, 677, 678, 679, 680, 681, 682, 683, 684, 685, 686, 687, 688, 689, 690, 691, 692, 693, 694, 695, 696, 697, 698, 699, 700, 701, 702, 703, 704, 705, 706, 707, 708, 709, 710, 711, 712, 713, 714] (by decide +kernel) (by decide +kernel)
set_option maxRecDepth 20000 in
theorem gL_law_X9_frame : GoodIn wsL_law (wsV RL 50 RX9 yX9_frame wsX9_frame) := goodIn_app (goodIn_of _ (by decide +kernel)) ggL_law_X9_frame
set_option maxRecDepth 20000 in
theorem ggL_law_X8_inputs : GoodIn wsL_law wsX8_inputs := goodIn_r _ [606, 33, 607, 608, 609, 32, 610, 130, 254, 255, 256, 257, 131, 132, 258, 259, 260, 261, 129, 262, 263, 264, 265, 657, 658, 659, 660, 661, 662, 663, 664, 665, 666, 667, 668, 669, 670, 671, 672, 673, 674, 731, 732, 733, 734] (by decide +kernel) (by decide +kernel)
set_option maxRecDepth 20000 in
theorem gL_law_X8_inputs : GoodIn wsL_law (wsV RL 51 RX8 yX8_inputs wsX8_inputs) := goodIn_app (goodIn_of _ (by decide +kernel)) ggL_law_X8_inputs
set_option maxRecDepth 20000 in
theorem ggL_law_X9_inputs : GoodIn wsL_law wsX9_inputs := goodIn_r _ [614, 161, 170, 271, 272, 273, 5, 274, 168, 275, 276, 277, 278, 291, 292, 293, 294, 171, 675, 676, 677, 678, 679, 680, 681, 682, 683, 684, 685, 686, 687, 688, 689, 690, 691, 692, 693, 694, 695, 696, 697, 698, 699, 700, 701, 702, 703, 704, 705, 706, 707, 708, 709, 710, 711, 712, 713, 714] (by decide +kernel) (by decide +kernel)
set_option maxRecDepth 20000 in
theorem gL_law_X9_inputs : GoodIn wsL_law (wsV RL 55 RX9 yX9_inputs wsX9_inputs) := goodIn_app (goodIn_of _ (by decide +kernel)) ggL_law_X9_inputs
set_option maxRecDepth 20000 in
theorem ggL_law_X8_reset : GoodIn wsL_law wsX8_reset := goodIn_r _ [618, 78, 79, 80, 2, 81, 16, 20, 21, 25, 29, 33, 37, 41, 82, 83, 84, 85, 86, 87, 88, 89, 90, 91, 92, 93, 94, 15, 95, 96, 97, 98, 99, 100, 19, 101, 55, 56, 102, 103, 104, 24, 105, 106, 107, 108, 109, 110, 111, 112, 28, 113, 114, 115, 116, 117, 118, 119, 120, 121, 122, 123, 124, 125, 126, 127, 32, 128, 129, 130, 131, 132, 133, 134, 135, 36, 136, 70, 137, 138, 139, 140, 141, 40, 142, 76, 143, 144, 657, 658, 659, 660, 661, 662, 663, 664, 665, 666, 667, 668, 669, 670, 671, 672, 673, 674, 715, 716, 717, 718, 719, 720, 721, 722, 723, 724, 725, 726, 727, 728, 729, 730, 731, 732, 733, 734, 735, 736, 737, 738] (by decide +kernel) (by decide +kernel)
set_option maxRecDepth 20000 in
theorem gL_law_X8_reset : GoodIn wsL_law (wsV RL 56 RX8 yX8_reset wsX8_reset) := goodIn_app (goodIn_of _ (by decide +kernel)) ggL_law_X8_reset
set_option maxRecDepth 20000 in
theorem ggL_law_X9_reset : GoodIn wsL_law wsX9_reset := goodIn_r _ [160, 161, 162, 163, 164, 165, 166, 167, 168, 169, 170, 171, 172, 173, 174, 175, 176, 177, 178, 179, 180, 181, 182, 183, 184, 185, 186, 675, 676, 677, 678, 679, 680, 681, 682, 683, 684, 685, 686, 687, 688, 689, 690, 691, 692, 693, 694, 695, 696, 697, 698, 699, 700, 701, 702, 703, 704, 705, 706, 707, 708, 709, 710, 711, 712, 713, 714] (by decide +kernel) (by decide +kernel)
set_option maxRecDepth 20000 in
theorem gL_law_X9_reset : GoodIn wsL_law (wsV RL 59 RX9 yX9_reset wsX9_reset) := goodIn_app (goodIn_of _ (by decide +kernel)) ggL_law_X9_reset
set_option maxRecDepth 20000 in
theorem ggL_law_X8_count : GoodIn wsL_law wsX8_count := goodIn_r _ [623, 20, 21, 90, 41, 37, 25, 29, 211, 212, 213, 19, 214, 56, 334, 335, 336, 2, 337, 87, 86, 85, 89, 88, 33, 338, 339, 340, 341, 82, 342, 343, 344, 345, 318, 319, 320, 321, 322, 323, 324, 325, 54, 227, 228, 229, 230, 55, 346, 347, 348, 32, 349, 132, 624, 625, 626, 40, 627, 76, 450, 240, 241, 242, 451, 452, 453, 454, 455, 456, 457, 458, 459, 460, 581, 582, 583, 36, 584, 70, 585, 628, 629, 630, 631, 143, 358, 359, 360, 24, 361, 109, 632, 633, 634, 28, 635, 114, 657, 658, 659, 660, 661, 662, 663, 664, 665, 666, 667, 668, 669, 670, 671, 672, 673, 674, 717, 718, 719, 731, 732, 733, 734, 737, 738, 735, 736, 720, 721, 722, 723, 724, 725, 726, 727, 728, 729, 730] (by decide +kernel) (by decide +kernel)
set_option maxRecDepth 20000 in
theorem gL_law_X8_count : GoodIn wsL_law (wsV RL 60 RX8 yX8_count wsX8_count) := goodIn_app (goodIn_of _ (by decide +kernel)) ggL_law_X8_count
set_option maxRecDepth 20000 in
theorem ggL_law_X9_count : GoodIn wsL_law wsX9_count := goodIn_r _ [639, 161, 172, 174, 184, 185, 178, 186, 180, 182, 379, 380, 381, 5, 382, 164, 173, 165, 166, 176, 175, 171, 383, 384, 385, 386, 150, 675, 676, 677, 678, 679, 680, 681, 682, 683, 684, 685, 686, 687, 688, 689, 690, 691, 692, 693, 694, 695, 696, 697, 698, 699, 700, 701, 702, 703, 704, 705, 706, 707, 708, 709, 710, 711, 712, 713, 714] (by decide +kernel) (by decide +kernel)
set_option maxRecDepth 20000 in
theorem gL_law_X9_count : GoodIn wsL_law (wsV RL 63 RX9 yX9_count wsX9_count) := goodIn_app (goodIn_of _ (by decide +kernel)) ggL_law_X9_count
set_option maxRecDepth 20000 in
theorem ggL_law_X8_run : GoodIn wsL_law wsX8_run := goodIn_r _ [643, 41, 644, 645, 646, 40, 647, 76, 459, 212, 213, 19, 214, 56, 648, 452, 453, 454, 455, 456, 457, 458, 460, 323, 324, 325, 54, 227, 228, 229, 230, 55, 649, 650, 651, 652, 657, 658, 659, 660, 661, 662, 663, 664, 665, 666, 667, 668, 669, 670, 671, 672, 673, 674, 737, 738, 717, 718, 719] (by decide +kernel) (by decide +kernel)
set_option maxRecDepth 20000 in
theorem gL_law_X8_run : GoodIn wsL_law (wsV RL 64 RX8 yX8_run wsX8_run) := goodIn_app (goodIn_of _ (by decide +kernel)) ggL_law_X8_run
set_option maxRecDepth 20000 in
theorem ggL_law_X9_run : GoodIn wsL_law wsX9_run := goodIn_r _ [656, 161, 186, 156, 155, 675, 676, 677, 678, 679, 680, 681, 682, 683, 684, 685, 686, 687, 688, 689, 690, 691, 692, 693, 694, 695, 696, 697, 698, 699, 700, 701, 702, 703, 704, 705, 706, 707, 708, 709, 710, 711, 712, 713, 714] (by decide +kernel) (by decide +kernel)
set_option maxRecDepth 20000 in
theorem gL_law_X9_run : GoodIn wsL_law (wsV RL 67 RX9 yX9_run wsX9_run) := goodIn_app (goodIn_of _ (by decide +kernel)) ggL_law_X9_run
theorem dL_law_0 : decode cL_law 0 = .ok (.new 8, 3) := by decide +kernel
theorem dL_law_3 : decode cL_law 3 = .ok (.dup, 1) := by decide +kernel
theorem dL_law_4 : decode cL_law 4 = .ok (.invokespecial 19, 3) := by decide +kernel
theorem dL_law_7 : decode cL_law 7 = .ok (.astore_n 1, 1) := by decide +kernel
theorem dL_law_8 : decode cL_law 8 = .ok (.new 20, 3) := by decide +kernel
theorem dL_law_11 : decode cL_law 11 = .ok (.dup, 1) := by decide +kernel
theorem dL_law_12 : decode cL_law 12 = .ok (.invokespecial 22, 3) := by decide +kernel
theorem dL_law_15 : decode cL_law 15 = .ok (.astore_n 2, 1) := by decide +kernel
theorem dL_law_16 : decode cL_law 16 = .ok (.iconst 1, 1) := by decide +kernel
theorem dL_law_17 : decode cL_law 17 = .ok (.newarray .long, 2) := by decide +kernel
theorem dL_law_19 : decode cL_law 19 = .ok (.astore_n 3, 1) := by decide +kernel
theorem dL_law_20 : decode cL_law 20 = .ok (.iconst 0, 1) := by decide +kernel
theorem dL_law_21 : decode cL_law 21 = .ok (.istore 4, 2) := by decide +kernel
theorem dL_law_23 : decode cL_law 23 = .ok (.iload 4, 2) := by decide +kernel
theorem dL_law_25 : decode cL_law 25 = .ok (.aload_n 0, 1) := by decide +kernel
theorem dL_law_26 : decode cL_law 26 = .ok (.arraylength, 1) := by decide +kernel
theorem dL_law_27 : decode cL_law 27 = .ok (.iconst 3, 1) := by decide +kernel
theorem dL_law_28 : decode cL_law 28 = .ok (.isub, 1) := by decide +kernel
theorem dL_law_29 : decode cL_law 29 = .ok (.if_icmp .gt 382, 3) := by decide +kernel
theorem dL_law_32 : decode cL_law 32 = .ok (.aload_n 0, 1) := by decide +kernel
theorem dL_law_33 : decode cL_law 33 = .ok (.iload 4, 2) := by decide +kernel
theorem dL_law_35 : decode cL_law 35 = .ok (.iaload, 1) := by decide +kernel
theorem dL_law_36 : decode cL_law 36 = .ok (.bipush 15, 2) := by decide +kernel
theorem dL_law_38 : decode cL_law 38 = .ok (.iand, 1) := by decide +kernel
theorem dL_law_39 : decode cL_law 39 = .ok (.tableswitch 366 0 8 #[49, 97, 153, 178, 231, 268, 293, 304, 329], 49) := by decide +kernel
theorem dL_law_88 : decode cL_law 88 = .ok (.aload_n 1, 1) := by decide +kernel
theorem dL_law_89 : decode cL_law 89 = .ok (.aload_n 0, 1) := by decide +kernel
theorem dL_law_90 : decode cL_law 90 = .ok (.iload 4, 2) := by decide +kernel
theorem dL_law_92 : decode cL_law 92 = .ok (.iconst 1, 1) := by decide +kernel
theorem dL_law_93 : decode cL_law 93 = .ok (.iadd, 1) := by decide +kernel
theorem dL_law_94 : decode cL_law 94 = .ok (.iaload, 1) := by decide +kernel
theorem dL_law_95 : decode cL_law 95 = .ok (.aload_n 0, 1) := by decide +kernel
theorem dL_law_96 : decode cL_law 96 = .ok (.iload 4, 2) := by decide +kernel
theorem dL_law_98 : decode cL_law 98 = .ok (.iconst 2, 1) := by decide +kernel
theorem dL_law_99 : decode cL_law 99 = .ok (.iadd, 1) := by decide +kernel
theorem dL_law_100 : decode cL_law 100 = .ok (.iaload, 1) := by decide +kernel
theorem dL_law_101 : decode cL_law 101 = .ok (.invokestatic 23, 3) := by decide +kernel
theorem dL_law_104 : decode cL_law 104 = .ok (.istore 5, 2) := by decide +kernel
theorem dL_law_106 : decode cL_law 106 = .ok (.aload_n 2, 1) := by decide +kernel
theorem dL_law_107 : decode cL_law 107 = .ok (.aload_n 0, 1) := by decide +kernel
theorem dL_law_108 : decode cL_law 108 = .ok (.iload 4, 2) := by decide +kernel
theorem dL_law_110 : decode cL_law 110 = .ok (.iconst 1, 1) := by decide +kernel
theorem dL_law_111 : decode cL_law 111 = .ok (.iadd, 1) := by decide +kernel
theorem dL_law_112 : decode cL_law 112 = .ok (.iaload, 1) := by decide +kernel
theorem dL_law_113 : decode cL_law 113 = .ok (.aload_n 0, 1) := by decide +kernel
theorem dL_law_114 : decode cL_law 114 = .ok (.iload 4, 2) := by decide +kernel
theorem dL_law_116 : decode cL_law 116 = .ok (.iconst 2, 1) := by decide +kernel
theorem dL_law_117 : decode cL_law 117 = .ok (.iadd, 1) := by decide +kernel
theorem dL_law_118 : decode cL_law 118 = .ok (.iaload, 1) := by decide +kernel
theorem dL_law_119 : decode cL_law 119 = .ok (.invokevirtual 28, 3) := by decide +kernel
theorem dL_law_122 : decode cL_law 122 = .ok (.aload_n 2, 1) := by decide +kernel
theorem dL_law_123 : decode cL_law 123 = .ok (.invokevirtual 29, 3) := by decide +kernel
theorem dL_law_126 : decode cL_law 126 = .ok (.iload 5, 2) := by decide +kernel
theorem dL_law_128 : decode cL_law 128 = .ok (.if_icmp .eq 5, 3) := by decide +kernel
theorem dL_law_131 : decode cL_law 131 = .ok (.iconst 0, 1) := by decide +kernel
theorem dL_law_132 : decode cL_law 132 = .ok (.ireturn, 1) := by decide +kernel
theorem dL_law_133 : decode cL_law 133 = .ok (.goto 272, 3) := by decide +kernel
theorem dL_law_136 : decode cL_law 136 = .ok (.aload_n 1, 1) := by decide +kernel
theorem dL_law_137 : decode cL_law 137 = .ok (.aload_n 0, 1) := by decide +kernel
theorem dL_law_138 : decode cL_law 138 = .ok (.iload 4, 2) := by decide +kernel
theorem dL_law_140 : decode cL_law 140 = .ok (.iconst 1, 1) := by decide +kernel
theorem dL_law_141 : decode cL_law 141 = .ok (.iadd, 1) := by decide +kernel
theorem dL_law_142 : decode cL_law 142 = .ok (.iaload, 1) := by decide +kernel
theorem dL_law_143 : decode cL_law 143 = .ok (.aload_n 3, 1) := by decide +kernel
theorem dL_law_144 : decode cL_law 144 = .ok (.invokestatic 33, 3) := by decide +kernel
theorem dL_law_147 : decode cL_law 147 = .ok (.istore 5, 2) := by decide +kernel
theorem dL_law_149 : decode cL_law 149 = .ok (.aload_n 2, 1) := by decide +kernel
theorem dL_law_150 : decode cL_law 150 = .ok (.aload_n 0, 1) := by decide +kernel
theorem dL_law_151 : decode cL_law 151 = .ok (.iload 4, 2) := by decide +kernel
theorem dL_law_153 : decode cL_law 153 = .ok (.iconst 1, 1) := by decide +kernel
theorem dL_law_154 : decode cL_law 154 = .ok (.iadd, 1) := by decide +kernel
theorem dL_law_155 : decode cL_law 155 = .ok (.iaload, 1) := by decide +kernel
theorem dL_law_156 : decode cL_law 156 = .ok (.invokevirtual 36, 3) := by decide +kernel
theorem dL_law_159 : decode cL_law 159 = .ok (.istore 6, 2) := by decide +kernel
theorem dL_law_161 : decode cL_law 161 = .ok (.aload_n 2, 1) := by decide +kernel
theorem dL_law_162 : decode cL_law 162 = .ok (.invokevirtual 29, 3) := by decide +kernel
theorem dL_law_165 : decode cL_law 165 = .ok (.iload 5, 2) := by decide +kernel
theorem dL_law_167 : decode cL_law 167 = .ok (.if_icmp .eq 5, 3) := by decide +kernel
theorem dL_law_170 : decode cL_law 170 = .ok (.iconst 0, 1) := by decide +kernel
theorem dL_law_171 : decode cL_law 171 = .ok (.ireturn, 1) := by decide +kernel
theorem dL_law_172 : decode cL_law 172 = .ok (.iload 5, 2) := by decide +kernel
theorem dL_law_174 : decode cL_law 174 = .ok (.ifCond .ne 15, 3) := by decide +kernel
theorem dL_law_177 : decode cL_law 177 = .ok (.aload_n 3, 1) := by decide +kernel
theorem dL_law_178 : decode cL_law 178 = .ok (.iconst 0, 1) := by decide +kernel
theorem dL_law_179 : decode cL_law 179 = .ok (.laload, 1) := by decide +kernel
theorem dL_law_180 : decode cL_law 180 = .ok (.iload 6, 2) := by decide +kernel
theorem dL_law_182 : decode cL_law 182 = .ok (.i2l, 1) := by decide +kernel
theorem dL_law_183 : decode cL_law 183 = .ok (.lcmp, 1) := by decide +kernel
theorem dL_law_184 : decode cL_law 184 = .ok (.ifCond .eq 5, 3) := by decide +kernel
theorem dL_law_187 : decode cL_law 187 = .ok (.iconst 0, 1) := by decide +kernel
theorem dL_law_188 : decode cL_law 188 = .ok (.ireturn, 1) := by decide +kernel
theorem dL_law_189 : decode cL_law 189 = .ok (.goto 216, 3) := by decide +kernel
theorem dL_law_192 : decode cL_law 192 = .ok (.aload_n 1, 1) := by decide +kernel
theorem dL_law_193 : decode cL_law 193 = .ok (.aload_n 0, 1) := by decide +kernel
theorem dL_law_194 : decode cL_law 194 = .ok (.iload 4, 2) := by decide +kernel
theorem dL_law_196 : decode cL_law 196 = .ok (.iconst 1, 1) := by decide +kernel
theorem dL_law_197 : decode cL_law 197 = .ok (.iadd, 1) := by decide +kernel
theorem dL_law_198 : decode cL_law 198 = .ok (.iaload, 1) := by decide +kernel
theorem dL_law_199 : decode cL_law 199 = .ok (.invokevirtual 37, 3) := by decide +kernel
theorem dL_law_202 : decode cL_law 202 = .ok (.aload_n 2, 1) := by decide +kernel
theorem dL_law_203 : decode cL_law 203 = .ok (.aload_n 0, 1) := by decide +kernel
theorem dL_law_204 : decode cL_law 204 = .ok (.iload 4, 2) := by decide +kernel
theorem dL_law_206 : decode cL_law 206 = .ok (.iconst 1, 1) := by decide +kernel
theorem dL_law_207 : decode cL_law 207 = .ok (.iadd, 1) := by decide +kernel
theorem dL_law_208 : decode cL_law 208 = .ok (.iaload, 1) := by decide +kernel
theorem dL_law_209 : decode cL_law 209 = .ok (.invokevirtual 40, 3) := by decide +kernel
theorem dL_law_212 : decode cL_law 212 = .ok (.if_icmp .eq 193, 3) := by decide +kernel
theorem dL_law_215 : decode cL_law 215 = .ok (.iconst 0, 1) := by decide +kernel
theorem dL_law_216 : decode cL_law 216 = .ok (.ireturn, 1) := by decide +kernel
theorem dL_law_217 : decode cL_law 217 = .ok (.aload_n 1, 1) := by decide +kernel
theorem dL_law_218 : decode cL_law 218 = .ok (.aload_n 0, 1) := by decide +kernel
theorem dL_law_219 : decode cL_law 219 = .ok (.iload 4, 2) := by decide +kernel
theorem dL_law_221 : decode cL_law 221 = .ok (.iconst 1, 1) := by decide +kernel
theorem dL_law_222 : decode cL_law 222 = .ok (.iadd, 1) := by decide +kernel
theorem dL_law_223 : decode cL_law 223 = .ok (.iaload, 1) := by decide +kernel
theorem dL_law_224 : decode cL_law 224 = .ok (.ifCond .eq 7, 3) := by decide +kernel
theorem dL_law_227 : decode cL_law 227 = .ok (.iconst 1, 1) := by decide +kernel
theorem dL_law_228 : decode cL_law 228 = .ok (.goto 4, 3) := by decide +kernel
theorem dL_law_231 : decode cL_law 231 = .ok (.iconst 0, 1) := by decide +kernel
theorem dL_law_232 : decode cL_law 232 = .ok (.aload_n 0, 1) := by decide +kernel
theorem dL_law_233 : decode cL_law 233 = .ok (.iload 4, 2) := by decide +kernel
theorem dL_law_235 : decode cL_law 235 = .ok (.iconst 2, 1) := by decide +kernel
theorem dL_law_236 : decode cL_law 236 = .ok (.iadd, 1) := by decide +kernel
theorem dL_law_237 : decode cL_law 237 = .ok (.iaload, 1) := by decide +kernel
theorem dL_law_238 : decode cL_law 238 = .ok (.invokevirtual 41, 3) := by decide +kernel
theorem dL_law_241 : decode cL_law 241 = .ok (.aload_n 2, 1) := by decide +kernel
theorem dL_law_242 : decode cL_law 242 = .ok (.aload_n 0, 1) := by decide +kernel
theorem dL_law_243 : decode cL_law 243 = .ok (.iload 4, 2) := by decide +kernel
theorem dL_law_245 : decode cL_law 245 = .ok (.iconst 1, 1) := by decide +kernel
theorem dL_law_246 : decode cL_law 246 = .ok (.iadd, 1) := by decide +kernel
theorem dL_law_247 : decode cL_law 247 = .ok (.iaload, 1) := by decide +kernel
theorem dL_law_248 : decode cL_law 248 = .ok (.ifCond .eq 7, 3) := by decide +kernel
theorem dL_law_251 : decode cL_law 251 = .ok (.iconst 1, 1) := by decide +kernel
theorem dL_law_252 : decode cL_law 252 = .ok (.goto 4, 3) := by decide +kernel
theorem dL_law_255 : decode cL_law 255 = .ok (.iconst 0, 1) := by decide +kernel
theorem dL_law_256 : decode cL_law 256 = .ok (.aload_n 0, 1) := by decide +kernel
theorem dL_law_257 : decode cL_law 257 = .ok (.iload 4, 2) := by decide +kernel
theorem dL_law_259 : decode cL_law 259 = .ok (.iconst 2, 1) := by decide +kernel
theorem dL_law_260 : decode cL_law 260 = .ok (.iadd, 1) := by decide +kernel
theorem dL_law_261 : decode cL_law 261 = .ok (.iaload, 1) := by decide +kernel
theorem dL_law_262 : decode cL_law 262 = .ok (.invokevirtual 45, 3) := by decide +kernel
theorem dL_law_265 : decode cL_law 265 = .ok (.if_icmp .eq 140, 3) := by decide +kernel
theorem dL_law_268 : decode cL_law 268 = .ok (.iconst 0, 1) := by decide +kernel
theorem dL_law_269 : decode cL_law 269 = .ok (.ireturn, 1) := by decide +kernel
theorem dL_law_270 : decode cL_law 270 = .ok (.aload_n 1, 1) := by decide +kernel
theorem dL_law_271 : decode cL_law 271 = .ok (.aload_n 0, 1) := by decide +kernel
theorem dL_law_272 : decode cL_law 272 = .ok (.iload 4, 2) := by decide +kernel
theorem dL_law_274 : decode cL_law 274 = .ok (.iconst 1, 1) := by decide +kernel
theorem dL_law_275 : decode cL_law 275 = .ok (.iadd, 1) := by decide +kernel
theorem dL_law_276 : decode cL_law 276 = .ok (.iaload, 1) := by decide +kernel
theorem dL_law_277 : decode cL_law 277 = .ok (.aload_n 0, 1) := by decide +kernel
theorem dL_law_278 : decode cL_law 278 = .ok (.iload 4, 2) := by decide +kernel
theorem dL_law_280 : decode cL_law 280 = .ok (.iconst 2, 1) := by decide +kernel
theorem dL_law_281 : decode cL_law 281 = .ok (.iadd, 1) := by decide +kernel
theorem dL_law_282 : decode cL_law 282 = .ok (.iaload, 1) := by decide +kernel
theorem dL_law_283 : decode cL_law 283 = .ok (.invokevirtual 46, 3) := by decide +kernel
theorem dL_law_286 : decode cL_law 286 = .ok (.aload_n 2, 1) := by decide +kernel
theorem dL_law_287 : decode cL_law 287 = .ok (.aload_n 0, 1) := by decide +kernel
theorem dL_law_288 : decode cL_law 288 = .ok (.iload 4, 2) := by decide +kernel
theorem dL_law_290 : decode cL_law 290 = .ok (.iconst 1, 1) := by decide +kernel
theorem dL_law_291 : decode cL_law 291 = .ok (.iadd, 1) := by decide +kernel
theorem dL_law_292 : decode cL_law 292 = .ok (.iaload, 1) := by decide +kernel
theorem dL_law_293 : decode cL_law 293 = .ok (.aload_n 0, 1) := by decide +kernel
theorem dL_law_294 : decode cL_law 294 = .ok (.iload 4, 2) := by decide +kernel
theorem dL_law_296 : decode cL_law 296 = .ok (.iconst 2, 1) := by decide +kernel
theorem dL_law_297 : decode cL_law 297 = .ok (.iadd, 1) := by decide +kernel
theorem dL_law_298 : decode cL_law 298 = .ok (.iaload, 1) := by decide +kernel
theorem dL_law_299 : decode cL_law 299 = .ok (.invokevirtual 50, 3) := by decide +kernel
theorem dL_law_302 : decode cL_law 302 = .ok (.if_icmp .eq 103, 3) := by decide +kernel
theorem dL_law_305 : decode cL_law 305 = .ok (.iconst 0, 1) := by decide +kernel
theorem dL_law_306 : decode cL_law 306 = .ok (.ireturn, 1) := by decide +kernel
theorem dL_law_307 : decode cL_law 307 = .ok (.aload_n 1, 1) := by decide +kernel
theorem dL_law_308 : decode cL_law 308 = .ok (.aload_n 0, 1) := by decide +kernel
theorem dL_law_309 : decode cL_law 309 = .ok (.iload 4, 2) := by decide +kernel
theorem dL_law_311 : decode cL_law 311 = .ok (.iconst 1, 1) := by decide +kernel
theorem dL_law_312 : decode cL_law 312 = .ok (.iadd, 1) := by decide +kernel
theorem dL_law_313 : decode cL_law 313 = .ok (.iaload, 1) := by decide +kernel
theorem dL_law_314 : decode cL_law 314 = .ok (.invokevirtual 51, 3) := by decide +kernel
theorem dL_law_317 : decode cL_law 317 = .ok (.aload_n 2, 1) := by decide +kernel
theorem dL_law_318 : decode cL_law 318 = .ok (.aload_n 0, 1) := by decide +kernel
theorem dL_law_319 : decode cL_law 319 = .ok (.iload 4, 2) := by decide +kernel
theorem dL_law_321 : decode cL_law 321 = .ok (.iconst 1, 1) := by decide +kernel
theorem dL_law_322 : decode cL_law 322 = .ok (.iadd, 1) := by decide +kernel
theorem dL_law_323 : decode cL_law 323 = .ok (.iaload, 1) := by decide +kernel
theorem dL_law_324 : decode cL_law 324 = .ok (.invokevirtual 55, 3) := by decide +kernel
theorem dL_law_327 : decode cL_law 327 = .ok (.if_icmp .eq 78, 3) := by decide +kernel
theorem dL_law_330 : decode cL_law 330 = .ok (.iconst 0, 1) := by decide +kernel
theorem dL_law_331 : decode cL_law 331 = .ok (.ireturn, 1) := by decide +kernel
theorem dL_law_332 : decode cL_law 332 = .ok (.aload_n 1, 1) := by decide +kernel
theorem dL_law_333 : decode cL_law 333 = .ok (.invokevirtual 56, 3) := by decide +kernel
theorem dL_law_336 : decode cL_law 336 = .ok (.aload_n 2, 1) := by decide +kernel
theorem dL_law_337 : decode cL_law 337 = .ok (.invokevirtual 59, 3) := by decide +kernel
theorem dL_law_340 : decode cL_law 340 = .ok (.goto 65, 3) := by decide +kernel
theorem dL_law_343 : decode cL_law 343 = .ok (.aload_n 1, 1) := by decide +kernel
theorem dL_law_344 : decode cL_law 344 = .ok (.aload_n 0, 1) := by decide +kernel
theorem dL_law_345 : decode cL_law 345 = .ok (.iload 4, 2) := by decide +kernel
theorem dL_law_347 : decode cL_law 347 = .ok (.iconst 1, 1) := by decide +kernel
theorem dL_law_348 : decode cL_law 348 = .ok (.iadd, 1) := by decide +kernel
theorem dL_law_349 : decode cL_law 349 = .ok (.iaload, 1) := by decide +kernel
theorem dL_law_350 : decode cL_law 350 = .ok (.invokevirtual 60, 3) := by decide +kernel
theorem dL_law_353 : decode cL_law 353 = .ok (.aload_n 2, 1) := by decide +kernel
theorem dL_law_354 : decode cL_law 354 = .ok (.aload_n 0, 1) := by decide +kernel
theorem dL_law_355 : decode cL_law 355 = .ok (.iload 4, 2) := by decide +kernel
theorem dL_law_357 : decode cL_law 357 = .ok (.iconst 1, 1) := by decide +kernel
theorem dL_law_358 : decode cL_law 358 = .ok (.iadd, 1) := by decide +kernel
theorem dL_law_359 : decode cL_law 359 = .ok (.iaload, 1) := by decide +kernel
theorem dL_law_360 : decode cL_law 360 = .ok (.invokevirtual 63, 3) := by decide +kernel
theorem dL_law_363 : decode cL_law 363 = .ok (.if_icmp .eq 42, 3) := by decide +kernel
theorem dL_law_366 : decode cL_law 366 = .ok (.iconst 0, 1) := by decide +kernel
theorem dL_law_367 : decode cL_law 367 = .ok (.ireturn, 1) := by decide +kernel
theorem dL_law_368 : decode cL_law 368 = .ok (.aload_n 1, 1) := by decide +kernel
theorem dL_law_369 : decode cL_law 369 = .ok (.aload_n 0, 1) := by decide +kernel
theorem dL_law_370 : decode cL_law 370 = .ok (.iload 4, 2) := by decide +kernel
theorem dL_law_372 : decode cL_law 372 = .ok (.iconst 1, 1) := by decide +kernel
theorem dL_law_373 : decode cL_law 373 = .ok (.iadd, 1) := by decide +kernel
theorem dL_law_374 : decode cL_law 374 = .ok (.iaload, 1) := by decide +kernel
theorem dL_law_375 : decode cL_law 375 = .ok (.aload_n 0, 1) := by decide +kernel
theorem dL_law_376 : decode cL_law 376 = .ok (.iload 4, 2) := by decide +kernel
theorem dL_law_378 : decode cL_law 378 = .ok (.iconst 2, 1) := by decide +kernel
theorem dL_law_379 : decode cL_law 379 = .ok (.iadd, 1) := by decide +kernel
theorem dL_law_380 : decode cL_law 380 = .ok (.iaload, 1) := by decide +kernel
theorem dL_law_381 : decode cL_law 381 = .ok (.invokevirtual 64, 3) := by decide +kernel
theorem dL_law_384 : decode cL_law 384 = .ok (.aload_n 2, 1) := by decide +kernel
theorem dL_law_385 : decode cL_law 385 = .ok (.aload_n 0, 1) := by decide +kernel
theorem dL_law_386 : decode cL_law 386 = .ok (.iload 4, 2) := by decide +kernel
theorem dL_law_388 : decode cL_law 388 = .ok (.iconst 1, 1) := by decide +kernel
theorem dL_law_389 : decode cL_law 389 = .ok (.iadd, 1) := by decide +kernel
theorem dL_law_390 : decode cL_law 390 = .ok (.iaload, 1) := by decide +kernel
theorem dL_law_391 : decode cL_law 391 = .ok (.aload_n 0, 1) := by decide +kernel
theorem dL_law_392 : decode cL_law 392 = .ok (.iload 4, 2) := by decide +kernel
theorem dL_law_394 : decode cL_law 394 = .ok (.iconst 2, 1) := by decide +kernel
theorem dL_law_395 : decode cL_law 395 = .ok (.iadd, 1) := by decide +kernel
theorem dL_law_396 : decode cL_law 396 = .ok (.iaload, 1) := by decide +kernel
theorem dL_law_397 : decode cL_law 397 = .ok (.invokevirtual 67, 3) := by decide +kernel
theorem dL_law_400 : decode cL_law 400 = .ok (.if_icmp .eq 5, 3) := by decide +kernel
theorem dL_law_403 : decode cL_law 403 = .ok (.iconst 0, 1) := by decide +kernel
theorem dL_law_404 : decode cL_law 404 = .ok (.ireturn, 1) := by decide +kernel
theorem dL_law_405 : decode cL_law 405 = .ok (.iinc 4 3, 3) := by decide +kernel
theorem dL_law_408 : decode cL_law 408 = .ok (.goto (-385), 3) := by decide +kernel
theorem dL_law_411 : decode cL_law 411 = .ok (.iconst 1, 1) := by decide +kernel
theorem dL_law_412 : decode cL_law 412 = .ok (.ireturn, 1) := by decide +kernel
abbrev vwCl : List vw_C := [(RX0, TX0, 2), (RX1, TX1, 2), (RX2, TX2, 2), (RX3, TX3, 4), (RX4, TX4, 7), (RX5, TX5, 3), (RX6, TX6, 4), (RX8, TX8, 18), (RX9, TX9, 40)]
