section
-- ===== PART A: goes FIRST, ahead of the names: the tables' words, and 'selects' of the private methods out of them =====
/-- a private method of a class that the tables say can be made, by its rows of tables_1 -/
def lw_okq (q : MethodName × Nat) : Prop := (q.1.cls ≠ "java/lang/invoke/MethodHandle" ∧ q.1.cls ≠ "java/lang/invoke/VarHandle") ∧ Cond.instantiable q.1.cls q.2 ∈ tables_1 ∧ Cond.privateMethod q.1 ∈ tables_1 ∧ Cond.instanceMethod q.1 ∈ tables_1
theorem lw_p0 : lw_okq (⟨"SerialPort", "powerOn", "()V"⟩, 18) := ⟨⟨by decide +kernel, by decide +kernel⟩, List.mem_of_getElem? (i := 18) (by decide +kernel), List.mem_of_getElem? (i := 155) (by decide +kernel), List.mem_of_getElem? (i := 156) (by decide +kernel)⟩
theorem lw_p1 : lw_okq (⟨"SerialPort$Receiver", "begin", "(I)V"⟩, 7) := ⟨⟨by decide +kernel, by decide +kernel⟩, List.mem_of_getElem? (i := 78) (by decide +kernel), List.mem_of_getElem? (i := 175) (by decide +kernel), List.mem_of_getElem? (i := 176) (by decide +kernel)⟩
theorem lw_p2 : lw_okq (⟨"SerialPort", "beat", "()V"⟩, 18) := ⟨⟨by decide +kernel, by decide +kernel⟩, List.mem_of_getElem? (i := 18) (by decide +kernel), List.mem_of_getElem? (i := 257) (by decide +kernel), List.mem_of_getElem? (i := 258) (by decide +kernel)⟩
theorem lw_p3 : lw_okq (⟨"SerialPort", "stepSender", "()Z"⟩, 18) := ⟨⟨by decide +kernel, by decide +kernel⟩, List.mem_of_getElem? (i := 18) (by decide +kernel), List.mem_of_getElem? (i := 261) (by decide +kernel), List.mem_of_getElem? (i := 262) (by decide +kernel)⟩
theorem lw_p4 : lw_okq (⟨"SerialPort$Ring", "cellOf", "(I)I"⟩, 3) := ⟨⟨by decide +kernel, by decide +kernel⟩, List.mem_of_getElem? (i := 39) (by decide +kernel), List.mem_of_getElem? (i := 281) (by decide +kernel), List.mem_of_getElem? (i := 282) (by decide +kernel)⟩
theorem lw_p5 : lw_okq (⟨"SerialPort$LineOut", "fromEnd", "(I)I"⟩, 2) := ⟨⟨by decide +kernel, by decide +kernel⟩, List.mem_of_getElem? (i := 140) (by decide +kernel), List.mem_of_getElem? (i := 337) (by decide +kernel), List.mem_of_getElem? (i := 338) (by decide +kernel)⟩
theorem lw_p6 : lw_okq (⟨"SerialPort$Receiver", "listen", "(ZI)V"⟩, 7) := ⟨⟨by decide +kernel, by decide +kernel⟩, List.mem_of_getElem? (i := 78) (by decide +kernel), List.mem_of_getElem? (i := 375) (by decide +kernel), List.mem_of_getElem? (i := 376) (by decide +kernel)⟩
theorem lw_p7 : lw_okq (⟨"SerialPort$Receiver", "seeStart", "(Z)I"⟩, 7) := ⟨⟨by decide +kernel, by decide +kernel⟩, List.mem_of_getElem? (i := 78) (by decide +kernel), List.mem_of_getElem? (i := 379) (by decide +kernel), List.mem_of_getElem? (i := 380) (by decide +kernel)⟩
theorem lw_p8 : lw_okq (⟨"SerialPort$Receiver", "becomeIdle", "(Z)V"⟩, 7) := ⟨⟨by decide +kernel, by decide +kernel⟩, List.mem_of_getElem? (i := 78) (by decide +kernel), List.mem_of_getElem? (i := 383) (by decide +kernel), List.mem_of_getElem? (i := 384) (by decide +kernel)⟩
theorem lw_p9 : lw_okq (⟨"SerialPort$Receiver", "see", "(Z)I"⟩, 7) := ⟨⟨by decide +kernel, by decide +kernel⟩, List.mem_of_getElem? (i := 78) (by decide +kernel), List.mem_of_getElem? (i := 387) (by decide +kernel), List.mem_of_getElem? (i := 388) (by decide +kernel)⟩
theorem lw_p10 : lw_okq (⟨"SerialPort$Receiver", "faults", "(Z)I"⟩, 7) := ⟨⟨by decide +kernel, by decide +kernel⟩, List.mem_of_getElem? (i := 78) (by decide +kernel), List.mem_of_getElem? (i := 393) (by decide +kernel), List.mem_of_getElem? (i := 394) (by decide +kernel)⟩
theorem lw_p11 : lw_okq (⟨"SerialPort", "addReceived", "(I)V"⟩, 18) := ⟨⟨by decide +kernel, by decide +kernel⟩, List.mem_of_getElem? (i := 18) (by decide +kernel), List.mem_of_getElem? (i := 398) (by decide +kernel), List.mem_of_getElem? (i := 399) (by decide +kernel)⟩
theorem lw_p12 : lw_okq (⟨"SerialPort", "rowRoom", "()I"⟩, 18) := ⟨⟨by decide +kernel, by decide +kernel⟩, List.mem_of_getElem? (i := 18) (by decide +kernel), List.mem_of_getElem? (i := 403) (by decide +kernel), List.mem_of_getElem? (i := 404) (by decide +kernel)⟩
theorem lw_p13 : lw_okq (⟨"SerialPort", "stepLate", "()V"⟩, 18) := ⟨⟨by decide +kernel, by decide +kernel⟩, List.mem_of_getElem? (i := 18) (by decide +kernel), List.mem_of_getElem? (i := 409) (by decide +kernel), List.mem_of_getElem? (i := 410) (by decide +kernel)⟩
theorem lw_p14 : lw_okq (⟨"SerialPort$Modem", "follow", "()V"⟩, 4) := ⟨⟨by decide +kernel, by decide +kernel⟩, List.mem_of_getElem? (i := 106) (by decide +kernel), List.mem_of_getElem? (i := 450) (by decide +kernel), List.mem_of_getElem? (i := 451) (by decide +kernel)⟩
theorem lw_p15 : lw_okq (⟨"SerialPort$Modem", "looped", "()I"⟩, 4) := ⟨⟨by decide +kernel, by decide +kernel⟩, List.mem_of_getElem? (i := 106) (by decide +kernel), List.mem_of_getElem? (i := 455) (by decide +kernel), List.mem_of_getElem? (i := 456) (by decide +kernel)⟩
def lw_privs_1 : List (MethodName × Nat) := [(⟨"SerialPort", "powerOn", "()V"⟩, 18), (⟨"SerialPort$Receiver", "begin", "(I)V"⟩, 7), (⟨"SerialPort", "beat", "()V"⟩, 18), (⟨"SerialPort", "stepSender", "()Z"⟩, 18), (⟨"SerialPort$Ring", "cellOf", "(I)I"⟩, 3), (⟨"SerialPort$LineOut", "fromEnd", "(I)I"⟩, 2), (⟨"SerialPort$Receiver", "listen", "(ZI)V"⟩, 7), (⟨"SerialPort$Receiver", "seeStart", "(Z)I"⟩, 7), (⟨"SerialPort$Receiver", "becomeIdle", "(Z)V"⟩, 7), (⟨"SerialPort$Receiver", "see", "(Z)I"⟩, 7), (⟨"SerialPort$Receiver", "faults", "(Z)I"⟩, 7), (⟨"SerialPort", "addReceived", "(I)V"⟩, 18), (⟨"SerialPort", "rowRoom", "()I"⟩, 18), (⟨"SerialPort", "stepLate", "()V"⟩, 18), (⟨"SerialPort$Modem", "follow", "()V"⟩, 4), (⟨"SerialPort$Modem", "looped", "()I"⟩, 4)]
theorem lw_r1 : ∀ q ∈ lw_privs_1, lw_okq q := List.forall_mem_cons.mpr ⟨lw_p0, List.forall_mem_cons.mpr ⟨lw_p1, List.forall_mem_cons.mpr ⟨lw_p2, List.forall_mem_cons.mpr ⟨lw_p3, List.forall_mem_cons.mpr ⟨lw_p4, List.forall_mem_cons.mpr ⟨lw_p5, List.forall_mem_cons.mpr ⟨lw_p6, List.forall_mem_cons.mpr ⟨lw_p7, List.forall_mem_cons.mpr ⟨lw_p8, List.forall_mem_cons.mpr ⟨lw_p9, List.forall_mem_cons.mpr ⟨lw_p10, List.forall_mem_cons.mpr ⟨lw_p11, List.forall_mem_cons.mpr ⟨lw_p12, List.forall_mem_cons.mpr ⟨lw_p13, List.forall_mem_cons.mpr ⟨lw_p14, List.forall_mem_cons.mpr ⟨lw_p15, fun _ h => absurd h List.not_mem_nil⟩⟩⟩⟩⟩⟩⟩⟩⟩⟩⟩⟩⟩⟩⟩⟩
theorem lw_p16 : lw_okq (⟨"SerialPort", "reason", "()I"⟩, 18) := ⟨⟨by decide +kernel, by decide +kernel⟩, List.mem_of_getElem? (i := 18) (by decide +kernel), List.mem_of_getElem? (i := 467) (by decide +kernel), List.mem_of_getElem? (i := 468) (by decide +kernel)⟩
theorem lw_p17 : lw_okq (⟨"SerialPort", "wants", "(I)Z"⟩, 18) := ⟨⟨by decide +kernel, by decide +kernel⟩, List.mem_of_getElem? (i := 18) (by decide +kernel), List.mem_of_getElem? (i := 471) (by decide +kernel), List.mem_of_getElem? (i := 472) (by decide +kernel)⟩
theorem lw_p18 : lw_okq (⟨"SerialPort", "firstFaults", "()I"⟩, 18) := ⟨⟨by decide +kernel, by decide +kernel⟩, List.mem_of_getElem? (i := 18) (by decide +kernel), List.mem_of_getElem? (i := 475) (by decide +kernel), List.mem_of_getElem? (i := 476) (by decide +kernel)⟩
theorem lw_p19 : lw_okq (⟨"java/lang/Throwable", "fillInStackTrace", "(I)Ljava/lang/Throwable;"⟩, 6) := ⟨⟨by decide +kernel, by decide +kernel⟩, List.mem_of_getElem? (i := 552) (by decide +kernel), List.mem_of_getElem? (i := 550) (by decide +kernel), List.mem_of_getElem? (i := 551) (by decide +kernel)⟩
theorem lw_p20 : lw_okq (⟨"SerialPort", "putRegister", "(II)V"⟩, 18) := ⟨⟨by decide +kernel, by decide +kernel⟩, List.mem_of_getElem? (i := 18) (by decide +kernel), List.mem_of_getElem? (i := 587) (by decide +kernel), List.mem_of_getElem? (i := 588) (by decide +kernel)⟩
theorem lw_p21 : lw_okq (⟨"SerialPort", "putCharacter", "(I)V"⟩, 18) := ⟨⟨by decide +kernel, by decide +kernel⟩, List.mem_of_getElem? (i := 18) (by decide +kernel), List.mem_of_getElem? (i := 591) (by decide +kernel), List.mem_of_getElem? (i := 592) (by decide +kernel)⟩
theorem lw_p22 : lw_okq (⟨"SerialPort", "putWanted", "(I)V"⟩, 18) := ⟨⟨by decide +kernel, by decide +kernel⟩, List.mem_of_getElem? (i := 18) (by decide +kernel), List.mem_of_getElem? (i := 595) (by decide +kernel), List.mem_of_getElem? (i := 596) (by decide +kernel)⟩
theorem lw_p23 : lw_okq (⟨"SerialPort", "putRowControl", "(I)V"⟩, 18) := ⟨⟨by decide +kernel, by decide +kernel⟩, List.mem_of_getElem? (i := 18) (by decide +kernel), List.mem_of_getElem? (i := 599) (by decide +kernel), List.mem_of_getElem? (i := 600) (by decide +kernel)⟩
theorem lw_p24 : lw_okq (⟨"SerialPort", "tellRegister", "(I)I"⟩, 18) := ⟨⟨by decide +kernel, by decide +kernel⟩, List.mem_of_getElem? (i := 18) (by decide +kernel), List.mem_of_getElem? (i := 621) (by decide +kernel), List.mem_of_getElem? (i := 622) (by decide +kernel)⟩
theorem lw_p25 : lw_okq (⟨"SerialPort", "takeCharacter", "()I"⟩, 18) := ⟨⟨by decide +kernel, by decide +kernel⟩, List.mem_of_getElem? (i := 18) (by decide +kernel), List.mem_of_getElem? (i := 625) (by decide +kernel), List.mem_of_getElem? (i := 626) (by decide +kernel)⟩
theorem lw_p26 : lw_okq (⟨"SerialPort", "tellReason", "()I"⟩, 18) := ⟨⟨by decide +kernel, by decide +kernel⟩, List.mem_of_getElem? (i := 18) (by decide +kernel), List.mem_of_getElem? (i := 629) (by decide +kernel), List.mem_of_getElem? (i := 630) (by decide +kernel)⟩
theorem lw_p27 : lw_okq (⟨"SerialPort", "tellLineState", "()I"⟩, 18) := ⟨⟨by decide +kernel, by decide +kernel⟩, List.mem_of_getElem? (i := 18) (by decide +kernel), List.mem_of_getElem? (i := 637) (by decide +kernel), List.mem_of_getElem? (i := 638) (by decide +kernel)⟩
theorem lw_p28 : lw_okq (⟨"SerialPort", "someFault", "()Z"⟩, 18) := ⟨⟨by decide +kernel, by decide +kernel⟩, List.mem_of_getElem? (i := 18) (by decide +kernel), List.mem_of_getElem? (i := 641) (by decide +kernel), List.mem_of_getElem? (i := 642) (by decide +kernel)⟩
theorem lw_p29 : lw_okq (⟨"SerialPortModel", "lines", "()I"⟩, 40) := ⟨⟨by decide +kernel, by decide +kernel⟩, List.mem_of_getElem? (i := 650) (by decide +kernel), List.mem_of_getElem? (i := 791) (by decide +kernel), List.mem_of_getElem? (i := 792) (by decide +kernel)⟩
theorem lw_p30 : lw_okq (⟨"SerialPortModel", "loops", "()Z"⟩, 40) := ⟨⟨by decide +kernel, by decide +kernel⟩, List.mem_of_getElem? (i := 650) (by decide +kernel), List.mem_of_getElem? (i := 795) (by decide +kernel), List.mem_of_getElem? (i := 796) (by decide +kernel)⟩
theorem lw_p31 : lw_okq (⟨"SerialPortModel", "notice", "(I)V"⟩, 40) := ⟨⟨by decide +kernel, by decide +kernel⟩, List.mem_of_getElem? (i := 650) (by decide +kernel), List.mem_of_getElem? (i := 799) (by decide +kernel), List.mem_of_getElem? (i := 800) (by decide +kernel)⟩
def lw_privs_2 : List (MethodName × Nat) := [(⟨"SerialPort", "reason", "()I"⟩, 18), (⟨"SerialPort", "wants", "(I)Z"⟩, 18), (⟨"SerialPort", "firstFaults", "()I"⟩, 18), (⟨"java/lang/Throwable", "fillInStackTrace", "(I)Ljava/lang/Throwable;"⟩, 6), (⟨"SerialPort", "putRegister", "(II)V"⟩, 18), (⟨"SerialPort", "putCharacter", "(I)V"⟩, 18), (⟨"SerialPort", "putWanted", "(I)V"⟩, 18), (⟨"SerialPort", "putRowControl", "(I)V"⟩, 18), (⟨"SerialPort", "tellRegister", "(I)I"⟩, 18), (⟨"SerialPort", "takeCharacter", "()I"⟩, 18), (⟨"SerialPort", "tellReason", "()I"⟩, 18), (⟨"SerialPort", "tellLineState", "()I"⟩, 18), (⟨"SerialPort", "someFault", "()Z"⟩, 18), (⟨"SerialPortModel", "lines", "()I"⟩, 40), (⟨"SerialPortModel", "loops", "()Z"⟩, 40), (⟨"SerialPortModel", "notice", "(I)V"⟩, 40)]
theorem lw_r2 : ∀ q ∈ lw_privs_2, lw_okq q := List.forall_mem_cons.mpr ⟨lw_p16, List.forall_mem_cons.mpr ⟨lw_p17, List.forall_mem_cons.mpr ⟨lw_p18, List.forall_mem_cons.mpr ⟨lw_p19, List.forall_mem_cons.mpr ⟨lw_p20, List.forall_mem_cons.mpr ⟨lw_p21, List.forall_mem_cons.mpr ⟨lw_p22, List.forall_mem_cons.mpr ⟨lw_p23, List.forall_mem_cons.mpr ⟨lw_p24, List.forall_mem_cons.mpr ⟨lw_p25, List.forall_mem_cons.mpr ⟨lw_p26, List.forall_mem_cons.mpr ⟨lw_p27, List.forall_mem_cons.mpr ⟨lw_p28, List.forall_mem_cons.mpr ⟨lw_p29, List.forall_mem_cons.mpr ⟨lw_p30, List.forall_mem_cons.mpr ⟨lw_p31, fun _ h => absurd h List.not_mem_nil⟩⟩⟩⟩⟩⟩⟩⟩⟩⟩⟩⟩⟩⟩⟩⟩
theorem lw_p32 : lw_okq (⟨"SerialPortModel", "dlab", "()Z"⟩, 40) := ⟨⟨by decide +kernel, by decide +kernel⟩, List.mem_of_getElem? (i := 650) (by decide +kernel), List.mem_of_getElem? (i := 807) (by decide +kernel), List.mem_of_getElem? (i := 808) (by decide +kernel)⟩
theorem lw_p33 : lw_okq (⟨"SerialPortModel", "room", "()I"⟩, 40) := ⟨⟨by decide +kernel, by decide +kernel⟩, List.mem_of_getElem? (i := 650) (by decide +kernel), List.mem_of_getElem? (i := 812) (by decide +kernel), List.mem_of_getElem? (i := 813) (by decide +kernel)⟩
theorem lw_p34 : lw_okq (⟨"SerialPortModel", "clearReceived", "()V"⟩, 40) := ⟨⟨by decide +kernel, by decide +kernel⟩, List.mem_of_getElem? (i := 650) (by decide +kernel), List.mem_of_getElem? (i := 816) (by decide +kernel), List.mem_of_getElem? (i := 817) (by decide +kernel)⟩
theorem lw_p35 : lw_okq (⟨"SerialPortModel", "take", "()I"⟩, 40) := ⟨⟨by decide +kernel, by decide +kernel⟩, List.mem_of_getElem? (i := 650) (by decide +kernel), List.mem_of_getElem? (i := 824) (by decide +kernel), List.mem_of_getElem? (i := 825) (by decide +kernel)⟩
theorem lw_p36 : lw_okq (⟨"SerialPortModel", "reason", "()I"⟩, 40) := ⟨⟨by decide +kernel, by decide +kernel⟩, List.mem_of_getElem? (i := 650) (by decide +kernel), List.mem_of_getElem? (i := 828) (by decide +kernel), List.mem_of_getElem? (i := 829) (by decide +kernel)⟩
theorem lw_p37 : lw_okq (⟨"SerialPortModel", "isMarked", "()Z"⟩, 40) := ⟨⟨by decide +kernel, by decide +kernel⟩, List.mem_of_getElem? (i := 650) (by decide +kernel), List.mem_of_getElem? (i := 832) (by decide +kernel), List.mem_of_getElem? (i := 833) (by decide +kernel)⟩
theorem lw_p38 : lw_okq (⟨"SerialPortModel", "line", "()I"⟩, 40) := ⟨⟨by decide +kernel, by decide +kernel⟩, List.mem_of_getElem? (i := 650) (by decide +kernel), List.mem_of_getElem? (i := 836) (by decide +kernel), List.mem_of_getElem? (i := 837) (by decide +kernel)⟩
theorem lw_p39 : lw_okq (⟨"SerialPortModel", "beat", "()V"⟩, 40) := ⟨⟨by decide +kernel, by decide +kernel⟩, List.mem_of_getElem? (i := 650) (by decide +kernel), List.mem_of_getElem? (i := 845) (by decide +kernel), List.mem_of_getElem? (i := 846) (by decide +kernel)⟩
theorem lw_p40 : lw_okq (⟨"SerialPortModel", "send", "()V"⟩, 40) := ⟨⟨by decide +kernel, by decide +kernel⟩, List.mem_of_getElem? (i := 650) (by decide +kernel), List.mem_of_getElem? (i := 849) (by decide +kernel), List.mem_of_getElem? (i := 850) (by decide +kernel)⟩
theorem lw_p41 : lw_okq (⟨"SerialPortModel", "say", "(Z)V"⟩, 40) := ⟨⟨by decide +kernel, by decide +kernel⟩, List.mem_of_getElem? (i := 650) (by decide +kernel), List.mem_of_getElem? (i := 872) (by decide +kernel), List.mem_of_getElem? (i := 873) (by decide +kernel)⟩
theorem lw_p42 : lw_okq (⟨"SerialPortModel", "come", "()V"⟩, 40) := ⟨⟨by decide +kernel, by decide +kernel⟩, List.mem_of_getElem? (i := 650) (by decide +kernel), List.mem_of_getElem? (i := 876) (by decide +kernel), List.mem_of_getElem? (i := 877) (by decide +kernel)⟩
theorem lw_p43 : lw_okq (⟨"SerialPortModel", "receive", "()V"⟩, 40) := ⟨⟨by decide +kernel, by decide +kernel⟩, List.mem_of_getElem? (i := 650) (by decide +kernel), List.mem_of_getElem? (i := 880) (by decide +kernel), List.mem_of_getElem? (i := 881) (by decide +kernel)⟩
theorem lw_p44 : lw_okq (⟨"SerialPortModel", "put", "(II)V"⟩, 40) := ⟨⟨by decide +kernel, by decide +kernel⟩, List.mem_of_getElem? (i := 650) (by decide +kernel), List.mem_of_getElem? (i := 884) (by decide +kernel), List.mem_of_getElem? (i := 885) (by decide +kernel)⟩
def lw_privs_3 : List (MethodName × Nat) := [(⟨"SerialPortModel", "dlab", "()Z"⟩, 40), (⟨"SerialPortModel", "room", "()I"⟩, 40), (⟨"SerialPortModel", "clearReceived", "()V"⟩, 40), (⟨"SerialPortModel", "take", "()I"⟩, 40), (⟨"SerialPortModel", "reason", "()I"⟩, 40), (⟨"SerialPortModel", "isMarked", "()Z"⟩, 40), (⟨"SerialPortModel", "line", "()I"⟩, 40), (⟨"SerialPortModel", "beat", "()V"⟩, 40), (⟨"SerialPortModel", "send", "()V"⟩, 40), (⟨"SerialPortModel", "say", "(Z)V"⟩, 40), (⟨"SerialPortModel", "come", "()V"⟩, 40), (⟨"SerialPortModel", "receive", "()V"⟩, 40), (⟨"SerialPortModel", "put", "(II)V"⟩, 40)]
theorem lw_r3 : ∀ q ∈ lw_privs_3, lw_okq q := List.forall_mem_cons.mpr ⟨lw_p32, List.forall_mem_cons.mpr ⟨lw_p33, List.forall_mem_cons.mpr ⟨lw_p34, List.forall_mem_cons.mpr ⟨lw_p35, List.forall_mem_cons.mpr ⟨lw_p36, List.forall_mem_cons.mpr ⟨lw_p37, List.forall_mem_cons.mpr ⟨lw_p38, List.forall_mem_cons.mpr ⟨lw_p39, List.forall_mem_cons.mpr ⟨lw_p40, List.forall_mem_cons.mpr ⟨lw_p41, List.forall_mem_cons.mpr ⟨lw_p42, List.forall_mem_cons.mpr ⟨lw_p43, List.forall_mem_cons.mpr ⟨lw_p44, fun _ h => absurd h List.not_mem_nil⟩⟩⟩⟩⟩⟩⟩⟩⟩⟩⟩⟩⟩
def lw_privs : List (MethodName × Nat) := lw_privs_1 ++ (lw_privs_2 ++ (lw_privs_3))
def lw_tbl : List Cond := k2_sels lw_privs ++ tables_1
theorem lw_privs_ok : ∀ q ∈ lw_privs, lw_okq q := by
  show ∀ q ∈ lw_privs_1 ++ (lw_privs_2 ++ (lw_privs_3)), lw_okq q
  exact List.forall_mem_append.mpr ⟨lw_r1, List.forall_mem_append.mpr ⟨lw_r2, lw_r3⟩⟩
-- ===== end of PART A; then your names; then what follows =====
/-! ===== BEGIN words of one list among another's, by their places ===== -/
theorem goodIn_r {big : List Cond} (ws : List Cond) (ps : List Nat) (hp : ws = ps.filterMap (fun i => big[i]?)) (h : ws.all goodWord = true) : GoodIn big ws := by
  intro w hw
  have h1 := List.all_eq_true.mp h w hw
  rw [hp] at hw
  obtain ⟨i, -, hi⟩ := List.mem_filterMap.mp hw
  have hm : w ∈ big := by first | exact List.mem_of_getElem? hi | exact List.getElem?_mem hi
  exact ⟨hm, good_of_word h1⟩
theorem goodIn_app {big a b : List Cond} (ha : GoodIn big a) (hb : GoodIn big b) : GoodIn big (a ++ b) := fun w h => (List.mem_append.mp h).elim (ha w) (hb w)
theorem goodIn_ca {big a b : List Cond} {c : Cond} (ha : GoodIn big (c :: a)) (hb : GoodIn big b) : GoodIn big (c :: (a ++ b)) := fun w h => (List.mem_cons.mp h).elim (fun e => ha w (List.mem_cons.mpr (Or.inl e))) (fun h => (List.mem_append.mp h).elim (fun h => ha w (List.mem_cons.mpr (Or.inr h))) (hb w))
theorem goodIn_sub {big ws : List Cond} (hm : ∀ w ∈ ws, w ∈ big) (h : ws.all goodWord = true) : GoodIn big ws := fun w hw => ⟨hm w hw, good_of_word (List.all_eq_true.mp h w hw)⟩
/-! ===== END ===== -/

def RX0 : String := "SerialPort$Divider"
def TX0 : u_T := fun k => match k with
  | 0 => ("SerialPort$Divider", "divisor", "I", false)
  | _ => ("SerialPort$Divider", "passed", "I", false)
def tyX0 : Nat → FieldType := fun k => match k with
  | 0 => .int
  | _ => .int
abbrev wsX00 : List Cond := u_ws RX0 TX0 2
theorem nmX0 : ∀ a, a < 2 → ∀ b, b < 2 → a ≠ b → (TX0 a).2.1 ≠ (TX0 b).2.1 := by decide +kernel
theorem tyX0_ok : ∀ k, k < 2 → parseFieldDescriptor (TX0 k).2.2.1 = some (tyX0 k) := by decide +kernel
abbrev cX0_init : ByteArray := prog_2_method_1_code
def yX0_init : MethodName := ⟨RX0, "<init>", "()V"⟩
abbrev cX0_clear : ByteArray := prog_2_method_2_code
def yX0_clear : MethodName := ⟨RX0, "clear", "()V"⟩
abbrev cX0_putByte : ByteArray := prog_2_method_3_code
def yX0_putByte : MethodName := ⟨RX0, "putByte", "(II)V"⟩
abbrev cX0_tellByte : ByteArray := prog_2_method_4_code
def yX0_tellByte : MethodName := ⟨RX0, "tellByte", "(I)I"⟩
abbrev cX0_pass : ByteArray := prog_2_method_5_code
def yX0_pass : MethodName := ⟨RX0, "pass", "(I)I"⟩
def RX1 : String := "SerialPort$LineIn"
def TX1 : u_T := fun k => match k with
  | 0 => ("SerialPort$LineIn", "wave", "LSerialPort$Ring;", true)
  | _ => ("SerialPort$LineIn", "high", "Z", false)
def tyX1 : Nat → FieldType := fun k => match k with
  | 0 => .object "SerialPort$Ring"
  | _ => .boolean
abbrev wsX10 : List Cond := u_ws RX1 TX1 2
theorem nmX1 : ∀ a, a < 2 → ∀ b, b < 2 → a ≠ b → (TX1 a).2.1 ≠ (TX1 b).2.1 := by decide +kernel
theorem tyX1_ok : ∀ k, k < 2 → parseFieldDescriptor (TX1 k).2.2.1 = some (tyX1 k) := by decide +kernel
abbrev cX1_init : ByteArray := prog_3_method_1_code
def yX1_init : MethodName := ⟨RX1, "<init>", "()V"⟩
abbrev cX1_clear : ByteArray := prog_3_method_2_code
def yX1_clear : MethodName := ⟨RX1, "clear", "()V"⟩
abbrev cX1_pieces : ByteArray := prog_3_method_3_code
def yX1_pieces : MethodName := ⟨RX1, "pieces", "()I"⟩
abbrev cX1_room : ByteArray := prog_3_method_4_code
def yX1_room : MethodName := ⟨RX1, "room", "()I"⟩
abbrev cX1_append : ByteArray := prog_3_method_5_code
def yX1_append : MethodName := ⟨RX1, "append", "(ZI)V"⟩
abbrev cX1_next : ByteArray := prog_3_method_6_code
def yX1_next : MethodName := ⟨RX1, "next", "()Z"⟩
def RX2 : String := "SerialPort$LineOut"
def TX2 : u_T := fun k => match k with
  | 0 => ("SerialPort$LineOut", "runs", "LSerialPort$Ring;", true)
  | _ => ("SerialPort$LineOut", "inAll", "I", false)
def tyX2 : Nat → FieldType := fun k => match k with
  | 0 => .object "SerialPort$Ring"
  | _ => .int
abbrev wsX20 : List Cond := u_ws RX2 TX2 2
theorem nmX2 : ∀ a, a < 2 → ∀ b, b < 2 → a ≠ b → (TX2 a).2.1 ≠ (TX2 b).2.1 := by decide +kernel
theorem tyX2_ok : ∀ k, k < 2 → parseFieldDescriptor (TX2 k).2.2.1 = some (tyX2 k) := by decide +kernel
abbrev cX2_init : ByteArray := prog_4_method_1_code
def yX2_init : MethodName := ⟨RX2, "<init>", "()V"⟩
abbrev cX2_clear : ByteArray := prog_4_method_2_code
def yX2_clear : MethodName := ⟨RX2, "clear", "()V"⟩
abbrev cX2_isHigh : ByteArray := prog_4_method_3_code
def yX2_isHigh : MethodName := ⟨RX2, "isHigh", "()Z"⟩
abbrev cX2_runsInAll : ByteArray := prog_4_method_4_code
def yX2_runsInAll : MethodName := ⟨RX2, "runsInAll", "()I"⟩
abbrev cX2_runsKept : ByteArray := prog_4_method_5_code
def yX2_runsKept : MethodName := ⟨RX2, "runsKept", "()I"⟩
abbrev cX2_runIsHigh : ByteArray := prog_4_method_6_code
def yX2_runIsHigh : MethodName := ⟨RX2, "runIsHigh", "(I)Z"⟩
abbrev cX2_runBeats : ByteArray := prog_4_method_7_code
def yX2_runBeats : MethodName := ⟨RX2, "runBeats", "(I)I"⟩
abbrev cX2_append : ByteArray := prog_4_method_8_code
def yX2_append : MethodName := ⟨RX2, "append", "(Z)V"⟩
abbrev cX2_fromEnd : ByteArray := prog_4_method_9_code
def yX2_fromEnd : MethodName := ⟨RX2, "fromEnd", "(I)I"⟩
def RX3 : String := "SerialPort$Modem"
def TX3 : u_T := fun k => match k with
  | 0 => ("SerialPort$Modem", "outputs", "I", false)
  | 1 => ("SerialPort$Modem", "pins", "I", false)
  | 2 => ("SerialPort$Modem", "state", "I", false)
  | _ => ("SerialPort$Modem", "changes", "I", false)
def tyX3 : Nat → FieldType := fun k => match k with
  | 0 => .int
  | 1 => .int
  | 2 => .int
  | _ => .int
abbrev wsX30 : List Cond := u_ws RX3 TX3 4
theorem nmX3 : ∀ a, a < 4 → ∀ b, b < 4 → a ≠ b → (TX3 a).2.1 ≠ (TX3 b).2.1 := by decide +kernel
theorem tyX3_ok : ∀ k, k < 4 → parseFieldDescriptor (TX3 k).2.2.1 = some (tyX3 k) := by decide +kernel
abbrev cX3_init : ByteArray := prog_5_method_1_code
def yX3_init : MethodName := ⟨RX3, "<init>", "()V"⟩
abbrev cX3_clear : ByteArray := prog_5_method_2_code
def yX3_clear : MethodName := ⟨RX3, "clear", "()V"⟩
abbrev cX3_outputs : ByteArray := prog_5_method_3_code
def yX3_outputs : MethodName := ⟨RX3, "outputs", "()I"⟩
abbrev cX3_loops : ByteArray := prog_5_method_4_code
def yX3_loops : MethodName := ⟨RX3, "loops", "()Z"⟩
abbrev cX3_hasChanged : ByteArray := prog_5_method_5_code
def yX3_hasChanged : MethodName := ⟨RX3, "hasChanged", "()Z"⟩
abbrev cX3_putOutputs : ByteArray := prog_5_method_6_code
def yX3_putOutputs : MethodName := ⟨RX3, "putOutputs", "(I)V"⟩
abbrev cX3_putPins : ByteArray := prog_5_method_7_code
def yX3_putPins : MethodName := ⟨RX3, "putPins", "(I)V"⟩
abbrev cX3_tellState : ByteArray := prog_5_method_8_code
def yX3_tellState : MethodName := ⟨RX3, "tellState", "()I"⟩
abbrev cX3_follow : ByteArray := prog_5_method_9_code
def yX3_follow : MethodName := ⟨RX3, "follow", "()V"⟩
abbrev cX3_looped : ByteArray := prog_5_method_10_code
def yX3_looped : MethodName := ⟨RX3, "looped", "()I"⟩
def RX4 : String := "SerialPort$Receiver"
def TX4 : u_T := fun k => match k with
  | 0 => ("SerialPort$Receiver", "control", "I", false)
  | 1 => ("SerialPort$Receiver", "character", "I", false)
  | 2 => ("SerialPort$Receiver", "beat", "I", false)
  | 3 => ("SerialPort$Receiver", "busy", "Z", false)
  | 4 => ("SerialPort$Receiver", "wasHigh", "Z", false)
  | 5 => ("SerialPort$Receiver", "parityHigh", "Z", false)
  | _ => ("SerialPort$Receiver", "someHigh", "Z", false)
def tyX4 : Nat → FieldType := fun k => match k with
  | 0 => .int
  | 1 => .int
  | 2 => .int
  | 3 => .boolean
  | 4 => .boolean
  | 5 => .boolean
  | _ => .boolean
abbrev wsX40 : List Cond := u_ws RX4 TX4 7
theorem nmX4 : ∀ a, a < 7 → ∀ b, b < 7 → a ≠ b → (TX4 a).2.1 ≠ (TX4 b).2.1 := by decide +kernel
theorem tyX4_ok : ∀ k, k < 7 → parseFieldDescriptor (TX4 k).2.2.1 = some (tyX4 k) := by decide +kernel
abbrev cX4_init : ByteArray := prog_6_method_1_code
def yX4_init : MethodName := ⟨RX4, "<init>", "()V"⟩
abbrev cX4_clear : ByteArray := prog_6_method_2_code
def yX4_clear : MethodName := ⟨RX4, "clear", "()V"⟩
abbrev cX4_isBusy : ByteArray := prog_6_method_3_code
def yX4_isBusy : MethodName := ⟨RX4, "isBusy", "()Z"⟩
abbrev cX4_step : ByteArray := prog_6_method_4_code
def yX4_step : MethodName := ⟨RX4, "step", "(ZI)I"⟩
abbrev cX4_listen : ByteArray := prog_6_method_5_code
def yX4_listen : MethodName := ⟨RX4, "listen", "(ZI)V"⟩
abbrev cX4_begin : ByteArray := prog_6_method_6_code
def yX4_begin : MethodName := ⟨RX4, "begin", "(I)V"⟩
abbrev cX4_seeStart : ByteArray := prog_6_method_7_code
def yX4_seeStart : MethodName := ⟨RX4, "seeStart", "(Z)I"⟩
abbrev cX4_becomeIdle : ByteArray := prog_6_method_8_code
def yX4_becomeIdle : MethodName := ⟨RX4, "becomeIdle", "(Z)V"⟩
abbrev cX4_see : ByteArray := prog_6_method_9_code
def yX4_see : MethodName := ⟨RX4, "see", "(Z)I"⟩
abbrev cX4_faults : ByteArray := prog_6_method_10_code
def yX4_faults : MethodName := ⟨RX4, "faults", "(Z)I"⟩
def RX5 : String := "SerialPort$Ring"
def TX5 : u_T := fun k => match k with
  | 0 => ("SerialPort$Ring", "cells", "[I", true)
  | 1 => ("SerialPort$Ring", "head", "I", false)
  | _ => ("SerialPort$Ring", "size", "I", false)
def tyX5 : Nat → FieldType := fun k => match k with
  | 0 => .array .int
  | 1 => .int
  | _ => .int
abbrev wsX50 : List Cond := u_ws RX5 TX5 3
theorem nmX5 : ∀ a, a < 3 → ∀ b, b < 3 → a ≠ b → (TX5 a).2.1 ≠ (TX5 b).2.1 := by decide +kernel
theorem tyX5_ok : ∀ k, k < 3 → parseFieldDescriptor (TX5 k).2.2.1 = some (tyX5 k) := by decide +kernel
abbrev cX5_init : ByteArray := prog_7_method_1_code
def yX5_init : MethodName := ⟨RX5, "<init>", "(I)V"⟩
abbrev cX5_size : ByteArray := prog_7_method_2_code
def yX5_size : MethodName := ⟨RX5, "size", "()I"⟩
abbrev cX5_isEmpty : ByteArray := prog_7_method_3_code
def yX5_isEmpty : MethodName := ⟨RX5, "isEmpty", "()Z"⟩
abbrev cX5_room : ByteArray := prog_7_method_4_code
def yX5_room : MethodName := ⟨RX5, "room", "()I"⟩
abbrev cX5_clear : ByteArray := prog_7_method_5_code
def yX5_clear : MethodName := ⟨RX5, "clear", "()V"⟩
abbrev cX5_at : ByteArray := prog_7_method_6_code
def yX5_at : MethodName := ⟨RX5, "at", "(I)I"⟩
abbrev cX5_first : ByteArray := prog_7_method_7_code
def yX5_first : MethodName := ⟨RX5, "first", "()I"⟩
abbrev cX5_setFirst : ByteArray := prog_7_method_8_code
def yX5_setFirst : MethodName := ⟨RX5, "setFirst", "(I)V"⟩
abbrev cX5_setAt : ByteArray := prog_7_method_9_code
def yX5_setAt : MethodName := ⟨RX5, "setAt", "(II)V"⟩
abbrev cX5_add : ByteArray := prog_7_method_10_code
def yX5_add : MethodName := ⟨RX5, "add", "(I)V"⟩
abbrev cX5_dropFirst : ByteArray := prog_7_method_11_code
def yX5_dropFirst : MethodName := ⟨RX5, "dropFirst", "()V"⟩
abbrev cX5_cellOf : ByteArray := prog_7_method_12_code
def yX5_cellOf : MethodName := ⟨RX5, "cellOf", "(I)I"⟩
def RX6 : String := "SerialPort$Sender"
def TX6 : u_T := fun k => match k with
  | 0 => ("SerialPort$Sender", "control", "I", false)
  | 1 => ("SerialPort$Sender", "character", "I", false)
  | 2 => ("SerialPort$Sender", "beat", "I", false)
  | _ => ("SerialPort$Sender", "busy", "Z", false)
def tyX6 : Nat → FieldType := fun k => match k with
  | 0 => .int
  | 1 => .int
  | 2 => .int
  | _ => .boolean
abbrev wsX60 : List Cond := u_ws RX6 TX6 4
theorem nmX6 : ∀ a, a < 4 → ∀ b, b < 4 → a ≠ b → (TX6 a).2.1 ≠ (TX6 b).2.1 := by decide +kernel
theorem tyX6_ok : ∀ k, k < 4 → parseFieldDescriptor (TX6 k).2.2.1 = some (tyX6 k) := by decide +kernel
abbrev cX6_init : ByteArray := prog_8_method_1_code
def yX6_init : MethodName := ⟨RX6, "<init>", "()V"⟩
abbrev cX6_clear : ByteArray := prog_8_method_2_code
def yX6_clear : MethodName := ⟨RX6, "clear", "()V"⟩
abbrev cX6_isBusy : ByteArray := prog_8_method_3_code
def yX6_isBusy : MethodName := ⟨RX6, "isBusy", "()Z"⟩
abbrev cX6_begin : ByteArray := prog_8_method_4_code
def yX6_begin : MethodName := ⟨RX6, "begin", "(II)V"⟩
abbrev cX6_next : ByteArray := prog_8_method_5_code
def yX6_next : MethodName := ⟨RX6, "next", "()Z"⟩
def RX7 : String := "SerialPort$Shape"
def TX7 : u_T := fun k => match k with
  | _ => ("", "", "", false)
def tyX7 : Nat → FieldType := fun k => match k with
  | _ => .int
abbrev wsX70 : List Cond := u_ws RX7 TX7 0
theorem nmX7 : ∀ a, a < 0 → ∀ b, b < 0 → a ≠ b → (TX7 a).2.1 ≠ (TX7 b).2.1 := by decide +kernel
theorem tyX7_ok : ∀ k, k < 0 → parseFieldDescriptor (TX7 k).2.2.1 = some (tyX7 k) := by decide +kernel
abbrev cX7_dataBits : ByteArray := prog_9_method_2_code
def yX7_dataBits : MethodName := ⟨RX7, "dataBits", "(I)I"⟩
abbrev cX7_hasParity : ByteArray := prog_9_method_3_code
def yX7_hasParity : MethodName := ⟨RX7, "hasParity", "(I)Z"⟩
abbrev cX7_pieces : ByteArray := prog_9_method_4_code
def yX7_pieces : MethodName := ⟨RX7, "pieces", "(I)I"⟩
abbrev cX7_stopBeats : ByteArray := prog_9_method_5_code
def yX7_stopBeats : MethodName := ⟨RX7, "stopBeats", "(I)I"⟩
abbrev cX7_pieceBeats : ByteArray := prog_9_method_6_code
def yX7_pieceBeats : MethodName := ⟨RX7, "pieceBeats", "(II)I"⟩
abbrev cX7_beats : ByteArray := prog_9_method_7_code
def yX7_beats : MethodName := ⟨RX7, "beats", "(I)I"⟩
abbrev cX7_parityIsHigh : ByteArray := prog_9_method_8_code
def yX7_parityIsHigh : MethodName := ⟨RX7, "parityIsHigh", "(II)Z"⟩
abbrev cX7_pieceIsHigh : ByteArray := prog_9_method_9_code
def yX7_pieceIsHigh : MethodName := ⟨RX7, "pieceIsHigh", "(III)Z"⟩
def RX8 : String := "SerialPort"
def TX8 : u_T := fun k => match k with
  | 0 => ("SerialPort", "divider", "LSerialPort$Divider;", true)
  | 1 => ("SerialPort", "received", "LSerialPort$Ring;", true)
  | 2 => ("SerialPort", "sending", "LSerialPort$Ring;", true)
  | 3 => ("SerialPort", "sender", "LSerialPort$Sender;", true)
  | 4 => ("SerialPort", "receiver", "LSerialPort$Receiver;", true)
  | 5 => ("SerialPort", "modem", "LSerialPort$Modem;", true)
  | 6 => ("SerialPort", "lineIn", "LSerialPort$LineIn;", true)
  | 7 => ("SerialPort", "lineOut", "LSerialPort$LineOut;", true)
  | 8 => ("SerialPort", "wanted", "I", false)
  | 9 => ("SerialPort", "lineControl", "I", false)
  | 10 => ("SerialPort", "kept", "I", false)
  | 11 => ("SerialPort", "level", "I", false)
  | 12 => ("SerialPort", "rowsOn", "Z", false)
  | 13 => ("SerialPort", "overrun", "Z", false)
  | 14 => ("SerialPort", "emptyUp", "Z", false)
  | 15 => ("SerialPort", "lateUp", "Z", false)
  | 16 => ("SerialPort", "beats", "I", false)
  | _ => ("SerialPort", "quietSince", "I", false)
def tyX8 : Nat → FieldType := fun k => match k with
  | 0 => .object "SerialPort$Divider"
  | 1 => .object "SerialPort$Ring"
  | 2 => .object "SerialPort$Ring"
  | 3 => .object "SerialPort$Sender"
  | 4 => .object "SerialPort$Receiver"
  | 5 => .object "SerialPort$Modem"
  | 6 => .object "SerialPort$LineIn"
  | 7 => .object "SerialPort$LineOut"
  | 8 => .int
  | 9 => .int
  | 10 => .int
  | 11 => .int
  | 12 => .boolean
  | 13 => .boolean
  | 14 => .boolean
  | 15 => .boolean
  | 16 => .int
  | _ => .int
abbrev wsX80 : List Cond := u_ws RX8 TX8 18
theorem nmX8 : ∀ a, a < 18 → ∀ b, b < 18 → a ≠ b → (TX8 a).2.1 ≠ (TX8 b).2.1 := by decide +kernel
theorem tyX8_ok : ∀ k, k < 18 → parseFieldDescriptor (TX8 k).2.2.1 = some (tyX8 k) := by decide +kernel
abbrev cX8_init : ByteArray := prog_1_method_1_code
def yX8_init : MethodName := ⟨RX8, "<init>", "()V"⟩
abbrev cX8_write : ByteArray := prog_1_method_2_code
def yX8_write : MethodName := ⟨RX8, "write", "(II)V"⟩
abbrev cX8_read : ByteArray := prog_1_method_3_code
def yX8_read : MethodName := ⟨RX8, "read", "(I)I"⟩
abbrev cX8_clock : ByteArray := prog_1_method_4_code
def yX8_clock : MethodName := ⟨RX8, "clock", "(I)I"⟩
abbrev cX8_wave : ByteArray := prog_1_method_5_code
def yX8_wave : MethodName := ⟨RX8, "wave", "(ZI)I"⟩
abbrev cX8_frame : ByteArray := prog_1_method_6_code
def yX8_frame : MethodName := ⟨RX8, "frame", "(II)I"⟩
abbrev cX8_inputs : ByteArray := prog_1_method_7_code
def yX8_inputs : MethodName := ⟨RX8, "inputs", "(I)Z"⟩
abbrev cX8_reset : ByteArray := prog_1_method_8_code
def yX8_reset : MethodName := ⟨RX8, "reset", "()V"⟩
abbrev cX8_count : ByteArray := prog_1_method_9_code
def yX8_count : MethodName := ⟨RX8, "count", "(I)I"⟩
abbrev cX8_run : ByteArray := prog_1_method_10_code
def yX8_run : MethodName := ⟨RX8, "run", "(II)I"⟩
abbrev cX8_powerOn : ByteArray := prog_1_method_11_code
def yX8_powerOn : MethodName := ⟨RX8, "powerOn", "()V"⟩
abbrev cX8_putRegister : ByteArray := prog_1_method_12_code
def yX8_putRegister : MethodName := ⟨RX8, "putRegister", "(II)V"⟩
abbrev cX8_tellRegister : ByteArray := prog_1_method_13_code
def yX8_tellRegister : MethodName := ⟨RX8, "tellRegister", "(I)I"⟩
abbrev cX8_rowRoom : ByteArray := prog_1_method_14_code
def yX8_rowRoom : MethodName := ⟨RX8, "rowRoom", "()I"⟩
abbrev cX8_putCharacter : ByteArray := prog_1_method_15_code
def yX8_putCharacter : MethodName := ⟨RX8, "putCharacter", "(I)V"⟩
abbrev cX8_takeCharacter : ByteArray := prog_1_method_16_code
def yX8_takeCharacter : MethodName := ⟨RX8, "takeCharacter", "()I"⟩
abbrev cX8_putWanted : ByteArray := prog_1_method_17_code
def yX8_putWanted : MethodName := ⟨RX8, "putWanted", "(I)V"⟩
abbrev cX8_putRowControl : ByteArray := prog_1_method_18_code
def yX8_putRowControl : MethodName := ⟨RX8, "putRowControl", "(I)V"⟩
abbrev cX8_levelOf : ByteArray := prog_1_method_19_code
def yX8_levelOf : MethodName := ⟨RX8, "levelOf", "(I)I"⟩
abbrev cX8_firstFaults : ByteArray := prog_1_method_20_code
def yX8_firstFaults : MethodName := ⟨RX8, "firstFaults", "()I"⟩
abbrev cX8_someFault : ByteArray := prog_1_method_21_code
def yX8_someFault : MethodName := ⟨RX8, "someFault", "()Z"⟩
abbrev cX8_tellLineState : ByteArray := prog_1_method_22_code
def yX8_tellLineState : MethodName := ⟨RX8, "tellLineState", "()I"⟩
abbrev cX8_reason : ByteArray := prog_1_method_23_code
def yX8_reason : MethodName := ⟨RX8, "reason", "()I"⟩
abbrev cX8_wants : ByteArray := prog_1_method_24_code
def yX8_wants : MethodName := ⟨RX8, "wants", "(I)Z"⟩
abbrev cX8_tellReason : ByteArray := prog_1_method_25_code
def yX8_tellReason : MethodName := ⟨RX8, "tellReason", "()I"⟩
abbrev cX8_beat : ByteArray := prog_1_method_26_code
def yX8_beat : MethodName := ⟨RX8, "beat", "()V"⟩
abbrev cX8_stepSender : ByteArray := prog_1_method_27_code
def yX8_stepSender : MethodName := ⟨RX8, "stepSender", "()Z"⟩
abbrev cX8_addReceived : ByteArray := prog_1_method_28_code
def yX8_addReceived : MethodName := ⟨RX8, "addReceived", "(I)V"⟩
abbrev cX8_stepLate : ByteArray := prog_1_method_29_code
def yX8_stepLate : MethodName := ⟨RX8, "stepLate", "()V"⟩
def RX9 : String := "SerialPortModel"
def TX9 : u_T := fun k => match k with
  | 0 => ("SerialPortModel", "divisor", "I", false)
  | 1 => ("SerialPortModel", "clocks", "I", false)
  | 2 => ("SerialPortModel", "wanted", "I", false)
  | 3 => ("SerialPortModel", "rowsOn", "Z", false)
  | 4 => ("SerialPortModel", "level", "I", false)
  | 5 => ("SerialPortModel", "form", "I", false)
  | 6 => ("SerialPortModel", "outputs", "I", false)
  | 7 => ("SerialPortModel", "byteKept", "I", false)
  | 8 => ("SerialPortModel", "ins", "I", false)
  | 9 => ("SerialPortModel", "changed", "I", false)
  | 10 => ("SerialPortModel", "received", "[I", true)
  | 11 => ("SerialPortModel", "marks", "[I", true)
  | 12 => ("SerialPortModel", "receivedMany", "I", false)
  | 13 => ("SerialPortModel", "overrun", "Z", false)
  | 14 => ("SerialPortModel", "sending", "[I", true)
  | 15 => ("SerialPortModel", "sendingMany", "I", false)
  | 16 => ("SerialPortModel", "emptyUp", "Z", false)
  | 17 => ("SerialPortModel", "lateUp", "Z", false)
  | 18 => ("SerialPortModel", "lateCount", "I", false)
  | 19 => ("SerialPortModel", "waveHigh", "[Z", true)
  | 20 => ("SerialPortModel", "waveBeats", "[I", true)
  | 21 => ("SerialPortModel", "waveMany", "I", false)
  | 22 => ("SerialPortModel", "lineIn", "Z", false)
  | 23 => ("SerialPortModel", "sends", "Z", false)
  | 24 => ("SerialPortModel", "sentCharacter", "I", false)
  | 25 => ("SerialPortModel", "sentForm", "I", false)
  | 26 => ("SerialPortModel", "sentBeat", "I", false)
  | 27 => ("SerialPortModel", "senderHigh", "Z", false)
  | 28 => ("SerialPortModel", "takes", "Z", false)
  | 29 => ("SerialPortModel", "sawHigh", "Z", false)
  | 30 => ("SerialPortModel", "takenForm", "I", false)
  | 31 => ("SerialPortModel", "takenBeat", "I", false)
  | 32 => ("SerialPortModel", "takenBits", "I", false)
  | 33 => ("SerialPortModel", "takenParity", "I", false)
  | 34 => ("SerialPortModel", "beats", "I", false)
  | 35 => ("SerialPortModel", "out", "Z", false)
  | 36 => ("SerialPortModel", "runHigh", "[Z", true)
  | 37 => ("SerialPortModel", "runBeats", "[I", true)
  | 38 => ("SerialPortModel", "runs", "I", false)
  | _ => ("SerialPortModel", "thrown", "I", false)
def tyX9 : Nat → FieldType := fun k => match k with
  | 0 => .int
  | 1 => .int
  | 2 => .int
  | 3 => .boolean
  | 4 => .int
  | 5 => .int
  | 6 => .int
  | 7 => .int
  | 8 => .int
  | 9 => .int
  | 10 => .array .int
  | 11 => .array .int
  | 12 => .int
  | 13 => .boolean
  | 14 => .array .int
  | 15 => .int
  | 16 => .boolean
  | 17 => .boolean
  | 18 => .int
  | 19 => .array .boolean
  | 20 => .array .int
  | 21 => .int
  | 22 => .boolean
  | 23 => .boolean
  | 24 => .int
  | 25 => .int
  | 26 => .int
  | 27 => .boolean
  | 28 => .boolean
  | 29 => .boolean
  | 30 => .int
  | 31 => .int
  | 32 => .int
  | 33 => .int
  | 34 => .int
  | 35 => .boolean
  | 36 => .array .boolean
  | 37 => .array .int
  | 38 => .int
  | _ => .int
abbrev wsX90 : List Cond := u_ws RX9 TX9 40
theorem nmX9 : ∀ a, a < 40 → ∀ b, b < 40 → a ≠ b → (TX9 a).2.1 ≠ (TX9 b).2.1 := by decide +kernel
theorem tyX9_ok : ∀ k, k < 40 → parseFieldDescriptor (TX9 k).2.2.1 = some (tyX9 k) := by decide +kernel
abbrev cX9_init : ByteArray := prog_11_method_1_code
def yX9_init : MethodName := ⟨RX9, "<init>", "()V"⟩
abbrev cX9_thrown : ByteArray := prog_11_method_2_code
def yX9_thrown : MethodName := ⟨RX9, "thrown", "()I"⟩
abbrev cX9_reset : ByteArray := prog_11_method_3_code
def yX9_reset : MethodName := ⟨RX9, "reset", "()V"⟩
abbrev cX9_dlab : ByteArray := prog_11_method_4_code
def yX9_dlab : MethodName := ⟨RX9, "dlab", "()Z"⟩
abbrev cX9_loops : ByteArray := prog_11_method_5_code
def yX9_loops : MethodName := ⟨RX9, "loops", "()Z"⟩
abbrev cX9_room : ByteArray := prog_11_method_6_code
def yX9_room : MethodName := ⟨RX9, "room", "()I"⟩
abbrev cX9_bitsOf : ByteArray := prog_11_method_7_code
def yX9_bitsOf : MethodName := ⟨RX9, "bitsOf", "(I)I"⟩
abbrev cX9_hasParity : ByteArray := prog_11_method_8_code
def yX9_hasParity : MethodName := ⟨RX9, "hasParity", "(I)Z"⟩
abbrev cX9_parityOf : ByteArray := prog_11_method_9_code
def yX9_parityOf : MethodName := ⟨RX9, "parityOf", "(II)I"⟩
abbrev cX9_stopOf : ByteArray := prog_11_method_10_code
def yX9_stopOf : MethodName := ⟨RX9, "stopOf", "(I)I"⟩
abbrev cX9_frameOf : ByteArray := prog_11_method_11_code
def yX9_frameOf : MethodName := ⟨RX9, "frameOf", "(I)I"⟩
abbrev cX9_partOf : ByteArray := prog_11_method_12_code
def yX9_partOf : MethodName := ⟨RX9, "partOf", "(III)Z"⟩
abbrev cX9_lines : ByteArray := prog_11_method_13_code
def yX9_lines : MethodName := ⟨RX9, "lines", "()I"⟩
abbrev cX9_notice : ByteArray := prog_11_method_14_code
def yX9_notice : MethodName := ⟨RX9, "notice", "(I)V"⟩
abbrev cX9_inputs : ByteArray := prog_11_method_15_code
def yX9_inputs : MethodName := ⟨RX9, "inputs", "(I)Z"⟩
abbrev cX9_clearReceived : ByteArray := prog_11_method_16_code
def yX9_clearReceived : MethodName := ⟨RX9, "clearReceived", "()V"⟩
abbrev cX9_write : ByteArray := prog_11_method_17_code
def yX9_write : MethodName := ⟨RX9, "write", "(II)V"⟩
abbrev cX9_isMarked : ByteArray := prog_11_method_18_code
def yX9_isMarked : MethodName := ⟨RX9, "isMarked", "()Z"⟩
abbrev cX9_reason : ByteArray := prog_11_method_19_code
def yX9_reason : MethodName := ⟨RX9, "reason", "()I"⟩
abbrev cX9_line : ByteArray := prog_11_method_20_code
def yX9_line : MethodName := ⟨RX9, "line", "()I"⟩
abbrev cX9_take : ByteArray := prog_11_method_21_code
def yX9_take : MethodName := ⟨RX9, "take", "()I"⟩
abbrev cX9_read : ByteArray := prog_11_method_22_code
def yX9_read : MethodName := ⟨RX9, "read", "(I)I"⟩
abbrev cX9_send : ByteArray := prog_11_method_23_code
def yX9_send : MethodName := ⟨RX9, "send", "()V"⟩
abbrev cX9_say : ByteArray := prog_11_method_24_code
def yX9_say : MethodName := ⟨RX9, "say", "(Z)V"⟩
abbrev cX9_come : ByteArray := prog_11_method_25_code
def yX9_come : MethodName := ⟨RX9, "come", "()V"⟩
abbrev cX9_put : ByteArray := prog_11_method_26_code
def yX9_put : MethodName := ⟨RX9, "put", "(II)V"⟩
abbrev cX9_receive : ByteArray := prog_11_method_27_code
def yX9_receive : MethodName := ⟨RX9, "receive", "()V"⟩
abbrev cX9_beat : ByteArray := prog_11_method_28_code
def yX9_beat : MethodName := ⟨RX9, "beat", "()V"⟩
abbrev cX9_clock : ByteArray := prog_11_method_29_code
def yX9_clock : MethodName := ⟨RX9, "clock", "(I)I"⟩
abbrev cX9_wave : ByteArray := prog_11_method_30_code
def yX9_wave : MethodName := ⟨RX9, "wave", "(ZI)I"⟩
abbrev cX9_frame : ByteArray := prog_11_method_31_code
def yX9_frame : MethodName := ⟨RX9, "frame", "(II)I"⟩
abbrev cX9_count : ByteArray := prog_11_method_32_code
def yX9_count : MethodName := ⟨RX9, "count", "(I)I"⟩
abbrev cX9_run : ByteArray := prog_11_method_33_code
def yX9_run : MethodName := ⟨RX9, "run", "(II)I"⟩
def RJ6 : String := "java/lang/Integer"
def TJ6 : u_T := fun k => match k with
  | _ => ("", "", "", false)
def tyJ6 : Nat → FieldType := fun k => match k with
  | _ => .int
abbrev wsJ60 : List Cond := u_ws RJ6 TJ6 0
theorem nmJ6 : ∀ a, a < 0 → ∀ b, b < 0 → a ≠ b → (TJ6 a).2.1 ≠ (TJ6 b).2.1 := by decide +kernel
theorem tyJ6_ok : ∀ k, k < 0 → parseFieldDescriptor (TJ6 k).2.2.1 = some (tyJ6 k) := by decide +kernel
abbrev cJ6_bitCount_0f7a4 : ByteArray := prog_13_method_49_code
def yJ6_bitCount_0f7a4 : MethodName := ⟨RJ6, "bitCount", "(I)I"⟩
def RJ9 : String := "java/lang/Math"
def TJ9 : u_T := fun k => match k with
  | _ => ("", "", "", false)
def tyJ9 : Nat → FieldType := fun k => match k with
  | _ => .int
abbrev wsJ90 : List Cond := u_ws RJ9 TJ9 0
theorem nmJ9 : ∀ a, a < 0 → ∀ b, b < 0 → a ≠ b → (TJ9 a).2.1 ≠ (TJ9 b).2.1 := by decide +kernel
theorem tyJ9_ok : ∀ k, k < 0 → parseFieldDescriptor (TJ9 k).2.2.1 = some (tyJ9 k) := by decide +kernel
abbrev cJ9_max_7cf53 : ByteArray := prog_14_method_65_code
def yJ9_max_7cf53 : MethodName := ⟨RJ9, "max", "(II)I"⟩
def RJ0 : String := "java/lang/String"
def TJ0 : u_T := fun k => match k with
  | _ => ("", "", "", false)
def tyJ0 : Nat → FieldType := fun k => match k with
  | _ => .int
abbrev wsJ00 : List Cond := u_ws RJ0 TJ0 0
theorem nmJ0 : ∀ a, a < 0 → ∀ b, b < 0 → a ≠ b → (TJ0 a).2.1 ≠ (TJ0 b).2.1 := by decide +kernel
theorem tyJ0_ok : ∀ k, k < 0 → parseFieldDescriptor (TJ0 k).2.2.1 = some (tyJ0 k) := by decide +kernel
def RL : String := "SerialPortLaw"
abbrev cL_write : ByteArray := method_3_code
def yL_write : MethodName := ⟨RL, "write", "(LSerialPort;II)I"⟩
abbrev cL_read : ByteArray := method_4_code
def yL_read : MethodName := ⟨RL, "read", "(LSerialPort;I[J)I"⟩
abbrev cL_law : ByteArray := code
def yL_law : MethodName := ⟨RL, "law", "([I)Z"⟩
def wsX0_init : List Cond := .code yX0_init cX0_init 1 none :: ([.methodLink RX0 3 objectInit, .instanceMethod objectInit, .code objectInit ⟨#[0xb1]⟩ 1 none])
def wsX0_clear : List Cond := .code yX0_clear cX0_clear 1 none :: ([.fieldLink RX0 9 "SerialPort$Divider" "divisor" "I", .fieldLink RX0 15 "SerialPort$Divider" "passed" "I"] ++ wsX00)
def wsX0_putByte : List Cond := .code yX0_putByte cX0_putByte 3 none :: ([.fieldLink RX0 9 "SerialPort$Divider" "divisor" "I", .constant RX0 18 (65280), .fieldLink RX0 15 "SerialPort$Divider" "passed" "I"] ++ wsX00)
def wsX0_tellByte : List Cond := .code yX0_tellByte cX0_tellByte 2 (some .int) :: ([.fieldLink RX0 9 "SerialPort$Divider" "divisor" "I"] ++ wsX00)
def wsX0_pass : List Cond := .code yX0_pass cX0_pass 3 (some .int) :: ([.fieldLink RX0 9 "SerialPort$Divider" "divisor" "I", .fieldLink RX0 15 "SerialPort$Divider" "passed" "I"] ++ wsX00)
def wsX5_init : List Cond := .code yX5_init cX5_init 2 none :: ([.methodLink RX5 1 objectInit, .instanceMethod objectInit, .code objectInit ⟨#[0xb1]⟩ 1 none, .methodLink RX5 7 Lib.Math.max.name, .static Lib.Math.max.name, .initialized "java/lang/Math", .code Lib.Math.max.name Lib.Math.max.code 2 (some .int), .arrayClass .int, .fieldLink RX5 13 "SerialPort$Ring" "cells" "[I", .fieldLink RX5 19 "SerialPort$Ring" "head" "I", .fieldLink RX5 23 "SerialPort$Ring" "size" "I"] ++ wsX50)
def wsX1_init : List Cond := .code yX1_init cX1_init 1 none :: ([.methodLink RX1 3 objectInit, .instanceMethod objectInit, .code objectInit ⟨#[0xb1]⟩ 1 none, .classLink RX1 9 RX5, .instantiable RX5 3, .initialized RX5, .fieldLink RX1 14 "SerialPort$LineIn" "wave" "LSerialPort$Ring;", .methodLink RX1 11 yX5_init, .instanceMethod yX5_init, .code yX5_init cX5_init 2 none, .methodLink RX5 1 objectInit, .methodLink RX5 7 Lib.Math.max.name, .static Lib.Math.max.name, .initialized "java/lang/Math", .code Lib.Math.max.name Lib.Math.max.code 2 (some .int), .arrayClass .int, .fieldLink RX5 13 "SerialPort$Ring" "cells" "[I", .fieldLink RX5 19 "SerialPort$Ring" "head" "I", .fieldLink RX5 23 "SerialPort$Ring" "size" "I"] ++ wsX50 ++ wsX10)
def wsX5_clear : List Cond := .code yX5_clear cX5_clear 1 none :: ([.fieldLink RX5 19 "SerialPort$Ring" "head" "I", .fieldLink RX5 23 "SerialPort$Ring" "size" "I"] ++ wsX50)
def wsX1_clear : List Cond := .code yX1_clear cX1_clear 1 none :: ([.fieldLink RX1 14 "SerialPort$LineIn" "wave" "LSerialPort$Ring;", .fieldLink RX1 23 "SerialPort$LineIn" "high" "Z", .methodLink RX1 20 yX5_clear, .instanceMethod yX5_clear, .selects RX5 yX5_clear yX5_clear, .initialized RX5, .code yX5_clear cX5_clear 1 none, .fieldLink RX5 19 "SerialPort$Ring" "head" "I", .fieldLink RX5 23 "SerialPort$Ring" "size" "I"] ++ wsX10 ++ wsX50)
def wsX5_size : List Cond := .code yX5_size cX5_size 1 (some .int) :: ([.fieldLink RX5 23 "SerialPort$Ring" "size" "I"] ++ wsX50)
def wsX1_pieces : List Cond := .code yX1_pieces cX1_pieces 1 (some .int) :: ([.fieldLink RX1 14 "SerialPort$LineIn" "wave" "LSerialPort$Ring;", .methodLink RX1 27 yX5_size, .instanceMethod yX5_size, .selects RX5 yX5_size yX5_size, .initialized RX5, .code yX5_size cX5_size 1 (some .int), .fieldLink RX5 23 "SerialPort$Ring" "size" "I"] ++ wsX10 ++ wsX50)
def wsX5_room : List Cond := .code yX5_room cX5_room 1 (some .int) :: ([.fieldLink RX5 13 "SerialPort$Ring" "cells" "[I", .fieldLink RX5 23 "SerialPort$Ring" "size" "I"] ++ wsX50)
def wsX1_room : List Cond := .code yX1_room cX1_room 1 (some .int) :: ([.fieldLink RX1 14 "SerialPort$LineIn" "wave" "LSerialPort$Ring;", .methodLink RX1 31 yX5_room, .instanceMethod yX5_room, .selects RX5 yX5_room yX5_room, .initialized RX5, .code yX5_room cX5_room 1 (some .int), .fieldLink RX5 13 "SerialPort$Ring" "cells" "[I", .fieldLink RX5 23 "SerialPort$Ring" "size" "I"] ++ wsX10 ++ wsX50)
def wsX5_cellOf : List Cond := .code yX5_cellOf cX5_cellOf 3 (some .int) :: ([.fieldLink RX5 19 "SerialPort$Ring" "head" "I", .fieldLink RX5 13 "SerialPort$Ring" "cells" "[I"] ++ wsX50)
def wsX5_setAt : List Cond := .code yX5_setAt cX5_setAt 4 none :: ([.fieldLink RX5 23 "SerialPort$Ring" "size" "I", .fieldLink RX5 13 "SerialPort$Ring" "cells" "[I", .methodLink RX5 26 yX5_cellOf, .instanceMethod yX5_cellOf, .selects RX5 yX5_cellOf yX5_cellOf, .initialized RX5, .code yX5_cellOf cX5_cellOf 3 (some .int), .fieldLink RX5 19 "SerialPort$Ring" "head" "I"] ++ wsX50)
def wsX5_add : List Cond := .code yX5_add cX5_add 2 none :: ([.fieldLink RX5 23 "SerialPort$Ring" "size" "I", .fieldLink RX5 13 "SerialPort$Ring" "cells" "[I", .methodLink RX5 33 yX5_setAt, .instanceMethod yX5_setAt, .selects RX5 yX5_setAt yX5_setAt, .initialized RX5, .code yX5_setAt cX5_setAt 4 none, .methodLink RX5 26 yX5_cellOf, .instanceMethod yX5_cellOf, .selects RX5 yX5_cellOf yX5_cellOf, .code yX5_cellOf cX5_cellOf 3 (some .int), .fieldLink RX5 19 "SerialPort$Ring" "head" "I"] ++ wsX50)
def wsX1_append : List Cond := .code yX1_append cX1_append 3 none :: ([.fieldLink RX1 14 "SerialPort$LineIn" "wave" "LSerialPort$Ring;", .methodLink RX1 34 yX5_add, .instanceMethod yX5_add, .selects RX5 yX5_add yX5_add, .initialized RX5, .code yX5_add cX5_add 2 none, .fieldLink RX5 23 "SerialPort$Ring" "size" "I", .fieldLink RX5 13 "SerialPort$Ring" "cells" "[I", .methodLink RX5 33 yX5_setAt, .instanceMethod yX5_setAt, .selects RX5 yX5_setAt yX5_setAt, .code yX5_setAt cX5_setAt 4 none, .methodLink RX5 26 yX5_cellOf, .instanceMethod yX5_cellOf, .selects RX5 yX5_cellOf yX5_cellOf, .code yX5_cellOf cX5_cellOf 3 (some .int), .fieldLink RX5 19 "SerialPort$Ring" "head" "I"] ++ wsX10 ++ wsX50)
def wsX5_isEmpty : List Cond := .code yX5_isEmpty cX5_isEmpty 1 (some .boolean) :: ([.fieldLink RX5 23 "SerialPort$Ring" "size" "I"] ++ wsX50)
def wsX5_at : List Cond := .code yX5_at cX5_at 3 (some .int) :: ([.fieldLink RX5 23 "SerialPort$Ring" "size" "I", .fieldLink RX5 13 "SerialPort$Ring" "cells" "[I", .methodLink RX5 26 yX5_cellOf, .instanceMethod yX5_cellOf, .selects RX5 yX5_cellOf yX5_cellOf, .initialized RX5, .code yX5_cellOf cX5_cellOf 3 (some .int), .fieldLink RX5 19 "SerialPort$Ring" "head" "I"] ++ wsX50)
def wsX5_first : List Cond := .code yX5_first cX5_first 1 (some .int) :: ([.methodLink RX5 30 yX5_at, .instanceMethod yX5_at, .selects RX5 yX5_at yX5_at, .initialized RX5, .code yX5_at cX5_at 3 (some .int), .fieldLink RX5 23 "SerialPort$Ring" "size" "I", .fieldLink RX5 13 "SerialPort$Ring" "cells" "[I", .methodLink RX5 26 yX5_cellOf, .instanceMethod yX5_cellOf, .selects RX5 yX5_cellOf yX5_cellOf, .code yX5_cellOf cX5_cellOf 3 (some .int), .fieldLink RX5 19 "SerialPort$Ring" "head" "I"] ++ wsX50)
def wsX5_setFirst : List Cond := .code yX5_setFirst cX5_setFirst 2 none :: ([.methodLink RX5 33 yX5_setAt, .instanceMethod yX5_setAt, .selects RX5 yX5_setAt yX5_setAt, .initialized RX5, .code yX5_setAt cX5_setAt 4 none, .fieldLink RX5 23 "SerialPort$Ring" "size" "I", .fieldLink RX5 13 "SerialPort$Ring" "cells" "[I", .methodLink RX5 26 yX5_cellOf, .instanceMethod yX5_cellOf, .selects RX5 yX5_cellOf yX5_cellOf, .code yX5_cellOf cX5_cellOf 3 (some .int), .fieldLink RX5 19 "SerialPort$Ring" "head" "I"] ++ wsX50)
def wsX5_dropFirst : List Cond := .code yX5_dropFirst cX5_dropFirst 1 none :: ([.fieldLink RX5 23 "SerialPort$Ring" "size" "I", .fieldLink RX5 19 "SerialPort$Ring" "head" "I", .methodLink RX5 26 yX5_cellOf, .instanceMethod yX5_cellOf, .selects RX5 yX5_cellOf yX5_cellOf, .initialized RX5, .code yX5_cellOf cX5_cellOf 3 (some .int), .fieldLink RX5 13 "SerialPort$Ring" "cells" "[I"] ++ wsX50)
def wsX1_next_r1 : List Cond := [Cond.fieldLink RX1 14 "SerialPort$LineIn" "wave" "LSerialPort$Ring;", Cond.fieldLink RX1 23 "SerialPort$LineIn" "high" "Z", Cond.methodLink RX1 37 yX5_isEmpty, Cond.instanceMethod yX5_isEmpty, Cond.selects RX5 yX5_isEmpty yX5_isEmpty, Cond.initialized RX5, Cond.code yX5_isEmpty cX5_isEmpty 1 (some .boolean), Cond.fieldLink RX5 23 "SerialPort$Ring" "size" "I", Cond.methodLink RX1 41 yX5_first, Cond.instanceMethod yX5_first, Cond.selects RX5 yX5_first yX5_first, Cond.code yX5_first cX5_first 1 (some .int), Cond.methodLink RX5 30 yX5_at, Cond.instanceMethod yX5_at, Cond.selects RX5 yX5_at yX5_at, Cond.code yX5_at cX5_at 3 (some .int), Cond.fieldLink RX5 13 "SerialPort$Ring" "cells" "[I", Cond.methodLink RX5 26 yX5_cellOf, Cond.instanceMethod yX5_cellOf, Cond.selects RX5 yX5_cellOf yX5_cellOf, Cond.code yX5_cellOf cX5_cellOf 3 (some .int), Cond.fieldLink RX5 19 "SerialPort$Ring" "head" "I", Cond.methodLink RX1 44 yX5_setFirst, Cond.instanceMethod yX5_setFirst]
def wsX1_next_r2 : List Cond := [Cond.selects RX5 yX5_setFirst yX5_setFirst, Cond.code yX5_setFirst cX5_setFirst 2 none, Cond.methodLink RX5 33 yX5_setAt, Cond.instanceMethod yX5_setAt, Cond.selects RX5 yX5_setAt yX5_setAt, Cond.code yX5_setAt cX5_setAt 4 none, Cond.methodLink RX1 47 yX5_dropFirst, Cond.instanceMethod yX5_dropFirst, Cond.selects RX5 yX5_dropFirst yX5_dropFirst, Cond.code yX5_dropFirst cX5_dropFirst 1 none]
def wsX1_next : List Cond := .code yX1_next cX1_next 2 (some .boolean) :: ((wsX1_next_r1 ++ wsX1_next_r2) ++ wsX10 ++ wsX50)
def wsX2_init : List Cond := .code yX2_init cX2_init 1 none :: ([.methodLink RX2 3 objectInit, .instanceMethod objectInit, .code objectInit ⟨#[0xb1]⟩ 1 none, .classLink RX2 9 RX5, .instantiable RX5 3, .initialized RX5, .fieldLink RX2 14 "SerialPort$LineOut" "runs" "LSerialPort$Ring;", .methodLink RX2 11 yX5_init, .instanceMethod yX5_init, .code yX5_init cX5_init 2 none, .methodLink RX5 1 objectInit, .methodLink RX5 7 Lib.Math.max.name, .static Lib.Math.max.name, .initialized "java/lang/Math", .code Lib.Math.max.name Lib.Math.max.code 2 (some .int), .arrayClass .int, .fieldLink RX5 13 "SerialPort$Ring" "cells" "[I", .fieldLink RX5 19 "SerialPort$Ring" "head" "I", .fieldLink RX5 23 "SerialPort$Ring" "size" "I"] ++ wsX50 ++ wsX20)
def wsX2_clear : List Cond := .code yX2_clear cX2_clear 1 none :: ([.fieldLink RX2 14 "SerialPort$LineOut" "runs" "LSerialPort$Ring;", .fieldLink RX2 23 "SerialPort$LineOut" "inAll" "I", .methodLink RX2 20 yX5_clear, .instanceMethod yX5_clear, .selects RX5 yX5_clear yX5_clear, .initialized RX5, .code yX5_clear cX5_clear 1 none, .fieldLink RX5 19 "SerialPort$Ring" "head" "I", .fieldLink RX5 23 "SerialPort$Ring" "size" "I"] ++ wsX20 ++ wsX50)
def wsX2_fromEnd : List Cond := .code yX2_fromEnd cX2_fromEnd 2 (some .int) :: ([.fieldLink RX2 14 "SerialPort$LineOut" "runs" "LSerialPort$Ring;", .methodLink RX2 35 yX5_size, .instanceMethod yX5_size, .selects RX5 yX5_size yX5_size, .initialized RX5, .code yX5_size cX5_size 1 (some .int), .fieldLink RX5 23 "SerialPort$Ring" "size" "I", .methodLink RX2 56 yX5_at, .instanceMethod yX5_at, .selects RX5 yX5_at yX5_at, .code yX5_at cX5_at 3 (some .int), .fieldLink RX5 13 "SerialPort$Ring" "cells" "[I", .methodLink RX5 26 yX5_cellOf, .instanceMethod yX5_cellOf, .selects RX5 yX5_cellOf yX5_cellOf, .code yX5_cellOf cX5_cellOf 3 (some .int), .fieldLink RX5 19 "SerialPort$Ring" "head" "I"] ++ wsX20 ++ wsX50)
def wsX2_runIsHigh : List Cond := .code yX2_runIsHigh cX2_runIsHigh 2 (some .boolean) :: ([.methodLink RX2 39 yX2_fromEnd, .instanceMethod yX2_fromEnd, .selects RX2 yX2_fromEnd yX2_fromEnd, .initialized RX2, .code yX2_fromEnd cX2_fromEnd 2 (some .int), .fieldLink RX2 14 "SerialPort$LineOut" "runs" "LSerialPort$Ring;", .methodLink RX2 35 yX5_size, .instanceMethod yX5_size, .selects RX5 yX5_size yX5_size, .initialized RX5, .code yX5_size cX5_size 1 (some .int), .fieldLink RX5 23 "SerialPort$Ring" "size" "I", .methodLink RX2 56 yX5_at, .instanceMethod yX5_at, .selects RX5 yX5_at yX5_at, .code yX5_at cX5_at 3 (some .int), .fieldLink RX5 13 "SerialPort$Ring" "cells" "[I", .methodLink RX5 26 yX5_cellOf, .instanceMethod yX5_cellOf, .selects RX5 yX5_cellOf yX5_cellOf, .code yX5_cellOf cX5_cellOf 3 (some .int), .fieldLink RX5 19 "SerialPort$Ring" "head" "I"] ++ wsX20 ++ wsX50)
def wsX2_isHigh_r1 : List Cond := [Cond.fieldLink RX2 14 "SerialPort$LineOut" "runs" "LSerialPort$Ring;", Cond.methodLink RX2 27 yX5_isEmpty, Cond.instanceMethod yX5_isEmpty, Cond.selects RX5 yX5_isEmpty yX5_isEmpty, Cond.initialized RX5, Cond.code yX5_isEmpty cX5_isEmpty 1 (some .boolean), Cond.fieldLink RX5 23 "SerialPort$Ring" "size" "I", Cond.methodLink RX2 31 yX2_runIsHigh, Cond.instanceMethod yX2_runIsHigh, Cond.selects RX2 yX2_runIsHigh yX2_runIsHigh, Cond.initialized RX2, Cond.code yX2_runIsHigh cX2_runIsHigh 2 (some .boolean), Cond.methodLink RX2 39 yX2_fromEnd, Cond.instanceMethod yX2_fromEnd, Cond.selects RX2 yX2_fromEnd yX2_fromEnd, Cond.code yX2_fromEnd cX2_fromEnd 2 (some .int), Cond.methodLink RX2 35 yX5_size, Cond.instanceMethod yX5_size, Cond.selects RX5 yX5_size yX5_size, Cond.code yX5_size cX5_size 1 (some .int), Cond.methodLink RX2 56 yX5_at, Cond.instanceMethod yX5_at, Cond.selects RX5 yX5_at yX5_at, Cond.code yX5_at cX5_at 3 (some .int)]
def wsX2_isHigh_r2 : List Cond := [Cond.fieldLink RX5 13 "SerialPort$Ring" "cells" "[I", Cond.methodLink RX5 26 yX5_cellOf, Cond.instanceMethod yX5_cellOf, Cond.selects RX5 yX5_cellOf yX5_cellOf, Cond.code yX5_cellOf cX5_cellOf 3 (some .int), Cond.fieldLink RX5 19 "SerialPort$Ring" "head" "I"]
def wsX2_isHigh : List Cond := .code yX2_isHigh cX2_isHigh 1 (some .boolean) :: ((wsX2_isHigh_r1 ++ wsX2_isHigh_r2) ++ wsX20 ++ wsX50)
def wsX2_runsInAll : List Cond := .code yX2_runsInAll cX2_runsInAll 1 (some .int) :: ([.fieldLink RX2 23 "SerialPort$LineOut" "inAll" "I"] ++ wsX20)
def wsX2_runsKept : List Cond := .code yX2_runsKept cX2_runsKept 1 (some .int) :: ([.fieldLink RX2 14 "SerialPort$LineOut" "runs" "LSerialPort$Ring;", .methodLink RX2 35 yX5_size, .instanceMethod yX5_size, .selects RX5 yX5_size yX5_size, .initialized RX5, .code yX5_size cX5_size 1 (some .int), .fieldLink RX5 23 "SerialPort$Ring" "size" "I"] ++ wsX20 ++ wsX50)
def wsX2_runBeats : List Cond := .code yX2_runBeats cX2_runBeats 2 (some .int) :: ([.methodLink RX2 39 yX2_fromEnd, .instanceMethod yX2_fromEnd, .selects RX2 yX2_fromEnd yX2_fromEnd, .initialized RX2, .code yX2_fromEnd cX2_fromEnd 2 (some .int), .fieldLink RX2 14 "SerialPort$LineOut" "runs" "LSerialPort$Ring;", .methodLink RX2 35 yX5_size, .instanceMethod yX5_size, .selects RX5 yX5_size yX5_size, .initialized RX5, .code yX5_size cX5_size 1 (some .int), .fieldLink RX5 23 "SerialPort$Ring" "size" "I", .methodLink RX2 56 yX5_at, .instanceMethod yX5_at, .selects RX5 yX5_at yX5_at, .code yX5_at cX5_at 3 (some .int), .fieldLink RX5 13 "SerialPort$Ring" "cells" "[I", .methodLink RX5 26 yX5_cellOf, .instanceMethod yX5_cellOf, .selects RX5 yX5_cellOf yX5_cellOf, .code yX5_cellOf cX5_cellOf 3 (some .int), .fieldLink RX5 19 "SerialPort$Ring" "head" "I"] ++ wsX20 ++ wsX50)
def wsX2_append_r1 : List Cond := [Cond.fieldLink RX2 14 "SerialPort$LineOut" "runs" "LSerialPort$Ring;", Cond.fieldLink RX2 23 "SerialPort$LineOut" "inAll" "I", Cond.methodLink RX2 27 yX5_isEmpty, Cond.instanceMethod yX5_isEmpty, Cond.selects RX5 yX5_isEmpty yX5_isEmpty, Cond.initialized RX5, Cond.code yX5_isEmpty cX5_isEmpty 1 (some .boolean), Cond.fieldLink RX5 23 "SerialPort$Ring" "size" "I", Cond.methodLink RX2 31 yX2_runIsHigh, Cond.instanceMethod yX2_runIsHigh, Cond.selects RX2 yX2_runIsHigh yX2_runIsHigh, Cond.initialized RX2, Cond.code yX2_runIsHigh cX2_runIsHigh 2 (some .boolean), Cond.methodLink RX2 39 yX2_fromEnd, Cond.instanceMethod yX2_fromEnd, Cond.selects RX2 yX2_fromEnd yX2_fromEnd, Cond.code yX2_fromEnd cX2_fromEnd 2 (some .int), Cond.methodLink RX2 35 yX5_size, Cond.instanceMethod yX5_size, Cond.selects RX5 yX5_size yX5_size, Cond.code yX5_size cX5_size 1 (some .int), Cond.methodLink RX2 56 yX5_at, Cond.instanceMethod yX5_at, Cond.selects RX5 yX5_at yX5_at]
def wsX2_append_r2 : List Cond := [Cond.code yX5_at cX5_at 3 (some .int), Cond.fieldLink RX5 13 "SerialPort$Ring" "cells" "[I", Cond.methodLink RX5 26 yX5_cellOf, Cond.instanceMethod yX5_cellOf, Cond.selects RX5 yX5_cellOf yX5_cellOf, Cond.code yX5_cellOf cX5_cellOf 3 (some .int), Cond.fieldLink RX5 19 "SerialPort$Ring" "head" "I", Cond.methodLink RX2 43 yX5_setAt, Cond.instanceMethod yX5_setAt, Cond.selects RX5 yX5_setAt yX5_setAt, Cond.code yX5_setAt cX5_setAt 4 none, Cond.methodLink RX2 47 yX5_room, Cond.instanceMethod yX5_room, Cond.selects RX5 yX5_room yX5_room, Cond.code yX5_room cX5_room 1 (some .int), Cond.methodLink RX2 50 yX5_dropFirst, Cond.instanceMethod yX5_dropFirst, Cond.selects RX5 yX5_dropFirst yX5_dropFirst, Cond.code yX5_dropFirst cX5_dropFirst 1 none, Cond.methodLink RX2 53 yX5_add, Cond.instanceMethod yX5_add, Cond.selects RX5 yX5_add yX5_add, Cond.code yX5_add cX5_add 2 none, Cond.methodLink RX5 33 yX5_setAt]
def wsX2_append : List Cond := .code yX2_append cX2_append 2 none :: ((wsX2_append_r1 ++ wsX2_append_r2) ++ wsX20 ++ wsX50)
def wsX3_init : List Cond := .code yX3_init cX3_init 1 none :: ([.methodLink RX3 1 objectInit, .instanceMethod objectInit, .code objectInit ⟨#[0xb1]⟩ 1 none])
def wsX3_clear : List Cond := .code yX3_clear cX3_clear 1 none :: ([.fieldLink RX3 7 "SerialPort$Modem" "outputs" "I", .fieldLink RX3 13 "SerialPort$Modem" "pins" "I", .fieldLink RX3 16 "SerialPort$Modem" "state" "I", .fieldLink RX3 19 "SerialPort$Modem" "changes" "I"] ++ wsX30)
def wsX3_outputs : List Cond := .code yX3_outputs cX3_outputs 1 (some .int) :: ([.fieldLink RX3 7 "SerialPort$Modem" "outputs" "I"] ++ wsX30)
def wsX3_loops : List Cond := .code yX3_loops cX3_loops 1 (some .boolean) :: ([.fieldLink RX3 7 "SerialPort$Modem" "outputs" "I"] ++ wsX30)
def wsX3_hasChanged : List Cond := .code yX3_hasChanged cX3_hasChanged 1 (some .boolean) :: ([.fieldLink RX3 19 "SerialPort$Modem" "changes" "I"] ++ wsX30)
def wsX3_looped : List Cond := .code yX3_looped cX3_looped 1 (some .int) :: ([.fieldLink RX3 7 "SerialPort$Modem" "outputs" "I"] ++ wsX30)
def wsX3_follow : List Cond := .code yX3_follow cX3_follow 3 none :: ([.fieldLink RX3 13 "SerialPort$Modem" "pins" "I", .fieldLink RX3 16 "SerialPort$Modem" "state" "I", .fieldLink RX3 19 "SerialPort$Modem" "changes" "I", .methodLink RX3 25 yX3_loops, .instanceMethod yX3_loops, .selects RX3 yX3_loops yX3_loops, .initialized RX3, .code yX3_loops cX3_loops 1 (some .boolean), .fieldLink RX3 7 "SerialPort$Modem" "outputs" "I", .methodLink RX3 29 yX3_looped, .instanceMethod yX3_looped, .selects RX3 yX3_looped yX3_looped, .code yX3_looped cX3_looped 1 (some .int)] ++ wsX30)
def wsX3_putOutputs : List Cond := .code yX3_putOutputs cX3_putOutputs 2 none :: ([.fieldLink RX3 7 "SerialPort$Modem" "outputs" "I", .methodLink RX3 22 yX3_follow, .instanceMethod yX3_follow, .selects RX3 yX3_follow yX3_follow, .initialized RX3, .code yX3_follow cX3_follow 3 none, .fieldLink RX3 13 "SerialPort$Modem" "pins" "I", .fieldLink RX3 16 "SerialPort$Modem" "state" "I", .fieldLink RX3 19 "SerialPort$Modem" "changes" "I", .methodLink RX3 25 yX3_loops, .instanceMethod yX3_loops, .selects RX3 yX3_loops yX3_loops, .code yX3_loops cX3_loops 1 (some .boolean), .methodLink RX3 29 yX3_looped, .instanceMethod yX3_looped, .selects RX3 yX3_looped yX3_looped, .code yX3_looped cX3_looped 1 (some .int)] ++ wsX30)
def wsX3_putPins : List Cond := .code yX3_putPins cX3_putPins 2 none :: ([.fieldLink RX3 13 "SerialPort$Modem" "pins" "I", .methodLink RX3 22 yX3_follow, .instanceMethod yX3_follow, .selects RX3 yX3_follow yX3_follow, .initialized RX3, .code yX3_follow cX3_follow 3 none, .fieldLink RX3 16 "SerialPort$Modem" "state" "I", .fieldLink RX3 19 "SerialPort$Modem" "changes" "I", .methodLink RX3 25 yX3_loops, .instanceMethod yX3_loops, .selects RX3 yX3_loops yX3_loops, .code yX3_loops cX3_loops 1 (some .boolean), .fieldLink RX3 7 "SerialPort$Modem" "outputs" "I", .methodLink RX3 29 yX3_looped, .instanceMethod yX3_looped, .selects RX3 yX3_looped yX3_looped, .code yX3_looped cX3_looped 1 (some .int)] ++ wsX30)
def wsX3_tellState : List Cond := .code yX3_tellState cX3_tellState 2 (some .int) :: ([.fieldLink RX3 16 "SerialPort$Modem" "state" "I", .fieldLink RX3 19 "SerialPort$Modem" "changes" "I"] ++ wsX30)
def wsX4_init : List Cond := .code yX4_init cX4_init 1 none :: ([.methodLink RX4 3 objectInit, .instanceMethod objectInit, .code objectInit ⟨#[0xb1]⟩ 1 none])
def wsX4_begin : List Cond := .code yX4_begin cX4_begin 2 none :: ([.fieldLink RX4 37 "SerialPort$Receiver" "control" "I", .fieldLink RX4 40 "SerialPort$Receiver" "character" "I", .fieldLink RX4 26 "SerialPort$Receiver" "beat" "I", .fieldLink RX4 15 "SerialPort$Receiver" "busy" "Z", .fieldLink RX4 19 "SerialPort$Receiver" "wasHigh" "Z", .fieldLink RX4 43 "SerialPort$Receiver" "parityHigh" "Z", .fieldLink RX4 46 "SerialPort$Receiver" "someHigh" "Z"] ++ wsX40)
def wsX4_clear : List Cond := .code yX4_clear cX4_clear 1 none :: ([.fieldLink RX4 15 "SerialPort$Receiver" "busy" "Z", .fieldLink RX4 19 "SerialPort$Receiver" "wasHigh" "Z", .methodLink RX4 9 yX4_begin, .instanceMethod yX4_begin, .selects RX4 yX4_begin yX4_begin, .initialized RX4, .code yX4_begin cX4_begin 2 none, .fieldLink RX4 37 "SerialPort$Receiver" "control" "I", .fieldLink RX4 40 "SerialPort$Receiver" "character" "I", .fieldLink RX4 26 "SerialPort$Receiver" "beat" "I", .fieldLink RX4 43 "SerialPort$Receiver" "parityHigh" "Z", .fieldLink RX4 46 "SerialPort$Receiver" "someHigh" "Z"] ++ wsX40)
def wsX4_isBusy : List Cond := .code yX4_isBusy cX4_isBusy 1 (some .boolean) :: ([.fieldLink RX4 15 "SerialPort$Receiver" "busy" "Z"] ++ wsX40)
def wsX4_listen : List Cond := .code yX4_listen cX4_listen 3 none :: ([.fieldLink RX4 19 "SerialPort$Receiver" "wasHigh" "Z", .methodLink RX4 9 yX4_begin, .instanceMethod yX4_begin, .selects RX4 yX4_begin yX4_begin, .initialized RX4, .code yX4_begin cX4_begin 2 none, .fieldLink RX4 37 "SerialPort$Receiver" "control" "I", .fieldLink RX4 40 "SerialPort$Receiver" "character" "I", .fieldLink RX4 26 "SerialPort$Receiver" "beat" "I", .fieldLink RX4 15 "SerialPort$Receiver" "busy" "Z", .fieldLink RX4 43 "SerialPort$Receiver" "parityHigh" "Z", .fieldLink RX4 46 "SerialPort$Receiver" "someHigh" "Z"] ++ wsX40)
def wsX4_becomeIdle : List Cond := .code yX4_becomeIdle cX4_becomeIdle 2 none :: ([.fieldLink RX4 15 "SerialPort$Receiver" "busy" "Z", .fieldLink RX4 19 "SerialPort$Receiver" "wasHigh" "Z"] ++ wsX40)
def wsX4_seeStart : List Cond := .code yX4_seeStart cX4_seeStart 2 (some .int) :: ([.methodLink RX4 49 yX4_becomeIdle, .instanceMethod yX4_becomeIdle, .selects RX4 yX4_becomeIdle yX4_becomeIdle, .initialized RX4, .code yX4_becomeIdle cX4_becomeIdle 2 none, .fieldLink RX4 15 "SerialPort$Receiver" "busy" "Z", .fieldLink RX4 19 "SerialPort$Receiver" "wasHigh" "Z"] ++ wsX40)
def wsX7_dataBits : List Cond := .code yX7_dataBits cX7_dataBits 1 (some .int) :: ([])
def wsX7_hasParity : List Cond := .code yX7_hasParity cX7_hasParity 1 (some .boolean) :: ([])
def wsJ6_bitCount_0f7a4 : List Cond := .code yJ6_bitCount_0f7a4 cJ6_bitCount_0f7a4 1 (some .int) :: ([.constant RJ6 265 (1431655765), .constant RJ6 266 (858993459), .constant RJ6 267 (252645135)])
def wsX7_parityIsHigh : List Cond := .code yX7_parityIsHigh cX7_parityIsHigh 5 (some .boolean) :: ([.methodLink RX7 11 yX7_dataBits, .static yX7_dataBits, .initialized RX7, .code yX7_dataBits cX7_dataBits 1 (some .int), .methodLink RX7 25 yJ6_bitCount_0f7a4, .static yJ6_bitCount_0f7a4, .initialized RJ6, .code yJ6_bitCount_0f7a4 cJ6_bitCount_0f7a4 1 (some .int), .constant RJ6 265 (1431655765), .constant RJ6 266 (858993459), .constant RJ6 267 (252645135)])
def wsX4_faults : List Cond := .code yX4_faults cX4_faults 3 (some .int) :: ([.fieldLink RX4 46 "SerialPort$Receiver" "someHigh" "Z", .fieldLink RX4 37 "SerialPort$Receiver" "control" "I", .fieldLink RX4 43 "SerialPort$Receiver" "parityHigh" "Z", .fieldLink RX4 40 "SerialPort$Receiver" "character" "I", .methodLink RX4 59 yX7_hasParity, .static yX7_hasParity, .initialized RX7, .code yX7_hasParity cX7_hasParity 1 (some .boolean), .methodLink RX4 66 yX7_parityIsHigh, .static yX7_parityIsHigh, .code yX7_parityIsHigh cX7_parityIsHigh 5 (some .boolean), .methodLink RX7 11 yX7_dataBits, .static yX7_dataBits, .code yX7_dataBits cX7_dataBits 1 (some .int), .methodLink RX7 25 yJ6_bitCount_0f7a4, .static yJ6_bitCount_0f7a4, .initialized RJ6, .code yJ6_bitCount_0f7a4 cJ6_bitCount_0f7a4 1 (some .int), .constant RJ6 265 (1431655765), .constant RJ6 266 (858993459), .constant RJ6 267 (252645135)] ++ wsX40)
def wsX4_see_r1 : List Cond := [Cond.fieldLink RX4 26 "SerialPort$Receiver" "beat" "I", Cond.fieldLink RX4 37 "SerialPort$Receiver" "control" "I", Cond.fieldLink RX4 46 "SerialPort$Receiver" "someHigh" "Z", Cond.fieldLink RX4 40 "SerialPort$Receiver" "character" "I", Cond.fieldLink RX4 43 "SerialPort$Receiver" "parityHigh" "Z", Cond.methodLink RX4 53 yX7_dataBits, Cond.static yX7_dataBits, Cond.initialized RX7, Cond.code yX7_dataBits cX7_dataBits 1 (some .int), Cond.methodLink RX4 59 yX7_hasParity, Cond.static yX7_hasParity, Cond.code yX7_hasParity cX7_hasParity 1 (some .boolean), Cond.methodLink RX4 49 yX4_becomeIdle, Cond.instanceMethod yX4_becomeIdle, Cond.selects RX4 yX4_becomeIdle yX4_becomeIdle, Cond.initialized RX4, Cond.code yX4_becomeIdle cX4_becomeIdle 2 none, Cond.fieldLink RX4 15 "SerialPort$Receiver" "busy" "Z", Cond.fieldLink RX4 19 "SerialPort$Receiver" "wasHigh" "Z", Cond.methodLink RX4 63 yX4_faults, Cond.instanceMethod yX4_faults, Cond.selects RX4 yX4_faults yX4_faults, Cond.code yX4_faults cX4_faults 3 (some .int), Cond.methodLink RX4 66 yX7_parityIsHigh]
def wsX4_see_r2 : List Cond := [Cond.static yX7_parityIsHigh, Cond.code yX7_parityIsHigh cX7_parityIsHigh 5 (some .boolean), Cond.methodLink RX7 11 yX7_dataBits, Cond.methodLink RX7 25 yJ6_bitCount_0f7a4, Cond.static yJ6_bitCount_0f7a4, Cond.initialized RJ6, Cond.code yJ6_bitCount_0f7a4 cJ6_bitCount_0f7a4 1 (some .int), Cond.constant RJ6 265 (1431655765), Cond.constant RJ6 266 (858993459), Cond.constant RJ6 267 (252645135)]
def wsX4_see : List Cond := .code yX4_see cX4_see 4 (some .int) :: ((wsX4_see_r1 ++ wsX4_see_r2) ++ wsX40)
def wsX4_step_r1 : List Cond := [Cond.fieldLink RX4 15 "SerialPort$Receiver" "busy" "Z", Cond.fieldLink RX4 26 "SerialPort$Receiver" "beat" "I", Cond.methodLink RX4 22 yX4_listen, Cond.instanceMethod yX4_listen, Cond.selects RX4 yX4_listen yX4_listen, Cond.initialized RX4, Cond.code yX4_listen cX4_listen 3 none, Cond.fieldLink RX4 19 "SerialPort$Receiver" "wasHigh" "Z", Cond.methodLink RX4 9 yX4_begin, Cond.instanceMethod yX4_begin, Cond.selects RX4 yX4_begin yX4_begin, Cond.code yX4_begin cX4_begin 2 none, Cond.fieldLink RX4 37 "SerialPort$Receiver" "control" "I", Cond.fieldLink RX4 40 "SerialPort$Receiver" "character" "I", Cond.fieldLink RX4 43 "SerialPort$Receiver" "parityHigh" "Z", Cond.fieldLink RX4 46 "SerialPort$Receiver" "someHigh" "Z", Cond.methodLink RX4 30 yX4_seeStart, Cond.instanceMethod yX4_seeStart, Cond.selects RX4 yX4_seeStart yX4_seeStart, Cond.code yX4_seeStart cX4_seeStart 2 (some .int), Cond.methodLink RX4 49 yX4_becomeIdle, Cond.instanceMethod yX4_becomeIdle, Cond.selects RX4 yX4_becomeIdle yX4_becomeIdle, Cond.code yX4_becomeIdle cX4_becomeIdle 2 none]
def wsX4_step_r2 : List Cond := [Cond.methodLink RX4 34 yX4_see, Cond.instanceMethod yX4_see, Cond.selects RX4 yX4_see yX4_see, Cond.code yX4_see cX4_see 4 (some .int), Cond.methodLink RX4 53 yX7_dataBits, Cond.static yX7_dataBits, Cond.initialized RX7, Cond.code yX7_dataBits cX7_dataBits 1 (some .int), Cond.methodLink RX4 59 yX7_hasParity, Cond.static yX7_hasParity, Cond.code yX7_hasParity cX7_hasParity 1 (some .boolean), Cond.methodLink RX4 63 yX4_faults, Cond.instanceMethod yX4_faults, Cond.selects RX4 yX4_faults yX4_faults, Cond.code yX4_faults cX4_faults 3 (some .int), Cond.methodLink RX4 66 yX7_parityIsHigh, Cond.static yX7_parityIsHigh, Cond.code yX7_parityIsHigh cX7_parityIsHigh 5 (some .boolean), Cond.methodLink RX7 11 yX7_dataBits, Cond.methodLink RX7 25 yJ6_bitCount_0f7a4, Cond.static yJ6_bitCount_0f7a4, Cond.initialized RJ6, Cond.code yJ6_bitCount_0f7a4 cJ6_bitCount_0f7a4 1 (some .int), Cond.constant RJ6 265 (1431655765)]
def wsX4_step_r3 : List Cond := [Cond.constant RJ6 266 (858993459), Cond.constant RJ6 267 (252645135)]
def wsX4_step : List Cond := .code yX4_step cX4_step 3 (some .int) :: ((wsX4_step_r1 ++ (wsX4_step_r2 ++ wsX4_step_r3)) ++ wsX40)
def wsX6_init : List Cond := .code yX6_init cX6_init 1 none :: ([.methodLink RX6 3 objectInit, .instanceMethod objectInit, .code objectInit ⟨#[0xb1]⟩ 1 none])
def wsX6_clear : List Cond := .code yX6_clear cX6_clear 1 none :: ([.fieldLink RX6 9 "SerialPort$Sender" "control" "I", .fieldLink RX6 15 "SerialPort$Sender" "character" "I", .fieldLink RX6 18 "SerialPort$Sender" "beat" "I", .fieldLink RX6 21 "SerialPort$Sender" "busy" "Z"] ++ wsX60)
def wsX6_isBusy : List Cond := .code yX6_isBusy cX6_isBusy 1 (some .boolean) :: ([.fieldLink RX6 21 "SerialPort$Sender" "busy" "Z"] ++ wsX60)
def wsX6_begin : List Cond := .code yX6_begin cX6_begin 3 none :: ([.fieldLink RX6 9 "SerialPort$Sender" "control" "I", .fieldLink RX6 15 "SerialPort$Sender" "character" "I", .fieldLink RX6 18 "SerialPort$Sender" "beat" "I", .fieldLink RX6 21 "SerialPort$Sender" "busy" "Z"] ++ wsX60)
def wsX7_pieceIsHigh : List Cond := .code yX7_pieceIsHigh cX7_pieceIsHigh 4 (some .boolean) :: ([.methodLink RX7 11 yX7_dataBits, .static yX7_dataBits, .initialized RX7, .code yX7_dataBits cX7_dataBits 1 (some .int), .methodLink RX7 15 yX7_hasParity, .static yX7_hasParity, .code yX7_hasParity cX7_hasParity 1 (some .boolean), .methodLink RX7 30 yX7_parityIsHigh, .static yX7_parityIsHigh, .code yX7_parityIsHigh cX7_parityIsHigh 5 (some .boolean), .methodLink RX7 25 yJ6_bitCount_0f7a4, .static yJ6_bitCount_0f7a4, .initialized RJ6, .code yJ6_bitCount_0f7a4 cJ6_bitCount_0f7a4 1 (some .int), .constant RJ6 265 (1431655765), .constant RJ6 266 (858993459), .constant RJ6 267 (252645135)])
def wsX7_pieces : List Cond := .code yX7_pieces cX7_pieces 1 (some .int) :: ([.methodLink RX7 11 yX7_dataBits, .static yX7_dataBits, .initialized RX7, .code yX7_dataBits cX7_dataBits 1 (some .int), .methodLink RX7 15 yX7_hasParity, .static yX7_hasParity, .code yX7_hasParity cX7_hasParity 1 (some .boolean)])
def wsX7_stopBeats : List Cond := .code yX7_stopBeats cX7_stopBeats 1 (some .int) :: ([.methodLink RX7 11 yX7_dataBits, .static yX7_dataBits, .initialized RX7, .code yX7_dataBits cX7_dataBits 1 (some .int)])
def wsX7_beats : List Cond := .code yX7_beats cX7_beats 1 (some .int) :: ([.methodLink RX7 19 yX7_pieces, .static yX7_pieces, .initialized RX7, .code yX7_pieces cX7_pieces 1 (some .int), .methodLink RX7 11 yX7_dataBits, .static yX7_dataBits, .code yX7_dataBits cX7_dataBits 1 (some .int), .methodLink RX7 15 yX7_hasParity, .static yX7_hasParity, .code yX7_hasParity cX7_hasParity 1 (some .boolean), .methodLink RX7 22 yX7_stopBeats, .static yX7_stopBeats, .code yX7_stopBeats cX7_stopBeats 1 (some .int)])
def wsX6_next_r1 : List Cond := [Cond.fieldLink RX6 21 "SerialPort$Sender" "busy" "Z", Cond.fieldLink RX6 9 "SerialPort$Sender" "control" "I", Cond.fieldLink RX6 15 "SerialPort$Sender" "character" "I", Cond.fieldLink RX6 18 "SerialPort$Sender" "beat" "I", Cond.methodLink RX6 25 yX7_pieceIsHigh, Cond.static yX7_pieceIsHigh, Cond.initialized RX7, Cond.code yX7_pieceIsHigh cX7_pieceIsHigh 4 (some .boolean), Cond.methodLink RX7 11 yX7_dataBits, Cond.static yX7_dataBits, Cond.code yX7_dataBits cX7_dataBits 1 (some .int), Cond.methodLink RX7 15 yX7_hasParity, Cond.static yX7_hasParity, Cond.code yX7_hasParity cX7_hasParity 1 (some .boolean), Cond.methodLink RX7 30 yX7_parityIsHigh, Cond.static yX7_parityIsHigh, Cond.code yX7_parityIsHigh cX7_parityIsHigh 5 (some .boolean), Cond.methodLink RX7 25 yJ6_bitCount_0f7a4, Cond.static yJ6_bitCount_0f7a4, Cond.initialized RJ6, Cond.code yJ6_bitCount_0f7a4 cJ6_bitCount_0f7a4 1 (some .int), Cond.constant RJ6 265 (1431655765), Cond.constant RJ6 266 (858993459), Cond.constant RJ6 267 (252645135)]
def wsX6_next_r2 : List Cond := [Cond.methodLink RX6 31 yX7_beats, Cond.static yX7_beats, Cond.code yX7_beats cX7_beats 1 (some .int), Cond.methodLink RX7 19 yX7_pieces, Cond.static yX7_pieces, Cond.code yX7_pieces cX7_pieces 1 (some .int), Cond.methodLink RX7 22 yX7_stopBeats, Cond.static yX7_stopBeats, Cond.code yX7_stopBeats cX7_stopBeats 1 (some .int)]
def wsX6_next : List Cond := .code yX6_next cX6_next 2 (some .boolean) :: ((wsX6_next_r1 ++ wsX6_next_r2) ++ wsX60)
def wsX7_pieceBeats : List Cond := .code yX7_pieceBeats cX7_pieceBeats 2 (some .int) :: ([.methodLink RX7 19 yX7_pieces, .static yX7_pieces, .initialized RX7, .code yX7_pieces cX7_pieces 1 (some .int), .methodLink RX7 11 yX7_dataBits, .static yX7_dataBits, .code yX7_dataBits cX7_dataBits 1 (some .int), .methodLink RX7 15 yX7_hasParity, .static yX7_hasParity, .code yX7_hasParity cX7_hasParity 1 (some .boolean), .methodLink RX7 22 yX7_stopBeats, .static yX7_stopBeats, .code yX7_stopBeats cX7_stopBeats 1 (some .int)])
def wsX8_powerOn_r1 : List Cond := [Cond.fieldLink RX8 12 "SerialPort" "divider" "LSerialPort$Divider;", Cond.fieldLink RX8 21 "SerialPort" "received" "LSerialPort$Ring;", Cond.fieldLink RX8 25 "SerialPort" "sending" "LSerialPort$Ring;", Cond.fieldLink RX8 31 "SerialPort" "sender" "LSerialPort$Sender;", Cond.fieldLink RX8 38 "SerialPort" "receiver" "LSerialPort$Receiver;", Cond.fieldLink RX8 45 "SerialPort" "modem" "LSerialPort$Modem;", Cond.fieldLink RX8 52 "SerialPort" "lineIn" "LSerialPort$LineIn;", Cond.fieldLink RX8 59 "SerialPort" "lineOut" "LSerialPort$LineOut;", Cond.fieldLink RX8 163 "SerialPort" "wanted" "I", Cond.fieldLink RX8 73 "SerialPort" "lineControl" "I", Cond.fieldLink RX8 166 "SerialPort" "kept" "I", Cond.fieldLink RX8 169 "SerialPort" "level" "I", Cond.fieldLink RX8 172 "SerialPort" "rowsOn" "Z", Cond.fieldLink RX8 176 "SerialPort" "overrun" "Z", Cond.fieldLink RX8 179 "SerialPort" "emptyUp" "Z", Cond.fieldLink RX8 182 "SerialPort" "lateUp" "Z", Cond.fieldLink RX8 127 "SerialPort" "beats" "I", Cond.fieldLink RX8 185 "SerialPort" "quietSince" "I", Cond.methodLink RX8 154 yX0_clear, Cond.instanceMethod yX0_clear, Cond.selects RX0 yX0_clear yX0_clear, Cond.initialized RX0, Cond.code yX0_clear cX0_clear 1 none, Cond.fieldLink RX0 9 "SerialPort$Divider" "divisor" "I"]
def wsX8_powerOn_r2 : List Cond := [Cond.fieldLink RX0 15 "SerialPort$Divider" "passed" "I", Cond.methodLink RX8 157 yX5_clear, Cond.instanceMethod yX5_clear, Cond.selects RX5 yX5_clear yX5_clear, Cond.initialized RX5, Cond.code yX5_clear cX5_clear 1 none, Cond.fieldLink RX5 19 "SerialPort$Ring" "head" "I", Cond.fieldLink RX5 23 "SerialPort$Ring" "size" "I", Cond.methodLink RX8 158 yX6_clear, Cond.instanceMethod yX6_clear, Cond.selects RX6 yX6_clear yX6_clear, Cond.initialized RX6, Cond.code yX6_clear cX6_clear 1 none, Cond.fieldLink RX6 9 "SerialPort$Sender" "control" "I", Cond.fieldLink RX6 15 "SerialPort$Sender" "character" "I", Cond.fieldLink RX6 18 "SerialPort$Sender" "beat" "I", Cond.fieldLink RX6 21 "SerialPort$Sender" "busy" "Z", Cond.methodLink RX8 159 yX4_clear, Cond.instanceMethod yX4_clear, Cond.selects RX4 yX4_clear yX4_clear, Cond.initialized RX4, Cond.code yX4_clear cX4_clear 1 none, Cond.fieldLink RX4 15 "SerialPort$Receiver" "busy" "Z", Cond.fieldLink RX4 19 "SerialPort$Receiver" "wasHigh" "Z"]
def wsX8_powerOn_r3 : List Cond := [Cond.methodLink RX4 9 yX4_begin, Cond.instanceMethod yX4_begin, Cond.selects RX4 yX4_begin yX4_begin, Cond.code yX4_begin cX4_begin 2 none, Cond.fieldLink RX4 37 "SerialPort$Receiver" "control" "I", Cond.fieldLink RX4 40 "SerialPort$Receiver" "character" "I", Cond.fieldLink RX4 26 "SerialPort$Receiver" "beat" "I", Cond.fieldLink RX4 43 "SerialPort$Receiver" "parityHigh" "Z", Cond.fieldLink RX4 46 "SerialPort$Receiver" "someHigh" "Z", Cond.methodLink RX8 160 yX3_clear, Cond.instanceMethod yX3_clear, Cond.selects RX3 yX3_clear yX3_clear, Cond.initialized RX3, Cond.code yX3_clear cX3_clear 1 none, Cond.fieldLink RX3 7 "SerialPort$Modem" "outputs" "I", Cond.fieldLink RX3 13 "SerialPort$Modem" "pins" "I", Cond.fieldLink RX3 16 "SerialPort$Modem" "state" "I", Cond.fieldLink RX3 19 "SerialPort$Modem" "changes" "I", Cond.methodLink RX8 161 yX1_clear, Cond.instanceMethod yX1_clear, Cond.selects RX1 yX1_clear yX1_clear, Cond.initialized RX1, Cond.code yX1_clear cX1_clear 1 none, Cond.fieldLink RX1 14 "SerialPort$LineIn" "wave" "LSerialPort$Ring;"]
def wsX8_powerOn_r4 : List Cond := [Cond.fieldLink RX1 23 "SerialPort$LineIn" "high" "Z", Cond.methodLink RX1 20 yX5_clear, Cond.methodLink RX8 162 yX2_clear, Cond.instanceMethod yX2_clear, Cond.selects RX2 yX2_clear yX2_clear, Cond.initialized RX2, Cond.code yX2_clear cX2_clear 1 none, Cond.fieldLink RX2 14 "SerialPort$LineOut" "runs" "LSerialPort$Ring;", Cond.fieldLink RX2 23 "SerialPort$LineOut" "inAll" "I", Cond.methodLink RX2 20 yX5_clear]
def wsX8_powerOn : List Cond := .code yX8_powerOn cX8_powerOn 1 none :: ((wsX8_powerOn_r1 ++ (wsX8_powerOn_r2 ++ (wsX8_powerOn_r3 ++ wsX8_powerOn_r4))) ++ wsX80 ++ wsX00 ++ wsX50 ++ wsX60 ++ wsX40 ++ wsX30 ++ wsX10 ++ wsX20)
def wsX8_init_r1 : List Cond := [Cond.methodLink RX8 3 objectInit, Cond.instanceMethod objectInit, Cond.code objectInit ⟨#[0xb1]⟩ 1 none, Cond.classLink RX8 9 RX0, Cond.instantiable RX0 2, Cond.initialized RX0, Cond.fieldLink RX8 12 "SerialPort" "divider" "LSerialPort$Divider;", Cond.classLink RX8 16 RX5, Cond.instantiable RX5 3, Cond.initialized RX5, Cond.fieldLink RX8 21 "SerialPort" "received" "LSerialPort$Ring;", Cond.fieldLink RX8 25 "SerialPort" "sending" "LSerialPort$Ring;", Cond.classLink RX8 28 RX6, Cond.instantiable RX6 4, Cond.initialized RX6, Cond.fieldLink RX8 31 "SerialPort" "sender" "LSerialPort$Sender;", Cond.classLink RX8 35 RX4, Cond.instantiable RX4 7, Cond.initialized RX4, Cond.fieldLink RX8 38 "SerialPort" "receiver" "LSerialPort$Receiver;", Cond.classLink RX8 42 RX3, Cond.instantiable RX3 4, Cond.initialized RX3, Cond.fieldLink RX8 45 "SerialPort" "modem" "LSerialPort$Modem;"]
def wsX8_init_r2 : List Cond := [Cond.classLink RX8 49 RX1, Cond.instantiable RX1 2, Cond.initialized RX1, Cond.fieldLink RX8 52 "SerialPort" "lineIn" "LSerialPort$LineIn;", Cond.classLink RX8 56 RX2, Cond.instantiable RX2 2, Cond.initialized RX2, Cond.fieldLink RX8 59 "SerialPort" "lineOut" "LSerialPort$LineOut;", Cond.instanceMethod yX0_init, Cond.code yX0_init cX0_init 1 none, Cond.methodLink RX0 3 objectInit, Cond.methodLink RX8 18 yX5_init, Cond.instanceMethod yX5_init, Cond.code yX5_init cX5_init 2 none, Cond.methodLink RX5 1 objectInit, Cond.methodLink RX5 7 Lib.Math.max.name, Cond.static Lib.Math.max.name, Cond.initialized "java/lang/Math", Cond.code Lib.Math.max.name Lib.Math.max.code 2 (some .int), Cond.arrayClass .int, Cond.fieldLink RX5 13 "SerialPort$Ring" "cells" "[I", Cond.fieldLink RX5 19 "SerialPort$Ring" "head" "I", Cond.fieldLink RX5 23 "SerialPort$Ring" "size" "I", Cond.instanceMethod yX6_init]
def wsX8_init_r3 : List Cond := [Cond.code yX6_init cX6_init 1 none, Cond.methodLink RX6 3 objectInit, Cond.instanceMethod yX4_init, Cond.code yX4_init cX4_init 1 none, Cond.methodLink RX4 3 objectInit, Cond.instanceMethod yX3_init, Cond.code yX3_init cX3_init 1 none, Cond.methodLink RX3 1 objectInit, Cond.instanceMethod yX1_init, Cond.code yX1_init cX1_init 1 none, Cond.methodLink RX1 3 objectInit, Cond.classLink RX1 9 RX5, Cond.fieldLink RX1 14 "SerialPort$LineIn" "wave" "LSerialPort$Ring;", Cond.methodLink RX1 11 yX5_init, Cond.instanceMethod yX2_init, Cond.code yX2_init cX2_init 1 none, Cond.methodLink RX2 3 objectInit, Cond.classLink RX2 9 RX5, Cond.fieldLink RX2 14 "SerialPort$LineOut" "runs" "LSerialPort$Ring;", Cond.methodLink RX2 11 yX5_init, Cond.methodLink RX8 63 yX8_powerOn, Cond.instanceMethod yX8_powerOn, Cond.selects RX8 yX8_powerOn yX8_powerOn, Cond.initialized RX8]
def wsX8_init_r4 : List Cond := [Cond.code yX8_powerOn cX8_powerOn 1 none, Cond.fieldLink RX8 163 "SerialPort" "wanted" "I", Cond.fieldLink RX8 73 "SerialPort" "lineControl" "I", Cond.fieldLink RX8 166 "SerialPort" "kept" "I", Cond.fieldLink RX8 169 "SerialPort" "level" "I", Cond.fieldLink RX8 172 "SerialPort" "rowsOn" "Z", Cond.fieldLink RX8 176 "SerialPort" "overrun" "Z", Cond.fieldLink RX8 179 "SerialPort" "emptyUp" "Z", Cond.fieldLink RX8 182 "SerialPort" "lateUp" "Z", Cond.fieldLink RX8 127 "SerialPort" "beats" "I", Cond.fieldLink RX8 185 "SerialPort" "quietSince" "I", Cond.methodLink RX8 154 yX0_clear, Cond.instanceMethod yX0_clear, Cond.selects RX0 yX0_clear yX0_clear, Cond.code yX0_clear cX0_clear 1 none, Cond.fieldLink RX0 9 "SerialPort$Divider" "divisor" "I", Cond.fieldLink RX0 15 "SerialPort$Divider" "passed" "I", Cond.methodLink RX8 157 yX5_clear, Cond.instanceMethod yX5_clear, Cond.selects RX5 yX5_clear yX5_clear, Cond.code yX5_clear cX5_clear 1 none, Cond.methodLink RX8 158 yX6_clear, Cond.instanceMethod yX6_clear, Cond.selects RX6 yX6_clear yX6_clear]
def wsX8_init_r5 : List Cond := [Cond.code yX6_clear cX6_clear 1 none, Cond.fieldLink RX6 9 "SerialPort$Sender" "control" "I", Cond.fieldLink RX6 15 "SerialPort$Sender" "character" "I", Cond.fieldLink RX6 18 "SerialPort$Sender" "beat" "I", Cond.fieldLink RX6 21 "SerialPort$Sender" "busy" "Z", Cond.methodLink RX8 159 yX4_clear, Cond.instanceMethod yX4_clear, Cond.selects RX4 yX4_clear yX4_clear, Cond.code yX4_clear cX4_clear 1 none, Cond.fieldLink RX4 15 "SerialPort$Receiver" "busy" "Z", Cond.fieldLink RX4 19 "SerialPort$Receiver" "wasHigh" "Z", Cond.methodLink RX4 9 yX4_begin, Cond.instanceMethod yX4_begin, Cond.selects RX4 yX4_begin yX4_begin, Cond.code yX4_begin cX4_begin 2 none, Cond.fieldLink RX4 37 "SerialPort$Receiver" "control" "I", Cond.fieldLink RX4 40 "SerialPort$Receiver" "character" "I", Cond.fieldLink RX4 26 "SerialPort$Receiver" "beat" "I", Cond.fieldLink RX4 43 "SerialPort$Receiver" "parityHigh" "Z", Cond.fieldLink RX4 46 "SerialPort$Receiver" "someHigh" "Z", Cond.methodLink RX8 160 yX3_clear, Cond.instanceMethod yX3_clear, Cond.selects RX3 yX3_clear yX3_clear, Cond.code yX3_clear cX3_clear 1 none]
def wsX8_init_r6 : List Cond := [Cond.fieldLink RX3 7 "SerialPort$Modem" "outputs" "I", Cond.fieldLink RX3 13 "SerialPort$Modem" "pins" "I", Cond.fieldLink RX3 16 "SerialPort$Modem" "state" "I", Cond.fieldLink RX3 19 "SerialPort$Modem" "changes" "I", Cond.methodLink RX8 161 yX1_clear, Cond.instanceMethod yX1_clear, Cond.selects RX1 yX1_clear yX1_clear, Cond.code yX1_clear cX1_clear 1 none, Cond.fieldLink RX1 23 "SerialPort$LineIn" "high" "Z", Cond.methodLink RX1 20 yX5_clear, Cond.methodLink RX8 162 yX2_clear, Cond.instanceMethod yX2_clear, Cond.selects RX2 yX2_clear yX2_clear, Cond.code yX2_clear cX2_clear 1 none, Cond.fieldLink RX2 23 "SerialPort$LineOut" "inAll" "I", Cond.methodLink RX2 20 yX5_clear]
def wsX8_init : List Cond := .code yX8_init cX8_init 1 none :: ((wsX8_init_r1 ++ (wsX8_init_r2 ++ (wsX8_init_r3 ++ (wsX8_init_r4 ++ (wsX8_init_r5 ++ wsX8_init_r6))))) ++ wsX00 ++ wsX80 ++ wsX50 ++ wsX60 ++ wsX40 ++ wsX30 ++ wsX10 ++ wsX20)
def wsX8_rowRoom : List Cond := .code yX8_rowRoom cX8_rowRoom 1 (some .int) :: ([.fieldLink RX8 172 "SerialPort" "rowsOn" "Z"] ++ wsX80)
def wsX8_putCharacter_r1 : List Cond := [Cond.fieldLink RX8 25 "SerialPort" "sending" "LSerialPort$Ring;", Cond.fieldLink RX8 172 "SerialPort" "rowsOn" "Z", Cond.fieldLink RX8 179 "SerialPort" "emptyUp" "Z", Cond.methodLink RX8 124 yX5_size, Cond.instanceMethod yX5_size, Cond.selects RX5 yX5_size yX5_size, Cond.initialized RX5, Cond.code yX5_size cX5_size 1 (some .int), Cond.fieldLink RX5 23 "SerialPort$Ring" "size" "I", Cond.methodLink RX8 215 yX8_rowRoom, Cond.instanceMethod yX8_rowRoom, Cond.selects RX8 yX8_rowRoom yX8_rowRoom, Cond.initialized RX8, Cond.code yX8_rowRoom cX8_rowRoom 1 (some .int), Cond.methodLink RX8 218 yX5_add, Cond.instanceMethod yX5_add, Cond.selects RX5 yX5_add yX5_add, Cond.code yX5_add cX5_add 2 none, Cond.fieldLink RX5 13 "SerialPort$Ring" "cells" "[I", Cond.methodLink RX5 33 yX5_setAt, Cond.instanceMethod yX5_setAt, Cond.selects RX5 yX5_setAt yX5_setAt, Cond.code yX5_setAt cX5_setAt 4 none, Cond.methodLink RX5 26 yX5_cellOf]
def wsX8_putCharacter_r2 : List Cond := [Cond.instanceMethod yX5_cellOf, Cond.selects RX5 yX5_cellOf yX5_cellOf, Cond.code yX5_cellOf cX5_cellOf 3 (some .int), Cond.fieldLink RX5 19 "SerialPort$Ring" "head" "I", Cond.methodLink RX8 221 yX5_setFirst, Cond.instanceMethod yX5_setFirst, Cond.selects RX5 yX5_setFirst yX5_setFirst, Cond.code yX5_setFirst cX5_setFirst 2 none]
def wsX8_putCharacter : List Cond := .code yX8_putCharacter cX8_putCharacter 2 none :: ((wsX8_putCharacter_r1 ++ wsX8_putCharacter_r2) ++ wsX80 ++ wsX50)
def wsX8_putWanted : List Cond := .code yX8_putWanted cX8_putWanted 3 none :: ([.fieldLink RX8 163 "SerialPort" "wanted" "I", .fieldLink RX8 25 "SerialPort" "sending" "LSerialPort$Ring;", .fieldLink RX8 179 "SerialPort" "emptyUp" "Z", .methodLink RX8 230 yX5_isEmpty, .instanceMethod yX5_isEmpty, .selects RX5 yX5_isEmpty yX5_isEmpty, .initialized RX5, .code yX5_isEmpty cX5_isEmpty 1 (some .boolean), .fieldLink RX5 23 "SerialPort$Ring" "size" "I"] ++ wsX80 ++ wsX50)
def wsX8_levelOf : List Cond := .code yX8_levelOf cX8_levelOf 1 (some .int) :: ([])
def wsX8_putRowControl : List Cond := .code yX8_putRowControl cX8_putRowControl 4 none :: ([.fieldLink RX8 172 "SerialPort" "rowsOn" "Z", .fieldLink RX8 21 "SerialPort" "received" "LSerialPort$Ring;", .fieldLink RX8 182 "SerialPort" "lateUp" "Z", .fieldLink RX8 25 "SerialPort" "sending" "LSerialPort$Ring;", .fieldLink RX8 169 "SerialPort" "level" "I", .methodLink RX8 157 yX5_clear, .instanceMethod yX5_clear, .selects RX5 yX5_clear yX5_clear, .initialized RX5, .code yX5_clear cX5_clear 1 none, .fieldLink RX5 19 "SerialPort$Ring" "head" "I", .fieldLink RX5 23 "SerialPort$Ring" "size" "I", .methodLink RX8 233 yX8_levelOf, .static yX8_levelOf, .initialized RX8, .code yX8_levelOf cX8_levelOf 1 (some .int)] ++ wsX80 ++ wsX50)
def wsX8_putRegister_r1 : List Cond := [Cond.fieldLink RX8 73 "SerialPort" "lineControl" "I", Cond.fieldLink RX8 45 "SerialPort" "modem" "LSerialPort$Modem;", Cond.fieldLink RX8 166 "SerialPort" "kept" "I", Cond.methodLink RX8 188 yX8_putCharacter, Cond.instanceMethod yX8_putCharacter, Cond.selects RX8 yX8_putCharacter yX8_putCharacter, Cond.initialized RX8, Cond.code yX8_putCharacter cX8_putCharacter 2 none, Cond.fieldLink RX8 25 "SerialPort" "sending" "LSerialPort$Ring;", Cond.fieldLink RX8 172 "SerialPort" "rowsOn" "Z", Cond.fieldLink RX8 179 "SerialPort" "emptyUp" "Z", Cond.methodLink RX8 124 yX5_size, Cond.instanceMethod yX5_size, Cond.selects RX5 yX5_size yX5_size, Cond.initialized RX5, Cond.code yX5_size cX5_size 1 (some .int), Cond.fieldLink RX5 23 "SerialPort$Ring" "size" "I", Cond.methodLink RX8 215 yX8_rowRoom, Cond.instanceMethod yX8_rowRoom, Cond.selects RX8 yX8_rowRoom yX8_rowRoom, Cond.code yX8_rowRoom cX8_rowRoom 1 (some .int), Cond.methodLink RX8 218 yX5_add, Cond.instanceMethod yX5_add, Cond.selects RX5 yX5_add yX5_add]
def wsX8_putRegister_r2 : List Cond := [Cond.code yX5_add cX5_add 2 none, Cond.fieldLink RX5 13 "SerialPort$Ring" "cells" "[I", Cond.methodLink RX5 33 yX5_setAt, Cond.instanceMethod yX5_setAt, Cond.selects RX5 yX5_setAt yX5_setAt, Cond.code yX5_setAt cX5_setAt 4 none, Cond.methodLink RX5 26 yX5_cellOf, Cond.instanceMethod yX5_cellOf, Cond.selects RX5 yX5_cellOf yX5_cellOf, Cond.code yX5_cellOf cX5_cellOf 3 (some .int), Cond.fieldLink RX5 19 "SerialPort$Ring" "head" "I", Cond.methodLink RX8 221 yX5_setFirst, Cond.instanceMethod yX5_setFirst, Cond.selects RX5 yX5_setFirst yX5_setFirst, Cond.code yX5_setFirst cX5_setFirst 2 none, Cond.methodLink RX8 191 yX8_putWanted, Cond.instanceMethod yX8_putWanted, Cond.selects RX8 yX8_putWanted yX8_putWanted, Cond.code yX8_putWanted cX8_putWanted 3 none, Cond.fieldLink RX8 163 "SerialPort" "wanted" "I", Cond.methodLink RX8 230 yX5_isEmpty, Cond.instanceMethod yX5_isEmpty, Cond.selects RX5 yX5_isEmpty yX5_isEmpty, Cond.code yX5_isEmpty cX5_isEmpty 1 (some .boolean)]
def wsX8_putRegister_r3 : List Cond := [Cond.methodLink RX8 194 yX8_putRowControl, Cond.instanceMethod yX8_putRowControl, Cond.selects RX8 yX8_putRowControl yX8_putRowControl, Cond.code yX8_putRowControl cX8_putRowControl 4 none, Cond.fieldLink RX8 21 "SerialPort" "received" "LSerialPort$Ring;", Cond.fieldLink RX8 182 "SerialPort" "lateUp" "Z", Cond.fieldLink RX8 169 "SerialPort" "level" "I", Cond.methodLink RX8 157 yX5_clear, Cond.instanceMethod yX5_clear, Cond.selects RX5 yX5_clear yX5_clear, Cond.code yX5_clear cX5_clear 1 none, Cond.methodLink RX8 233 yX8_levelOf, Cond.static yX8_levelOf, Cond.code yX8_levelOf cX8_levelOf 1 (some .int), Cond.methodLink RX8 197 yX3_putOutputs, Cond.instanceMethod yX3_putOutputs, Cond.selects RX3 yX3_putOutputs yX3_putOutputs, Cond.initialized RX3, Cond.code yX3_putOutputs cX3_putOutputs 2 none, Cond.fieldLink RX3 7 "SerialPort$Modem" "outputs" "I", Cond.methodLink RX3 22 yX3_follow, Cond.instanceMethod yX3_follow, Cond.selects RX3 yX3_follow yX3_follow, Cond.code yX3_follow cX3_follow 3 none]
def wsX8_putRegister_r4 : List Cond := [Cond.fieldLink RX3 13 "SerialPort$Modem" "pins" "I", Cond.fieldLink RX3 16 "SerialPort$Modem" "state" "I", Cond.fieldLink RX3 19 "SerialPort$Modem" "changes" "I", Cond.methodLink RX3 25 yX3_loops, Cond.instanceMethod yX3_loops, Cond.selects RX3 yX3_loops yX3_loops, Cond.code yX3_loops cX3_loops 1 (some .boolean), Cond.methodLink RX3 29 yX3_looped, Cond.instanceMethod yX3_looped, Cond.selects RX3 yX3_looped yX3_looped, Cond.code yX3_looped cX3_looped 1 (some .int)]
def wsX8_putRegister : List Cond := .code yX8_putRegister cX8_putRegister 3 none :: ((wsX8_putRegister_r1 ++ (wsX8_putRegister_r2 ++ (wsX8_putRegister_r3 ++ wsX8_putRegister_r4))) ++ wsX80 ++ wsX50 ++ wsX30)
def wsX8_write_r1 : List Cond := [Cond.classLink RX8 66 "java/util/NoSuchElementException", Cond.initialized "java/util/NoSuchElementException", Cond.fieldLink RX8 73 "SerialPort" "lineControl" "I", Cond.fieldLink RX8 12 "SerialPort" "divider" "LSerialPort$Divider;", Cond.methodLink RX8 77 yX0_putByte, Cond.instanceMethod yX0_putByte, Cond.selects RX0 yX0_putByte yX0_putByte, Cond.initialized RX0, Cond.code yX0_putByte cX0_putByte 3 none, Cond.fieldLink RX0 9 "SerialPort$Divider" "divisor" "I", Cond.constant RX0 18 (65280), Cond.fieldLink RX0 15 "SerialPort$Divider" "passed" "I", Cond.methodLink RX8 81 yX8_putRegister, Cond.instanceMethod yX8_putRegister, Cond.selects RX8 yX8_putRegister yX8_putRegister, Cond.initialized RX8, Cond.code yX8_putRegister cX8_putRegister 3 none, Cond.fieldLink RX8 45 "SerialPort" "modem" "LSerialPort$Modem;", Cond.fieldLink RX8 166 "SerialPort" "kept" "I", Cond.methodLink RX8 188 yX8_putCharacter, Cond.instanceMethod yX8_putCharacter, Cond.selects RX8 yX8_putCharacter yX8_putCharacter, Cond.code yX8_putCharacter cX8_putCharacter 2 none, Cond.fieldLink RX8 25 "SerialPort" "sending" "LSerialPort$Ring;"]
def wsX8_write_r2 : List Cond := [Cond.fieldLink RX8 172 "SerialPort" "rowsOn" "Z", Cond.fieldLink RX8 179 "SerialPort" "emptyUp" "Z", Cond.methodLink RX8 124 yX5_size, Cond.instanceMethod yX5_size, Cond.selects RX5 yX5_size yX5_size, Cond.initialized RX5, Cond.code yX5_size cX5_size 1 (some .int), Cond.fieldLink RX5 23 "SerialPort$Ring" "size" "I", Cond.methodLink RX8 215 yX8_rowRoom, Cond.instanceMethod yX8_rowRoom, Cond.selects RX8 yX8_rowRoom yX8_rowRoom, Cond.code yX8_rowRoom cX8_rowRoom 1 (some .int), Cond.methodLink RX8 218 yX5_add, Cond.instanceMethod yX5_add, Cond.selects RX5 yX5_add yX5_add, Cond.code yX5_add cX5_add 2 none, Cond.fieldLink RX5 13 "SerialPort$Ring" "cells" "[I", Cond.methodLink RX5 33 yX5_setAt, Cond.instanceMethod yX5_setAt, Cond.selects RX5 yX5_setAt yX5_setAt, Cond.code yX5_setAt cX5_setAt 4 none, Cond.methodLink RX5 26 yX5_cellOf, Cond.instanceMethod yX5_cellOf, Cond.selects RX5 yX5_cellOf yX5_cellOf]
def wsX8_write_r3 : List Cond := [Cond.code yX5_cellOf cX5_cellOf 3 (some .int), Cond.fieldLink RX5 19 "SerialPort$Ring" "head" "I", Cond.methodLink RX8 221 yX5_setFirst, Cond.instanceMethod yX5_setFirst, Cond.selects RX5 yX5_setFirst yX5_setFirst, Cond.code yX5_setFirst cX5_setFirst 2 none, Cond.methodLink RX8 191 yX8_putWanted, Cond.instanceMethod yX8_putWanted, Cond.selects RX8 yX8_putWanted yX8_putWanted, Cond.code yX8_putWanted cX8_putWanted 3 none, Cond.fieldLink RX8 163 "SerialPort" "wanted" "I", Cond.methodLink RX8 230 yX5_isEmpty, Cond.instanceMethod yX5_isEmpty, Cond.selects RX5 yX5_isEmpty yX5_isEmpty, Cond.code yX5_isEmpty cX5_isEmpty 1 (some .boolean), Cond.methodLink RX8 194 yX8_putRowControl, Cond.instanceMethod yX8_putRowControl, Cond.selects RX8 yX8_putRowControl yX8_putRowControl, Cond.code yX8_putRowControl cX8_putRowControl 4 none, Cond.fieldLink RX8 21 "SerialPort" "received" "LSerialPort$Ring;", Cond.fieldLink RX8 182 "SerialPort" "lateUp" "Z", Cond.fieldLink RX8 169 "SerialPort" "level" "I", Cond.methodLink RX8 157 yX5_clear, Cond.instanceMethod yX5_clear]
def wsX8_write_r4 : List Cond := [Cond.selects RX5 yX5_clear yX5_clear, Cond.code yX5_clear cX5_clear 1 none, Cond.methodLink RX8 233 yX8_levelOf, Cond.static yX8_levelOf, Cond.code yX8_levelOf cX8_levelOf 1 (some .int), Cond.methodLink RX8 197 yX3_putOutputs, Cond.instanceMethod yX3_putOutputs, Cond.selects RX3 yX3_putOutputs yX3_putOutputs, Cond.initialized RX3, Cond.code yX3_putOutputs cX3_putOutputs 2 none, Cond.fieldLink RX3 7 "SerialPort$Modem" "outputs" "I", Cond.methodLink RX3 22 yX3_follow, Cond.instanceMethod yX3_follow, Cond.selects RX3 yX3_follow yX3_follow, Cond.code yX3_follow cX3_follow 3 none, Cond.fieldLink RX3 13 "SerialPort$Modem" "pins" "I", Cond.fieldLink RX3 16 "SerialPort$Modem" "state" "I", Cond.fieldLink RX3 19 "SerialPort$Modem" "changes" "I", Cond.methodLink RX3 25 yX3_loops, Cond.instanceMethod yX3_loops, Cond.selects RX3 yX3_loops yX3_loops, Cond.code yX3_loops cX3_loops 1 (some .boolean), Cond.methodLink RX3 29 yX3_looped, Cond.instanceMethod yX3_looped]
def wsX8_write_r5 : List Cond := [Cond.selects RX3 yX3_looped yX3_looped, Cond.code yX3_looped cX3_looped 1 (some .int)]
def wsX8_takeCharacter : List Cond := .code yX8_takeCharacter cX8_takeCharacter 2 (some .int) :: ([.fieldLink RX8 21 "SerialPort" "received" "LSerialPort$Ring;", .fieldLink RX8 182 "SerialPort" "lateUp" "Z", .fieldLink RX8 127 "SerialPort" "beats" "I", .fieldLink RX8 185 "SerialPort" "quietSince" "I", .methodLink RX8 224 yX5_first, .instanceMethod yX5_first, .selects RX5 yX5_first yX5_first, .initialized RX5, .code yX5_first cX5_first 1 (some .int), .methodLink RX5 30 yX5_at, .instanceMethod yX5_at, .selects RX5 yX5_at yX5_at, .code yX5_at cX5_at 3 (some .int), .fieldLink RX5 23 "SerialPort$Ring" "size" "I", .fieldLink RX5 13 "SerialPort$Ring" "cells" "[I", .methodLink RX5 26 yX5_cellOf, .instanceMethod yX5_cellOf, .selects RX5 yX5_cellOf yX5_cellOf, .code yX5_cellOf cX5_cellOf 3 (some .int), .fieldLink RX5 19 "SerialPort$Ring" "head" "I", .methodLink RX8 227 yX5_dropFirst, .instanceMethod yX5_dropFirst, .selects RX5 yX5_dropFirst yX5_dropFirst, .code yX5_dropFirst cX5_dropFirst 1 none] ++ wsX80 ++ wsX50)
def wsX8_wants : List Cond := .code yX8_wants cX8_wants 2 (some .boolean) :: ([.fieldLink RX8 163 "SerialPort" "wanted" "I"] ++ wsX80)
def wsX8_firstFaults : List Cond := .code yX8_firstFaults cX8_firstFaults 1 (some .int) :: ([.fieldLink RX8 21 "SerialPort" "received" "LSerialPort$Ring;", .methodLink RX8 224 yX5_first, .instanceMethod yX5_first, .selects RX5 yX5_first yX5_first, .initialized RX5, .code yX5_first cX5_first 1 (some .int), .methodLink RX5 30 yX5_at, .instanceMethod yX5_at, .selects RX5 yX5_at yX5_at, .code yX5_at cX5_at 3 (some .int), .fieldLink RX5 23 "SerialPort$Ring" "size" "I", .fieldLink RX5 13 "SerialPort$Ring" "cells" "[I", .methodLink RX5 26 yX5_cellOf, .instanceMethod yX5_cellOf, .selects RX5 yX5_cellOf yX5_cellOf, .code yX5_cellOf cX5_cellOf 3 (some .int), .fieldLink RX5 19 "SerialPort$Ring" "head" "I"] ++ wsX80 ++ wsX50)
def wsX8_reason_r1 : List Cond := [Cond.fieldLink RX8 176 "SerialPort" "overrun" "Z", Cond.fieldLink RX8 21 "SerialPort" "received" "LSerialPort$Ring;", Cond.fieldLink RX8 172 "SerialPort" "rowsOn" "Z", Cond.fieldLink RX8 169 "SerialPort" "level" "I", Cond.fieldLink RX8 182 "SerialPort" "lateUp" "Z", Cond.fieldLink RX8 179 "SerialPort" "emptyUp" "Z", Cond.fieldLink RX8 45 "SerialPort" "modem" "LSerialPort$Modem;", Cond.methodLink RX8 245 yX8_wants, Cond.instanceMethod yX8_wants, Cond.selects RX8 yX8_wants yX8_wants, Cond.initialized RX8, Cond.code yX8_wants cX8_wants 2 (some .boolean), Cond.fieldLink RX8 163 "SerialPort" "wanted" "I", Cond.methodLink RX8 239 yX8_firstFaults, Cond.instanceMethod yX8_firstFaults, Cond.selects RX8 yX8_firstFaults yX8_firstFaults, Cond.code yX8_firstFaults cX8_firstFaults 1 (some .int), Cond.methodLink RX8 224 yX5_first, Cond.instanceMethod yX5_first, Cond.selects RX5 yX5_first yX5_first, Cond.initialized RX5, Cond.code yX5_first cX5_first 1 (some .int), Cond.methodLink RX5 30 yX5_at, Cond.instanceMethod yX5_at]
def wsX8_reason_r2 : List Cond := [Cond.selects RX5 yX5_at yX5_at, Cond.code yX5_at cX5_at 3 (some .int), Cond.fieldLink RX5 23 "SerialPort$Ring" "size" "I", Cond.fieldLink RX5 13 "SerialPort$Ring" "cells" "[I", Cond.methodLink RX5 26 yX5_cellOf, Cond.instanceMethod yX5_cellOf, Cond.selects RX5 yX5_cellOf yX5_cellOf, Cond.code yX5_cellOf cX5_cellOf 3 (some .int), Cond.fieldLink RX5 19 "SerialPort$Ring" "head" "I", Cond.methodLink RX8 124 yX5_size, Cond.instanceMethod yX5_size, Cond.selects RX5 yX5_size yX5_size, Cond.code yX5_size cX5_size 1 (some .int), Cond.methodLink RX8 248 yX3_hasChanged, Cond.instanceMethod yX3_hasChanged, Cond.selects RX3 yX3_hasChanged yX3_hasChanged, Cond.initialized RX3, Cond.code yX3_hasChanged cX3_hasChanged 1 (some .boolean), Cond.fieldLink RX3 19 "SerialPort$Modem" "changes" "I"]
def wsX8_reason : List Cond := .code yX8_reason cX8_reason 1 (some .int) :: ((wsX8_reason_r1 ++ wsX8_reason_r2) ++ wsX80 ++ wsX50 ++ wsX30)
def wsX8_tellReason_r1 : List Cond := [Cond.fieldLink RX8 179 "SerialPort" "emptyUp" "Z", Cond.fieldLink RX8 172 "SerialPort" "rowsOn" "Z", Cond.methodLink RX8 130 yX8_reason, Cond.instanceMethod yX8_reason, Cond.selects RX8 yX8_reason yX8_reason, Cond.initialized RX8, Cond.code yX8_reason cX8_reason 1 (some .int), Cond.fieldLink RX8 176 "SerialPort" "overrun" "Z", Cond.fieldLink RX8 21 "SerialPort" "received" "LSerialPort$Ring;", Cond.fieldLink RX8 169 "SerialPort" "level" "I", Cond.fieldLink RX8 182 "SerialPort" "lateUp" "Z", Cond.fieldLink RX8 45 "SerialPort" "modem" "LSerialPort$Modem;", Cond.methodLink RX8 245 yX8_wants, Cond.instanceMethod yX8_wants, Cond.selects RX8 yX8_wants yX8_wants, Cond.code yX8_wants cX8_wants 2 (some .boolean), Cond.fieldLink RX8 163 "SerialPort" "wanted" "I", Cond.methodLink RX8 239 yX8_firstFaults, Cond.instanceMethod yX8_firstFaults, Cond.selects RX8 yX8_firstFaults yX8_firstFaults, Cond.code yX8_firstFaults cX8_firstFaults 1 (some .int), Cond.methodLink RX8 224 yX5_first, Cond.instanceMethod yX5_first, Cond.selects RX5 yX5_first yX5_first]
def wsX8_tellReason_r2 : List Cond := [Cond.initialized RX5, Cond.code yX5_first cX5_first 1 (some .int), Cond.methodLink RX5 30 yX5_at, Cond.instanceMethod yX5_at, Cond.selects RX5 yX5_at yX5_at, Cond.code yX5_at cX5_at 3 (some .int), Cond.fieldLink RX5 23 "SerialPort$Ring" "size" "I", Cond.fieldLink RX5 13 "SerialPort$Ring" "cells" "[I", Cond.methodLink RX5 26 yX5_cellOf, Cond.instanceMethod yX5_cellOf, Cond.selects RX5 yX5_cellOf yX5_cellOf, Cond.code yX5_cellOf cX5_cellOf 3 (some .int), Cond.fieldLink RX5 19 "SerialPort$Ring" "head" "I", Cond.methodLink RX8 124 yX5_size, Cond.instanceMethod yX5_size, Cond.selects RX5 yX5_size yX5_size, Cond.code yX5_size cX5_size 1 (some .int), Cond.methodLink RX8 248 yX3_hasChanged, Cond.instanceMethod yX3_hasChanged, Cond.selects RX3 yX3_hasChanged yX3_hasChanged, Cond.initialized RX3, Cond.code yX3_hasChanged cX3_hasChanged 1 (some .boolean), Cond.fieldLink RX3 19 "SerialPort$Modem" "changes" "I"]
def wsX8_tellReason : List Cond := .code yX8_tellReason cX8_tellReason 2 (some .int) :: ((wsX8_tellReason_r1 ++ wsX8_tellReason_r2) ++ wsX80 ++ wsX50 ++ wsX30)
def wsX8_someFault : List Cond := .code yX8_someFault cX8_someFault 2 (some .boolean) :: ([.fieldLink RX8 21 "SerialPort" "received" "LSerialPort$Ring;", .methodLink RX8 124 yX5_size, .instanceMethod yX5_size, .selects RX5 yX5_size yX5_size, .initialized RX5, .code yX5_size cX5_size 1 (some .int), .fieldLink RX5 23 "SerialPort$Ring" "size" "I", .methodLink RX8 236 yX5_at, .instanceMethod yX5_at, .selects RX5 yX5_at yX5_at, .code yX5_at cX5_at 3 (some .int), .fieldLink RX5 13 "SerialPort$Ring" "cells" "[I", .methodLink RX5 26 yX5_cellOf, .instanceMethod yX5_cellOf, .selects RX5 yX5_cellOf yX5_cellOf, .code yX5_cellOf cX5_cellOf 3 (some .int), .fieldLink RX5 19 "SerialPort$Ring" "head" "I"] ++ wsX80 ++ wsX50)
def wsX8_tellLineState_r1 : List Cond := [Cond.fieldLink RX8 21 "SerialPort" "received" "LSerialPort$Ring;", Cond.fieldLink RX8 176 "SerialPort" "overrun" "Z", Cond.fieldLink RX8 25 "SerialPort" "sending" "LSerialPort$Ring;", Cond.fieldLink RX8 31 "SerialPort" "sender" "LSerialPort$Sender;", Cond.fieldLink RX8 172 "SerialPort" "rowsOn" "Z", Cond.methodLink RX8 239 yX8_firstFaults, Cond.instanceMethod yX8_firstFaults, Cond.selects RX8 yX8_firstFaults yX8_firstFaults, Cond.initialized RX8, Cond.code yX8_firstFaults cX8_firstFaults 1 (some .int), Cond.methodLink RX8 224 yX5_first, Cond.instanceMethod yX5_first, Cond.selects RX5 yX5_first yX5_first, Cond.initialized RX5, Cond.code yX5_first cX5_first 1 (some .int), Cond.methodLink RX5 30 yX5_at, Cond.instanceMethod yX5_at, Cond.selects RX5 yX5_at yX5_at, Cond.code yX5_at cX5_at 3 (some .int), Cond.fieldLink RX5 23 "SerialPort$Ring" "size" "I", Cond.fieldLink RX5 13 "SerialPort$Ring" "cells" "[I", Cond.methodLink RX5 26 yX5_cellOf, Cond.instanceMethod yX5_cellOf, Cond.selects RX5 yX5_cellOf yX5_cellOf]
def wsX8_tellLineState_r2 : List Cond := [Cond.code yX5_cellOf cX5_cellOf 3 (some .int), Cond.fieldLink RX5 19 "SerialPort$Ring" "head" "I", Cond.methodLink RX8 230 yX5_isEmpty, Cond.instanceMethod yX5_isEmpty, Cond.selects RX5 yX5_isEmpty yX5_isEmpty, Cond.code yX5_isEmpty cX5_isEmpty 1 (some .boolean), Cond.methodLink RX8 140 yX6_isBusy, Cond.instanceMethod yX6_isBusy, Cond.selects RX6 yX6_isBusy yX6_isBusy, Cond.initialized RX6, Cond.code yX6_isBusy cX6_isBusy 1 (some .boolean), Cond.fieldLink RX6 21 "SerialPort$Sender" "busy" "Z", Cond.methodLink RX8 242 yX8_someFault, Cond.instanceMethod yX8_someFault, Cond.selects RX8 yX8_someFault yX8_someFault, Cond.code yX8_someFault cX8_someFault 2 (some .boolean), Cond.methodLink RX8 124 yX5_size, Cond.instanceMethod yX5_size, Cond.selects RX5 yX5_size yX5_size, Cond.code yX5_size cX5_size 1 (some .int), Cond.methodLink RX8 236 yX5_at, Cond.methodLink RX8 221 yX5_setFirst, Cond.instanceMethod yX5_setFirst, Cond.selects RX5 yX5_setFirst yX5_setFirst]
def wsX8_tellLineState_r3 : List Cond := [Cond.code yX5_setFirst cX5_setFirst 2 none, Cond.methodLink RX5 33 yX5_setAt, Cond.instanceMethod yX5_setAt, Cond.selects RX5 yX5_setAt yX5_setAt, Cond.code yX5_setAt cX5_setAt 4 none]
def wsX8_tellLineState : List Cond := .code yX8_tellLineState cX8_tellLineState 2 (some .int) :: ((wsX8_tellLineState_r1 ++ (wsX8_tellLineState_r2 ++ wsX8_tellLineState_r3)) ++ wsX80 ++ wsX50 ++ wsX60)
def wsX8_tellRegister_r1 : List Cond := [Cond.fieldLink RX8 163 "SerialPort" "wanted" "I", Cond.fieldLink RX8 73 "SerialPort" "lineControl" "I", Cond.fieldLink RX8 45 "SerialPort" "modem" "LSerialPort$Modem;", Cond.fieldLink RX8 166 "SerialPort" "kept" "I", Cond.methodLink RX8 200 yX8_takeCharacter, Cond.instanceMethod yX8_takeCharacter, Cond.selects RX8 yX8_takeCharacter yX8_takeCharacter, Cond.initialized RX8, Cond.code yX8_takeCharacter cX8_takeCharacter 2 (some .int), Cond.fieldLink RX8 21 "SerialPort" "received" "LSerialPort$Ring;", Cond.fieldLink RX8 182 "SerialPort" "lateUp" "Z", Cond.fieldLink RX8 127 "SerialPort" "beats" "I", Cond.fieldLink RX8 185 "SerialPort" "quietSince" "I", Cond.methodLink RX8 224 yX5_first, Cond.instanceMethod yX5_first, Cond.selects RX5 yX5_first yX5_first, Cond.initialized RX5, Cond.code yX5_first cX5_first 1 (some .int), Cond.methodLink RX5 30 yX5_at, Cond.instanceMethod yX5_at, Cond.selects RX5 yX5_at yX5_at, Cond.code yX5_at cX5_at 3 (some .int), Cond.fieldLink RX5 23 "SerialPort$Ring" "size" "I", Cond.fieldLink RX5 13 "SerialPort$Ring" "cells" "[I"]
def wsX8_tellRegister_r2 : List Cond := [Cond.methodLink RX5 26 yX5_cellOf, Cond.instanceMethod yX5_cellOf, Cond.selects RX5 yX5_cellOf yX5_cellOf, Cond.code yX5_cellOf cX5_cellOf 3 (some .int), Cond.fieldLink RX5 19 "SerialPort$Ring" "head" "I", Cond.methodLink RX8 227 yX5_dropFirst, Cond.instanceMethod yX5_dropFirst, Cond.selects RX5 yX5_dropFirst yX5_dropFirst, Cond.code yX5_dropFirst cX5_dropFirst 1 none, Cond.methodLink RX8 203 yX8_tellReason, Cond.instanceMethod yX8_tellReason, Cond.selects RX8 yX8_tellReason yX8_tellReason, Cond.code yX8_tellReason cX8_tellReason 2 (some .int), Cond.fieldLink RX8 179 "SerialPort" "emptyUp" "Z", Cond.fieldLink RX8 172 "SerialPort" "rowsOn" "Z", Cond.methodLink RX8 130 yX8_reason, Cond.instanceMethod yX8_reason, Cond.selects RX8 yX8_reason yX8_reason, Cond.code yX8_reason cX8_reason 1 (some .int), Cond.fieldLink RX8 176 "SerialPort" "overrun" "Z", Cond.fieldLink RX8 169 "SerialPort" "level" "I", Cond.methodLink RX8 245 yX8_wants, Cond.instanceMethod yX8_wants, Cond.selects RX8 yX8_wants yX8_wants]
def wsX8_tellRegister_r3 : List Cond := [Cond.code yX8_wants cX8_wants 2 (some .boolean), Cond.methodLink RX8 239 yX8_firstFaults, Cond.instanceMethod yX8_firstFaults, Cond.selects RX8 yX8_firstFaults yX8_firstFaults, Cond.code yX8_firstFaults cX8_firstFaults 1 (some .int), Cond.methodLink RX8 124 yX5_size, Cond.instanceMethod yX5_size, Cond.selects RX5 yX5_size yX5_size, Cond.code yX5_size cX5_size 1 (some .int), Cond.methodLink RX8 248 yX3_hasChanged, Cond.instanceMethod yX3_hasChanged, Cond.selects RX3 yX3_hasChanged yX3_hasChanged, Cond.initialized RX3, Cond.code yX3_hasChanged cX3_hasChanged 1 (some .boolean), Cond.fieldLink RX3 19 "SerialPort$Modem" "changes" "I", Cond.methodLink RX8 206 yX3_outputs, Cond.instanceMethod yX3_outputs, Cond.selects RX3 yX3_outputs yX3_outputs, Cond.code yX3_outputs cX3_outputs 1 (some .int), Cond.fieldLink RX3 7 "SerialPort$Modem" "outputs" "I", Cond.methodLink RX8 209 yX8_tellLineState, Cond.instanceMethod yX8_tellLineState, Cond.selects RX8 yX8_tellLineState yX8_tellLineState, Cond.code yX8_tellLineState cX8_tellLineState 2 (some .int)]
def wsX8_tellRegister_r4 : List Cond := [Cond.fieldLink RX8 25 "SerialPort" "sending" "LSerialPort$Ring;", Cond.fieldLink RX8 31 "SerialPort" "sender" "LSerialPort$Sender;", Cond.methodLink RX8 230 yX5_isEmpty, Cond.instanceMethod yX5_isEmpty, Cond.selects RX5 yX5_isEmpty yX5_isEmpty, Cond.code yX5_isEmpty cX5_isEmpty 1 (some .boolean), Cond.methodLink RX8 140 yX6_isBusy, Cond.instanceMethod yX6_isBusy, Cond.selects RX6 yX6_isBusy yX6_isBusy, Cond.initialized RX6, Cond.code yX6_isBusy cX6_isBusy 1 (some .boolean), Cond.fieldLink RX6 21 "SerialPort$Sender" "busy" "Z", Cond.methodLink RX8 242 yX8_someFault, Cond.instanceMethod yX8_someFault, Cond.selects RX8 yX8_someFault yX8_someFault, Cond.code yX8_someFault cX8_someFault 2 (some .boolean), Cond.methodLink RX8 236 yX5_at, Cond.methodLink RX8 221 yX5_setFirst, Cond.instanceMethod yX5_setFirst, Cond.selects RX5 yX5_setFirst yX5_setFirst, Cond.code yX5_setFirst cX5_setFirst 2 none, Cond.methodLink RX5 33 yX5_setAt, Cond.instanceMethod yX5_setAt, Cond.selects RX5 yX5_setAt yX5_setAt]
def wsX8_tellRegister_r5 : List Cond := [Cond.code yX5_setAt cX5_setAt 4 none, Cond.methodLink RX8 212 yX3_tellState, Cond.instanceMethod yX3_tellState, Cond.selects RX3 yX3_tellState yX3_tellState, Cond.code yX3_tellState cX3_tellState 2 (some .int), Cond.fieldLink RX3 16 "SerialPort$Modem" "state" "I"]
def wsX8_tellRegister : List Cond := .code yX8_tellRegister cX8_tellRegister 2 (some .int) :: ((wsX8_tellRegister_r1 ++ (wsX8_tellRegister_r2 ++ (wsX8_tellRegister_r3 ++ (wsX8_tellRegister_r4 ++ wsX8_tellRegister_r5)))) ++ wsX80 ++ wsX50 ++ wsX30 ++ wsX60)
def wsX8_read_r1 : List Cond := [Cond.classLink RX8 66 "java/util/NoSuchElementException", Cond.initialized "java/util/NoSuchElementException", Cond.fieldLink RX8 73 "SerialPort" "lineControl" "I", Cond.fieldLink RX8 12 "SerialPort" "divider" "LSerialPort$Divider;", Cond.methodLink RX8 84 yX0_tellByte, Cond.instanceMethod yX0_tellByte, Cond.selects RX0 yX0_tellByte yX0_tellByte, Cond.initialized RX0, Cond.code yX0_tellByte cX0_tellByte 2 (some .int), Cond.fieldLink RX0 9 "SerialPort$Divider" "divisor" "I", Cond.methodLink RX8 88 yX8_tellRegister, Cond.instanceMethod yX8_tellRegister, Cond.selects RX8 yX8_tellRegister yX8_tellRegister, Cond.initialized RX8, Cond.code yX8_tellRegister cX8_tellRegister 2 (some .int), Cond.fieldLink RX8 163 "SerialPort" "wanted" "I", Cond.fieldLink RX8 45 "SerialPort" "modem" "LSerialPort$Modem;", Cond.fieldLink RX8 166 "SerialPort" "kept" "I", Cond.methodLink RX8 200 yX8_takeCharacter, Cond.instanceMethod yX8_takeCharacter, Cond.selects RX8 yX8_takeCharacter yX8_takeCharacter, Cond.code yX8_takeCharacter cX8_takeCharacter 2 (some .int), Cond.fieldLink RX8 21 "SerialPort" "received" "LSerialPort$Ring;", Cond.fieldLink RX8 182 "SerialPort" "lateUp" "Z"]
def wsX8_read_r2 : List Cond := [Cond.fieldLink RX8 127 "SerialPort" "beats" "I", Cond.fieldLink RX8 185 "SerialPort" "quietSince" "I", Cond.methodLink RX8 224 yX5_first, Cond.instanceMethod yX5_first, Cond.selects RX5 yX5_first yX5_first, Cond.initialized RX5, Cond.code yX5_first cX5_first 1 (some .int), Cond.methodLink RX5 30 yX5_at, Cond.instanceMethod yX5_at, Cond.selects RX5 yX5_at yX5_at, Cond.code yX5_at cX5_at 3 (some .int), Cond.fieldLink RX5 23 "SerialPort$Ring" "size" "I", Cond.fieldLink RX5 13 "SerialPort$Ring" "cells" "[I", Cond.methodLink RX5 26 yX5_cellOf, Cond.instanceMethod yX5_cellOf, Cond.selects RX5 yX5_cellOf yX5_cellOf, Cond.code yX5_cellOf cX5_cellOf 3 (some .int), Cond.fieldLink RX5 19 "SerialPort$Ring" "head" "I", Cond.methodLink RX8 227 yX5_dropFirst, Cond.instanceMethod yX5_dropFirst, Cond.selects RX5 yX5_dropFirst yX5_dropFirst, Cond.code yX5_dropFirst cX5_dropFirst 1 none, Cond.methodLink RX8 203 yX8_tellReason, Cond.instanceMethod yX8_tellReason]
def wsX8_read_r3 : List Cond := [Cond.selects RX8 yX8_tellReason yX8_tellReason, Cond.code yX8_tellReason cX8_tellReason 2 (some .int), Cond.fieldLink RX8 179 "SerialPort" "emptyUp" "Z", Cond.fieldLink RX8 172 "SerialPort" "rowsOn" "Z", Cond.methodLink RX8 130 yX8_reason, Cond.instanceMethod yX8_reason, Cond.selects RX8 yX8_reason yX8_reason, Cond.code yX8_reason cX8_reason 1 (some .int), Cond.fieldLink RX8 176 "SerialPort" "overrun" "Z", Cond.fieldLink RX8 169 "SerialPort" "level" "I", Cond.methodLink RX8 245 yX8_wants, Cond.instanceMethod yX8_wants, Cond.selects RX8 yX8_wants yX8_wants, Cond.code yX8_wants cX8_wants 2 (some .boolean), Cond.methodLink RX8 239 yX8_firstFaults, Cond.instanceMethod yX8_firstFaults, Cond.selects RX8 yX8_firstFaults yX8_firstFaults, Cond.code yX8_firstFaults cX8_firstFaults 1 (some .int), Cond.methodLink RX8 124 yX5_size, Cond.instanceMethod yX5_size, Cond.selects RX5 yX5_size yX5_size, Cond.code yX5_size cX5_size 1 (some .int), Cond.methodLink RX8 248 yX3_hasChanged, Cond.instanceMethod yX3_hasChanged]
def wsX8_read_r4 : List Cond := [Cond.selects RX3 yX3_hasChanged yX3_hasChanged, Cond.initialized RX3, Cond.code yX3_hasChanged cX3_hasChanged 1 (some .boolean), Cond.fieldLink RX3 19 "SerialPort$Modem" "changes" "I", Cond.methodLink RX8 206 yX3_outputs, Cond.instanceMethod yX3_outputs, Cond.selects RX3 yX3_outputs yX3_outputs, Cond.code yX3_outputs cX3_outputs 1 (some .int), Cond.fieldLink RX3 7 "SerialPort$Modem" "outputs" "I", Cond.methodLink RX8 209 yX8_tellLineState, Cond.instanceMethod yX8_tellLineState, Cond.selects RX8 yX8_tellLineState yX8_tellLineState, Cond.code yX8_tellLineState cX8_tellLineState 2 (some .int), Cond.fieldLink RX8 25 "SerialPort" "sending" "LSerialPort$Ring;", Cond.fieldLink RX8 31 "SerialPort" "sender" "LSerialPort$Sender;", Cond.methodLink RX8 230 yX5_isEmpty, Cond.instanceMethod yX5_isEmpty, Cond.selects RX5 yX5_isEmpty yX5_isEmpty, Cond.code yX5_isEmpty cX5_isEmpty 1 (some .boolean), Cond.methodLink RX8 140 yX6_isBusy, Cond.instanceMethod yX6_isBusy, Cond.selects RX6 yX6_isBusy yX6_isBusy, Cond.initialized RX6, Cond.code yX6_isBusy cX6_isBusy 1 (some .boolean)]
def wsX8_read_r5 : List Cond := [Cond.fieldLink RX6 21 "SerialPort$Sender" "busy" "Z", Cond.methodLink RX8 242 yX8_someFault, Cond.instanceMethod yX8_someFault, Cond.selects RX8 yX8_someFault yX8_someFault, Cond.code yX8_someFault cX8_someFault 2 (some .boolean), Cond.methodLink RX8 236 yX5_at, Cond.methodLink RX8 221 yX5_setFirst, Cond.instanceMethod yX5_setFirst, Cond.selects RX5 yX5_setFirst yX5_setFirst, Cond.code yX5_setFirst cX5_setFirst 2 none, Cond.methodLink RX5 33 yX5_setAt, Cond.instanceMethod yX5_setAt, Cond.selects RX5 yX5_setAt yX5_setAt, Cond.code yX5_setAt cX5_setAt 4 none, Cond.methodLink RX8 212 yX3_tellState, Cond.instanceMethod yX3_tellState, Cond.selects RX3 yX3_tellState yX3_tellState, Cond.code yX3_tellState cX3_tellState 2 (some .int), Cond.fieldLink RX3 16 "SerialPort$Modem" "state" "I"]
def wsX8_stepSender_r1 : List Cond := [Cond.fieldLink RX8 31 "SerialPort" "sender" "LSerialPort$Sender;", Cond.fieldLink RX8 25 "SerialPort" "sending" "LSerialPort$Ring;", Cond.fieldLink RX8 73 "SerialPort" "lineControl" "I", Cond.fieldLink RX8 179 "SerialPort" "emptyUp" "Z", Cond.methodLink RX8 140 yX6_isBusy, Cond.instanceMethod yX6_isBusy, Cond.selects RX6 yX6_isBusy yX6_isBusy, Cond.initialized RX6, Cond.code yX6_isBusy cX6_isBusy 1 (some .boolean), Cond.fieldLink RX6 21 "SerialPort$Sender" "busy" "Z", Cond.methodLink RX8 230 yX5_isEmpty, Cond.instanceMethod yX5_isEmpty, Cond.selects RX5 yX5_isEmpty yX5_isEmpty, Cond.initialized RX5, Cond.code yX5_isEmpty cX5_isEmpty 1 (some .boolean), Cond.fieldLink RX5 23 "SerialPort$Ring" "size" "I", Cond.methodLink RX8 224 yX5_first, Cond.instanceMethod yX5_first, Cond.selects RX5 yX5_first yX5_first, Cond.code yX5_first cX5_first 1 (some .int), Cond.methodLink RX5 30 yX5_at, Cond.instanceMethod yX5_at, Cond.selects RX5 yX5_at yX5_at, Cond.code yX5_at cX5_at 3 (some .int)]
def wsX8_stepSender_r2 : List Cond := [Cond.fieldLink RX5 13 "SerialPort$Ring" "cells" "[I", Cond.methodLink RX5 26 yX5_cellOf, Cond.instanceMethod yX5_cellOf, Cond.selects RX5 yX5_cellOf yX5_cellOf, Cond.code yX5_cellOf cX5_cellOf 3 (some .int), Cond.fieldLink RX5 19 "SerialPort$Ring" "head" "I", Cond.methodLink RX8 273 yX6_begin, Cond.instanceMethod yX6_begin, Cond.selects RX6 yX6_begin yX6_begin, Cond.code yX6_begin cX6_begin 3 none, Cond.fieldLink RX6 9 "SerialPort$Sender" "control" "I", Cond.fieldLink RX6 15 "SerialPort$Sender" "character" "I", Cond.fieldLink RX6 18 "SerialPort$Sender" "beat" "I", Cond.methodLink RX8 227 yX5_dropFirst, Cond.instanceMethod yX5_dropFirst, Cond.selects RX5 yX5_dropFirst yX5_dropFirst, Cond.code yX5_dropFirst cX5_dropFirst 1 none, Cond.methodLink RX8 276 yX6_next, Cond.instanceMethod yX6_next, Cond.selects RX6 yX6_next yX6_next, Cond.code yX6_next cX6_next 2 (some .boolean), Cond.methodLink RX6 25 yX7_pieceIsHigh, Cond.static yX7_pieceIsHigh, Cond.initialized RX7]
def wsX8_stepSender_r3 : List Cond := [Cond.code yX7_pieceIsHigh cX7_pieceIsHigh 4 (some .boolean), Cond.methodLink RX7 11 yX7_dataBits, Cond.static yX7_dataBits, Cond.code yX7_dataBits cX7_dataBits 1 (some .int), Cond.methodLink RX7 15 yX7_hasParity, Cond.static yX7_hasParity, Cond.code yX7_hasParity cX7_hasParity 1 (some .boolean), Cond.methodLink RX7 30 yX7_parityIsHigh, Cond.static yX7_parityIsHigh, Cond.code yX7_parityIsHigh cX7_parityIsHigh 5 (some .boolean), Cond.methodLink RX7 25 yJ6_bitCount_0f7a4, Cond.static yJ6_bitCount_0f7a4, Cond.initialized RJ6, Cond.code yJ6_bitCount_0f7a4 cJ6_bitCount_0f7a4 1 (some .int), Cond.constant RJ6 265 (1431655765), Cond.constant RJ6 266 (858993459), Cond.constant RJ6 267 (252645135), Cond.methodLink RX6 31 yX7_beats, Cond.static yX7_beats, Cond.code yX7_beats cX7_beats 1 (some .int), Cond.methodLink RX7 19 yX7_pieces, Cond.static yX7_pieces, Cond.code yX7_pieces cX7_pieces 1 (some .int), Cond.methodLink RX7 22 yX7_stopBeats]
def wsX8_stepSender_r4 : List Cond := [Cond.static yX7_stopBeats, Cond.code yX7_stopBeats cX7_stopBeats 1 (some .int)]
def wsX8_stepSender : List Cond := .code yX8_stepSender cX8_stepSender 1 (some .boolean) :: ((wsX8_stepSender_r1 ++ (wsX8_stepSender_r2 ++ (wsX8_stepSender_r3 ++ wsX8_stepSender_r4))) ++ wsX80 ++ wsX60 ++ wsX50)
def wsX8_addReceived_r1 : List Cond := [Cond.fieldLink RX8 21 "SerialPort" "received" "LSerialPort$Ring;", Cond.fieldLink RX8 176 "SerialPort" "overrun" "Z", Cond.fieldLink RX8 172 "SerialPort" "rowsOn" "Z", Cond.fieldLink RX8 127 "SerialPort" "beats" "I", Cond.fieldLink RX8 185 "SerialPort" "quietSince" "I", Cond.methodLink RX8 124 yX5_size, Cond.instanceMethod yX5_size, Cond.selects RX5 yX5_size yX5_size, Cond.initialized RX5, Cond.code yX5_size cX5_size 1 (some .int), Cond.fieldLink RX5 23 "SerialPort$Ring" "size" "I", Cond.methodLink RX8 215 yX8_rowRoom, Cond.instanceMethod yX8_rowRoom, Cond.selects RX8 yX8_rowRoom yX8_rowRoom, Cond.initialized RX8, Cond.code yX8_rowRoom cX8_rowRoom 1 (some .int), Cond.methodLink RX8 218 yX5_add, Cond.instanceMethod yX5_add, Cond.selects RX5 yX5_add yX5_add, Cond.code yX5_add cX5_add 2 none, Cond.fieldLink RX5 13 "SerialPort$Ring" "cells" "[I", Cond.methodLink RX5 33 yX5_setAt, Cond.instanceMethod yX5_setAt, Cond.selects RX5 yX5_setAt yX5_setAt]
def wsX8_addReceived_r2 : List Cond := [Cond.code yX5_setAt cX5_setAt 4 none, Cond.methodLink RX5 26 yX5_cellOf, Cond.instanceMethod yX5_cellOf, Cond.selects RX5 yX5_cellOf yX5_cellOf, Cond.code yX5_cellOf cX5_cellOf 3 (some .int), Cond.fieldLink RX5 19 "SerialPort$Ring" "head" "I", Cond.methodLink RX8 221 yX5_setFirst, Cond.instanceMethod yX5_setFirst, Cond.selects RX5 yX5_setFirst yX5_setFirst, Cond.code yX5_setFirst cX5_setFirst 2 none]
def wsX8_addReceived : List Cond := .code yX8_addReceived cX8_addReceived 2 none :: ((wsX8_addReceived_r1 ++ wsX8_addReceived_r2) ++ wsX80 ++ wsX50)
def wsX8_stepLate_r1 : List Cond := [Cond.fieldLink RX8 172 "SerialPort" "rowsOn" "Z", Cond.fieldLink RX8 21 "SerialPort" "received" "LSerialPort$Ring;", Cond.fieldLink RX8 127 "SerialPort" "beats" "I", Cond.fieldLink RX8 185 "SerialPort" "quietSince" "I", Cond.fieldLink RX8 73 "SerialPort" "lineControl" "I", Cond.fieldLink RX8 182 "SerialPort" "lateUp" "Z", Cond.methodLink RX8 230 yX5_isEmpty, Cond.instanceMethod yX5_isEmpty, Cond.selects RX5 yX5_isEmpty yX5_isEmpty, Cond.initialized RX5, Cond.code yX5_isEmpty cX5_isEmpty 1 (some .boolean), Cond.fieldLink RX5 23 "SerialPort$Ring" "size" "I", Cond.methodLink RX8 277 yX7_beats, Cond.static yX7_beats, Cond.initialized RX7, Cond.code yX7_beats cX7_beats 1 (some .int), Cond.methodLink RX7 19 yX7_pieces, Cond.static yX7_pieces, Cond.code yX7_pieces cX7_pieces 1 (some .int), Cond.methodLink RX7 11 yX7_dataBits, Cond.static yX7_dataBits, Cond.code yX7_dataBits cX7_dataBits 1 (some .int), Cond.methodLink RX7 15 yX7_hasParity, Cond.static yX7_hasParity]
def wsX8_stepLate_r2 : List Cond := [Cond.code yX7_hasParity cX7_hasParity 1 (some .boolean), Cond.methodLink RX7 22 yX7_stopBeats, Cond.static yX7_stopBeats, Cond.code yX7_stopBeats cX7_stopBeats 1 (some .int)]
def wsX8_stepLate : List Cond := .code yX8_stepLate cX8_stepLate 1 none :: ((wsX8_stepLate_r1 ++ wsX8_stepLate_r2) ++ wsX80 ++ wsX50)
def wsX8_beat_r1 : List Cond := [Cond.fieldLink RX8 127 "SerialPort" "beats" "I", Cond.fieldLink RX8 45 "SerialPort" "modem" "LSerialPort$Modem;", Cond.fieldLink RX8 59 "SerialPort" "lineOut" "LSerialPort$LineOut;", Cond.fieldLink RX8 73 "SerialPort" "lineControl" "I", Cond.fieldLink RX8 52 "SerialPort" "lineIn" "LSerialPort$LineIn;", Cond.fieldLink RX8 38 "SerialPort" "receiver" "LSerialPort$Receiver;", Cond.methodLink RX8 251 yX8_stepSender, Cond.instanceMethod yX8_stepSender, Cond.selects RX8 yX8_stepSender yX8_stepSender, Cond.initialized RX8, Cond.code yX8_stepSender cX8_stepSender 1 (some .boolean), Cond.fieldLink RX8 31 "SerialPort" "sender" "LSerialPort$Sender;", Cond.fieldLink RX8 25 "SerialPort" "sending" "LSerialPort$Ring;", Cond.fieldLink RX8 179 "SerialPort" "emptyUp" "Z", Cond.methodLink RX8 140 yX6_isBusy, Cond.instanceMethod yX6_isBusy, Cond.selects RX6 yX6_isBusy yX6_isBusy, Cond.initialized RX6, Cond.code yX6_isBusy cX6_isBusy 1 (some .boolean), Cond.fieldLink RX6 21 "SerialPort$Sender" "busy" "Z", Cond.methodLink RX8 230 yX5_isEmpty, Cond.instanceMethod yX5_isEmpty, Cond.selects RX5 yX5_isEmpty yX5_isEmpty, Cond.initialized RX5]
def wsX8_beat_r2 : List Cond := [Cond.code yX5_isEmpty cX5_isEmpty 1 (some .boolean), Cond.fieldLink RX5 23 "SerialPort$Ring" "size" "I", Cond.methodLink RX8 224 yX5_first, Cond.instanceMethod yX5_first, Cond.selects RX5 yX5_first yX5_first, Cond.code yX5_first cX5_first 1 (some .int), Cond.methodLink RX5 30 yX5_at, Cond.instanceMethod yX5_at, Cond.selects RX5 yX5_at yX5_at, Cond.code yX5_at cX5_at 3 (some .int), Cond.fieldLink RX5 13 "SerialPort$Ring" "cells" "[I", Cond.methodLink RX5 26 yX5_cellOf, Cond.instanceMethod yX5_cellOf, Cond.selects RX5 yX5_cellOf yX5_cellOf, Cond.code yX5_cellOf cX5_cellOf 3 (some .int), Cond.fieldLink RX5 19 "SerialPort$Ring" "head" "I", Cond.methodLink RX8 273 yX6_begin, Cond.instanceMethod yX6_begin, Cond.selects RX6 yX6_begin yX6_begin, Cond.code yX6_begin cX6_begin 3 none, Cond.fieldLink RX6 9 "SerialPort$Sender" "control" "I", Cond.fieldLink RX6 15 "SerialPort$Sender" "character" "I", Cond.fieldLink RX6 18 "SerialPort$Sender" "beat" "I", Cond.methodLink RX8 227 yX5_dropFirst]
def wsX8_beat_r3 : List Cond := [Cond.instanceMethod yX5_dropFirst, Cond.selects RX5 yX5_dropFirst yX5_dropFirst, Cond.code yX5_dropFirst cX5_dropFirst 1 none, Cond.methodLink RX8 276 yX6_next, Cond.instanceMethod yX6_next, Cond.selects RX6 yX6_next yX6_next, Cond.code yX6_next cX6_next 2 (some .boolean), Cond.methodLink RX6 25 yX7_pieceIsHigh, Cond.static yX7_pieceIsHigh, Cond.initialized RX7, Cond.code yX7_pieceIsHigh cX7_pieceIsHigh 4 (some .boolean), Cond.methodLink RX7 11 yX7_dataBits, Cond.static yX7_dataBits, Cond.code yX7_dataBits cX7_dataBits 1 (some .int), Cond.methodLink RX7 15 yX7_hasParity, Cond.static yX7_hasParity, Cond.code yX7_hasParity cX7_hasParity 1 (some .boolean), Cond.methodLink RX7 30 yX7_parityIsHigh, Cond.static yX7_parityIsHigh, Cond.code yX7_parityIsHigh cX7_parityIsHigh 5 (some .boolean), Cond.methodLink RX7 25 yJ6_bitCount_0f7a4, Cond.static yJ6_bitCount_0f7a4, Cond.initialized RJ6, Cond.code yJ6_bitCount_0f7a4 cJ6_bitCount_0f7a4 1 (some .int)]
def wsX8_beat_r4 : List Cond := [Cond.constant RJ6 265 (1431655765), Cond.constant RJ6 266 (858993459), Cond.constant RJ6 267 (252645135), Cond.methodLink RX6 31 yX7_beats, Cond.static yX7_beats, Cond.code yX7_beats cX7_beats 1 (some .int), Cond.methodLink RX7 19 yX7_pieces, Cond.static yX7_pieces, Cond.code yX7_pieces cX7_pieces 1 (some .int), Cond.methodLink RX7 22 yX7_stopBeats, Cond.static yX7_stopBeats, Cond.code yX7_stopBeats cX7_stopBeats 1 (some .int), Cond.methodLink RX8 254 yX3_loops, Cond.instanceMethod yX3_loops, Cond.selects RX3 yX3_loops yX3_loops, Cond.initialized RX3, Cond.code yX3_loops cX3_loops 1 (some .boolean), Cond.fieldLink RX3 7 "SerialPort$Modem" "outputs" "I", Cond.methodLink RX8 257 yX2_append, Cond.instanceMethod yX2_append, Cond.selects RX2 yX2_append yX2_append, Cond.initialized RX2, Cond.code yX2_append cX2_append 2 none, Cond.fieldLink RX2 14 "SerialPort$LineOut" "runs" "LSerialPort$Ring;"]
def wsX8_beat_r5 : List Cond := [Cond.fieldLink RX2 23 "SerialPort$LineOut" "inAll" "I", Cond.methodLink RX2 27 yX5_isEmpty, Cond.methodLink RX2 31 yX2_runIsHigh, Cond.instanceMethod yX2_runIsHigh, Cond.selects RX2 yX2_runIsHigh yX2_runIsHigh, Cond.code yX2_runIsHigh cX2_runIsHigh 2 (some .boolean), Cond.methodLink RX2 39 yX2_fromEnd, Cond.instanceMethod yX2_fromEnd, Cond.selects RX2 yX2_fromEnd yX2_fromEnd, Cond.code yX2_fromEnd cX2_fromEnd 2 (some .int), Cond.methodLink RX2 35 yX5_size, Cond.instanceMethod yX5_size, Cond.selects RX5 yX5_size yX5_size, Cond.code yX5_size cX5_size 1 (some .int), Cond.methodLink RX2 56 yX5_at, Cond.methodLink RX2 43 yX5_setAt, Cond.instanceMethod yX5_setAt, Cond.selects RX5 yX5_setAt yX5_setAt, Cond.code yX5_setAt cX5_setAt 4 none, Cond.methodLink RX2 47 yX5_room, Cond.instanceMethod yX5_room, Cond.selects RX5 yX5_room yX5_room, Cond.code yX5_room cX5_room 1 (some .int), Cond.methodLink RX2 50 yX5_dropFirst]
def wsX8_beat_r6 : List Cond := [Cond.methodLink RX2 53 yX5_add, Cond.instanceMethod yX5_add, Cond.selects RX5 yX5_add yX5_add, Cond.code yX5_add cX5_add 2 none, Cond.methodLink RX5 33 yX5_setAt, Cond.methodLink RX8 260 yX1_next, Cond.instanceMethod yX1_next, Cond.selects RX1 yX1_next yX1_next, Cond.initialized RX1, Cond.code yX1_next cX1_next 2 (some .boolean), Cond.fieldLink RX1 14 "SerialPort$LineIn" "wave" "LSerialPort$Ring;", Cond.fieldLink RX1 23 "SerialPort$LineIn" "high" "Z", Cond.methodLink RX1 37 yX5_isEmpty, Cond.methodLink RX1 41 yX5_first, Cond.methodLink RX1 44 yX5_setFirst, Cond.instanceMethod yX5_setFirst, Cond.selects RX5 yX5_setFirst yX5_setFirst, Cond.code yX5_setFirst cX5_setFirst 2 none, Cond.methodLink RX1 47 yX5_dropFirst, Cond.methodLink RX8 263 yX4_step, Cond.instanceMethod yX4_step, Cond.selects RX4 yX4_step yX4_step, Cond.initialized RX4, Cond.code yX4_step cX4_step 3 (some .int)]
def wsX8_beat_r7 : List Cond := [Cond.fieldLink RX4 15 "SerialPort$Receiver" "busy" "Z", Cond.fieldLink RX4 26 "SerialPort$Receiver" "beat" "I", Cond.methodLink RX4 22 yX4_listen, Cond.instanceMethod yX4_listen, Cond.selects RX4 yX4_listen yX4_listen, Cond.code yX4_listen cX4_listen 3 none, Cond.fieldLink RX4 19 "SerialPort$Receiver" "wasHigh" "Z", Cond.methodLink RX4 9 yX4_begin, Cond.instanceMethod yX4_begin, Cond.selects RX4 yX4_begin yX4_begin, Cond.code yX4_begin cX4_begin 2 none, Cond.fieldLink RX4 37 "SerialPort$Receiver" "control" "I", Cond.fieldLink RX4 40 "SerialPort$Receiver" "character" "I", Cond.fieldLink RX4 43 "SerialPort$Receiver" "parityHigh" "Z", Cond.fieldLink RX4 46 "SerialPort$Receiver" "someHigh" "Z", Cond.methodLink RX4 30 yX4_seeStart, Cond.instanceMethod yX4_seeStart, Cond.selects RX4 yX4_seeStart yX4_seeStart, Cond.code yX4_seeStart cX4_seeStart 2 (some .int), Cond.methodLink RX4 49 yX4_becomeIdle, Cond.instanceMethod yX4_becomeIdle, Cond.selects RX4 yX4_becomeIdle yX4_becomeIdle, Cond.code yX4_becomeIdle cX4_becomeIdle 2 none, Cond.methodLink RX4 34 yX4_see]
def wsX8_beat_r8 : List Cond := [Cond.instanceMethod yX4_see, Cond.selects RX4 yX4_see yX4_see, Cond.code yX4_see cX4_see 4 (some .int), Cond.methodLink RX4 53 yX7_dataBits, Cond.methodLink RX4 59 yX7_hasParity, Cond.methodLink RX4 63 yX4_faults, Cond.instanceMethod yX4_faults, Cond.selects RX4 yX4_faults yX4_faults, Cond.code yX4_faults cX4_faults 3 (some .int), Cond.methodLink RX4 66 yX7_parityIsHigh, Cond.methodLink RX8 267 yX8_addReceived, Cond.instanceMethod yX8_addReceived, Cond.selects RX8 yX8_addReceived yX8_addReceived, Cond.code yX8_addReceived cX8_addReceived 2 none, Cond.fieldLink RX8 21 "SerialPort" "received" "LSerialPort$Ring;", Cond.fieldLink RX8 176 "SerialPort" "overrun" "Z", Cond.fieldLink RX8 172 "SerialPort" "rowsOn" "Z", Cond.fieldLink RX8 185 "SerialPort" "quietSince" "I", Cond.methodLink RX8 124 yX5_size, Cond.methodLink RX8 215 yX8_rowRoom, Cond.instanceMethod yX8_rowRoom, Cond.selects RX8 yX8_rowRoom yX8_rowRoom, Cond.code yX8_rowRoom cX8_rowRoom 1 (some .int), Cond.methodLink RX8 218 yX5_add]
def wsX8_beat_r9 : List Cond := [Cond.methodLink RX8 221 yX5_setFirst, Cond.methodLink RX8 270 yX8_stepLate, Cond.instanceMethod yX8_stepLate, Cond.selects RX8 yX8_stepLate yX8_stepLate, Cond.code yX8_stepLate cX8_stepLate 1 none, Cond.fieldLink RX8 182 "SerialPort" "lateUp" "Z", Cond.methodLink RX8 277 yX7_beats]
def wsX8_beat : List Cond := .code yX8_beat cX8_beat 5 none :: ((wsX8_beat_r1 ++ (wsX8_beat_r2 ++ (wsX8_beat_r3 ++ (wsX8_beat_r4 ++ (wsX8_beat_r5 ++ (wsX8_beat_r6 ++ (wsX8_beat_r7 ++ (wsX8_beat_r8 ++ wsX8_beat_r9)))))))) ++ wsX80 ++ wsX60 ++ wsX50 ++ wsX30 ++ wsX20 ++ wsX10 ++ wsX40)
def wsX8_clock_r1 : List Cond := [Cond.constant RX8 91 (60000), Cond.fieldLink RX8 12 "SerialPort" "divider" "LSerialPort$Divider;", Cond.methodLink RX8 92 yX0_pass, Cond.instanceMethod yX0_pass, Cond.selects RX0 yX0_pass yX0_pass, Cond.initialized RX0, Cond.code yX0_pass cX0_pass 3 (some .int), Cond.fieldLink RX0 9 "SerialPort$Divider" "divisor" "I", Cond.fieldLink RX0 15 "SerialPort$Divider" "passed" "I", Cond.methodLink RX8 95 yX8_beat, Cond.instanceMethod yX8_beat, Cond.selects RX8 yX8_beat yX8_beat, Cond.initialized RX8, Cond.code yX8_beat cX8_beat 5 none, Cond.fieldLink RX8 127 "SerialPort" "beats" "I", Cond.fieldLink RX8 45 "SerialPort" "modem" "LSerialPort$Modem;", Cond.fieldLink RX8 59 "SerialPort" "lineOut" "LSerialPort$LineOut;", Cond.fieldLink RX8 73 "SerialPort" "lineControl" "I", Cond.fieldLink RX8 52 "SerialPort" "lineIn" "LSerialPort$LineIn;", Cond.fieldLink RX8 38 "SerialPort" "receiver" "LSerialPort$Receiver;", Cond.methodLink RX8 251 yX8_stepSender, Cond.instanceMethod yX8_stepSender, Cond.selects RX8 yX8_stepSender yX8_stepSender, Cond.code yX8_stepSender cX8_stepSender 1 (some .boolean)]
def wsX8_clock_r2 : List Cond := [Cond.fieldLink RX8 31 "SerialPort" "sender" "LSerialPort$Sender;", Cond.fieldLink RX8 25 "SerialPort" "sending" "LSerialPort$Ring;", Cond.fieldLink RX8 179 "SerialPort" "emptyUp" "Z", Cond.methodLink RX8 140 yX6_isBusy, Cond.instanceMethod yX6_isBusy, Cond.selects RX6 yX6_isBusy yX6_isBusy, Cond.initialized RX6, Cond.code yX6_isBusy cX6_isBusy 1 (some .boolean), Cond.fieldLink RX6 21 "SerialPort$Sender" "busy" "Z", Cond.methodLink RX8 230 yX5_isEmpty, Cond.instanceMethod yX5_isEmpty, Cond.selects RX5 yX5_isEmpty yX5_isEmpty, Cond.initialized RX5, Cond.code yX5_isEmpty cX5_isEmpty 1 (some .boolean), Cond.fieldLink RX5 23 "SerialPort$Ring" "size" "I", Cond.methodLink RX8 224 yX5_first, Cond.instanceMethod yX5_first, Cond.selects RX5 yX5_first yX5_first, Cond.code yX5_first cX5_first 1 (some .int), Cond.methodLink RX5 30 yX5_at, Cond.instanceMethod yX5_at, Cond.selects RX5 yX5_at yX5_at, Cond.code yX5_at cX5_at 3 (some .int), Cond.fieldLink RX5 13 "SerialPort$Ring" "cells" "[I"]
def wsX8_clock_r3 : List Cond := [Cond.methodLink RX5 26 yX5_cellOf, Cond.instanceMethod yX5_cellOf, Cond.selects RX5 yX5_cellOf yX5_cellOf, Cond.code yX5_cellOf cX5_cellOf 3 (some .int), Cond.fieldLink RX5 19 "SerialPort$Ring" "head" "I", Cond.methodLink RX8 273 yX6_begin, Cond.instanceMethod yX6_begin, Cond.selects RX6 yX6_begin yX6_begin, Cond.code yX6_begin cX6_begin 3 none, Cond.fieldLink RX6 9 "SerialPort$Sender" "control" "I", Cond.fieldLink RX6 15 "SerialPort$Sender" "character" "I", Cond.fieldLink RX6 18 "SerialPort$Sender" "beat" "I", Cond.methodLink RX8 227 yX5_dropFirst, Cond.instanceMethod yX5_dropFirst, Cond.selects RX5 yX5_dropFirst yX5_dropFirst, Cond.code yX5_dropFirst cX5_dropFirst 1 none, Cond.methodLink RX8 276 yX6_next, Cond.instanceMethod yX6_next, Cond.selects RX6 yX6_next yX6_next, Cond.code yX6_next cX6_next 2 (some .boolean), Cond.methodLink RX6 25 yX7_pieceIsHigh, Cond.static yX7_pieceIsHigh, Cond.initialized RX7, Cond.code yX7_pieceIsHigh cX7_pieceIsHigh 4 (some .boolean)]
def wsX8_clock_r4 : List Cond := [Cond.methodLink RX7 11 yX7_dataBits, Cond.static yX7_dataBits, Cond.code yX7_dataBits cX7_dataBits 1 (some .int), Cond.methodLink RX7 15 yX7_hasParity, Cond.static yX7_hasParity, Cond.code yX7_hasParity cX7_hasParity 1 (some .boolean), Cond.methodLink RX7 30 yX7_parityIsHigh, Cond.static yX7_parityIsHigh, Cond.code yX7_parityIsHigh cX7_parityIsHigh 5 (some .boolean), Cond.methodLink RX7 25 yJ6_bitCount_0f7a4, Cond.static yJ6_bitCount_0f7a4, Cond.initialized RJ6, Cond.code yJ6_bitCount_0f7a4 cJ6_bitCount_0f7a4 1 (some .int), Cond.constant RJ6 265 (1431655765), Cond.constant RJ6 266 (858993459), Cond.constant RJ6 267 (252645135), Cond.methodLink RX6 31 yX7_beats, Cond.static yX7_beats, Cond.code yX7_beats cX7_beats 1 (some .int), Cond.methodLink RX7 19 yX7_pieces, Cond.static yX7_pieces, Cond.code yX7_pieces cX7_pieces 1 (some .int), Cond.methodLink RX7 22 yX7_stopBeats, Cond.static yX7_stopBeats]
def wsX8_clock_r5 : List Cond := [Cond.code yX7_stopBeats cX7_stopBeats 1 (some .int), Cond.methodLink RX8 254 yX3_loops, Cond.instanceMethod yX3_loops, Cond.selects RX3 yX3_loops yX3_loops, Cond.initialized RX3, Cond.code yX3_loops cX3_loops 1 (some .boolean), Cond.fieldLink RX3 7 "SerialPort$Modem" "outputs" "I", Cond.methodLink RX8 257 yX2_append, Cond.instanceMethod yX2_append, Cond.selects RX2 yX2_append yX2_append, Cond.initialized RX2, Cond.code yX2_append cX2_append 2 none, Cond.fieldLink RX2 14 "SerialPort$LineOut" "runs" "LSerialPort$Ring;", Cond.fieldLink RX2 23 "SerialPort$LineOut" "inAll" "I", Cond.methodLink RX2 27 yX5_isEmpty, Cond.methodLink RX2 31 yX2_runIsHigh, Cond.instanceMethod yX2_runIsHigh, Cond.selects RX2 yX2_runIsHigh yX2_runIsHigh, Cond.code yX2_runIsHigh cX2_runIsHigh 2 (some .boolean), Cond.methodLink RX2 39 yX2_fromEnd, Cond.instanceMethod yX2_fromEnd, Cond.selects RX2 yX2_fromEnd yX2_fromEnd, Cond.code yX2_fromEnd cX2_fromEnd 2 (some .int), Cond.methodLink RX2 35 yX5_size]
def wsX8_clock_r6 : List Cond := [Cond.instanceMethod yX5_size, Cond.selects RX5 yX5_size yX5_size, Cond.code yX5_size cX5_size 1 (some .int), Cond.methodLink RX2 56 yX5_at, Cond.methodLink RX2 43 yX5_setAt, Cond.instanceMethod yX5_setAt, Cond.selects RX5 yX5_setAt yX5_setAt, Cond.code yX5_setAt cX5_setAt 4 none, Cond.methodLink RX2 47 yX5_room, Cond.instanceMethod yX5_room, Cond.selects RX5 yX5_room yX5_room, Cond.code yX5_room cX5_room 1 (some .int), Cond.methodLink RX2 50 yX5_dropFirst, Cond.methodLink RX2 53 yX5_add, Cond.instanceMethod yX5_add, Cond.selects RX5 yX5_add yX5_add, Cond.code yX5_add cX5_add 2 none, Cond.methodLink RX5 33 yX5_setAt, Cond.methodLink RX8 260 yX1_next, Cond.instanceMethod yX1_next, Cond.selects RX1 yX1_next yX1_next, Cond.initialized RX1, Cond.code yX1_next cX1_next 2 (some .boolean), Cond.fieldLink RX1 14 "SerialPort$LineIn" "wave" "LSerialPort$Ring;"]
def wsX8_clock_r7 : List Cond := [Cond.fieldLink RX1 23 "SerialPort$LineIn" "high" "Z", Cond.methodLink RX1 37 yX5_isEmpty, Cond.methodLink RX1 41 yX5_first, Cond.methodLink RX1 44 yX5_setFirst, Cond.instanceMethod yX5_setFirst, Cond.selects RX5 yX5_setFirst yX5_setFirst, Cond.code yX5_setFirst cX5_setFirst 2 none, Cond.methodLink RX1 47 yX5_dropFirst, Cond.methodLink RX8 263 yX4_step, Cond.instanceMethod yX4_step, Cond.selects RX4 yX4_step yX4_step, Cond.initialized RX4, Cond.code yX4_step cX4_step 3 (some .int), Cond.fieldLink RX4 15 "SerialPort$Receiver" "busy" "Z", Cond.fieldLink RX4 26 "SerialPort$Receiver" "beat" "I", Cond.methodLink RX4 22 yX4_listen, Cond.instanceMethod yX4_listen, Cond.selects RX4 yX4_listen yX4_listen, Cond.code yX4_listen cX4_listen 3 none, Cond.fieldLink RX4 19 "SerialPort$Receiver" "wasHigh" "Z", Cond.methodLink RX4 9 yX4_begin, Cond.instanceMethod yX4_begin, Cond.selects RX4 yX4_begin yX4_begin, Cond.code yX4_begin cX4_begin 2 none]
def wsX8_clock_r8 : List Cond := [Cond.fieldLink RX4 37 "SerialPort$Receiver" "control" "I", Cond.fieldLink RX4 40 "SerialPort$Receiver" "character" "I", Cond.fieldLink RX4 43 "SerialPort$Receiver" "parityHigh" "Z", Cond.fieldLink RX4 46 "SerialPort$Receiver" "someHigh" "Z", Cond.methodLink RX4 30 yX4_seeStart, Cond.instanceMethod yX4_seeStart, Cond.selects RX4 yX4_seeStart yX4_seeStart, Cond.code yX4_seeStart cX4_seeStart 2 (some .int), Cond.methodLink RX4 49 yX4_becomeIdle, Cond.instanceMethod yX4_becomeIdle, Cond.selects RX4 yX4_becomeIdle yX4_becomeIdle, Cond.code yX4_becomeIdle cX4_becomeIdle 2 none, Cond.methodLink RX4 34 yX4_see, Cond.instanceMethod yX4_see, Cond.selects RX4 yX4_see yX4_see, Cond.code yX4_see cX4_see 4 (some .int), Cond.methodLink RX4 53 yX7_dataBits, Cond.methodLink RX4 59 yX7_hasParity, Cond.methodLink RX4 63 yX4_faults, Cond.instanceMethod yX4_faults, Cond.selects RX4 yX4_faults yX4_faults, Cond.code yX4_faults cX4_faults 3 (some .int), Cond.methodLink RX4 66 yX7_parityIsHigh, Cond.methodLink RX8 267 yX8_addReceived]
def wsX8_clock_r9 : List Cond := [Cond.instanceMethod yX8_addReceived, Cond.selects RX8 yX8_addReceived yX8_addReceived, Cond.code yX8_addReceived cX8_addReceived 2 none, Cond.fieldLink RX8 21 "SerialPort" "received" "LSerialPort$Ring;", Cond.fieldLink RX8 176 "SerialPort" "overrun" "Z", Cond.fieldLink RX8 172 "SerialPort" "rowsOn" "Z", Cond.fieldLink RX8 185 "SerialPort" "quietSince" "I", Cond.methodLink RX8 124 yX5_size, Cond.methodLink RX8 215 yX8_rowRoom, Cond.instanceMethod yX8_rowRoom, Cond.selects RX8 yX8_rowRoom yX8_rowRoom, Cond.code yX8_rowRoom cX8_rowRoom 1 (some .int), Cond.methodLink RX8 218 yX5_add, Cond.methodLink RX8 221 yX5_setFirst, Cond.methodLink RX8 270 yX8_stepLate, Cond.instanceMethod yX8_stepLate, Cond.selects RX8 yX8_stepLate yX8_stepLate, Cond.code yX8_stepLate cX8_stepLate 1 none, Cond.fieldLink RX8 182 "SerialPort" "lateUp" "Z", Cond.methodLink RX8 277 yX7_beats]
def wsX8_clock : List Cond := .code yX8_clock cX8_clock 4 (some .int) :: ((wsX8_clock_r1 ++ (wsX8_clock_r2 ++ (wsX8_clock_r3 ++ (wsX8_clock_r4 ++ (wsX8_clock_r5 ++ (wsX8_clock_r6 ++ (wsX8_clock_r7 ++ (wsX8_clock_r8 ++ wsX8_clock_r9)))))))) ++ wsX80 ++ wsX00 ++ wsX60 ++ wsX50 ++ wsX30 ++ wsX20 ++ wsX10 ++ wsX40)
def wsX8_wave_r1 : List Cond := [Cond.fieldLink RX8 52 "SerialPort" "lineIn" "LSerialPort$LineIn;", Cond.methodLink RX8 98 yX1_room, Cond.instanceMethod yX1_room, Cond.selects RX1 yX1_room yX1_room, Cond.initialized RX1, Cond.code yX1_room cX1_room 1 (some .int), Cond.fieldLink RX1 14 "SerialPort$LineIn" "wave" "LSerialPort$Ring;", Cond.methodLink RX1 31 yX5_room, Cond.instanceMethod yX5_room, Cond.selects RX5 yX5_room yX5_room, Cond.initialized RX5, Cond.code yX5_room cX5_room 1 (some .int), Cond.fieldLink RX5 13 "SerialPort$Ring" "cells" "[I", Cond.fieldLink RX5 23 "SerialPort$Ring" "size" "I", Cond.methodLink RX8 102 yX1_append, Cond.instanceMethod yX1_append, Cond.selects RX1 yX1_append yX1_append, Cond.code yX1_append cX1_append 3 none, Cond.methodLink RX1 34 yX5_add, Cond.instanceMethod yX5_add, Cond.selects RX5 yX5_add yX5_add, Cond.code yX5_add cX5_add 2 none, Cond.methodLink RX5 33 yX5_setAt, Cond.instanceMethod yX5_setAt]
def wsX8_wave_r2 : List Cond := [Cond.selects RX5 yX5_setAt yX5_setAt, Cond.code yX5_setAt cX5_setAt 4 none, Cond.methodLink RX5 26 yX5_cellOf, Cond.instanceMethod yX5_cellOf, Cond.selects RX5 yX5_cellOf yX5_cellOf, Cond.code yX5_cellOf cX5_cellOf 3 (some .int), Cond.fieldLink RX5 19 "SerialPort$Ring" "head" "I", Cond.methodLink RX8 106 yX1_pieces, Cond.instanceMethod yX1_pieces, Cond.selects RX1 yX1_pieces yX1_pieces, Cond.code yX1_pieces cX1_pieces 1 (some .int), Cond.methodLink RX1 27 yX5_size, Cond.instanceMethod yX5_size, Cond.selects RX5 yX5_size yX5_size, Cond.code yX5_size cX5_size 1 (some .int)]
def wsX8_wave : List Cond := .code yX8_wave cX8_wave 3 (some .int) :: ((wsX8_wave_r1 ++ wsX8_wave_r2) ++ wsX80 ++ wsX10 ++ wsX50)
def wsX8_frame_r1 : List Cond := [Cond.fieldLink RX8 73 "SerialPort" "lineControl" "I", Cond.fieldLink RX8 52 "SerialPort" "lineIn" "LSerialPort$LineIn;", Cond.methodLink RX8 109 yX7_pieces, Cond.static yX7_pieces, Cond.initialized RX7, Cond.code yX7_pieces cX7_pieces 1 (some .int), Cond.methodLink RX7 11 yX7_dataBits, Cond.static yX7_dataBits, Cond.code yX7_dataBits cX7_dataBits 1 (some .int), Cond.methodLink RX7 15 yX7_hasParity, Cond.static yX7_hasParity, Cond.code yX7_hasParity cX7_hasParity 1 (some .boolean), Cond.methodLink RX8 98 yX1_room, Cond.instanceMethod yX1_room, Cond.selects RX1 yX1_room yX1_room, Cond.initialized RX1, Cond.code yX1_room cX1_room 1 (some .int), Cond.fieldLink RX1 14 "SerialPort$LineIn" "wave" "LSerialPort$Ring;", Cond.methodLink RX1 31 yX5_room, Cond.instanceMethod yX5_room, Cond.selects RX5 yX5_room yX5_room, Cond.initialized RX5, Cond.code yX5_room cX5_room 1 (some .int), Cond.fieldLink RX5 13 "SerialPort$Ring" "cells" "[I"]
def wsX8_frame_r2 : List Cond := [Cond.fieldLink RX5 23 "SerialPort$Ring" "size" "I", Cond.methodLink RX8 113 yX7_pieceIsHigh, Cond.static yX7_pieceIsHigh, Cond.code yX7_pieceIsHigh cX7_pieceIsHigh 4 (some .boolean), Cond.methodLink RX7 30 yX7_parityIsHigh, Cond.static yX7_parityIsHigh, Cond.code yX7_parityIsHigh cX7_parityIsHigh 5 (some .boolean), Cond.methodLink RX7 25 yJ6_bitCount_0f7a4, Cond.static yJ6_bitCount_0f7a4, Cond.initialized RJ6, Cond.code yJ6_bitCount_0f7a4 cJ6_bitCount_0f7a4 1 (some .int), Cond.constant RJ6 265 (1431655765), Cond.constant RJ6 266 (858993459), Cond.constant RJ6 267 (252645135), Cond.methodLink RX8 117 yX7_pieceBeats, Cond.static yX7_pieceBeats, Cond.code yX7_pieceBeats cX7_pieceBeats 2 (some .int), Cond.methodLink RX7 19 yX7_pieces, Cond.methodLink RX7 22 yX7_stopBeats, Cond.static yX7_stopBeats, Cond.code yX7_stopBeats cX7_stopBeats 1 (some .int), Cond.methodLink RX8 102 yX1_append, Cond.instanceMethod yX1_append, Cond.selects RX1 yX1_append yX1_append]
def wsX8_frame_r3 : List Cond := [Cond.code yX1_append cX1_append 3 none, Cond.methodLink RX1 34 yX5_add, Cond.instanceMethod yX5_add, Cond.selects RX5 yX5_add yX5_add, Cond.code yX5_add cX5_add 2 none, Cond.methodLink RX5 33 yX5_setAt, Cond.instanceMethod yX5_setAt, Cond.selects RX5 yX5_setAt yX5_setAt, Cond.code yX5_setAt cX5_setAt 4 none, Cond.methodLink RX5 26 yX5_cellOf, Cond.instanceMethod yX5_cellOf, Cond.selects RX5 yX5_cellOf yX5_cellOf, Cond.code yX5_cellOf cX5_cellOf 3 (some .int), Cond.fieldLink RX5 19 "SerialPort$Ring" "head" "I"]
def wsX8_frame : List Cond := .code yX8_frame cX8_frame 6 (some .int) :: ((wsX8_frame_r1 ++ (wsX8_frame_r2 ++ wsX8_frame_r3)) ++ wsX80 ++ wsX10 ++ wsX50)
def wsX8_inputs : List Cond := .code yX8_inputs cX8_inputs 2 (some .boolean) :: ([.fieldLink RX8 45 "SerialPort" "modem" "LSerialPort$Modem;", .methodLink RX8 121 yX3_putPins, .instanceMethod yX3_putPins, .selects RX3 yX3_putPins yX3_putPins, .initialized RX3, .code yX3_putPins cX3_putPins 2 none, .fieldLink RX3 13 "SerialPort$Modem" "pins" "I", .methodLink RX3 22 yX3_follow, .instanceMethod yX3_follow, .selects RX3 yX3_follow yX3_follow, .code yX3_follow cX3_follow 3 none, .fieldLink RX3 16 "SerialPort$Modem" "state" "I", .fieldLink RX3 19 "SerialPort$Modem" "changes" "I", .methodLink RX3 25 yX3_loops, .instanceMethod yX3_loops, .selects RX3 yX3_loops yX3_loops, .code yX3_loops cX3_loops 1 (some .boolean), .fieldLink RX3 7 "SerialPort$Modem" "outputs" "I", .methodLink RX3 29 yX3_looped, .instanceMethod yX3_looped, .selects RX3 yX3_looped yX3_looped, .code yX3_looped cX3_looped 1 (some .int)] ++ wsX80 ++ wsX30)
def wsX8_reset_r1 : List Cond := [Cond.methodLink RX8 63 yX8_powerOn, Cond.instanceMethod yX8_powerOn, Cond.selects RX8 yX8_powerOn yX8_powerOn, Cond.initialized RX8, Cond.code yX8_powerOn cX8_powerOn 1 none, Cond.fieldLink RX8 12 "SerialPort" "divider" "LSerialPort$Divider;", Cond.fieldLink RX8 21 "SerialPort" "received" "LSerialPort$Ring;", Cond.fieldLink RX8 25 "SerialPort" "sending" "LSerialPort$Ring;", Cond.fieldLink RX8 31 "SerialPort" "sender" "LSerialPort$Sender;", Cond.fieldLink RX8 38 "SerialPort" "receiver" "LSerialPort$Receiver;", Cond.fieldLink RX8 45 "SerialPort" "modem" "LSerialPort$Modem;", Cond.fieldLink RX8 52 "SerialPort" "lineIn" "LSerialPort$LineIn;", Cond.fieldLink RX8 59 "SerialPort" "lineOut" "LSerialPort$LineOut;", Cond.fieldLink RX8 163 "SerialPort" "wanted" "I", Cond.fieldLink RX8 73 "SerialPort" "lineControl" "I", Cond.fieldLink RX8 166 "SerialPort" "kept" "I", Cond.fieldLink RX8 169 "SerialPort" "level" "I", Cond.fieldLink RX8 172 "SerialPort" "rowsOn" "Z", Cond.fieldLink RX8 176 "SerialPort" "overrun" "Z", Cond.fieldLink RX8 179 "SerialPort" "emptyUp" "Z", Cond.fieldLink RX8 182 "SerialPort" "lateUp" "Z", Cond.fieldLink RX8 127 "SerialPort" "beats" "I", Cond.fieldLink RX8 185 "SerialPort" "quietSince" "I", Cond.methodLink RX8 154 yX0_clear]
def wsX8_reset_r2 : List Cond := [Cond.instanceMethod yX0_clear, Cond.selects RX0 yX0_clear yX0_clear, Cond.initialized RX0, Cond.code yX0_clear cX0_clear 1 none, Cond.fieldLink RX0 9 "SerialPort$Divider" "divisor" "I", Cond.fieldLink RX0 15 "SerialPort$Divider" "passed" "I", Cond.methodLink RX8 157 yX5_clear, Cond.instanceMethod yX5_clear, Cond.selects RX5 yX5_clear yX5_clear, Cond.initialized RX5, Cond.code yX5_clear cX5_clear 1 none, Cond.fieldLink RX5 19 "SerialPort$Ring" "head" "I", Cond.fieldLink RX5 23 "SerialPort$Ring" "size" "I", Cond.methodLink RX8 158 yX6_clear, Cond.instanceMethod yX6_clear, Cond.selects RX6 yX6_clear yX6_clear, Cond.initialized RX6, Cond.code yX6_clear cX6_clear 1 none, Cond.fieldLink RX6 9 "SerialPort$Sender" "control" "I", Cond.fieldLink RX6 15 "SerialPort$Sender" "character" "I", Cond.fieldLink RX6 18 "SerialPort$Sender" "beat" "I", Cond.fieldLink RX6 21 "SerialPort$Sender" "busy" "Z", Cond.methodLink RX8 159 yX4_clear, Cond.instanceMethod yX4_clear]
def wsX8_reset_r3 : List Cond := [Cond.selects RX4 yX4_clear yX4_clear, Cond.initialized RX4, Cond.code yX4_clear cX4_clear 1 none, Cond.fieldLink RX4 15 "SerialPort$Receiver" "busy" "Z", Cond.fieldLink RX4 19 "SerialPort$Receiver" "wasHigh" "Z", Cond.methodLink RX4 9 yX4_begin, Cond.instanceMethod yX4_begin, Cond.selects RX4 yX4_begin yX4_begin, Cond.code yX4_begin cX4_begin 2 none, Cond.fieldLink RX4 37 "SerialPort$Receiver" "control" "I", Cond.fieldLink RX4 40 "SerialPort$Receiver" "character" "I", Cond.fieldLink RX4 26 "SerialPort$Receiver" "beat" "I", Cond.fieldLink RX4 43 "SerialPort$Receiver" "parityHigh" "Z", Cond.fieldLink RX4 46 "SerialPort$Receiver" "someHigh" "Z", Cond.methodLink RX8 160 yX3_clear, Cond.instanceMethod yX3_clear, Cond.selects RX3 yX3_clear yX3_clear, Cond.initialized RX3, Cond.code yX3_clear cX3_clear 1 none, Cond.fieldLink RX3 7 "SerialPort$Modem" "outputs" "I", Cond.fieldLink RX3 13 "SerialPort$Modem" "pins" "I", Cond.fieldLink RX3 16 "SerialPort$Modem" "state" "I", Cond.fieldLink RX3 19 "SerialPort$Modem" "changes" "I", Cond.methodLink RX8 161 yX1_clear]
def wsX8_reset_r4 : List Cond := [Cond.instanceMethod yX1_clear, Cond.selects RX1 yX1_clear yX1_clear, Cond.initialized RX1, Cond.code yX1_clear cX1_clear 1 none, Cond.fieldLink RX1 14 "SerialPort$LineIn" "wave" "LSerialPort$Ring;", Cond.fieldLink RX1 23 "SerialPort$LineIn" "high" "Z", Cond.methodLink RX1 20 yX5_clear, Cond.methodLink RX8 162 yX2_clear, Cond.instanceMethod yX2_clear, Cond.selects RX2 yX2_clear yX2_clear, Cond.initialized RX2, Cond.code yX2_clear cX2_clear 1 none, Cond.fieldLink RX2 14 "SerialPort$LineOut" "runs" "LSerialPort$Ring;", Cond.fieldLink RX2 23 "SerialPort$LineOut" "inAll" "I", Cond.methodLink RX2 20 yX5_clear]
def wsX8_reset : List Cond := .code yX8_reset cX8_reset 1 none :: ((wsX8_reset_r1 ++ (wsX8_reset_r2 ++ (wsX8_reset_r3 ++ wsX8_reset_r4))) ++ wsX80 ++ wsX00 ++ wsX50 ++ wsX60 ++ wsX40 ++ wsX30 ++ wsX10 ++ wsX20)
def wsX8_count_r1 : List Cond := [Cond.fieldLink RX8 21 "SerialPort" "received" "LSerialPort$Ring;", Cond.fieldLink RX8 25 "SerialPort" "sending" "LSerialPort$Ring;", Cond.fieldLink RX8 127 "SerialPort" "beats" "I", Cond.fieldLink RX8 59 "SerialPort" "lineOut" "LSerialPort$LineOut;", Cond.fieldLink RX8 52 "SerialPort" "lineIn" "LSerialPort$LineIn;", Cond.fieldLink RX8 31 "SerialPort" "sender" "LSerialPort$Sender;", Cond.fieldLink RX8 38 "SerialPort" "receiver" "LSerialPort$Receiver;", Cond.methodLink RX8 124 yX5_size, Cond.instanceMethod yX5_size, Cond.selects RX5 yX5_size yX5_size, Cond.initialized RX5, Cond.code yX5_size cX5_size 1 (some .int), Cond.fieldLink RX5 23 "SerialPort$Ring" "size" "I", Cond.methodLink RX8 130 yX8_reason, Cond.instanceMethod yX8_reason, Cond.selects RX8 yX8_reason yX8_reason, Cond.initialized RX8, Cond.code yX8_reason cX8_reason 1 (some .int), Cond.fieldLink RX8 176 "SerialPort" "overrun" "Z", Cond.fieldLink RX8 172 "SerialPort" "rowsOn" "Z", Cond.fieldLink RX8 169 "SerialPort" "level" "I", Cond.fieldLink RX8 182 "SerialPort" "lateUp" "Z", Cond.fieldLink RX8 179 "SerialPort" "emptyUp" "Z", Cond.fieldLink RX8 45 "SerialPort" "modem" "LSerialPort$Modem;"]
def wsX8_count_r2 : List Cond := [Cond.methodLink RX8 245 yX8_wants, Cond.instanceMethod yX8_wants, Cond.selects RX8 yX8_wants yX8_wants, Cond.code yX8_wants cX8_wants 2 (some .boolean), Cond.fieldLink RX8 163 "SerialPort" "wanted" "I", Cond.methodLink RX8 239 yX8_firstFaults, Cond.instanceMethod yX8_firstFaults, Cond.selects RX8 yX8_firstFaults yX8_firstFaults, Cond.code yX8_firstFaults cX8_firstFaults 1 (some .int), Cond.methodLink RX8 224 yX5_first, Cond.instanceMethod yX5_first, Cond.selects RX5 yX5_first yX5_first, Cond.code yX5_first cX5_first 1 (some .int), Cond.methodLink RX5 30 yX5_at, Cond.instanceMethod yX5_at, Cond.selects RX5 yX5_at yX5_at, Cond.code yX5_at cX5_at 3 (some .int), Cond.fieldLink RX5 13 "SerialPort$Ring" "cells" "[I", Cond.methodLink RX5 26 yX5_cellOf, Cond.instanceMethod yX5_cellOf, Cond.selects RX5 yX5_cellOf yX5_cellOf, Cond.code yX5_cellOf cX5_cellOf 3 (some .int), Cond.fieldLink RX5 19 "SerialPort$Ring" "head" "I", Cond.methodLink RX8 248 yX3_hasChanged]
def wsX8_count_r3 : List Cond := [Cond.instanceMethod yX3_hasChanged, Cond.selects RX3 yX3_hasChanged yX3_hasChanged, Cond.initialized RX3, Cond.code yX3_hasChanged cX3_hasChanged 1 (some .boolean), Cond.fieldLink RX3 19 "SerialPort$Modem" "changes" "I", Cond.methodLink RX8 133 yX2_isHigh, Cond.instanceMethod yX2_isHigh, Cond.selects RX2 yX2_isHigh yX2_isHigh, Cond.initialized RX2, Cond.code yX2_isHigh cX2_isHigh 1 (some .boolean), Cond.fieldLink RX2 14 "SerialPort$LineOut" "runs" "LSerialPort$Ring;", Cond.methodLink RX2 27 yX5_isEmpty, Cond.instanceMethod yX5_isEmpty, Cond.selects RX5 yX5_isEmpty yX5_isEmpty, Cond.code yX5_isEmpty cX5_isEmpty 1 (some .boolean), Cond.methodLink RX2 31 yX2_runIsHigh, Cond.instanceMethod yX2_runIsHigh, Cond.selects RX2 yX2_runIsHigh yX2_runIsHigh, Cond.code yX2_runIsHigh cX2_runIsHigh 2 (some .boolean), Cond.methodLink RX2 39 yX2_fromEnd, Cond.instanceMethod yX2_fromEnd, Cond.selects RX2 yX2_fromEnd yX2_fromEnd, Cond.code yX2_fromEnd cX2_fromEnd 2 (some .int), Cond.methodLink RX2 35 yX5_size]
def wsX8_count_r4 : List Cond := [Cond.methodLink RX2 56 yX5_at, Cond.methodLink RX8 106 yX1_pieces, Cond.instanceMethod yX1_pieces, Cond.selects RX1 yX1_pieces yX1_pieces, Cond.initialized RX1, Cond.code yX1_pieces cX1_pieces 1 (some .int), Cond.fieldLink RX1 14 "SerialPort$LineIn" "wave" "LSerialPort$Ring;", Cond.methodLink RX1 27 yX5_size, Cond.methodLink RX8 137 yX2_runsInAll, Cond.instanceMethod yX2_runsInAll, Cond.selects RX2 yX2_runsInAll yX2_runsInAll, Cond.code yX2_runsInAll cX2_runsInAll 1 (some .int), Cond.fieldLink RX2 23 "SerialPort$LineOut" "inAll" "I", Cond.methodLink RX8 140 yX6_isBusy, Cond.instanceMethod yX6_isBusy, Cond.selects RX6 yX6_isBusy yX6_isBusy, Cond.initialized RX6, Cond.code yX6_isBusy cX6_isBusy 1 (some .boolean), Cond.fieldLink RX6 21 "SerialPort$Sender" "busy" "Z", Cond.methodLink RX8 143 yX4_isBusy, Cond.instanceMethod yX4_isBusy, Cond.selects RX4 yX4_isBusy yX4_isBusy, Cond.initialized RX4, Cond.code yX4_isBusy cX4_isBusy 1 (some .boolean)]
def wsX8_count_r5 : List Cond := [Cond.fieldLink RX4 15 "SerialPort$Receiver" "busy" "Z"]
def wsX8_count : List Cond := .code yX8_count cX8_count 2 (some .int) :: ((wsX8_count_r1 ++ (wsX8_count_r2 ++ (wsX8_count_r3 ++ (wsX8_count_r4 ++ wsX8_count_r5)))) ++ wsX80 ++ wsX50 ++ wsX30 ++ wsX20 ++ wsX10 ++ wsX60 ++ wsX40)
def wsX8_run_r1 : List Cond := [Cond.fieldLink RX8 59 "SerialPort" "lineOut" "LSerialPort$LineOut;", Cond.methodLink RX8 144 yX2_runsKept, Cond.instanceMethod yX2_runsKept, Cond.selects RX2 yX2_runsKept yX2_runsKept, Cond.initialized RX2, Cond.code yX2_runsKept cX2_runsKept 1 (some .int), Cond.fieldLink RX2 14 "SerialPort$LineOut" "runs" "LSerialPort$Ring;", Cond.methodLink RX2 35 yX5_size, Cond.instanceMethod yX5_size, Cond.selects RX5 yX5_size yX5_size, Cond.initialized RX5, Cond.code yX5_size cX5_size 1 (some .int), Cond.fieldLink RX5 23 "SerialPort$Ring" "size" "I", Cond.methodLink RX8 147 yX2_runIsHigh, Cond.instanceMethod yX2_runIsHigh, Cond.selects RX2 yX2_runIsHigh yX2_runIsHigh, Cond.code yX2_runIsHigh cX2_runIsHigh 2 (some .boolean), Cond.methodLink RX2 39 yX2_fromEnd, Cond.instanceMethod yX2_fromEnd, Cond.selects RX2 yX2_fromEnd yX2_fromEnd, Cond.code yX2_fromEnd cX2_fromEnd 2 (some .int), Cond.methodLink RX2 56 yX5_at, Cond.instanceMethod yX5_at, Cond.selects RX5 yX5_at yX5_at]
def wsX8_run_r2 : List Cond := [Cond.code yX5_at cX5_at 3 (some .int), Cond.fieldLink RX5 13 "SerialPort$Ring" "cells" "[I", Cond.methodLink RX5 26 yX5_cellOf, Cond.instanceMethod yX5_cellOf, Cond.selects RX5 yX5_cellOf yX5_cellOf, Cond.code yX5_cellOf cX5_cellOf 3 (some .int), Cond.fieldLink RX5 19 "SerialPort$Ring" "head" "I", Cond.methodLink RX8 151 yX2_runBeats, Cond.instanceMethod yX2_runBeats, Cond.selects RX2 yX2_runBeats yX2_runBeats, Cond.code yX2_runBeats cX2_runBeats 2 (some .int)]
def wsX8_run : List Cond := .code yX8_run cX8_run 3 (some .int) :: ((wsX8_run_r1 ++ wsX8_run_r2) ++ wsX80 ++ wsX20 ++ wsX50)
def wsX9_reset_r1 : List Cond := [Cond.fieldLink RX9 35 "SerialPortModel" "thrown" "I", Cond.fieldLink RX9 39 "SerialPortModel" "divisor" "I", Cond.fieldLink RX9 42 "SerialPortModel" "clocks" "I", Cond.fieldLink RX9 45 "SerialPortModel" "wanted" "I", Cond.fieldLink RX9 48 "SerialPortModel" "rowsOn" "Z", Cond.fieldLink RX9 52 "SerialPortModel" "level" "I", Cond.fieldLink RX9 55 "SerialPortModel" "form" "I", Cond.fieldLink RX9 58 "SerialPortModel" "outputs" "I", Cond.fieldLink RX9 61 "SerialPortModel" "byteKept" "I", Cond.fieldLink RX9 64 "SerialPortModel" "ins" "I", Cond.fieldLink RX9 67 "SerialPortModel" "changed" "I", Cond.fieldLink RX9 70 "SerialPortModel" "receivedMany" "I", Cond.fieldLink RX9 73 "SerialPortModel" "overrun" "Z", Cond.fieldLink RX9 76 "SerialPortModel" "sendingMany" "I", Cond.fieldLink RX9 79 "SerialPortModel" "emptyUp" "Z", Cond.fieldLink RX9 82 "SerialPortModel" "lateUp" "Z", Cond.fieldLink RX9 85 "SerialPortModel" "lateCount" "I", Cond.fieldLink RX9 88 "SerialPortModel" "waveMany" "I", Cond.fieldLink RX9 91 "SerialPortModel" "lineIn" "Z", Cond.fieldLink RX9 94 "SerialPortModel" "sends" "Z", Cond.fieldLink RX9 97 "SerialPortModel" "senderHigh" "Z", Cond.fieldLink RX9 100 "SerialPortModel" "takes" "Z", Cond.fieldLink RX9 103 "SerialPortModel" "sawHigh" "Z", Cond.fieldLink RX9 106 "SerialPortModel" "beats" "I"]
def wsX9_reset_r2 : List Cond := [Cond.fieldLink RX9 109 "SerialPortModel" "out" "Z", Cond.fieldLink RX9 112 "SerialPortModel" "runs" "I"]
def wsX9_reset : List Cond := .code yX9_reset cX9_reset 1 none :: ((wsX9_reset_r1 ++ wsX9_reset_r2) ++ wsX90)
def wsX9_init_r1 : List Cond := [Cond.methodLink RX9 1 objectInit, Cond.instanceMethod objectInit, Cond.code objectInit ⟨#[0xb1]⟩ 1 none, Cond.arrayClass .int, Cond.fieldLink RX9 9 "SerialPortModel" "received" "[I", Cond.fieldLink RX9 13 "SerialPortModel" "marks" "[I", Cond.fieldLink RX9 16 "SerialPortModel" "sending" "[I", Cond.arrayClass .boolean, Cond.fieldLink RX9 19 "SerialPortModel" "waveHigh" "[Z", Cond.fieldLink RX9 23 "SerialPortModel" "waveBeats" "[I", Cond.fieldLink RX9 26 "SerialPortModel" "runHigh" "[Z", Cond.fieldLink RX9 29 "SerialPortModel" "runBeats" "[I", Cond.methodLink RX9 32 yX9_reset, Cond.instanceMethod yX9_reset, Cond.selects RX9 yX9_reset yX9_reset, Cond.initialized RX9, Cond.code yX9_reset cX9_reset 1 none, Cond.fieldLink RX9 35 "SerialPortModel" "thrown" "I", Cond.fieldLink RX9 39 "SerialPortModel" "divisor" "I", Cond.fieldLink RX9 42 "SerialPortModel" "clocks" "I", Cond.fieldLink RX9 45 "SerialPortModel" "wanted" "I", Cond.fieldLink RX9 48 "SerialPortModel" "rowsOn" "Z", Cond.fieldLink RX9 52 "SerialPortModel" "level" "I", Cond.fieldLink RX9 55 "SerialPortModel" "form" "I"]
def wsX9_init_r2 : List Cond := [Cond.fieldLink RX9 58 "SerialPortModel" "outputs" "I", Cond.fieldLink RX9 61 "SerialPortModel" "byteKept" "I", Cond.fieldLink RX9 64 "SerialPortModel" "ins" "I", Cond.fieldLink RX9 67 "SerialPortModel" "changed" "I", Cond.fieldLink RX9 70 "SerialPortModel" "receivedMany" "I", Cond.fieldLink RX9 73 "SerialPortModel" "overrun" "Z", Cond.fieldLink RX9 76 "SerialPortModel" "sendingMany" "I", Cond.fieldLink RX9 79 "SerialPortModel" "emptyUp" "Z", Cond.fieldLink RX9 82 "SerialPortModel" "lateUp" "Z", Cond.fieldLink RX9 85 "SerialPortModel" "lateCount" "I", Cond.fieldLink RX9 88 "SerialPortModel" "waveMany" "I", Cond.fieldLink RX9 91 "SerialPortModel" "lineIn" "Z", Cond.fieldLink RX9 94 "SerialPortModel" "sends" "Z", Cond.fieldLink RX9 97 "SerialPortModel" "senderHigh" "Z", Cond.fieldLink RX9 100 "SerialPortModel" "takes" "Z", Cond.fieldLink RX9 103 "SerialPortModel" "sawHigh" "Z", Cond.fieldLink RX9 106 "SerialPortModel" "beats" "I", Cond.fieldLink RX9 109 "SerialPortModel" "out" "Z", Cond.fieldLink RX9 112 "SerialPortModel" "runs" "I"]
def wsX9_init : List Cond := .code yX9_init cX9_init 1 none :: ((wsX9_init_r1 ++ wsX9_init_r2) ++ wsX90)
def wsX9_thrown : List Cond := .code yX9_thrown cX9_thrown 1 (some .int) :: ([.fieldLink RX9 35 "SerialPortModel" "thrown" "I"] ++ wsX90)
def wsX9_dlab : List Cond := .code yX9_dlab cX9_dlab 1 (some .boolean) :: ([.fieldLink RX9 55 "SerialPortModel" "form" "I"] ++ wsX90)
def wsX9_loops : List Cond := .code yX9_loops cX9_loops 1 (some .boolean) :: ([.fieldLink RX9 58 "SerialPortModel" "outputs" "I"] ++ wsX90)
def wsX9_room : List Cond := .code yX9_room cX9_room 1 (some .int) :: ([.fieldLink RX9 48 "SerialPortModel" "rowsOn" "Z"] ++ wsX90)
def wsX9_bitsOf : List Cond := .code yX9_bitsOf cX9_bitsOf 1 (some .int) :: ([])
def wsX9_hasParity : List Cond := .code yX9_hasParity cX9_hasParity 1 (some .boolean) :: ([])
def wsX9_parityOf : List Cond := .code yX9_parityOf cX9_parityOf 3 (some .int) :: ([.methodLink RX9 115 yX9_bitsOf, .static yX9_bitsOf, .initialized RX9, .code yX9_bitsOf cX9_bitsOf 1 (some .int), .methodLink RX9 119 yJ6_bitCount_0f7a4, .static yJ6_bitCount_0f7a4, .initialized RJ6, .code yJ6_bitCount_0f7a4 cJ6_bitCount_0f7a4 1 (some .int), .constant RJ6 265 (1431655765), .constant RJ6 266 (858993459), .constant RJ6 267 (252645135)])
def wsX9_stopOf : List Cond := .code yX9_stopOf cX9_stopOf 1 (some .int) :: ([.methodLink RX9 115 yX9_bitsOf, .static yX9_bitsOf, .initialized RX9, .code yX9_bitsOf cX9_bitsOf 1 (some .int)])
def wsX9_frameOf : List Cond := .code yX9_frameOf cX9_frameOf 1 (some .int) :: ([.methodLink RX9 115 yX9_bitsOf, .static yX9_bitsOf, .initialized RX9, .code yX9_bitsOf cX9_bitsOf 1 (some .int), .methodLink RX9 124 yX9_hasParity, .static yX9_hasParity, .code yX9_hasParity cX9_hasParity 1 (some .boolean), .methodLink RX9 128 yX9_stopOf, .static yX9_stopOf, .code yX9_stopOf cX9_stopOf 1 (some .int)])
def wsX9_partOf : List Cond := .code yX9_partOf cX9_partOf 4 (some .boolean) :: ([.methodLink RX9 115 yX9_bitsOf, .static yX9_bitsOf, .initialized RX9, .code yX9_bitsOf cX9_bitsOf 1 (some .int), .methodLink RX9 124 yX9_hasParity, .static yX9_hasParity, .code yX9_hasParity cX9_hasParity 1 (some .boolean), .methodLink RX9 131 yX9_parityOf, .static yX9_parityOf, .code yX9_parityOf cX9_parityOf 3 (some .int), .methodLink RX9 119 yJ6_bitCount_0f7a4, .static yJ6_bitCount_0f7a4, .initialized RJ6, .code yJ6_bitCount_0f7a4 cJ6_bitCount_0f7a4 1 (some .int), .constant RJ6 265 (1431655765), .constant RJ6 266 (858993459), .constant RJ6 267 (252645135)])
def wsX9_lines : List Cond := .code yX9_lines cX9_lines 1 (some .int) :: ([.fieldLink RX9 64 "SerialPortModel" "ins" "I", .fieldLink RX9 58 "SerialPortModel" "outputs" "I", .methodLink RX9 135 yX9_loops, .instanceMethod yX9_loops, .selects RX9 yX9_loops yX9_loops, .initialized RX9, .code yX9_loops cX9_loops 1 (some .boolean)] ++ wsX90)
def wsX9_notice : List Cond := .code yX9_notice cX9_notice 4 none :: ([.fieldLink RX9 67 "SerialPortModel" "changed" "I", .methodLink RX9 139 yX9_lines, .instanceMethod yX9_lines, .selects RX9 yX9_lines yX9_lines, .initialized RX9, .code yX9_lines cX9_lines 1 (some .int), .fieldLink RX9 64 "SerialPortModel" "ins" "I", .fieldLink RX9 58 "SerialPortModel" "outputs" "I", .methodLink RX9 135 yX9_loops, .instanceMethod yX9_loops, .selects RX9 yX9_loops yX9_loops, .code yX9_loops cX9_loops 1 (some .boolean)] ++ wsX90)
def wsX9_inputs : List Cond := .code yX9_inputs cX9_inputs 3 (some .boolean) :: ([.fieldLink RX9 35 "SerialPortModel" "thrown" "I", .fieldLink RX9 64 "SerialPortModel" "ins" "I", .methodLink RX9 139 yX9_lines, .instanceMethod yX9_lines, .selects RX9 yX9_lines yX9_lines, .initialized RX9, .code yX9_lines cX9_lines 1 (some .int), .fieldLink RX9 58 "SerialPortModel" "outputs" "I", .methodLink RX9 135 yX9_loops, .instanceMethod yX9_loops, .selects RX9 yX9_loops yX9_loops, .code yX9_loops cX9_loops 1 (some .boolean), .methodLink RX9 143 yX9_notice, .instanceMethod yX9_notice, .selects RX9 yX9_notice yX9_notice, .code yX9_notice cX9_notice 4 none, .fieldLink RX9 67 "SerialPortModel" "changed" "I"] ++ wsX90)
def wsX9_clearReceived : List Cond := .code yX9_clearReceived cX9_clearReceived 1 none :: ([.fieldLink RX9 70 "SerialPortModel" "receivedMany" "I", .fieldLink RX9 82 "SerialPortModel" "lateUp" "Z", .fieldLink RX9 85 "SerialPortModel" "lateCount" "I"] ++ wsX90)
def wsX9_write_r1 : List Cond := [Cond.fieldLink RX9 35 "SerialPortModel" "thrown" "I", Cond.fieldLink RX9 39 "SerialPortModel" "divisor" "I", Cond.constant RX9 150 (65280), Cond.fieldLink RX9 42 "SerialPortModel" "clocks" "I", Cond.fieldLink RX9 79 "SerialPortModel" "emptyUp" "Z", Cond.fieldLink RX9 76 "SerialPortModel" "sendingMany" "I", Cond.fieldLink RX9 16 "SerialPortModel" "sending" "[I", Cond.fieldLink RX9 48 "SerialPortModel" "rowsOn" "Z", Cond.fieldLink RX9 45 "SerialPortModel" "wanted" "I", Cond.fieldLink RX9 52 "SerialPortModel" "level" "I", Cond.fieldLink RX9 55 "SerialPortModel" "form" "I", Cond.fieldLink RX9 58 "SerialPortModel" "outputs" "I", Cond.fieldLink RX9 61 "SerialPortModel" "byteKept" "I", Cond.methodLink RX9 139 yX9_lines, Cond.instanceMethod yX9_lines, Cond.selects RX9 yX9_lines yX9_lines, Cond.initialized RX9, Cond.code yX9_lines cX9_lines 1 (some .int), Cond.fieldLink RX9 64 "SerialPortModel" "ins" "I", Cond.methodLink RX9 135 yX9_loops, Cond.instanceMethod yX9_loops, Cond.selects RX9 yX9_loops yX9_loops, Cond.code yX9_loops cX9_loops 1 (some .boolean), Cond.methodLink RX9 147 yX9_dlab]
def wsX9_write_r2 : List Cond := [Cond.instanceMethod yX9_dlab, Cond.selects RX9 yX9_dlab yX9_dlab, Cond.code yX9_dlab cX9_dlab 1 (some .boolean), Cond.methodLink RX9 151 yX9_room, Cond.instanceMethod yX9_room, Cond.selects RX9 yX9_room yX9_room, Cond.code yX9_room cX9_room 1 (some .int), Cond.methodLink RX9 154 yX9_clearReceived, Cond.instanceMethod yX9_clearReceived, Cond.selects RX9 yX9_clearReceived yX9_clearReceived, Cond.code yX9_clearReceived cX9_clearReceived 1 none, Cond.fieldLink RX9 70 "SerialPortModel" "receivedMany" "I", Cond.fieldLink RX9 82 "SerialPortModel" "lateUp" "Z", Cond.fieldLink RX9 85 "SerialPortModel" "lateCount" "I", Cond.methodLink RX9 143 yX9_notice, Cond.instanceMethod yX9_notice, Cond.selects RX9 yX9_notice yX9_notice, Cond.code yX9_notice cX9_notice 4 none, Cond.fieldLink RX9 67 "SerialPortModel" "changed" "I"]
def wsX9_write : List Cond := .code yX9_write cX9_write 7 none :: ((wsX9_write_r1 ++ wsX9_write_r2) ++ wsX90)
def wsX9_isMarked : List Cond := .code yX9_isMarked cX9_isMarked 1 (some .boolean) :: ([.fieldLink RX9 70 "SerialPortModel" "receivedMany" "I", .fieldLink RX9 13 "SerialPortModel" "marks" "[I"] ++ wsX90)
def wsX9_reason : List Cond := .code yX9_reason cX9_reason 1 (some .int) :: ([.fieldLink RX9 45 "SerialPortModel" "wanted" "I", .fieldLink RX9 73 "SerialPortModel" "overrun" "Z", .fieldLink RX9 70 "SerialPortModel" "receivedMany" "I", .fieldLink RX9 48 "SerialPortModel" "rowsOn" "Z", .fieldLink RX9 52 "SerialPortModel" "level" "I", .fieldLink RX9 82 "SerialPortModel" "lateUp" "Z", .fieldLink RX9 79 "SerialPortModel" "emptyUp" "Z", .fieldLink RX9 67 "SerialPortModel" "changed" "I", .methodLink RX9 157 yX9_isMarked, .instanceMethod yX9_isMarked, .selects RX9 yX9_isMarked yX9_isMarked, .initialized RX9, .code yX9_isMarked cX9_isMarked 1 (some .boolean), .fieldLink RX9 13 "SerialPortModel" "marks" "[I"] ++ wsX90)
def wsX9_line : List Cond := .code yX9_line cX9_line 4 (some .int) :: ([.fieldLink RX9 70 "SerialPortModel" "receivedMany" "I", .fieldLink RX9 73 "SerialPortModel" "overrun" "Z", .fieldLink RX9 13 "SerialPortModel" "marks" "[I", .fieldLink RX9 76 "SerialPortModel" "sendingMany" "I", .fieldLink RX9 94 "SerialPortModel" "sends" "Z", .fieldLink RX9 48 "SerialPortModel" "rowsOn" "Z"] ++ wsX90)
def wsX9_take : List Cond := .code yX9_take cX9_take 3 (some .int) :: ([.fieldLink RX9 82 "SerialPortModel" "lateUp" "Z", .fieldLink RX9 85 "SerialPortModel" "lateCount" "I", .fieldLink RX9 70 "SerialPortModel" "receivedMany" "I", .fieldLink RX9 9 "SerialPortModel" "received" "[I", .fieldLink RX9 13 "SerialPortModel" "marks" "[I"] ++ wsX90)
def wsX9_read_r1 : List Cond := [Cond.fieldLink RX9 35 "SerialPortModel" "thrown" "I", Cond.fieldLink RX9 39 "SerialPortModel" "divisor" "I", Cond.fieldLink RX9 45 "SerialPortModel" "wanted" "I", Cond.fieldLink RX9 79 "SerialPortModel" "emptyUp" "Z", Cond.fieldLink RX9 48 "SerialPortModel" "rowsOn" "Z", Cond.fieldLink RX9 55 "SerialPortModel" "form" "I", Cond.fieldLink RX9 58 "SerialPortModel" "outputs" "I", Cond.fieldLink RX9 67 "SerialPortModel" "changed" "I", Cond.fieldLink RX9 61 "SerialPortModel" "byteKept" "I", Cond.methodLink RX9 147 yX9_dlab, Cond.instanceMethod yX9_dlab, Cond.selects RX9 yX9_dlab yX9_dlab, Cond.initialized RX9, Cond.code yX9_dlab cX9_dlab 1 (some .boolean), Cond.methodLink RX9 160 yX9_take, Cond.instanceMethod yX9_take, Cond.selects RX9 yX9_take yX9_take, Cond.code yX9_take cX9_take 3 (some .int), Cond.fieldLink RX9 82 "SerialPortModel" "lateUp" "Z", Cond.fieldLink RX9 85 "SerialPortModel" "lateCount" "I", Cond.fieldLink RX9 70 "SerialPortModel" "receivedMany" "I", Cond.fieldLink RX9 9 "SerialPortModel" "received" "[I", Cond.fieldLink RX9 13 "SerialPortModel" "marks" "[I", Cond.methodLink RX9 163 yX9_reason]
def wsX9_read_r2 : List Cond := [Cond.instanceMethod yX9_reason, Cond.selects RX9 yX9_reason yX9_reason, Cond.code yX9_reason cX9_reason 1 (some .int), Cond.fieldLink RX9 73 "SerialPortModel" "overrun" "Z", Cond.fieldLink RX9 52 "SerialPortModel" "level" "I", Cond.methodLink RX9 157 yX9_isMarked, Cond.instanceMethod yX9_isMarked, Cond.selects RX9 yX9_isMarked yX9_isMarked, Cond.code yX9_isMarked cX9_isMarked 1 (some .boolean), Cond.methodLink RX9 166 yX9_line, Cond.instanceMethod yX9_line, Cond.selects RX9 yX9_line yX9_line, Cond.code yX9_line cX9_line 4 (some .int), Cond.fieldLink RX9 76 "SerialPortModel" "sendingMany" "I", Cond.fieldLink RX9 94 "SerialPortModel" "sends" "Z", Cond.methodLink RX9 139 yX9_lines, Cond.instanceMethod yX9_lines, Cond.selects RX9 yX9_lines yX9_lines, Cond.code yX9_lines cX9_lines 1 (some .int), Cond.fieldLink RX9 64 "SerialPortModel" "ins" "I", Cond.methodLink RX9 135 yX9_loops, Cond.instanceMethod yX9_loops, Cond.selects RX9 yX9_loops yX9_loops, Cond.code yX9_loops cX9_loops 1 (some .boolean)]
def wsX9_read : List Cond := .code yX9_read cX9_read 3 (some .int) :: ((wsX9_read_r1 ++ wsX9_read_r2) ++ wsX90)
def wsX9_send_r1 : List Cond := [Cond.fieldLink RX9 94 "SerialPortModel" "sends" "Z", Cond.fieldLink RX9 76 "SerialPortModel" "sendingMany" "I", Cond.fieldLink RX9 16 "SerialPortModel" "sending" "[I", Cond.fieldLink RX9 169 "SerialPortModel" "sentCharacter" "I", Cond.fieldLink RX9 79 "SerialPortModel" "emptyUp" "Z", Cond.fieldLink RX9 55 "SerialPortModel" "form" "I", Cond.fieldLink RX9 172 "SerialPortModel" "sentForm" "I", Cond.fieldLink RX9 175 "SerialPortModel" "sentBeat" "I", Cond.fieldLink RX9 97 "SerialPortModel" "senderHigh" "Z", Cond.methodLink RX9 178 yX9_partOf, Cond.static yX9_partOf, Cond.initialized RX9, Cond.code yX9_partOf cX9_partOf 4 (some .boolean), Cond.methodLink RX9 115 yX9_bitsOf, Cond.static yX9_bitsOf, Cond.code yX9_bitsOf cX9_bitsOf 1 (some .int), Cond.methodLink RX9 124 yX9_hasParity, Cond.static yX9_hasParity, Cond.code yX9_hasParity cX9_hasParity 1 (some .boolean), Cond.methodLink RX9 131 yX9_parityOf, Cond.static yX9_parityOf, Cond.code yX9_parityOf cX9_parityOf 3 (some .int), Cond.methodLink RX9 119 yJ6_bitCount_0f7a4, Cond.static yJ6_bitCount_0f7a4]
def wsX9_send_r2 : List Cond := [Cond.initialized RJ6, Cond.code yJ6_bitCount_0f7a4 cJ6_bitCount_0f7a4 1 (some .int), Cond.constant RJ6 265 (1431655765), Cond.constant RJ6 266 (858993459), Cond.constant RJ6 267 (252645135), Cond.methodLink RX9 182 yX9_frameOf, Cond.static yX9_frameOf, Cond.code yX9_frameOf cX9_frameOf 1 (some .int), Cond.methodLink RX9 128 yX9_stopOf, Cond.static yX9_stopOf, Cond.code yX9_stopOf cX9_stopOf 1 (some .int)]
def wsX9_send : List Cond := .code yX9_send cX9_send 2 none :: ((wsX9_send_r1 ++ wsX9_send_r2) ++ wsX90)
def wsX9_say : List Cond := .code yX9_say cX9_say 2 none :: ([.fieldLink RX9 109 "SerialPortModel" "out" "Z", .fieldLink RX9 112 "SerialPortModel" "runs" "I", .fieldLink RX9 26 "SerialPortModel" "runHigh" "[Z", .fieldLink RX9 29 "SerialPortModel" "runBeats" "[I"] ++ wsX90)
def wsX9_come : List Cond := .code yX9_come cX9_come 2 none :: ([.fieldLink RX9 88 "SerialPortModel" "waveMany" "I", .fieldLink RX9 19 "SerialPortModel" "waveHigh" "[Z", .fieldLink RX9 91 "SerialPortModel" "lineIn" "Z", .fieldLink RX9 23 "SerialPortModel" "waveBeats" "[I"] ++ wsX90)
def wsX9_put : List Cond := .code yX9_put cX9_put 3 none :: ([.fieldLink RX9 70 "SerialPortModel" "receivedMany" "I", .fieldLink RX9 73 "SerialPortModel" "overrun" "Z", .fieldLink RX9 48 "SerialPortModel" "rowsOn" "Z", .fieldLink RX9 9 "SerialPortModel" "received" "[I", .fieldLink RX9 13 "SerialPortModel" "marks" "[I", .fieldLink RX9 85 "SerialPortModel" "lateCount" "I", .methodLink RX9 151 yX9_room, .instanceMethod yX9_room, .selects RX9 yX9_room yX9_room, .initialized RX9, .code yX9_room cX9_room 1 (some .int)] ++ wsX90)
def wsX9_receive_r1 : List Cond := [Cond.fieldLink RX9 97 "SerialPortModel" "senderHigh" "Z", Cond.fieldLink RX9 91 "SerialPortModel" "lineIn" "Z", Cond.fieldLink RX9 100 "SerialPortModel" "takes" "Z", Cond.fieldLink RX9 103 "SerialPortModel" "sawHigh" "Z", Cond.fieldLink RX9 55 "SerialPortModel" "form" "I", Cond.fieldLink RX9 185 "SerialPortModel" "takenForm" "I", Cond.fieldLink RX9 188 "SerialPortModel" "takenBeat" "I", Cond.fieldLink RX9 191 "SerialPortModel" "takenBits" "I", Cond.fieldLink RX9 194 "SerialPortModel" "takenParity" "I", Cond.methodLink RX9 135 yX9_loops, Cond.instanceMethod yX9_loops, Cond.selects RX9 yX9_loops yX9_loops, Cond.initialized RX9, Cond.code yX9_loops cX9_loops 1 (some .boolean), Cond.fieldLink RX9 58 "SerialPortModel" "outputs" "I", Cond.methodLink RX9 115 yX9_bitsOf, Cond.static yX9_bitsOf, Cond.code yX9_bitsOf cX9_bitsOf 1 (some .int), Cond.methodLink RX9 124 yX9_hasParity, Cond.static yX9_hasParity, Cond.code yX9_hasParity cX9_hasParity 1 (some .boolean), Cond.methodLink RX9 131 yX9_parityOf, Cond.static yX9_parityOf, Cond.code yX9_parityOf cX9_parityOf 3 (some .int)]
def wsX9_receive_r2 : List Cond := [Cond.methodLink RX9 119 yJ6_bitCount_0f7a4, Cond.static yJ6_bitCount_0f7a4, Cond.initialized RJ6, Cond.code yJ6_bitCount_0f7a4 cJ6_bitCount_0f7a4 1 (some .int), Cond.constant RJ6 265 (1431655765), Cond.constant RJ6 266 (858993459), Cond.constant RJ6 267 (252645135), Cond.methodLink RX9 197 yX9_put, Cond.instanceMethod yX9_put, Cond.selects RX9 yX9_put yX9_put, Cond.code yX9_put cX9_put 3 none, Cond.fieldLink RX9 70 "SerialPortModel" "receivedMany" "I", Cond.fieldLink RX9 73 "SerialPortModel" "overrun" "Z", Cond.fieldLink RX9 48 "SerialPortModel" "rowsOn" "Z", Cond.fieldLink RX9 9 "SerialPortModel" "received" "[I", Cond.fieldLink RX9 13 "SerialPortModel" "marks" "[I", Cond.fieldLink RX9 85 "SerialPortModel" "lateCount" "I", Cond.methodLink RX9 151 yX9_room, Cond.instanceMethod yX9_room, Cond.selects RX9 yX9_room yX9_room, Cond.code yX9_room cX9_room 1 (some .int)]
def wsX9_receive : List Cond := .code yX9_receive cX9_receive 5 none :: ((wsX9_receive_r1 ++ wsX9_receive_r2) ++ wsX90)
def wsX9_beat_r1 : List Cond := [Cond.fieldLink RX9 106 "SerialPortModel" "beats" "I", Cond.fieldLink RX9 97 "SerialPortModel" "senderHigh" "Z", Cond.fieldLink RX9 55 "SerialPortModel" "form" "I", Cond.fieldLink RX9 70 "SerialPortModel" "receivedMany" "I", Cond.fieldLink RX9 85 "SerialPortModel" "lateCount" "I", Cond.fieldLink RX9 82 "SerialPortModel" "lateUp" "Z", Cond.methodLink RX9 201 yX9_send, Cond.instanceMethod yX9_send, Cond.selects RX9 yX9_send yX9_send, Cond.initialized RX9, Cond.code yX9_send cX9_send 2 none, Cond.fieldLink RX9 94 "SerialPortModel" "sends" "Z", Cond.fieldLink RX9 76 "SerialPortModel" "sendingMany" "I", Cond.fieldLink RX9 16 "SerialPortModel" "sending" "[I", Cond.fieldLink RX9 169 "SerialPortModel" "sentCharacter" "I", Cond.fieldLink RX9 79 "SerialPortModel" "emptyUp" "Z", Cond.fieldLink RX9 172 "SerialPortModel" "sentForm" "I", Cond.fieldLink RX9 175 "SerialPortModel" "sentBeat" "I", Cond.methodLink RX9 178 yX9_partOf, Cond.static yX9_partOf, Cond.code yX9_partOf cX9_partOf 4 (some .boolean), Cond.methodLink RX9 115 yX9_bitsOf, Cond.static yX9_bitsOf, Cond.code yX9_bitsOf cX9_bitsOf 1 (some .int)]
def wsX9_beat_r2 : List Cond := [Cond.methodLink RX9 124 yX9_hasParity, Cond.static yX9_hasParity, Cond.code yX9_hasParity cX9_hasParity 1 (some .boolean), Cond.methodLink RX9 131 yX9_parityOf, Cond.static yX9_parityOf, Cond.code yX9_parityOf cX9_parityOf 3 (some .int), Cond.methodLink RX9 119 yJ6_bitCount_0f7a4, Cond.static yJ6_bitCount_0f7a4, Cond.initialized RJ6, Cond.code yJ6_bitCount_0f7a4 cJ6_bitCount_0f7a4 1 (some .int), Cond.constant RJ6 265 (1431655765), Cond.constant RJ6 266 (858993459), Cond.constant RJ6 267 (252645135), Cond.methodLink RX9 182 yX9_frameOf, Cond.static yX9_frameOf, Cond.code yX9_frameOf cX9_frameOf 1 (some .int), Cond.methodLink RX9 128 yX9_stopOf, Cond.static yX9_stopOf, Cond.code yX9_stopOf cX9_stopOf 1 (some .int), Cond.methodLink RX9 135 yX9_loops, Cond.instanceMethod yX9_loops, Cond.selects RX9 yX9_loops yX9_loops, Cond.code yX9_loops cX9_loops 1 (some .boolean), Cond.fieldLink RX9 58 "SerialPortModel" "outputs" "I"]
def wsX9_beat_r3 : List Cond := [Cond.methodLink RX9 204 yX9_say, Cond.instanceMethod yX9_say, Cond.selects RX9 yX9_say yX9_say, Cond.code yX9_say cX9_say 2 none, Cond.fieldLink RX9 109 "SerialPortModel" "out" "Z", Cond.fieldLink RX9 112 "SerialPortModel" "runs" "I", Cond.fieldLink RX9 26 "SerialPortModel" "runHigh" "[Z", Cond.fieldLink RX9 29 "SerialPortModel" "runBeats" "[I", Cond.methodLink RX9 208 yX9_come, Cond.instanceMethod yX9_come, Cond.selects RX9 yX9_come yX9_come, Cond.code yX9_come cX9_come 2 none, Cond.fieldLink RX9 88 "SerialPortModel" "waveMany" "I", Cond.fieldLink RX9 19 "SerialPortModel" "waveHigh" "[Z", Cond.fieldLink RX9 91 "SerialPortModel" "lineIn" "Z", Cond.fieldLink RX9 23 "SerialPortModel" "waveBeats" "[I", Cond.methodLink RX9 211 yX9_receive, Cond.instanceMethod yX9_receive, Cond.selects RX9 yX9_receive yX9_receive, Cond.code yX9_receive cX9_receive 5 none, Cond.fieldLink RX9 100 "SerialPortModel" "takes" "Z", Cond.fieldLink RX9 103 "SerialPortModel" "sawHigh" "Z", Cond.fieldLink RX9 185 "SerialPortModel" "takenForm" "I", Cond.fieldLink RX9 188 "SerialPortModel" "takenBeat" "I"]
def wsX9_beat_r4 : List Cond := [Cond.fieldLink RX9 191 "SerialPortModel" "takenBits" "I", Cond.fieldLink RX9 194 "SerialPortModel" "takenParity" "I", Cond.methodLink RX9 197 yX9_put, Cond.instanceMethod yX9_put, Cond.selects RX9 yX9_put yX9_put, Cond.code yX9_put cX9_put 3 none, Cond.fieldLink RX9 73 "SerialPortModel" "overrun" "Z", Cond.fieldLink RX9 48 "SerialPortModel" "rowsOn" "Z", Cond.fieldLink RX9 9 "SerialPortModel" "received" "[I", Cond.fieldLink RX9 13 "SerialPortModel" "marks" "[I", Cond.methodLink RX9 151 yX9_room, Cond.instanceMethod yX9_room, Cond.selects RX9 yX9_room yX9_room, Cond.code yX9_room cX9_room 1 (some .int)]
def wsX9_beat : List Cond := .code yX9_beat cX9_beat 1 none :: ((wsX9_beat_r1 ++ (wsX9_beat_r2 ++ (wsX9_beat_r3 ++ wsX9_beat_r4))) ++ wsX90)
def wsX9_clock_r1 : List Cond := [Cond.fieldLink RX9 35 "SerialPortModel" "thrown" "I", Cond.constant RX9 214 (60000), Cond.fieldLink RX9 42 "SerialPortModel" "clocks" "I", Cond.fieldLink RX9 39 "SerialPortModel" "divisor" "I", Cond.methodLink RX9 215 yX9_beat, Cond.instanceMethod yX9_beat, Cond.selects RX9 yX9_beat yX9_beat, Cond.initialized RX9, Cond.code yX9_beat cX9_beat 1 none, Cond.fieldLink RX9 106 "SerialPortModel" "beats" "I", Cond.fieldLink RX9 97 "SerialPortModel" "senderHigh" "Z", Cond.fieldLink RX9 55 "SerialPortModel" "form" "I", Cond.fieldLink RX9 70 "SerialPortModel" "receivedMany" "I", Cond.fieldLink RX9 85 "SerialPortModel" "lateCount" "I", Cond.fieldLink RX9 82 "SerialPortModel" "lateUp" "Z", Cond.methodLink RX9 201 yX9_send, Cond.instanceMethod yX9_send, Cond.selects RX9 yX9_send yX9_send, Cond.code yX9_send cX9_send 2 none, Cond.fieldLink RX9 94 "SerialPortModel" "sends" "Z", Cond.fieldLink RX9 76 "SerialPortModel" "sendingMany" "I", Cond.fieldLink RX9 16 "SerialPortModel" "sending" "[I", Cond.fieldLink RX9 169 "SerialPortModel" "sentCharacter" "I", Cond.fieldLink RX9 79 "SerialPortModel" "emptyUp" "Z"]
def wsX9_clock_r2 : List Cond := [Cond.fieldLink RX9 172 "SerialPortModel" "sentForm" "I", Cond.fieldLink RX9 175 "SerialPortModel" "sentBeat" "I", Cond.methodLink RX9 178 yX9_partOf, Cond.static yX9_partOf, Cond.code yX9_partOf cX9_partOf 4 (some .boolean), Cond.methodLink RX9 115 yX9_bitsOf, Cond.static yX9_bitsOf, Cond.code yX9_bitsOf cX9_bitsOf 1 (some .int), Cond.methodLink RX9 124 yX9_hasParity, Cond.static yX9_hasParity, Cond.code yX9_hasParity cX9_hasParity 1 (some .boolean), Cond.methodLink RX9 131 yX9_parityOf, Cond.static yX9_parityOf, Cond.code yX9_parityOf cX9_parityOf 3 (some .int), Cond.methodLink RX9 119 yJ6_bitCount_0f7a4, Cond.static yJ6_bitCount_0f7a4, Cond.initialized RJ6, Cond.code yJ6_bitCount_0f7a4 cJ6_bitCount_0f7a4 1 (some .int), Cond.constant RJ6 265 (1431655765), Cond.constant RJ6 266 (858993459), Cond.constant RJ6 267 (252645135), Cond.methodLink RX9 182 yX9_frameOf, Cond.static yX9_frameOf, Cond.code yX9_frameOf cX9_frameOf 1 (some .int)]
def wsX9_clock_r3 : List Cond := [Cond.methodLink RX9 128 yX9_stopOf, Cond.static yX9_stopOf, Cond.code yX9_stopOf cX9_stopOf 1 (some .int), Cond.methodLink RX9 135 yX9_loops, Cond.instanceMethod yX9_loops, Cond.selects RX9 yX9_loops yX9_loops, Cond.code yX9_loops cX9_loops 1 (some .boolean), Cond.fieldLink RX9 58 "SerialPortModel" "outputs" "I", Cond.methodLink RX9 204 yX9_say, Cond.instanceMethod yX9_say, Cond.selects RX9 yX9_say yX9_say, Cond.code yX9_say cX9_say 2 none, Cond.fieldLink RX9 109 "SerialPortModel" "out" "Z", Cond.fieldLink RX9 112 "SerialPortModel" "runs" "I", Cond.fieldLink RX9 26 "SerialPortModel" "runHigh" "[Z", Cond.fieldLink RX9 29 "SerialPortModel" "runBeats" "[I", Cond.methodLink RX9 208 yX9_come, Cond.instanceMethod yX9_come, Cond.selects RX9 yX9_come yX9_come, Cond.code yX9_come cX9_come 2 none, Cond.fieldLink RX9 88 "SerialPortModel" "waveMany" "I", Cond.fieldLink RX9 19 "SerialPortModel" "waveHigh" "[Z", Cond.fieldLink RX9 91 "SerialPortModel" "lineIn" "Z", Cond.fieldLink RX9 23 "SerialPortModel" "waveBeats" "[I"]
def wsX9_clock_r4 : List Cond := [Cond.methodLink RX9 211 yX9_receive, Cond.instanceMethod yX9_receive, Cond.selects RX9 yX9_receive yX9_receive, Cond.code yX9_receive cX9_receive 5 none, Cond.fieldLink RX9 100 "SerialPortModel" "takes" "Z", Cond.fieldLink RX9 103 "SerialPortModel" "sawHigh" "Z", Cond.fieldLink RX9 185 "SerialPortModel" "takenForm" "I", Cond.fieldLink RX9 188 "SerialPortModel" "takenBeat" "I", Cond.fieldLink RX9 191 "SerialPortModel" "takenBits" "I", Cond.fieldLink RX9 194 "SerialPortModel" "takenParity" "I", Cond.methodLink RX9 197 yX9_put, Cond.instanceMethod yX9_put, Cond.selects RX9 yX9_put yX9_put, Cond.code yX9_put cX9_put 3 none, Cond.fieldLink RX9 73 "SerialPortModel" "overrun" "Z", Cond.fieldLink RX9 48 "SerialPortModel" "rowsOn" "Z", Cond.fieldLink RX9 9 "SerialPortModel" "received" "[I", Cond.fieldLink RX9 13 "SerialPortModel" "marks" "[I", Cond.methodLink RX9 151 yX9_room, Cond.instanceMethod yX9_room, Cond.selects RX9 yX9_room yX9_room, Cond.code yX9_room cX9_room 1 (some .int)]
def wsX9_clock : List Cond := .code yX9_clock cX9_clock 4 (some .int) :: ((wsX9_clock_r1 ++ (wsX9_clock_r2 ++ (wsX9_clock_r3 ++ wsX9_clock_r4))) ++ wsX90)
def wsX9_wave : List Cond := .code yX9_wave cX9_wave 3 (some .int) :: ([.fieldLink RX9 35 "SerialPortModel" "thrown" "I", .fieldLink RX9 88 "SerialPortModel" "waveMany" "I", .fieldLink RX9 19 "SerialPortModel" "waveHigh" "[Z", .fieldLink RX9 23 "SerialPortModel" "waveBeats" "[I"] ++ wsX90)
def wsX9_frame_r1 : List Cond := [Cond.fieldLink RX9 35 "SerialPortModel" "thrown" "I", Cond.fieldLink RX9 55 "SerialPortModel" "form" "I", Cond.fieldLink RX9 88 "SerialPortModel" "waveMany" "I", Cond.fieldLink RX9 19 "SerialPortModel" "waveHigh" "[Z", Cond.fieldLink RX9 23 "SerialPortModel" "waveBeats" "[I", Cond.methodLink RX9 115 yX9_bitsOf, Cond.static yX9_bitsOf, Cond.initialized RX9, Cond.code yX9_bitsOf cX9_bitsOf 1 (some .int), Cond.methodLink RX9 124 yX9_hasParity, Cond.static yX9_hasParity, Cond.code yX9_hasParity cX9_hasParity 1 (some .boolean), Cond.methodLink RX9 178 yX9_partOf, Cond.static yX9_partOf, Cond.code yX9_partOf cX9_partOf 4 (some .boolean), Cond.methodLink RX9 131 yX9_parityOf, Cond.static yX9_parityOf, Cond.code yX9_parityOf cX9_parityOf 3 (some .int), Cond.methodLink RX9 119 yJ6_bitCount_0f7a4, Cond.static yJ6_bitCount_0f7a4, Cond.initialized RJ6, Cond.code yJ6_bitCount_0f7a4 cJ6_bitCount_0f7a4 1 (some .int), Cond.constant RJ6 265 (1431655765), Cond.constant RJ6 266 (858993459)]
def wsX9_frame_r2 : List Cond := [Cond.constant RJ6 267 (252645135), Cond.methodLink RX9 128 yX9_stopOf, Cond.static yX9_stopOf, Cond.code yX9_stopOf cX9_stopOf 1 (some .int)]
def wsX9_frame : List Cond := .code yX9_frame cX9_frame 6 (some .int) :: ((wsX9_frame_r1 ++ wsX9_frame_r2) ++ wsX90)
def wsX9_count_r1 : List Cond := [Cond.fieldLink RX9 35 "SerialPortModel" "thrown" "I", Cond.fieldLink RX9 70 "SerialPortModel" "receivedMany" "I", Cond.fieldLink RX9 76 "SerialPortModel" "sendingMany" "I", Cond.fieldLink RX9 106 "SerialPortModel" "beats" "I", Cond.fieldLink RX9 109 "SerialPortModel" "out" "Z", Cond.fieldLink RX9 88 "SerialPortModel" "waveMany" "I", Cond.fieldLink RX9 112 "SerialPortModel" "runs" "I", Cond.fieldLink RX9 94 "SerialPortModel" "sends" "Z", Cond.fieldLink RX9 100 "SerialPortModel" "takes" "Z", Cond.methodLink RX9 163 yX9_reason, Cond.instanceMethod yX9_reason, Cond.selects RX9 yX9_reason yX9_reason, Cond.initialized RX9, Cond.code yX9_reason cX9_reason 1 (some .int), Cond.fieldLink RX9 45 "SerialPortModel" "wanted" "I", Cond.fieldLink RX9 73 "SerialPortModel" "overrun" "Z", Cond.fieldLink RX9 48 "SerialPortModel" "rowsOn" "Z", Cond.fieldLink RX9 52 "SerialPortModel" "level" "I", Cond.fieldLink RX9 82 "SerialPortModel" "lateUp" "Z", Cond.fieldLink RX9 79 "SerialPortModel" "emptyUp" "Z", Cond.fieldLink RX9 67 "SerialPortModel" "changed" "I", Cond.methodLink RX9 157 yX9_isMarked, Cond.instanceMethod yX9_isMarked, Cond.selects RX9 yX9_isMarked yX9_isMarked]
def wsX9_count_r2 : List Cond := [Cond.code yX9_isMarked cX9_isMarked 1 (some .boolean), Cond.fieldLink RX9 13 "SerialPortModel" "marks" "[I"]
def wsX9_count : List Cond := .code yX9_count cX9_count 2 (some .int) :: ((wsX9_count_r1 ++ wsX9_count_r2) ++ wsX90)
def wsX9_run : List Cond := .code yX9_run cX9_run 4 (some .int) :: ([.fieldLink RX9 35 "SerialPortModel" "thrown" "I", .fieldLink RX9 112 "SerialPortModel" "runs" "I", .fieldLink RX9 29 "SerialPortModel" "runBeats" "[I", .fieldLink RX9 26 "SerialPortModel" "runHigh" "[Z"] ++ wsX90)
def wsJ9_max_7cf53 : List Cond := .code yJ9_max_7cf53 cJ9_max_7cf53 2 (some .int) :: ([])
abbrev vwCl : List vw_C := [(RX0, TX0, 2), (RX1, TX1, 2), (RX2, TX2, 2), (RX3, TX3, 4), (RX4, TX4, 7), (RX5, TX5, 3), (RX6, TX6, 4), (RX8, TX8, 18), (RX9, TX9, 40)]
end
section
/-! The general rows: booleans, the words of the functions, contracts, calls. -/
def bI (b : Bool) : Int32 := match b with
  | true => 1
  | false => 0
theorem bI_t : bI true = 1 := rfl
theorem bI_f : bI false = 0 := rfl
theorem bI_0 {b : Bool} (h : bI b = 0) : b = false := by
  cases b with
  | false => rfl
  | true => exact absurd h (by decide)
theorem bI_n0 {b : Bool} (h : ¬ bI b = 0) : b = true := by
  cases b with
  | true => rfl
  | false => exact absurd rfl h
theorem nar_bI (b : Bool) : narrow .boolean (.int (bI b)) = .int (bI b) := by cases b <;> rfl
theorem vnar_bI (b : Bool) : vp_nar .boolean (bI b) = bI b := by cases b <;> rfl
theorem fit_bI (b : Bool) : fits .boolean (.int (bI b)) = true := by cases b <;> rfl
/-- a value under a name -/
def lt1 {α β : Type} (t : α) (f : α → Option β) : Option β := f t
theorem lt1_el {α β : Type} {t : α} {f : α → Option β} {v : Option β} (h : lt1 t f = v) : ∃ x, x = t ∧ f x = v := ⟨t, rfl, h⟩
/-- behind a call -/
def bd {α β : Type} (x : Option α) (f : α → Option β) : Option β := match x with
  | none => none
  | some u => f u
theorem bd_el {α β : Type} {x : Option α} {f : α → Option β} {v : β} (h : bd x f = some v) : ∃ u, x = some u ∧ f u = some v := by
  cases x with
  | none => cases h
  | some u => exact ⟨u, rfl, h⟩
theorem bd_some {α β : Type} {u : α} {f : α → Option β} : bd (some u) f = f u := rfl
/-- what must hold -/
def gd {β : Type} (c : Prop) [Decidable c] (x : Option β) : Option β := if c then x else none
theorem gd_el {β : Type} {c : Prop} [Decidable c] {x : Option β} {v : β} (h : gd c x = some v) : c ∧ x = some v := by
  unfold gd at h
  by_cases hc : c
  · rw [if_pos hc] at h; exact ⟨hc, h⟩
  · rw [if_neg hc] at h; cases h
theorem gd_t {β : Type} {c : Prop} [Decidable c] {x : Option β} (hc : c) : gd c x = x := if_pos hc
theorem it_t {β : Type} {c : Prop} [Decidable c] {x y v : β} (hc : c) (h : (if c then x else y) = v) : x = v := by rw [if_pos hc] at h; exact h
theorem it_f {β : Type} {c : Prop} [Decidable c] {x y v : β} (hc : ¬ c) (h : (if c then x else y) = v) : y = v := by rw [if_neg hc] at h; exact h
def bt {β : Type} (b : Bool) (x y : β) : β := match b with
  | true => x
  | false => y
theorem bt_t {β : Type} {b : Bool} {x y v : β} (hb : b = true) (h : bt b x y = v) : x = v := by subst hb; exact h
theorem bt_f {β : Type} {b : Bool} {x y v : β} (hb : b = false) (h : bt b x y = v) : y = v := by subst hb; exact h
/-- in range, as a test -/
def inR (i : Int32) (n : Nat) : Bool := !(decide (i < 0) || decide (n ≤ i.toNatClampNeg))
theorem inR_in {i : Int32} {n : Nat} (h : inR i n = true) : vp_in i n := by
  unfold inR at h
  unfold vp_in
  intro hc
  rcases hc with hc | hc <;> simp [hc] at h
theorem inR_of {i : Int32} {n : Nat} (h : vp_in i n) : inR i n = true := by
  unfold vp_in at h
  unfold inR
  have h1 : ¬ i < 0 := fun q => h (Or.inl q)
  have h2 : ¬ n ≤ i.toNatClampNeg := fun q => h (Or.inr q)
  simp only [h1, h2, decide_false, Bool.or_false, Bool.not_false]
theorem i32_of_toInt {x : Int32} {k : Int32} (h : x.toInt = k.toInt) : x = k := Int32.toInt_inj.mp h
/-- cells -/
abbrev cPre (D : va_G) (tys : List (ClassId × FieldType)) (ws : va_W) (sz : Nat) : State → Prop := fun U => U.heap.size = sz ∧ va_P D vwCl ws U.heap ∧ va_K D vwCl tys U ∧ va_D (fun _ => True) ws
abbrev cB (D : va_G) (tys : List (ClassId × FieldType)) (ws : va_W) (A : Nat → Prop) : Unit → State → Prop := fun _ t => va_P D vwCl ws t.heap ∧ va_K D vwCl tys t ∧ va_D A ws
/-- contracts: an int (or a boolean) comes back -/
def MI (l : Launch) (y : MethodName) (w : List Cond) (rm : Room) (D : va_G) (tys : List (ClassId × FieldType)) (av : List Value) (ws ws' : va_W) (r : Int32) : Prop :=
  ∀ sz : Nat, Met l y w rm (va_Pc av (cPre D tys ws sz)) (va_Qi (fun r' (_ : Unit) => r' = r) (cB D tys ws' (va_A ws sz)) (va_A ws sz)) 0 0 (va_A ws sz)
/-- contracts: nothing comes back -/
def MV (l : Launch) (y : MethodName) (w : List Cond) (rm : Room) (D : va_G) (tys : List (ClassId × FieldType)) (av : List Value) (ws ws' : va_W) : Prop :=
  ∀ sz : Nat, Met l y w rm (va_Pc av (cPre D tys ws sz)) (va_Qv (fun _ : Unit => True) (cB D tys ws' (va_A ws sz)) (va_A ws sz)) 0 0 (va_A ws sz)
def QI (below : List Frame) (D : va_G) (tys : List (ClassId × FieldType)) (ws' : va_W) (r : Int32) (args : Array Value) (s : State) (A : Nat → Prop) : State → Prop :=
  MQ below (va_Qi (fun r' (_ : Unit) => r' = r) (cB D tys ws' A) A) args s 0 0 A
def QV (below : List Frame) (D : va_G) (tys : List (ClassId × FieldType)) (ws' : va_W) (args : Array Value) (s : State) (A : Nat → Prop) : State → Prop :=
  MQ below (va_Qv (fun _ : Unit => True) (cB D tys ws' A) A) args s 0 0 A
theorem c_blind {D : va_G} {tys : List (ClassId × FieldType)} {ws : va_W} {sz : Nat} {av : List Value} : FrameBlind (va_Pc av (cPre D tys ws sz)) := fun a U g mk q => by
  obtain ⟨q0, q1, qP, qK, qD⟩ := q
  exact ⟨q0, q1, qP, va_K.moved (u := U) (U := U.calling g mk a) (Vm.Alike.refl U.vm) qK, qD⟩
theorem MI.ofW {l : Launch} {y : MethodName} {w w' : List Cond} {rm : Room} {D : va_G} {tys : List (ClassId × FieldType)} {av : List Value} {ws ws' : va_W} {r : Int32} {cc : ByteArray} {maxL : Nat} {ret : Option FieldType} {lv : List (Nat × Value)}
    (hy : plainName y.cls = true) (hw : w = Cond.code y cc maxL ret :: w') (hav : (lg_sl av).length ≤ maxL) (hlv : lv_args 0 av = lv)
    (body : ∀ (p : Program) (e : Env) (s : State) (m : MethodId) (args : Array Value) (below : List Frame) (meth : Method) (c : Code) (A : Nat → Prop) (ls : Array Slot), p.tables.exec = Jvm.exec → c.code = cc → meth.sig.returnType = ret → c.maxLocals = maxL → (∀ q ∈ w, q.before args s = true) → s.vm.findClass y.cls = some m.cls → meth.locks = false → (∀ q : Nat, s.heap.size ≤ q → A q) → va_K D vwCl tys s → va_P D vwCl ws s.heap → va_D A ws → va_S A s.heap s.heap [] → lv_has ls maxL lv → W p l e rm s m args below meth c s.heap [] 0 0 (QI below D tys ws' r args s A) (F0 m 0 ls [])) : MI l y w rm D tys av ws ws' r := by
  intro sz
  refine Met.ofW (cc := cc) (maxL := maxL) (ret := ret) hy hw ?_
  intro p e s m args below meth c s₁ B hml hv
  obtain ⟨rfl, hsz, hP, hK, hD0⟩ := hv
  have hts := atoms_spec (ws := w) B.pre
  have hown : s.vm.findClass y.cls = some m.cls := findClass_of_methodNamed B.named
  subst hsz
  have hl := lv_entry av (n := maxL) hav
  rw [lg_entry_eq]
  rw [hlv] at hl
  exact body p e s m av.toArray below meth c (va_A ws s.heap.size) _ B.exec B.bytes B.returns hml hts hown B.notSynchronized (fun q h => Or.inr h) hK hP (hD0.self (sz := s.heap.size)) va_S.rf hl
theorem MV.ofW {l : Launch} {y : MethodName} {w w' : List Cond} {rm : Room} {D : va_G} {tys : List (ClassId × FieldType)} {av : List Value} {ws ws' : va_W} {cc : ByteArray} {maxL : Nat} {ret : Option FieldType} {lv : List (Nat × Value)}
    (hy : plainName y.cls = true) (hw : w = Cond.code y cc maxL ret :: w') (hav : (lg_sl av).length ≤ maxL) (hlv : lv_args 0 av = lv)
    (body : ∀ (p : Program) (e : Env) (s : State) (m : MethodId) (args : Array Value) (below : List Frame) (meth : Method) (c : Code) (A : Nat → Prop) (ls : Array Slot), p.tables.exec = Jvm.exec → c.code = cc → meth.sig.returnType = ret → c.maxLocals = maxL → (∀ q ∈ w, q.before args s = true) → s.vm.findClass y.cls = some m.cls → meth.locks = false → (∀ q : Nat, s.heap.size ≤ q → A q) → va_K D vwCl tys s → va_P D vwCl ws s.heap → va_D A ws → va_S A s.heap s.heap [] → lv_has ls maxL lv → W p l e rm s m args below meth c s.heap [] 0 0 (QV below D tys ws' args s A) (F0 m 0 ls [])) : MV l y w rm D tys av ws ws' := by
  intro sz
  refine Met.ofW (cc := cc) (maxL := maxL) (ret := ret) hy hw ?_
  intro p e s m args below meth c s₁ B hml hv
  obtain ⟨rfl, hsz, hP, hK, hD0⟩ := hv
  have hts := atoms_spec (ws := w) B.pre
  have hown : s.vm.findClass y.cls = some m.cls := findClass_of_methodNamed B.named
  subst hsz
  have hl := lv_entry av (n := maxL) hav
  rw [lg_entry_eq]
  rw [hlv] at hl
  exact body p e s m av.toArray below meth c (va_A ws s.heap.size) _ B.exec B.bytes B.returns hml hts hown B.notSynchronized (fun q h => Or.inr h) hK hP (hD0.self (sz := s.heap.size)) va_S.rf hl
theorem fm_of {α β : Type} {f : α → Option β} : ∀ {is : List α} {wc : List β}, is.map f = wc.map some → is.filterMap f = wc
  | [], [], _ => rfl
  | [], _ :: _, h => by cases h
  | _ :: _, [], h => by cases h
  | i :: is, w :: wc, h => by
    simp only [List.map_cons, List.cons.injEq] at h
    rw [List.filterMap_cons, h.1, fm_of h.2]
section Rows2
variable {p : Program} {l : Launch} {e : Env} {R : Room} {s : State} {m : MethodId} {args : Array Value} {below : List Frame} {meth : Method} {c : Code} {H H0 : Heap} {locs : List Loc} {cells slots : Nat} {Q : State → Prop} {cc : ByteArray} {pc : Nat} {ls : Array Slot} {rest : List Value} {A : Nat → Prop} {D : va_G} {tys : List (ClassId × FieldType)} {ws ws' : va_W}
/-- the returns -/
theorem rI {α : Type} {wf : α → va_W} {rf : α → Int32} {u u0 : α} {v : Int32} (hx : p.tables.exec = Jvm.exec) (hb : c.code = cc) (hr : meth.sig.returnType = some .int) (hlocks : meth.locks = false) (hK : va_K D vwCl tys s) (hP : va_P D vwCl (wf u) H) (hD : va_D A (wf u)) (hS : va_S A s.heap H locs) (hF : some u = some u0) (hv : v = rf u) (hdg : decode cc pc = .ok (.ireturn, 1)) :
    W p l e R s m args below meth c H locs 0 0 (QI below D tys (wf u0) (rf u0) args s A) (F0 m pc ls [.int v]) := by
  obtain rfl := Option.some.inj hF
  exact W.iret (v := v) hx hb hr (fun t ht hW => ⟨⟨v, (), rfl, hv, by rw [ht]; exact hP, va_K.moved hW.alike hK, hD⟩, hS.F ht⟩) hS.2.2 hdg
theorem rZ {α : Type} {wf : α → va_W} {rf : α → Bool} {u u0 : α} {v : Int32} (hx : p.tables.exec = Jvm.exec) (hb : c.code = cc) (hr : meth.sig.returnType = some .boolean) (hlocks : meth.locks = false) (hK : va_K D vwCl tys s) (hP : va_P D vwCl (wf u) H) (hD : va_D A (wf u)) (hS : va_S A s.heap H locs) (hF : some u = some u0) (hv : v = bI (rf u)) (hdg : decode cc pc = .ok (.ireturn, 1)) :
    W p l e R s m args below meth c H locs 0 0 (QI below D tys (wf u0) (bI (rf u0)) args s A) (F0 m pc ls [.int v]) := by
  obtain rfl := Option.some.inj hF
  exact W.zret (v := v) hx hb hr (by rw [hv]; exact nar_bI _) (fun t ht hW => ⟨⟨v, (), rfl, hv, by rw [ht]; exact hP, va_K.moved hW.alike hK, hD⟩, hS.F ht⟩) hS.2.2 hdg
theorem rV {α : Type} {wf : α → va_W} {u u0 : α} (hx : p.tables.exec = Jvm.exec) (hb : c.code = cc) (hr : meth.sig.returnType = none) (hlocks : meth.locks = false) (hK : va_K D vwCl tys s) (hP : va_P D vwCl (wf u) H) (hD : va_D A (wf u)) (hS : va_S A s.heap H locs) (hF : some u = some u0) (hdg : decode cc pc = .ok (.return_, 1)) :
    W p l e R s m args below meth c H locs 0 0 (QV below D tys (wf u0) args s A) (F0 m pc ls []) := by
  obtain rfl := Option.some.inj hF
  exact W.vret hx hb hr (fun t ht hW => ⟨⟨(), rfl, trivial, by rw [ht]; exact hP, va_K.moved hW.alike hK, hD⟩, hS.F ht⟩) hS.2.2 hdg
/-- a field written, the world behind it by its name -/
theorem pf {own ref C : String} {T : u_T} {N ci index a : Nat} {Ts : List Cond} {ty0 : Nat → FieldType} (hx : p.tables.exec = Jvm.exec) (hb : c.code = cc) (hts : ∀ w ∈ Ts, w.before args s = true) (hin : ∀ w ∈ u_ws C T N, w ∈ Ts) (hty : ∀ k, k < N → parseFieldDescriptor (T k).2.2.1 = some (ty0 k)) (hnm : ∀ a, a < N → ∀ b, b < N → a ≠ b → (T a).2.1 ≠ (T b).2.1) (hown : s.vm.findClass own = some m.cls) (hK : va_K D vwCl tys s) (hP : va_P D vwCl ws H) (hD : va_D A ws) (hS : va_S A H0 H locs) (q0 : Nat) {fs : List Value} (he : ws[q0]? = some (a, .inr (ci, fs))) (hc : vwCl[ci]? = some (C, T, N)) (k : Nat) (hk : k < N) (hlink : (Cond.fieldLink own index ref (T k).2.1 (T k).2.2.1).before args s = true) (hsame : (T k).1 = ref) (hfin : (T k).2.2.2 = false) {ty : FieldType} {v : Value} (hd : parseFieldDescriptor (T k).2.2.1 = some ty) (hn : narrow ty v = v) (hfit : fits ty v = true) (hl : k < fs.length) (hset : ws.set q0 (a, .inr (ci, fs.set k v)) = ws')
    (hdg : decode cc pc = .ok (.putfield index, 3)) (kk : ∀ (H1 : Heap) (locs1 : List Loc), va_P D vwCl ws' H1 → va_D A ws' → va_S A H0 H1 locs1 → W p l e R s m args below meth c H1 locs1 cells slots Q (F0 m (pc + 3) ls rest)) : W p l e R s m args below meth c H locs cells slots Q (F0 m pc ls (v :: .ref a :: rest)) := by
  subst hset
  exact va_put hx hb hts hin ty0 hty hnm hown hK hP hD hS q0 he hc k hk hlink (fun x h => by rw [← hsame]; exact h) hfin hd hn hfit hl hdg kk
/-- ints in an array written -/
theorem ias {a : Nat} (hx : p.tables.exec = Jvm.exec) (hb : c.code = cc) (hK : va_K D vwCl tys s) (hP : va_P D vwCl ws H) (hD : va_D A ws) (hS : va_S A H0 H locs) (q0 t0 : Nat) {cA : ClassId} {n : Nat} {f : Nat → Int32} (ha : ws[q0]? = some (a, .inl (cA, n, .inl f))) (ht : tys[t0]? = some (cA, .int)) {i x : Int32} (hin : inR i n = true) (hset : ws.set q0 (a, .inl (cA, n, .inl (upd f i.toNatClampNeg x))) = ws') (hdg : decode cc pc = .ok (.iastore, 1))
    (kk : ∀ (H1 : Heap) (locs1 : List Loc), va_P D vwCl ws' H1 → va_D A ws' → va_S A H0 H1 locs1 → W p l e R s m args below meth c H1 locs1 cells slots Q (F0 m (pc + 1) ls rest)) : W p l e R s m args below meth c H locs cells slots Q (F0 m pc ls (.int x :: .int i :: .ref a :: rest)) := by
  subst hset
  exact va_iast hx hb hK hP hD hS q0 t0 ha ht (inR_in hin) hdg kk
/-- booleans in an array: what the cell holds -/
def bF (f : Nat → Bool) : Nat → Int32 := fun j => bI (f j)
theorem bF_up (f : Nat → Bool) (k : Nat) (x : Bool) : upd (bF f) k (vp_nar .boolean (bI x)) = bF (va_up f k x) := by
  funext j
  rw [vnar_bI]
  unfold upd bF va_up
  by_cases h : j = k
  · simp [h]
  · simp [h]
theorem zas {a : Nat} (hx : p.tables.exec = Jvm.exec) (hb : c.code = cc) (hK : va_K D vwCl tys s) (hP : va_P D vwCl ws H) (hD : va_D A ws) (hS : va_S A H0 H locs) (q0 t0 : Nat) {cA : ClassId} {n : Nat} {f : Nat → Bool} (ha : ws[q0]? = some (a, .inl (cA, n, .inl (bF f)))) (ht : tys[t0]? = some (cA, .boolean)) {i : Int32} {x : Bool} {xv : Int32} (hxv : xv = bI x) (hin : inR i n = true) (hset : ws.set q0 (a, .inl (cA, n, .inl (bF (va_up f i.toNatClampNeg x)))) = ws') (hdg : decode cc pc = .ok (.bastore, 1))
    (kk : ∀ (H1 : Heap) (locs1 : List Loc), va_P D vwCl ws' H1 → va_D A ws' → va_S A H0 H1 locs1 → W p l e R s m args below meth c H1 locs1 cells slots Q (F0 m (pc + 1) ls rest)) : W p l e R s m args below meth c H locs cells slots Q (F0 m pc ls (.int xv :: .int i :: .ref a :: rest)) := by
  subst hset
  subst hxv
  refine va_zast hx hb hK hP hD hS q0 t0 ha ht (inR_in hin) hdg (fun H1 locs1 h1 h2 h3 => ?_)
  rw [bF_up] at h1 h2
  exact kk H1 locs1 h1 h2 h3
theorem cI_core {tysC : List (ClassId × FieldType)} {st0 : List Value} {wc wr w1 : va_W} {r rv : Int32} {a : Array Value} (hr : va_Run p l e R s m args below meth c H locs cells slots 0 0 (F0 m pc ls st0) rest (va_Qi (fun r' (_ : Unit) => r' = r) (cB D tysC w1 (va_A wc H.size)) (va_A wc H.size) a) (va_A wc H.size))
    (hK : va_K D vwCl tys s) (hP : va_P D vwCl ws H) (hD : va_D A ws) (hS : va_S A H0 H locs) (hA : ∀ q, H0.size ≤ q → A q) (isT isC isR isN : List Nat) (hT : isT.filterMap (fun i => tys[i]?) = tysC) (hCs : isC.map (fun i => ws[i]?) = wc.map some) (hR : isR.map (fun i => ws[i]?) = wr.map some) (hnn : (va_nd isR && va_nd isC && va_nd isN && isR.all (fun i => !(isC.contains i))) = true) (hN : isN.map (fun i => (wr ++ w1)[i]?) = ws'.map some) (hrv : r = rv)
    (kk : ∀ (H1 : Heap) (locs1 : List Loc), va_P D vwCl ws' H1 → va_D A ws' → va_S A H0 H1 locs1 → W p l e R s m args below meth c H1 locs1 cells slots Q (F0 m (pc + 3) ls (.int rv :: rest))) : W p l e R s m args below meth c H locs cells slots Q (F0 m pc ls st0) := by
  simp only [Bool.and_eq_true, List.all_eq_true] at hnn
  obtain ⟨⟨⟨hn1, hn2⟩, hn3⟩, hdis0⟩ := hnn
  have hdis : ∀ i ∈ isR, i ∉ isC := fun i hi hc => by
    have h := hdis0 i hi
    rw [List.contains_iff_mem.mpr hc] at h
    cases h
  have hFc := va_free (wc := wc) hD hS hA isC hCs
  subst hrv
  refine va_calli hr hS (fun q _ h => hFc q h) hFc (fun r1 u t H1 locs1 ht hvm hw hB hz1 hk1 hS1 => ?_)
  obtain ⟨hP1, hK1, hD1⟩ := hB
  rw [ht] at hP1
  obtain ⟨hP2, hD2⟩ := va_join (wr := wr) (w1 := w1) hP hD isC isR hCs hR hn1 hdis hk1 hFc hP1 hD1
  subst hw
  exact kk H1 locs1 (hP2.sub isN (fm_of hN)) (hD2.sub isN hn3 hN) hS1
theorem cV_core {tysC : List (ClassId × FieldType)} {st0 : List Value} {wc wr w1 : va_W} {a : Array Value} (hr : va_Run p l e R s m args below meth c H locs cells slots 0 0 (F0 m pc ls st0) rest (va_Qv (fun _ : Unit => True) (cB D tysC w1 (va_A wc H.size)) (va_A wc H.size) a) (va_A wc H.size))
    (hK : va_K D vwCl tys s) (hP : va_P D vwCl ws H) (hD : va_D A ws) (hS : va_S A H0 H locs) (hA : ∀ q, H0.size ≤ q → A q) (isT isC isR isN : List Nat) (hT : isT.filterMap (fun i => tys[i]?) = tysC) (hCs : isC.map (fun i => ws[i]?) = wc.map some) (hR : isR.map (fun i => ws[i]?) = wr.map some) (hnn : (va_nd isR && va_nd isC && va_nd isN && isR.all (fun i => !(isC.contains i))) = true) (hN : isN.map (fun i => (wr ++ w1)[i]?) = ws'.map some)
    (kk : ∀ (H1 : Heap) (locs1 : List Loc), va_P D vwCl ws' H1 → va_D A ws' → va_S A H0 H1 locs1 → W p l e R s m args below meth c H1 locs1 cells slots Q (F0 m (pc + 3) ls rest)) : W p l e R s m args below meth c H locs cells slots Q (F0 m pc ls st0) := by
  simp only [Bool.and_eq_true, List.all_eq_true] at hnn
  obtain ⟨⟨⟨hn1, hn2⟩, hn3⟩, hdis0⟩ := hnn
  have hdis : ∀ i ∈ isR, i ∉ isC := fun i hi hc => by
    have h := hdis0 i hi
    rw [List.contains_iff_mem.mpr hc] at h
    cases h
  have hFc := va_free (wc := wc) hD hS hA isC hCs
  refine va_callv hr hS (fun q _ h => hFc q h) hFc (fun u t H1 locs1 ht hvm hw hB hz1 hk1 hS1 => ?_)
  obtain ⟨hP1, hK1, hD1⟩ := hB
  rw [ht] at hP1
  obtain ⟨hP2, hD2⟩ := va_join (wr := wr) (w1 := w1) hP hD isC isR hCs hR hn1 hdis hk1 hFc hP1 hD1
  exact kk H1 locs1 (hP2.sub isN (fm_of hN)) (hD2.sub isN hn3 hN) hS1
theorem cVI {Ts w : List Cond} {nL index maxL n b q0 ci : Nat} {own C : String} {y : MethodName} {bytes : ByteArray} {ret : Option FieldType} {rm : Room} {tysC : List (ClassId × FieldType)} {As st0 : List Value} {wc wr w1 : va_W} {r rv : Int32} {fs : List Value} {q : vw_C} (S : CallFix p m c cc nL s args Ts own) (hM : MI l y w rm D tysC (.ref b :: As) wc w1 r) (cw : CallW R s args own C index y bytes maxL ret w rm 0 0 n)
    (hK : va_K D vwCl tys s) (hP : va_P D vwCl ws H) (hD : va_D A ws) (hS : va_S A H0 H locs) (hA : ∀ q, H0.size ≤ q → A q) (isT isC isR isN : List Nat) (hT : isT.filterMap (fun i => tys[i]?) = tysC) (hCs : isC.map (fun i => ws[i]?) = wc.map some) (hR : isR.map (fun i => ws[i]?) = wr.map some) (hnn : (va_nd isR && va_nd isC && va_nd isN && isR.all (fun i => !(isC.contains i))) = true) (hN : isN.map (fun i => (wr ++ w1)[i]?) = ws'.map some) (hc : vwCl[ci]? = some q) (hq : q.1 = C) (he : ws[q0]? = some (b, .inr (ci, fs))) (hn : As.length = n) (hsize : ls.size = nL) (hstack : st0 = As.reverse ++ .ref b :: rest) (hrm : (rest.map fun v => v.category).sum ≤ 8) (hrv : r = rv) (hdg : decode cc pc = .ok (.invokevirtual index, 3)) (hcl : cells ≤ R.cells ∧ slots ≤ R.slots)
    (kk : ∀ (H1 : Heap) (locs1 : List Loc), va_P D vwCl ws' H1 → va_D A ws' → va_S A H0 H1 locs1 → W p l e R s m args below meth c H1 locs1 cells slots Q (F0 m (pc + 3) ls (.int rv :: rest))) : W p l e R s m args below meth c H locs cells slots Q (F0 m pc ls st0) := by
  have hPc := hP.sub (ws' := wc) isC (fm_of hCs)
  have hDc : va_D A wc := hD.sub (ws' := wc) isC (by
    simp only [Bool.and_eq_true] at hnn
    exact hnn.1.1.2) hCs
  have hKc := hK.sub (tys' := tysC) isT hT
  have hpre : ∀ U : State, U.heap = H → s.WarmedH U.vm → va_Pc (.ref b :: As) (cPre D tysC wc H.size) ((.ref b :: As) : List Value).toArray U := fun U hU hW => ⟨rfl, by rw [hU], by rw [hU]; exact hPc, va_K.moved hW.alike hKc, hDc.weaken (fun _ _ _ _ => trivial)⟩
  exact cI_core (va_runV (As := As) (rest := rest) S (hM H.size) cw ⟨c_blind, by rw [← hq]; exact va_recv hK hP hc he, hpre⟩ rfl hn hsize hstack (lv_room hrm) hdg ⟨hcl.1, hcl.2⟩) hK hP hD hS hA isT isC isR isN hT hCs hR hnn hN hrv kk
theorem cVV {Ts w : List Cond} {nL index maxL n b q0 ci : Nat} {own C : String} {y : MethodName} {bytes : ByteArray} {ret : Option FieldType} {rm : Room} {tysC : List (ClassId × FieldType)} {As st0 : List Value} {wc wr w1 : va_W} {fs : List Value} {q : vw_C} (S : CallFix p m c cc nL s args Ts own) (hM : MV l y w rm D tysC (.ref b :: As) wc w1) (cw : CallW R s args own C index y bytes maxL ret w rm 0 0 n)
    (hK : va_K D vwCl tys s) (hP : va_P D vwCl ws H) (hD : va_D A ws) (hS : va_S A H0 H locs) (hA : ∀ q, H0.size ≤ q → A q) (isT isC isR isN : List Nat) (hT : isT.filterMap (fun i => tys[i]?) = tysC) (hCs : isC.map (fun i => ws[i]?) = wc.map some) (hR : isR.map (fun i => ws[i]?) = wr.map some) (hnn : (va_nd isR && va_nd isC && va_nd isN && isR.all (fun i => !(isC.contains i))) = true) (hN : isN.map (fun i => (wr ++ w1)[i]?) = ws'.map some) (hc : vwCl[ci]? = some q) (hq : q.1 = C) (he : ws[q0]? = some (b, .inr (ci, fs))) (hn : As.length = n) (hsize : ls.size = nL) (hstack : st0 = As.reverse ++ .ref b :: rest) (hrm : (rest.map fun v => v.category).sum ≤ 8) (hdg : decode cc pc = .ok (.invokevirtual index, 3)) (hcl : cells ≤ R.cells ∧ slots ≤ R.slots)
    (kk : ∀ (H1 : Heap) (locs1 : List Loc), va_P D vwCl ws' H1 → va_D A ws' → va_S A H0 H1 locs1 → W p l e R s m args below meth c H1 locs1 cells slots Q (F0 m (pc + 3) ls rest)) : W p l e R s m args below meth c H locs cells slots Q (F0 m pc ls st0) := by
  have hPc := hP.sub (ws' := wc) isC (fm_of hCs)
  have hDc : va_D A wc := hD.sub (ws' := wc) isC (by
    simp only [Bool.and_eq_true] at hnn
    exact hnn.1.1.2) hCs
  have hKc := hK.sub (tys' := tysC) isT hT
  have hpre : ∀ U : State, U.heap = H → s.WarmedH U.vm → va_Pc (.ref b :: As) (cPre D tysC wc H.size) ((.ref b :: As) : List Value).toArray U := fun U hU hW => ⟨rfl, by rw [hU], by rw [hU]; exact hPc, va_K.moved hW.alike hKc, hDc.weaken (fun _ _ _ _ => trivial)⟩
  exact cV_core (va_runV (As := As) (rest := rest) S (hM H.size) cw ⟨c_blind, by rw [← hq]; exact va_recv hK hP hc he, hpre⟩ rfl hn hsize hstack (lv_room hrm) hdg ⟨hcl.1, hcl.2⟩) hK hP hD hS hA isT isC isR isN hT hCs hR hnn hN kk
theorem cSI {Ts w : List Cond} {nL index maxL n : Nat} {own : String} {y : MethodName} {bytes : ByteArray} {ret : Option FieldType} {rm : Room} {tysC : List (ClassId × FieldType)} {As st0 : List Value} {wc wr w1 : va_W} {r rv : Int32} (S : CallFix p m c cc nL s args Ts own) (hM : MI l y w rm D tysC As wc w1 r) (cw : CallB R s args own index y bytes maxL ret w rm 0 0 n ∧ (Cond.static y).before args s = true)
    (hK : va_K D vwCl tys s) (hP : va_P D vwCl ws H) (hD : va_D A ws) (hS : va_S A H0 H locs) (hA : ∀ q, H0.size ≤ q → A q) (isT isC isR isN : List Nat) (hT : isT.filterMap (fun i => tys[i]?) = tysC) (hCs : isC.map (fun i => ws[i]?) = wc.map some) (hR : isR.map (fun i => ws[i]?) = wr.map some) (hnn : (va_nd isR && va_nd isC && va_nd isN && isR.all (fun i => !(isC.contains i))) = true) (hN : isN.map (fun i => (wr ++ w1)[i]?) = ws'.map some) (hn : As.length = n) (hsize : ls.size = nL) (hstack : st0 = As.reverse ++ rest) (hrm : (rest.map fun v => v.category).sum ≤ 8) (hrv : r = rv) (hdg : decode cc pc = .ok (.invokestatic index, 3)) (hcl : cells ≤ R.cells ∧ slots ≤ R.slots)
    (kk : ∀ (H1 : Heap) (locs1 : List Loc), va_P D vwCl ws' H1 → va_D A ws' → va_S A H0 H1 locs1 → W p l e R s m args below meth c H1 locs1 cells slots Q (F0 m (pc + 3) ls (.int rv :: rest))) : W p l e R s m args below meth c H locs cells slots Q (F0 m pc ls st0) := by
  have hPc := hP.sub (ws' := wc) isC (fm_of hCs)
  have hDc : va_D A wc := hD.sub (ws' := wc) isC (by
    simp only [Bool.and_eq_true] at hnn
    exact hnn.1.1.2) hCs
  have hKc := hK.sub (tys' := tysC) isT hT
  have hpre : ∀ U : State, U.heap = H → s.WarmedH U.vm → va_Pc As (cPre D tysC wc H.size) (As : List Value).toArray U := fun U hU hW => ⟨rfl, by rw [hU], by rw [hU]; exact hPc, va_K.moved hW.alike hKc, hDc.weaken (fun _ _ _ _ => trivial)⟩
  exact cI_core (va_runS (As := As) (rest := rest) S (hM H.size) cw ⟨c_blind, hpre⟩ rfl hn hsize hstack (lv_room hrm) hdg ⟨hcl.1, hcl.2⟩) hK hP hD hS hA isT isC isR isN hT hCs hR hnn hN hrv kk
theorem cSV {Ts w : List Cond} {nL index maxL n : Nat} {own : String} {y : MethodName} {bytes : ByteArray} {ret : Option FieldType} {rm : Room} {tysC : List (ClassId × FieldType)} {As st0 : List Value} {wc wr w1 : va_W} (S : CallFix p m c cc nL s args Ts own) (hM : MV l y w rm D tysC As wc w1) (cw : CallB R s args own index y bytes maxL ret w rm 0 0 n ∧ (Cond.static y).before args s = true)
    (hK : va_K D vwCl tys s) (hP : va_P D vwCl ws H) (hD : va_D A ws) (hS : va_S A H0 H locs) (hA : ∀ q, H0.size ≤ q → A q) (isT isC isR isN : List Nat) (hT : isT.filterMap (fun i => tys[i]?) = tysC) (hCs : isC.map (fun i => ws[i]?) = wc.map some) (hR : isR.map (fun i => ws[i]?) = wr.map some) (hnn : (va_nd isR && va_nd isC && va_nd isN && isR.all (fun i => !(isC.contains i))) = true) (hN : isN.map (fun i => (wr ++ w1)[i]?) = ws'.map some) (hn : As.length = n) (hsize : ls.size = nL) (hstack : st0 = As.reverse ++ rest) (hrm : (rest.map fun v => v.category).sum ≤ 8) (hdg : decode cc pc = .ok (.invokestatic index, 3)) (hcl : cells ≤ R.cells ∧ slots ≤ R.slots)
    (kk : ∀ (H1 : Heap) (locs1 : List Loc), va_P D vwCl ws' H1 → va_D A ws' → va_S A H0 H1 locs1 → W p l e R s m args below meth c H1 locs1 cells slots Q (F0 m (pc + 3) ls rest)) : W p l e R s m args below meth c H locs cells slots Q (F0 m pc ls st0) := by
  have hPc := hP.sub (ws' := wc) isC (fm_of hCs)
  have hDc : va_D A wc := hD.sub (ws' := wc) isC (by
    simp only [Bool.and_eq_true] at hnn
    exact hnn.1.1.2) hCs
  have hKc := hK.sub (tys' := tysC) isT hT
  have hpre : ∀ U : State, U.heap = H → s.WarmedH U.vm → va_Pc As (cPre D tysC wc H.size) (As : List Value).toArray U := fun U hU hW => ⟨rfl, by rw [hU], by rw [hU]; exact hPc, va_K.moved hW.alike hKc, hDc.weaken (fun _ _ _ _ => trivial)⟩
  exact cV_core (va_runS (As := As) (rest := rest) S (hM H.size) cw ⟨c_blind, hpre⟩ rfl hn hsize hstack (lv_room hrm) hdg ⟨hcl.1, hcl.2⟩) hK hP hD hS hA isT isC isR isN hT hCs hR hnn hN kk
end Rows2
end
section
/-! Cells under their names, and small rows for the walks. -/
theorem lt1_x {α β : Type} {y t : α} {f : α → Option β} {v : Option β} (e : y = t) (h : lt1 t f = v) : f y = v := by
  subst e
  exact h
theorem ti_ne {x k : Int32} (h : ¬ x = k) : x.toInt ≠ k.toInt := fun q => h (Int32.toInt_inj.mp q)
theorem tb_out3 {x : Int32} (h0 : ¬ x = 0) (h1 : ¬ x = 1) (h2 : ¬ x = 2) : x.toInt < 0 ∨ 2 < x.toInt := by
  have k0 : x.toInt ≠ 0 := ti_ne h0
  have k1 : x.toInt ≠ 1 := ti_ne h1
  have k2 : x.toInt ≠ 2 := ti_ne h2
  omega
theorem tb_out7 {x : Int32} (h0 : ¬ x = 0) (h1 : ¬ x = 1) (h2 : ¬ x = 2) (h3 : ¬ x = 3) (h4 : ¬ x = 4) (h5 : ¬ x = 5) (h6 : ¬ x = 6) : x.toInt < 0 ∨ 6 < x.toInt := by
  have k0 : x.toInt ≠ 0 := ti_ne h0
  have k1 : x.toInt ≠ 1 := ti_ne h1
  have k2 : x.toInt ≠ 2 := ti_ne h2
  have k3 : x.toInt ≠ 3 := ti_ne h3
  have k4 : x.toInt ≠ 4 := ti_ne h4
  have k5 : x.toInt ≠ 5 := ti_ne h5
  have k6 : x.toInt ≠ 6 := ti_ne h6
  omega
theorem tb_out8 {x : Int32} (h0 : ¬ x = 0) (h1 : ¬ x = 1) (h2 : ¬ x = 2) (h3 : ¬ x = 3) (h4 : ¬ x = 4) (h5 : ¬ x = 5) (h6 : ¬ x = 6) (h7 : ¬ x = 7) : x.toInt < 0 ∨ 7 < x.toInt := by
  have k7 : x.toInt ≠ 7 := ti_ne h7
  have := tb_out7 h0 h1 h2 h3 h4 h5 h6
  omega
theorem tb_out9 {x : Int32} (h0 : ¬ x = 0) (h1 : ¬ x = 1) (h2 : ¬ x = 2) (h3 : ¬ x = 3) (h4 : ¬ x = 4) (h5 : ¬ x = 5) (h6 : ¬ x = 6) (h7 : ¬ x = 7) (h8 : ¬ x = 8) : x.toInt < 0 ∨ 8 < x.toInt := by
  have k8 : x.toInt ≠ 8 := ti_ne h8
  have := tb_out8 h0 h1 h2 h3 h4 h5 h6 h7
  omega
theorem lk_out2 {x : Int32} {o0 o1 dd : Int} (h0 : ¬ x = 0) (h1 : ¬ x = 1) : Op.lookupswitch.offset [(0, o0), (1, o1)] dd x.toInt = dd := by
  have k0 : x.toInt ≠ 0 := ti_ne h0
  have k1 : x.toInt ≠ 1 := ti_ne h1
  rw [Op.lookupswitch.offset_cons, if_neg (fun h => k0 h.symm), Op.lookupswitch.offset_cons, if_neg (fun h => k1 h.symm), Op.lookupswitch.offset_nil]
abbrev aI (h : Nat) (k : ClassId) (n : Nat) (a : Nat → Int32) : Nat × va_E := (h, .inl (k, n, .inl a))
abbrev aZ (h : Nat) (k : ClassId) (n : Nat) (a : Nat → Bool) : Nat × va_E := (h, .inl (k, n, .inl (bF a)))
abbrev oX0 (h : Nat) (x0 : Int32) (x1 : Int32) : Nat × va_E := (h, .inr (0, [.int x0, .int x1]))
abbrev oX1 (h : Nat) (x0 : Nat) (x1 : Bool) : Nat × va_E := (h, .inr (1, [.ref x0, .int (bI x1)]))
abbrev oX2 (h : Nat) (x0 : Nat) (x1 : Int32) : Nat × va_E := (h, .inr (2, [.ref x0, .int x1]))
abbrev oX3 (h : Nat) (x0 : Int32) (x1 : Int32) (x2 : Int32) (x3 : Int32) : Nat × va_E := (h, .inr (3, [.int x0, .int x1, .int x2, .int x3]))
abbrev oX4 (h : Nat) (x0 : Int32) (x1 : Int32) (x2 : Int32) (x3 : Bool) (x4 : Bool) (x5 : Bool) (x6 : Bool) : Nat × va_E := (h, .inr (4, [.int x0, .int x1, .int x2, .int (bI x3), .int (bI x4), .int (bI x5), .int (bI x6)]))
abbrev oX5 (h : Nat) (x0 : Nat) (x1 : Int32) (x2 : Int32) : Nat × va_E := (h, .inr (5, [.ref x0, .int x1, .int x2]))
abbrev oX6 (h : Nat) (x0 : Int32) (x1 : Int32) (x2 : Int32) (x3 : Bool) : Nat × va_E := (h, .inr (6, [.int x0, .int x1, .int x2, .int (bI x3)]))
abbrev oX8 (h : Nat) (x0 : Nat) (x1 : Nat) (x2 : Nat) (x3 : Nat) (x4 : Nat) (x5 : Nat) (x6 : Nat) (x7 : Nat) (x8 : Int32) (x9 : Int32) (x10 : Int32) (x11 : Int32) (x12 : Bool) (x13 : Bool) (x14 : Bool) (x15 : Bool) (x16 : Int32) (x17 : Int32) : Nat × va_E := (h, .inr (7, [.ref x0, .ref x1, .ref x2, .ref x3, .ref x4, .ref x5, .ref x6, .ref x7, .int x8, .int x9, .int x10, .int x11, .int (bI x12), .int (bI x13), .int (bI x14), .int (bI x15), .int x16, .int x17]))
abbrev oX9 (h : Nat) (x0 : Int32) (x1 : Int32) (x2 : Int32) (x3 : Bool) (x4 : Int32) (x5 : Int32) (x6 : Int32) (x7 : Int32) (x8 : Int32) (x9 : Int32) (x10 : Nat) (x11 : Nat) (x12 : Int32) (x13 : Bool) (x14 : Nat) (x15 : Int32) (x16 : Bool) (x17 : Bool) (x18 : Int32) (x19 : Nat) (x20 : Nat) (x21 : Int32) (x22 : Bool) (x23 : Bool) (x24 : Int32) (x25 : Int32) (x26 : Int32) (x27 : Bool) (x28 : Bool) (x29 : Bool) (x30 : Int32) (x31 : Int32) (x32 : Int32) (x33 : Int32) (x34 : Int32) (x35 : Bool) (x36 : Nat) (x37 : Nat) (x38 : Int32) (x39 : Int32) : Nat × va_E := (h, .inr (8, [.int x0, .int x1, .int x2, .int (bI x3), .int x4, .int x5, .int x6, .int x7, .int x8, .int x9, .ref x10, .ref x11, .int x12, .int (bI x13), .ref x14, .int x15, .int (bI x16), .int (bI x17), .int x18, .ref x19, .ref x20, .int x21, .int (bI x22), .int (bI x23), .int x24, .int x25, .int x26, .int (bI x27), .int (bI x28), .int (bI x29), .int x30, .int x31, .int x32, .int x33, .int x34, .int (bI x35), .ref x36, .ref x37, .int x38, .int x39]))
end
section
theorem dX5_size_0 : decode cX5_size 0 = .ok (.aload_n 0, 1) := by decide +kernel
theorem dX5_size_1 : decode cX5_size 1 = .ok (.getfield 23, 3) := by decide +kernel
theorem dX5_size_4 : decode cX5_size 4 = .ok (.ireturn, 1) := by decide +kernel
theorem dX5_isEmpty_0 : decode cX5_isEmpty 0 = .ok (.aload_n 0, 1) := by decide +kernel
theorem dX5_isEmpty_1 : decode cX5_isEmpty 1 = .ok (.getfield 23, 3) := by decide +kernel
theorem dX5_isEmpty_4 : decode cX5_isEmpty 4 = .ok (.ifCond .ne 7, 3) := by decide +kernel
theorem dX5_isEmpty_7 : decode cX5_isEmpty 7 = .ok (.iconst 1, 1) := by decide +kernel
theorem dX5_isEmpty_8 : decode cX5_isEmpty 8 = .ok (.goto 4, 3) := by decide +kernel
theorem dX5_isEmpty_11 : decode cX5_isEmpty 11 = .ok (.iconst 0, 1) := by decide +kernel
theorem dX5_isEmpty_12 : decode cX5_isEmpty 12 = .ok (.ireturn, 1) := by decide +kernel
theorem dX5_room_0 : decode cX5_room 0 = .ok (.aload_n 0, 1) := by decide +kernel
theorem dX5_room_1 : decode cX5_room 1 = .ok (.getfield 13, 3) := by decide +kernel
theorem dX5_room_4 : decode cX5_room 4 = .ok (.arraylength, 1) := by decide +kernel
theorem dX5_room_5 : decode cX5_room 5 = .ok (.aload_n 0, 1) := by decide +kernel
theorem dX5_room_6 : decode cX5_room 6 = .ok (.getfield 23, 3) := by decide +kernel
theorem dX5_room_9 : decode cX5_room 9 = .ok (.isub, 1) := by decide +kernel
theorem dX5_room_10 : decode cX5_room 10 = .ok (.ireturn, 1) := by decide +kernel
theorem dX5_clear_0 : decode cX5_clear 0 = .ok (.aload_n 0, 1) := by decide +kernel
theorem dX5_clear_1 : decode cX5_clear 1 = .ok (.iconst 0, 1) := by decide +kernel
theorem dX5_clear_2 : decode cX5_clear 2 = .ok (.putfield 19, 3) := by decide +kernel
theorem dX5_clear_5 : decode cX5_clear 5 = .ok (.aload_n 0, 1) := by decide +kernel
theorem dX5_clear_6 : decode cX5_clear 6 = .ok (.iconst 0, 1) := by decide +kernel
theorem dX5_clear_7 : decode cX5_clear 7 = .ok (.putfield 23, 3) := by decide +kernel
theorem dX5_clear_10 : decode cX5_clear 10 = .ok (.return_, 1) := by decide +kernel
theorem dX5_cellOf_0 : decode cX5_cellOf 0 = .ok (.aload_n 0, 1) := by decide +kernel
theorem dX5_cellOf_1 : decode cX5_cellOf 1 = .ok (.getfield 19, 3) := by decide +kernel
theorem dX5_cellOf_4 : decode cX5_cellOf 4 = .ok (.iload_n 1, 1) := by decide +kernel
theorem dX5_cellOf_5 : decode cX5_cellOf 5 = .ok (.iadd, 1) := by decide +kernel
theorem dX5_cellOf_6 : decode cX5_cellOf 6 = .ok (.istore_n 2, 1) := by decide +kernel
theorem dX5_cellOf_7 : decode cX5_cellOf 7 = .ok (.iload_n 2, 1) := by decide +kernel
theorem dX5_cellOf_8 : decode cX5_cellOf 8 = .ok (.aload_n 0, 1) := by decide +kernel
theorem dX5_cellOf_9 : decode cX5_cellOf 9 = .ok (.getfield 13, 3) := by decide +kernel
theorem dX5_cellOf_12 : decode cX5_cellOf 12 = .ok (.arraylength, 1) := by decide +kernel
theorem dX5_cellOf_13 : decode cX5_cellOf 13 = .ok (.if_icmp .lt 13, 3) := by decide +kernel
theorem dX5_cellOf_16 : decode cX5_cellOf 16 = .ok (.iload_n 2, 1) := by decide +kernel
theorem dX5_cellOf_17 : decode cX5_cellOf 17 = .ok (.aload_n 0, 1) := by decide +kernel
theorem dX5_cellOf_18 : decode cX5_cellOf 18 = .ok (.getfield 13, 3) := by decide +kernel
theorem dX5_cellOf_21 : decode cX5_cellOf 21 = .ok (.arraylength, 1) := by decide +kernel
theorem dX5_cellOf_22 : decode cX5_cellOf 22 = .ok (.isub, 1) := by decide +kernel
theorem dX5_cellOf_23 : decode cX5_cellOf 23 = .ok (.goto 4, 3) := by decide +kernel
theorem dX5_cellOf_26 : decode cX5_cellOf 26 = .ok (.iload_n 2, 1) := by decide +kernel
theorem dX5_cellOf_27 : decode cX5_cellOf 27 = .ok (.ireturn, 1) := by decide +kernel
theorem dX5_at_0 : decode cX5_at 0 = .ok (.aload_n 0, 1) := by decide +kernel
theorem dX5_at_1 : decode cX5_at 1 = .ok (.iload_n 1, 1) := by decide +kernel
theorem dX5_at_2 : decode cX5_at 2 = .ok (.invokevirtual 26, 3) := by decide +kernel
theorem dX5_at_5 : decode cX5_at 5 = .ok (.istore_n 2, 1) := by decide +kernel
theorem dX5_at_6 : decode cX5_at 6 = .ok (.iload_n 1, 1) := by decide +kernel
theorem dX5_at_7 : decode cX5_at 7 = .ok (.ifCond .lt 33, 3) := by decide +kernel
theorem dX5_at_10 : decode cX5_at 10 = .ok (.iload_n 1, 1) := by decide +kernel
theorem dX5_at_11 : decode cX5_at 11 = .ok (.aload_n 0, 1) := by decide +kernel
theorem dX5_at_12 : decode cX5_at 12 = .ok (.getfield 23, 3) := by decide +kernel
theorem dX5_at_15 : decode cX5_at 15 = .ok (.if_icmp .ge 25, 3) := by decide +kernel
theorem dX5_at_18 : decode cX5_at 18 = .ok (.iload_n 2, 1) := by decide +kernel
theorem dX5_at_19 : decode cX5_at 19 = .ok (.ifCond .lt 21, 3) := by decide +kernel
theorem dX5_at_22 : decode cX5_at 22 = .ok (.iload_n 2, 1) := by decide +kernel
theorem dX5_at_23 : decode cX5_at 23 = .ok (.aload_n 0, 1) := by decide +kernel
theorem dX5_at_24 : decode cX5_at 24 = .ok (.getfield 13, 3) := by decide +kernel
theorem dX5_at_27 : decode cX5_at 27 = .ok (.arraylength, 1) := by decide +kernel
theorem dX5_at_28 : decode cX5_at 28 = .ok (.if_icmp .ge 12, 3) := by decide +kernel
theorem dX5_at_31 : decode cX5_at 31 = .ok (.aload_n 0, 1) := by decide +kernel
theorem dX5_at_32 : decode cX5_at 32 = .ok (.getfield 13, 3) := by decide +kernel
theorem dX5_at_35 : decode cX5_at 35 = .ok (.iload_n 2, 1) := by decide +kernel
theorem dX5_at_36 : decode cX5_at 36 = .ok (.iaload, 1) := by decide +kernel
theorem dX5_at_37 : decode cX5_at 37 = .ok (.goto 4, 3) := by decide +kernel
theorem dX5_at_40 : decode cX5_at 40 = .ok (.iconst 0, 1) := by decide +kernel
theorem dX5_at_41 : decode cX5_at 41 = .ok (.ireturn, 1) := by decide +kernel
set_option maxRecDepth 20000 in
theorem ggX5_at_X5_cellOf : GoodIn wsX5_at wsX5_cellOf := goodIn_r _ [7, 8, 2, 9, 10, 11] (by decide +kernel) (by decide +kernel)
set_option maxRecDepth 20000 in
theorem gX5_at_X5_cellOf : GoodIn wsX5_at (wsV RX5 26 RX5 yX5_cellOf wsX5_cellOf) := goodIn_app (goodIn_of _ (by decide +kernel)) ggX5_at_X5_cellOf
theorem dX5_first_0 : decode cX5_first 0 = .ok (.aload_n 0, 1) := by decide +kernel
theorem dX5_first_1 : decode cX5_first 1 = .ok (.iconst 0, 1) := by decide +kernel
theorem dX5_first_2 : decode cX5_first 2 = .ok (.invokevirtual 30, 3) := by decide +kernel
theorem dX5_first_5 : decode cX5_first 5 = .ok (.ireturn, 1) := by decide +kernel
set_option maxRecDepth 20000 in
theorem ggX5_first_X5_at : GoodIn wsX5_first wsX5_at := goodIn_r _ [5, 6, 7, 8, 9, 10, 4, 11, 12, 13, 14, 15] (by decide +kernel) (by decide +kernel)
set_option maxRecDepth 20000 in
theorem gX5_first_X5_at : GoodIn wsX5_first (wsV RX5 30 RX5 yX5_at wsX5_at) := goodIn_app (goodIn_of _ (by decide +kernel)) ggX5_first_X5_at
theorem dX5_setAt_0 : decode cX5_setAt 0 = .ok (.aload_n 0, 1) := by decide +kernel
theorem dX5_setAt_1 : decode cX5_setAt 1 = .ok (.iload_n 1, 1) := by decide +kernel
theorem dX5_setAt_2 : decode cX5_setAt 2 = .ok (.invokevirtual 26, 3) := by decide +kernel
theorem dX5_setAt_5 : decode cX5_setAt 5 = .ok (.istore_n 3, 1) := by decide +kernel
theorem dX5_setAt_6 : decode cX5_setAt 6 = .ok (.iload_n 1, 1) := by decide +kernel
theorem dX5_setAt_7 : decode cX5_setAt 7 = .ok (.ifCond .lt 31, 3) := by decide +kernel
theorem dX5_setAt_10 : decode cX5_setAt 10 = .ok (.iload_n 1, 1) := by decide +kernel
theorem dX5_setAt_11 : decode cX5_setAt 11 = .ok (.aload_n 0, 1) := by decide +kernel
theorem dX5_setAt_12 : decode cX5_setAt 12 = .ok (.getfield 23, 3) := by decide +kernel
theorem dX5_setAt_15 : decode cX5_setAt 15 = .ok (.if_icmp .ge 23, 3) := by decide +kernel
theorem dX5_setAt_18 : decode cX5_setAt 18 = .ok (.iload_n 3, 1) := by decide +kernel
theorem dX5_setAt_19 : decode cX5_setAt 19 = .ok (.ifCond .lt 19, 3) := by decide +kernel
theorem dX5_setAt_22 : decode cX5_setAt 22 = .ok (.iload_n 3, 1) := by decide +kernel
theorem dX5_setAt_23 : decode cX5_setAt 23 = .ok (.aload_n 0, 1) := by decide +kernel
theorem dX5_setAt_24 : decode cX5_setAt 24 = .ok (.getfield 13, 3) := by decide +kernel
theorem dX5_setAt_27 : decode cX5_setAt 27 = .ok (.arraylength, 1) := by decide +kernel
theorem dX5_setAt_28 : decode cX5_setAt 28 = .ok (.if_icmp .ge 10, 3) := by decide +kernel
theorem dX5_setAt_31 : decode cX5_setAt 31 = .ok (.aload_n 0, 1) := by decide +kernel
theorem dX5_setAt_32 : decode cX5_setAt 32 = .ok (.getfield 13, 3) := by decide +kernel
theorem dX5_setAt_35 : decode cX5_setAt 35 = .ok (.iload_n 3, 1) := by decide +kernel
theorem dX5_setAt_36 : decode cX5_setAt 36 = .ok (.iload_n 2, 1) := by decide +kernel
theorem dX5_setAt_37 : decode cX5_setAt 37 = .ok (.iastore, 1) := by decide +kernel
theorem dX5_setAt_38 : decode cX5_setAt 38 = .ok (.return_, 1) := by decide +kernel
set_option maxRecDepth 20000 in
theorem ggX5_setAt_X5_cellOf : GoodIn wsX5_setAt wsX5_cellOf := goodIn_r _ [7, 8, 2, 9, 10, 11] (by decide +kernel) (by decide +kernel)
set_option maxRecDepth 20000 in
theorem gX5_setAt_X5_cellOf : GoodIn wsX5_setAt (wsV RX5 26 RX5 yX5_cellOf wsX5_cellOf) := goodIn_app (goodIn_of _ (by decide +kernel)) ggX5_setAt_X5_cellOf
theorem dX5_setFirst_0 : decode cX5_setFirst 0 = .ok (.aload_n 0, 1) := by decide +kernel
theorem dX5_setFirst_1 : decode cX5_setFirst 1 = .ok (.iconst 0, 1) := by decide +kernel
theorem dX5_setFirst_2 : decode cX5_setFirst 2 = .ok (.iload_n 1, 1) := by decide +kernel
theorem dX5_setFirst_3 : decode cX5_setFirst 3 = .ok (.invokevirtual 33, 3) := by decide +kernel
theorem dX5_setFirst_6 : decode cX5_setFirst 6 = .ok (.return_, 1) := by decide +kernel
set_option maxRecDepth 20000 in
theorem ggX5_setFirst_X5_setAt : GoodIn wsX5_setFirst wsX5_setAt := goodIn_r _ [5, 6, 7, 8, 9, 10, 4, 11, 12, 13, 14, 15] (by decide +kernel) (by decide +kernel)
set_option maxRecDepth 20000 in
theorem gX5_setFirst_X5_setAt : GoodIn wsX5_setFirst (wsV RX5 33 RX5 yX5_setAt wsX5_setAt) := goodIn_app (goodIn_of _ (by decide +kernel)) ggX5_setFirst_X5_setAt
theorem dX5_add_0 : decode cX5_add 0 = .ok (.aload_n 0, 1) := by decide +kernel
theorem dX5_add_1 : decode cX5_add 1 = .ok (.getfield 23, 3) := by decide +kernel
theorem dX5_add_4 : decode cX5_add 4 = .ok (.aload_n 0, 1) := by decide +kernel
theorem dX5_add_5 : decode cX5_add 5 = .ok (.getfield 13, 3) := by decide +kernel
theorem dX5_add_8 : decode cX5_add 8 = .ok (.arraylength, 1) := by decide +kernel
theorem dX5_add_9 : decode cX5_add 9 = .ok (.if_icmp .ge 24, 3) := by decide +kernel
theorem dX5_add_12 : decode cX5_add 12 = .ok (.aload_n 0, 1) := by decide +kernel
theorem dX5_add_13 : decode cX5_add 13 = .ok (.dup, 1) := by decide +kernel
theorem dX5_add_14 : decode cX5_add 14 = .ok (.getfield 23, 3) := by decide +kernel
theorem dX5_add_17 : decode cX5_add 17 = .ok (.iconst 1, 1) := by decide +kernel
theorem dX5_add_18 : decode cX5_add 18 = .ok (.iadd, 1) := by decide +kernel
theorem dX5_add_19 : decode cX5_add 19 = .ok (.putfield 23, 3) := by decide +kernel
theorem dX5_add_22 : decode cX5_add 22 = .ok (.aload_n 0, 1) := by decide +kernel
theorem dX5_add_23 : decode cX5_add 23 = .ok (.aload_n 0, 1) := by decide +kernel
theorem dX5_add_24 : decode cX5_add 24 = .ok (.getfield 23, 3) := by decide +kernel
theorem dX5_add_27 : decode cX5_add 27 = .ok (.iconst 1, 1) := by decide +kernel
theorem dX5_add_28 : decode cX5_add 28 = .ok (.isub, 1) := by decide +kernel
theorem dX5_add_29 : decode cX5_add 29 = .ok (.iload_n 1, 1) := by decide +kernel
theorem dX5_add_30 : decode cX5_add 30 = .ok (.invokevirtual 33, 3) := by decide +kernel
theorem dX5_add_33 : decode cX5_add 33 = .ok (.return_, 1) := by decide +kernel
set_option maxRecDepth 20000 in
theorem ggX5_add_X5_setAt : GoodIn wsX5_add wsX5_setAt := goodIn_r _ [7, 1, 2, 8, 9, 10, 6, 11, 12, 13, 14, 15] (by decide +kernel) (by decide +kernel)
set_option maxRecDepth 20000 in
theorem gX5_add_X5_setAt : GoodIn wsX5_add (wsV RX5 33 RX5 yX5_setAt wsX5_setAt) := goodIn_app (goodIn_of _ (by decide +kernel)) ggX5_add_X5_setAt
theorem dX5_dropFirst_0 : decode cX5_dropFirst 0 = .ok (.aload_n 0, 1) := by decide +kernel
theorem dX5_dropFirst_1 : decode cX5_dropFirst 1 = .ok (.getfield 23, 3) := by decide +kernel
theorem dX5_dropFirst_4 : decode cX5_dropFirst 4 = .ok (.ifCond .le 22, 3) := by decide +kernel
theorem dX5_dropFirst_7 : decode cX5_dropFirst 7 = .ok (.aload_n 0, 1) := by decide +kernel
theorem dX5_dropFirst_8 : decode cX5_dropFirst 8 = .ok (.aload_n 0, 1) := by decide +kernel
theorem dX5_dropFirst_9 : decode cX5_dropFirst 9 = .ok (.iconst 1, 1) := by decide +kernel
theorem dX5_dropFirst_10 : decode cX5_dropFirst 10 = .ok (.invokevirtual 26, 3) := by decide +kernel
theorem dX5_dropFirst_13 : decode cX5_dropFirst 13 = .ok (.putfield 19, 3) := by decide +kernel
theorem dX5_dropFirst_16 : decode cX5_dropFirst 16 = .ok (.aload_n 0, 1) := by decide +kernel
theorem dX5_dropFirst_17 : decode cX5_dropFirst 17 = .ok (.dup, 1) := by decide +kernel
theorem dX5_dropFirst_18 : decode cX5_dropFirst 18 = .ok (.getfield 23, 3) := by decide +kernel
theorem dX5_dropFirst_21 : decode cX5_dropFirst 21 = .ok (.iconst 1, 1) := by decide +kernel
theorem dX5_dropFirst_22 : decode cX5_dropFirst 22 = .ok (.isub, 1) := by decide +kernel
theorem dX5_dropFirst_23 : decode cX5_dropFirst 23 = .ok (.putfield 23, 3) := by decide +kernel
theorem dX5_dropFirst_26 : decode cX5_dropFirst 26 = .ok (.return_, 1) := by decide +kernel
set_option maxRecDepth 20000 in
theorem ggX5_dropFirst_X5_cellOf : GoodIn wsX5_dropFirst wsX5_cellOf := goodIn_r _ [7, 2, 8, 9, 10, 11] (by decide +kernel) (by decide +kernel)
set_option maxRecDepth 20000 in
theorem gX5_dropFirst_X5_cellOf : GoodIn wsX5_dropFirst (wsV RX5 26 RX5 yX5_cellOf wsX5_cellOf) := goodIn_app (goodIn_of _ (by decide +kernel)) ggX5_dropFirst_X5_cellOf
def F_X5_size  (v_size : Int32) : Option (Int32) := some v_size
def wX5_size (h_ : Nat) (h_cells : Nat) (v_head : Int32) (v_size : Int32) (_u : Int32) : va_W := [oX5 h_ h_cells v_head v_size]
set_option maxHeartbeats 4000000 in
set_option maxRecDepth 100000 in
theorem mX5_size {l : Launch} (D : va_G) (h_ : Nat) (h_cells : Nat) (v_head : Int32) (v_size : Int32) (u0 : Int32) (hF : F_X5_size v_size = some u0) : MI l yX5_size wsX5_size { frames := 0, cells := 0, slots := 0, locals := 0 } D [] [.ref h_] [oX5 h_ h_cells v_head v_size] (wX5_size h_ h_cells v_head v_size u0) (u0) := by
  refine MI.ofW (cc := cX5_size) (maxL := 1) (ret := (some .int)) (lv := [(0, .ref h_)]) (by decide +kernel) rfl (Nat.le_of_ble_eq_true rfl) rfl ?_
  intro p e s m args below meth c A ls hx hb hr hml hts hown hlocks hA hK hP hD hS hl
  replace hown : s.vm.findClass RX5 = some m.cls := hown
  have i_X5 : ∀ w ∈ wsX50, w ∈ wsX5_size := by decide +kernel
  have f_23 := hts (.fieldLink RX5 23 "SerialPort$Ring" "size" "I") (by decide +kernel)
  have hret : ∀ (u : Int32) (v : Int32) (H : Heap) (locs : List Loc) (pc : Nat) (ls : Array Slot), va_P D vwCl (wX5_size h_ h_cells v_head v_size u) H → va_D A (wX5_size h_ h_cells v_head v_size u) → va_S A s.heap H locs → some u = some u0 → v = u → decode cX5_size pc = .ok (.ireturn, 1) → W p l e { frames := 0, cells := 0, slots := 0, locals := 0 } s m args below meth c H locs 0 0 (QI below D [] (wX5_size h_ h_cells v_head v_size u0) (u0) args s A) (F0 m pc ls [.int v]) := fun u v H locs pc ls h1 h2 h3 h4 h5 h6 => rI (wf := wX5_size h_ h_cells v_head v_size) (rf := fun u => u) hx hb hr hlocks hK h1 h2 h3 h4 h5 h6
  unfold F_X5_size at hF
  refine lv_aload_n hx hb dX5_size_0 rfl (lv_at hl 0 rfl) ?_
  refine va_get (D := D) (ci := 5) (v := .int v_size) (C := RX5) (T := TX5) (N := 3) hx hb hts i_X5 hown hK hP 0 rfl rfl 2 (Nat.le_of_ble_eq_true rfl) f_23 (fun _ h9 => h9) rfl dX5_size_1 ?_
  exact hret v_size v_size _ _ 4 _ hP hD hS hF rfl dX5_size_4
def F_X5_isEmpty  (v_size : Int32) : Option (Bool) := if v_size = 0 then (some true) else (some false)
def wX5_isEmpty (h_ : Nat) (h_cells : Nat) (v_head : Int32) (v_size : Int32) (_u : Bool) : va_W := [oX5 h_ h_cells v_head v_size]
set_option maxHeartbeats 4000000 in
set_option maxRecDepth 100000 in
theorem mX5_isEmpty {l : Launch} (D : va_G) (h_ : Nat) (h_cells : Nat) (v_head : Int32) (v_size : Int32) (u0 : Bool) (hF : F_X5_isEmpty v_size = some u0) : MI l yX5_isEmpty wsX5_isEmpty { frames := 0, cells := 0, slots := 0, locals := 0 } D [] [.ref h_] [oX5 h_ h_cells v_head v_size] (wX5_isEmpty h_ h_cells v_head v_size u0) (bI u0) := by
  refine MI.ofW (cc := cX5_isEmpty) (maxL := 1) (ret := (some .boolean)) (lv := [(0, .ref h_)]) (by decide +kernel) rfl (Nat.le_of_ble_eq_true rfl) rfl ?_
  intro p e s m args below meth c A ls hx hb hr hml hts hown hlocks hA hK hP hD hS hl
  replace hown : s.vm.findClass RX5 = some m.cls := hown
  have i_X5 : ∀ w ∈ wsX50, w ∈ wsX5_isEmpty := by decide +kernel
  have f_23 := hts (.fieldLink RX5 23 "SerialPort$Ring" "size" "I") (by decide +kernel)
  have hret : ∀ (u : Bool) (v : Int32) (H : Heap) (locs : List Loc) (pc : Nat) (ls : Array Slot), va_P D vwCl (wX5_isEmpty h_ h_cells v_head v_size u) H → va_D A (wX5_isEmpty h_ h_cells v_head v_size u) → va_S A s.heap H locs → some u = some u0 → v = bI u → decode cX5_isEmpty pc = .ok (.ireturn, 1) → W p l e { frames := 0, cells := 0, slots := 0, locals := 0 } s m args below meth c H locs 0 0 (QI below D [] (wX5_isEmpty h_ h_cells v_head v_size u0) (bI u0) args s A) (F0 m pc ls [.int v]) := fun u v H locs pc ls h1 h2 h3 h4 h5 h6 => rZ (wf := wX5_isEmpty h_ h_cells v_head v_size) (rf := fun u => u) hx hb hr hlocks hK h1 h2 h3 h4 h5 h6
  unfold F_X5_isEmpty at hF
  refine lv_aload_n hx hb dX5_isEmpty_0 rfl (lv_at hl 0 rfl) ?_
  refine va_get (D := D) (ci := 5) (v := .int v_size) (C := RX5) (T := TX5) (N := 3) hx hb hts i_X5 hown hK hP 0 rfl rfl 2 (Nat.le_of_ble_eq_true rfl) f_23 (fun _ h9 => h9) rfl dX5_isEmpty_1 ?_
  refine lv_if_ne (tgt := 11) hx hb dX5_isEmpty_4 (by decide) (fun c1 => ?_) (fun c1 => ?_)
  · replace hF := it_f c1 hF
    refine lv_iconst (v := 0) hx hb dX5_isEmpty_11 (by decide) ?_
    exact hret false 0 _ _ 12 _ hP hD hS hF rfl dX5_isEmpty_12
  · replace hF := it_t c1 hF
    refine lv_iconst (v := 1) hx hb dX5_isEmpty_7 (by decide) ?_
    refine lv_goto (tgt := 12) hx hb dX5_isEmpty_8 (by decide) ?_
    exact hret true 1 _ _ 12 _ hP hD hS hF rfl dX5_isEmpty_12
def F_X5_room  (v_size : Int32) (v_cells_n : Nat) : Option (Int32) := some ((Int32.ofNat v_cells_n) - v_size)
def wX5_room (k_cells : ClassId) (h_ : Nat) (h_cells : Nat) (v_head : Int32) (v_size : Int32) (v_cells_n : Nat) (v_cells_a : Nat → Int32) (_u : Int32) : va_W := [oX5 h_ h_cells v_head v_size, aI h_cells k_cells v_cells_n v_cells_a]
set_option maxHeartbeats 4000000 in
set_option maxRecDepth 100000 in
theorem mX5_room {l : Launch} (D : va_G) (k_cells : ClassId) (h_ : Nat) (h_cells : Nat) (v_head : Int32) (v_size : Int32) (v_cells_n : Nat) (v_cells_a : Nat → Int32) (u0 : Int32) (hF : F_X5_room v_size v_cells_n = some u0) : MI l yX5_room wsX5_room { frames := 0, cells := 0, slots := 0, locals := 0 } D [(k_cells, .int)] [.ref h_] [oX5 h_ h_cells v_head v_size, aI h_cells k_cells v_cells_n v_cells_a] (wX5_room k_cells h_ h_cells v_head v_size v_cells_n v_cells_a u0) (u0) := by
  refine MI.ofW (cc := cX5_room) (maxL := 1) (ret := (some .int)) (lv := [(0, .ref h_)]) (by decide +kernel) rfl (Nat.le_of_ble_eq_true rfl) rfl ?_
  intro p e s m args below meth c A ls hx hb hr hml hts hown hlocks hA hK hP hD hS hl
  replace hown : s.vm.findClass RX5 = some m.cls := hown
  have i_X5 : ∀ w ∈ wsX50, w ∈ wsX5_room := by decide +kernel
  have f_13 := hts (.fieldLink RX5 13 "SerialPort$Ring" "cells" "[I") (by decide +kernel)
  have f_23 := hts (.fieldLink RX5 23 "SerialPort$Ring" "size" "I") (by decide +kernel)
  have hret : ∀ (u : Int32) (v : Int32) (H : Heap) (locs : List Loc) (pc : Nat) (ls : Array Slot), va_P D vwCl (wX5_room k_cells h_ h_cells v_head v_size v_cells_n v_cells_a u) H → va_D A (wX5_room k_cells h_ h_cells v_head v_size v_cells_n v_cells_a u) → va_S A s.heap H locs → some u = some u0 → v = u → decode cX5_room pc = .ok (.ireturn, 1) → W p l e { frames := 0, cells := 0, slots := 0, locals := 0 } s m args below meth c H locs 0 0 (QI below D [(k_cells, .int)] (wX5_room k_cells h_ h_cells v_head v_size v_cells_n v_cells_a u0) (u0) args s A) (F0 m pc ls [.int v]) := fun u v H locs pc ls h1 h2 h3 h4 h5 h6 => rI (wf := wX5_room k_cells h_ h_cells v_head v_size v_cells_n v_cells_a) (rf := fun u => u) hx hb hr hlocks hK h1 h2 h3 h4 h5 h6
  unfold F_X5_room at hF
  refine lv_aload_n hx hb dX5_room_0 rfl (lv_at hl 0 rfl) ?_
  refine va_get (D := D) (ci := 5) (v := .ref h_cells) (C := RX5) (T := TX5) (N := 3) hx hb hts i_X5 hown hK hP 0 rfl rfl 0 (Nat.le_of_ble_eq_true rfl) f_13 (fun _ h9 => h9) rfl dX5_room_1 ?_
  refine va_alen (v := (Int32.ofNat v_cells_n)) hx hb hK hP 1 0 rfl rfl rfl dX5_room_4 ?_
  refine lv_aload_n hx hb dX5_room_5 rfl (lv_at hl 0 rfl) ?_
  refine va_get (D := D) (ci := 5) (v := .int v_size) (C := RX5) (T := TX5) (N := 3) hx hb hts i_X5 hown hK hP 0 rfl rfl 2 (Nat.le_of_ble_eq_true rfl) f_23 (fun _ h9 => h9) rfl dX5_room_6 ?_
  refine lv_isub hx hb dX5_room_9 ?_
  exact hret ((Int32.ofNat v_cells_n) - v_size) ((Int32.ofNat v_cells_n) - v_size) _ _ 10 _ hP hD hS hF rfl dX5_room_10
def F_X5_clear  (v_head : Int32) (v_size : Int32) : Option (Int32 × Int32) := some (0, 0)
def wX5_clear (h_ : Nat) (h_cells : Nat) (u : Int32 × Int32) : va_W := [oX5 h_ h_cells u.1 u.2]
set_option maxHeartbeats 4000000 in
set_option maxRecDepth 100000 in
theorem mX5_clear {l : Launch} (D : va_G) (h_ : Nat) (h_cells : Nat) (v_head : Int32) (v_size : Int32) (u0 : Int32 × Int32) (hF : F_X5_clear v_head v_size = some u0) : MV l yX5_clear wsX5_clear { frames := 0, cells := 0, slots := 0, locals := 0 } D [] [.ref h_] [oX5 h_ h_cells v_head v_size] (wX5_clear h_ h_cells u0) := by
  refine MV.ofW (cc := cX5_clear) (maxL := 1) (ret := none) (lv := [(0, .ref h_)]) (by decide +kernel) rfl (Nat.le_of_ble_eq_true rfl) rfl ?_
  intro p e s m args below meth c A ls hx hb hr hml hts hown hlocks hA hK hP hD hS hl
  replace hown : s.vm.findClass RX5 = some m.cls := hown
  have i_X5 : ∀ w ∈ wsX50, w ∈ wsX5_clear := by decide +kernel
  have f_19 := hts (.fieldLink RX5 19 "SerialPort$Ring" "head" "I") (by decide +kernel)
  have f_23 := hts (.fieldLink RX5 23 "SerialPort$Ring" "size" "I") (by decide +kernel)
  have hret : ∀ (u : Int32 × Int32) (H : Heap) (locs : List Loc) (pc : Nat) (ls : Array Slot), va_P D vwCl (wX5_clear h_ h_cells u) H → va_D A (wX5_clear h_ h_cells u) → va_S A s.heap H locs → some u = some u0 → decode cX5_clear pc = .ok (.return_, 1) → W p l e { frames := 0, cells := 0, slots := 0, locals := 0 } s m args below meth c H locs 0 0 (QV below D [] (wX5_clear h_ h_cells u0) args s A) (F0 m pc ls []) := fun u H locs pc ls h1 h2 h3 h4 h5 => rV (wf := wX5_clear h_ h_cells) hx hb hr hlocks hK h1 h2 h3 h4 h5
  unfold F_X5_clear at hF
  refine lv_aload_n hx hb dX5_clear_0 rfl (lv_at hl 0 rfl) ?_
  refine lv_iconst (v := 0) hx hb dX5_clear_1 (by decide) ?_
  refine pf (ci := 5) (v := .int 0) (ty := .int) (C := RX5) (T := TX5) (N := 3) (ws' := [oX5 h_ h_cells 0 v_size]) hx hb hts i_X5 tyX5_ok nmX5 hown hK hP hD hS 0 rfl rfl 1 (Nat.le_of_ble_eq_true rfl) f_19 rfl rfl (by decide +kernel) rfl rfl (Nat.le_of_ble_eq_true rfl) rfl dX5_clear_2 (fun H locs hP hD hS => ?_)
  refine lv_aload_n hx hb dX5_clear_5 rfl (lv_at hl 0 rfl) ?_
  refine lv_iconst (v := 0) hx hb dX5_clear_6 (by decide) ?_
  refine pf (ci := 5) (v := .int 0) (ty := .int) (C := RX5) (T := TX5) (N := 3) (ws' := [oX5 h_ h_cells 0 0]) hx hb hts i_X5 tyX5_ok nmX5 hown hK hP hD hS 0 rfl rfl 2 (Nat.le_of_ble_eq_true rfl) f_23 rfl rfl (by decide +kernel) rfl rfl (Nat.le_of_ble_eq_true rfl) rfl dX5_clear_7 (fun H locs hP hD hS => ?_)
  exact hret (0, 0) _ _ 10 _ hP hD hS hF dX5_clear_10
def F_X5_cellOf (p1 : Int32) (v_head : Int32) (v_cells_n : Nat) : Option (Int32) := lt1 (v_head + p1) (fun x1 => if x1 < (Int32.ofNat v_cells_n) then (some x1) else (some (x1 - (Int32.ofNat v_cells_n))))
def wX5_cellOf (k_cells : ClassId) (h_ : Nat) (h_cells : Nat) (v_head : Int32) (v_size : Int32) (v_cells_n : Nat) (v_cells_a : Nat → Int32) (_u : Int32) : va_W := [oX5 h_ h_cells v_head v_size, aI h_cells k_cells v_cells_n v_cells_a]
set_option maxHeartbeats 4000000 in
set_option maxRecDepth 100000 in
theorem mX5_cellOf {l : Launch} (D : va_G) (k_cells : ClassId) (h_ : Nat) (h_cells : Nat) (v_head : Int32) (v_size : Int32) (v_cells_n : Nat) (v_cells_a : Nat → Int32) (p1 : Int32) (u0 : Int32) (hF : F_X5_cellOf p1 v_head v_cells_n = some u0) : MI l yX5_cellOf wsX5_cellOf { frames := 0, cells := 0, slots := 0, locals := 0 } D [(k_cells, .int)] [.ref h_, .int p1] [oX5 h_ h_cells v_head v_size, aI h_cells k_cells v_cells_n v_cells_a] (wX5_cellOf k_cells h_ h_cells v_head v_size v_cells_n v_cells_a u0) (u0) := by
  refine MI.ofW (cc := cX5_cellOf) (maxL := 3) (ret := (some .int)) (lv := [(0, .ref h_), (1, .int p1)]) (by decide +kernel) rfl (Nat.le_of_ble_eq_true rfl) rfl ?_
  intro p e s m args below meth c A ls hx hb hr hml hts hown hlocks hA hK hP hD hS hl
  replace hown : s.vm.findClass RX5 = some m.cls := hown
  have i_X5 : ∀ w ∈ wsX50, w ∈ wsX5_cellOf := by decide +kernel
  have f_13 := hts (.fieldLink RX5 13 "SerialPort$Ring" "cells" "[I") (by decide +kernel)
  have f_19 := hts (.fieldLink RX5 19 "SerialPort$Ring" "head" "I") (by decide +kernel)
  have hret : ∀ (u : Int32) (v : Int32) (H : Heap) (locs : List Loc) (pc : Nat) (ls : Array Slot), va_P D vwCl (wX5_cellOf k_cells h_ h_cells v_head v_size v_cells_n v_cells_a u) H → va_D A (wX5_cellOf k_cells h_ h_cells v_head v_size v_cells_n v_cells_a u) → va_S A s.heap H locs → some u = some u0 → v = u → decode cX5_cellOf pc = .ok (.ireturn, 1) → W p l e { frames := 0, cells := 0, slots := 0, locals := 0 } s m args below meth c H locs 0 0 (QI below D [(k_cells, .int)] (wX5_cellOf k_cells h_ h_cells v_head v_size v_cells_n v_cells_a u0) (u0) args s A) (F0 m pc ls [.int v]) := fun u v H locs pc ls h1 h2 h3 h4 h5 h6 => rI (wf := wX5_cellOf k_cells h_ h_cells v_head v_size v_cells_n v_cells_a) (rf := fun u => u) hx hb hr hlocks hK h1 h2 h3 h4 h5 h6
  unfold F_X5_cellOf at hF
  refine lv_aload_n hx hb dX5_cellOf_0 rfl (lv_at hl 0 rfl) ?_
  refine va_get (D := D) (ci := 5) (v := .int v_head) (C := RX5) (T := TX5) (N := 3) hx hb hts i_X5 hown hK hP 0 rfl rfl 1 (Nat.le_of_ble_eq_true rfl) f_19 (fun _ h9 => h9) rfl dX5_cellOf_1 ?_
  refine lv_iload_n hx hb dX5_cellOf_4 rfl (lv_at hl 1 rfl) ?_
  refine lv_iadd hx hb dX5_cellOf_5 ?_
  refine lv_topi (fun x1 ex1 => ?_)
  replace hF := lt1_x ex1 hF
  refine lv_istore_n (lv' := [(2, .int x1), (0, .ref h_), (1, .int p1)]) hx hb dX5_cellOf_6 rfl hl (Nat.le_of_ble_eq_true rfl) rfl (fun ls hl => ?_)
  refine lv_iload_n hx hb dX5_cellOf_7 rfl (lv_at hl 0 rfl) ?_
  refine lv_aload_n hx hb dX5_cellOf_8 rfl (lv_at hl 1 rfl) ?_
  refine va_get (D := D) (ci := 5) (v := .ref h_cells) (C := RX5) (T := TX5) (N := 3) hx hb hts i_X5 hown hK hP 0 rfl rfl 0 (Nat.le_of_ble_eq_true rfl) f_13 (fun _ h9 => h9) rfl dX5_cellOf_9 ?_
  refine va_alen (v := (Int32.ofNat v_cells_n)) hx hb hK hP 1 0 rfl rfl rfl dX5_cellOf_12 ?_
  refine lv_icmp_lt (tgt := 26) hx hb dX5_cellOf_13 (by decide) (fun c2 => ?_) (fun c2 => ?_)
  · replace hF := it_t c2 hF
    refine lv_iload_n hx hb dX5_cellOf_26 rfl (lv_at hl 0 rfl) ?_
    exact hret x1 x1 _ _ 27 _ hP hD hS hF rfl dX5_cellOf_27
  · replace hF := it_f c2 hF
    refine lv_iload_n hx hb dX5_cellOf_16 rfl (lv_at hl 0 rfl) ?_
    refine lv_aload_n hx hb dX5_cellOf_17 rfl (lv_at hl 1 rfl) ?_
    refine va_get (D := D) (ci := 5) (v := .ref h_cells) (C := RX5) (T := TX5) (N := 3) hx hb hts i_X5 hown hK hP 0 rfl rfl 0 (Nat.le_of_ble_eq_true rfl) f_13 (fun _ h9 => h9) rfl dX5_cellOf_18 ?_
    refine va_alen (v := (Int32.ofNat v_cells_n)) hx hb hK hP 1 0 rfl rfl rfl dX5_cellOf_21 ?_
    refine lv_isub hx hb dX5_cellOf_22 ?_
    refine lv_goto (tgt := 27) hx hb dX5_cellOf_23 (by decide) ?_
    exact hret (x1 - (Int32.ofNat v_cells_n)) (x1 - (Int32.ofNat v_cells_n)) _ _ 27 _ hP hD hS hF rfl dX5_cellOf_27
def F_X5_at (p1 : Int32) (v_head : Int32) (v_size : Int32) (v_cells_n : Nat) (v_cells_a : Nat → Int32) : Option (Int32) := bd (F_X5_cellOf p1 v_head v_cells_n) (fun u1 => if p1 < 0 then (some (0 : Int32)) else (if v_size ≤ p1 then (some (0 : Int32)) else (if u1 < 0 then (some (0 : Int32)) else (if (Int32.ofNat v_cells_n) ≤ u1 then (some (0 : Int32)) else (gd (inR u1 v_cells_n = true) (some (v_cells_a u1.toNatClampNeg)))))))
def wX5_at (k_cells : ClassId) (h_ : Nat) (h_cells : Nat) (v_head : Int32) (v_size : Int32) (v_cells_n : Nat) (v_cells_a : Nat → Int32) (_u : Int32) : va_W := [oX5 h_ h_cells v_head v_size, aI h_cells k_cells v_cells_n v_cells_a]
set_option maxHeartbeats 4000000 in
set_option maxRecDepth 100000 in
theorem mX5_at {l : Launch} (D : va_G) (k_cells : ClassId) (h_ : Nat) (h_cells : Nat) (v_head : Int32) (v_size : Int32) (v_cells_n : Nat) (v_cells_a : Nat → Int32) (p1 : Int32) (u0 : Int32) (hF : F_X5_at p1 v_head v_size v_cells_n v_cells_a = some u0) : MI l yX5_at wsX5_at { frames := 1, cells := 0, slots := 0, locals := 22 } D [(k_cells, .int)] [.ref h_, .int p1] [oX5 h_ h_cells v_head v_size, aI h_cells k_cells v_cells_n v_cells_a] (wX5_at k_cells h_ h_cells v_head v_size v_cells_n v_cells_a u0) (u0) := by
  refine MI.ofW (cc := cX5_at) (maxL := 3) (ret := (some .int)) (lv := [(0, .ref h_), (1, .int p1)]) (by decide +kernel) rfl (Nat.le_of_ble_eq_true rfl) rfl ?_
  intro p e s m args below meth c A ls hx hb hr hml hts hown hlocks hA hK hP hD hS hl
  replace hown : s.vm.findClass RX5 = some m.cls := hown
  have i_X5 : ∀ w ∈ wsX50, w ∈ wsX5_at := by decide +kernel
  have f_13 := hts (.fieldLink RX5 13 "SerialPort$Ring" "cells" "[I") (by decide +kernel)
  have f_23 := hts (.fieldLink RX5 23 "SerialPort$Ring" "size" "I") (by decide +kernel)
  have hret : ∀ (u : Int32) (v : Int32) (H : Heap) (locs : List Loc) (pc : Nat) (ls : Array Slot), va_P D vwCl (wX5_at k_cells h_ h_cells v_head v_size v_cells_n v_cells_a u) H → va_D A (wX5_at k_cells h_ h_cells v_head v_size v_cells_n v_cells_a u) → va_S A s.heap H locs → some u = some u0 → v = u → decode cX5_at pc = .ok (.ireturn, 1) → W p l e { frames := 1, cells := 0, slots := 0, locals := 22 } s m args below meth c H locs 0 0 (QI below D [(k_cells, .int)] (wX5_at k_cells h_ h_cells v_head v_size v_cells_n v_cells_a u0) (u0) args s A) (F0 m pc ls [.int v]) := fun u v H locs pc ls h1 h2 h3 h4 h5 h6 => rI (wf := wX5_at k_cells h_ h_cells v_head v_size v_cells_n v_cells_a) (rf := fun u => u) hx hb hr hlocks hK h1 h2 h3 h4 h5 h6
  unfold F_X5_at at hF
  refine lv_aload_n hx hb dX5_at_0 rfl (lv_at hl 0 rfl) ?_
  refine lv_iload_n hx hb dX5_at_1 rfl (lv_at hl 1 rfl) ?_
  obtain ⟨u1, hu1, hF⟩ := bd_el hF
  refine cVI (q0 := 0) (ci := 5) (As := [.int p1]) (rest := []) (wr := []) (ws' := [oX5 h_ h_cells v_head v_size, aI h_cells k_cells v_cells_n v_cells_a]) (rv := u1) ⟨hx, hb, hml, hown, hts⟩ (mX5_cellOf D k_cells h_ h_cells v_head v_size v_cells_n v_cells_a p1 u1 hu1) (cwV 1 hts gX5_at_X5_cellOf rfl rfl rfl (by decide +kernel) ⟨Nat.le_of_ble_eq_true rfl, Nat.le_of_ble_eq_true rfl⟩) hK hP hD hS hA [0] [0, 1] [] [0, 1] rfl rfl rfl rfl rfl rfl rfl rfl rfl hl.1 rfl (Nat.le_of_ble_eq_true rfl) rfl dX5_at_2 ⟨Nat.le_refl _, Nat.le_refl _⟩ (fun H locs hP hD hS => ?_)
  refine lv_istore_n (lv' := [(2, .int u1), (0, .ref h_), (1, .int p1)]) hx hb dX5_at_5 rfl hl (Nat.le_of_ble_eq_true rfl) rfl (fun ls hl => ?_)
  refine lv_iload_n hx hb dX5_at_6 rfl (lv_at hl 2 rfl) ?_
  refine lv_if_lt (tgt := 40) hx hb dX5_at_7 (by decide) (fun c2 => ?_) (fun c2 => ?_)
  · replace hF := it_t c2 hF
    refine lv_iconst (v := 0) hx hb dX5_at_40 (by decide) ?_
    exact hret (0 : Int32) 0 _ _ 41 _ hP hD hS hF rfl dX5_at_41
  · replace hF := it_f c2 hF
    refine lv_iload_n hx hb dX5_at_10 rfl (lv_at hl 2 rfl) ?_
    refine lv_aload_n hx hb dX5_at_11 rfl (lv_at hl 1 rfl) ?_
    refine va_get (D := D) (ci := 5) (v := .int v_size) (C := RX5) (T := TX5) (N := 3) hx hb hts i_X5 hown hK hP 0 rfl rfl 2 (Nat.le_of_ble_eq_true rfl) f_23 (fun _ h9 => h9) rfl dX5_at_12 ?_
    refine lv_icmp_ge (tgt := 40) hx hb dX5_at_15 (by decide) (fun c3 => ?_) (fun c3 => ?_)
    · replace hF := it_t c3 hF
      refine lv_iconst (v := 0) hx hb dX5_at_40 (by decide) ?_
      exact hret (0 : Int32) 0 _ _ 41 _ hP hD hS hF rfl dX5_at_41
    · replace hF := it_f c3 hF
      refine lv_iload_n hx hb dX5_at_18 rfl (lv_at hl 0 rfl) ?_
      refine lv_if_lt (tgt := 40) hx hb dX5_at_19 (by decide) (fun c4 => ?_) (fun c4 => ?_)
      · replace hF := it_t c4 hF
        refine lv_iconst (v := 0) hx hb dX5_at_40 (by decide) ?_
        exact hret (0 : Int32) 0 _ _ 41 _ hP hD hS hF rfl dX5_at_41
      · replace hF := it_f c4 hF
        refine lv_iload_n hx hb dX5_at_22 rfl (lv_at hl 0 rfl) ?_
        refine lv_aload_n hx hb dX5_at_23 rfl (lv_at hl 1 rfl) ?_
        refine va_get (D := D) (ci := 5) (v := .ref h_cells) (C := RX5) (T := TX5) (N := 3) hx hb hts i_X5 hown hK hP 0 rfl rfl 0 (Nat.le_of_ble_eq_true rfl) f_13 (fun _ h9 => h9) rfl dX5_at_24 ?_
        refine va_alen (v := (Int32.ofNat v_cells_n)) hx hb hK hP 1 0 rfl rfl rfl dX5_at_27 ?_
        refine lv_icmp_ge (tgt := 40) hx hb dX5_at_28 (by decide) (fun c5 => ?_) (fun c5 => ?_)
        · replace hF := it_t c5 hF
          refine lv_iconst (v := 0) hx hb dX5_at_40 (by decide) ?_
          exact hret (0 : Int32) 0 _ _ 41 _ hP hD hS hF rfl dX5_at_41
        · replace hF := it_f c5 hF
          refine lv_aload_n hx hb dX5_at_31 rfl (lv_at hl 1 rfl) ?_
          refine va_get (D := D) (ci := 5) (v := .ref h_cells) (C := RX5) (T := TX5) (N := 3) hx hb hts i_X5 hown hK hP 0 rfl rfl 0 (Nat.le_of_ble_eq_true rfl) f_13 (fun _ h9 => h9) rfl dX5_at_32 ?_
          refine lv_iload_n hx hb dX5_at_35 rfl (lv_at hl 0 rfl) ?_
          obtain ⟨g6, hF⟩ := gd_el hF
          refine va_iald hx hb hK hP 1 0 rfl rfl (inR_in g6) dX5_at_36 ?_
          refine lv_goto (tgt := 41) hx hb dX5_at_37 (by decide) ?_
          exact hret (v_cells_a u1.toNatClampNeg) (v_cells_a u1.toNatClampNeg) _ _ 41 _ hP hD hS hF rfl dX5_at_41
def F_X5_first  (v_head : Int32) (v_size : Int32) (v_cells_n : Nat) (v_cells_a : Nat → Int32) : Option (Int32) := bd (F_X5_at 0 v_head v_size v_cells_n v_cells_a) (fun u1 => some u1)
def wX5_first (k_cells : ClassId) (h_ : Nat) (h_cells : Nat) (v_head : Int32) (v_size : Int32) (v_cells_n : Nat) (v_cells_a : Nat → Int32) (_u : Int32) : va_W := [oX5 h_ h_cells v_head v_size, aI h_cells k_cells v_cells_n v_cells_a]
set_option maxHeartbeats 4000000 in
set_option maxRecDepth 100000 in
theorem mX5_first {l : Launch} (D : va_G) (k_cells : ClassId) (h_ : Nat) (h_cells : Nat) (v_head : Int32) (v_size : Int32) (v_cells_n : Nat) (v_cells_a : Nat → Int32) (u0 : Int32) (hF : F_X5_first v_head v_size v_cells_n v_cells_a = some u0) : MI l yX5_first wsX5_first { frames := 2, cells := 0, slots := 0, locals := 44 } D [(k_cells, .int)] [.ref h_] [oX5 h_ h_cells v_head v_size, aI h_cells k_cells v_cells_n v_cells_a] (wX5_first k_cells h_ h_cells v_head v_size v_cells_n v_cells_a u0) (u0) := by
  refine MI.ofW (cc := cX5_first) (maxL := 1) (ret := (some .int)) (lv := [(0, .ref h_)]) (by decide +kernel) rfl (Nat.le_of_ble_eq_true rfl) rfl ?_
  intro p e s m args below meth c A ls hx hb hr hml hts hown hlocks hA hK hP hD hS hl
  replace hown : s.vm.findClass RX5 = some m.cls := hown
  have hret : ∀ (u : Int32) (v : Int32) (H : Heap) (locs : List Loc) (pc : Nat) (ls : Array Slot), va_P D vwCl (wX5_first k_cells h_ h_cells v_head v_size v_cells_n v_cells_a u) H → va_D A (wX5_first k_cells h_ h_cells v_head v_size v_cells_n v_cells_a u) → va_S A s.heap H locs → some u = some u0 → v = u → decode cX5_first pc = .ok (.ireturn, 1) → W p l e { frames := 2, cells := 0, slots := 0, locals := 44 } s m args below meth c H locs 0 0 (QI below D [(k_cells, .int)] (wX5_first k_cells h_ h_cells v_head v_size v_cells_n v_cells_a u0) (u0) args s A) (F0 m pc ls [.int v]) := fun u v H locs pc ls h1 h2 h3 h4 h5 h6 => rI (wf := wX5_first k_cells h_ h_cells v_head v_size v_cells_n v_cells_a) (rf := fun u => u) hx hb hr hlocks hK h1 h2 h3 h4 h5 h6
  unfold F_X5_first at hF
  refine lv_aload_n hx hb dX5_first_0 rfl (lv_at hl 0 rfl) ?_
  refine lv_iconst (v := 0) hx hb dX5_first_1 (by decide) ?_
  obtain ⟨u1, hu1, hF⟩ := bd_el hF
  refine cVI (q0 := 0) (ci := 5) (As := [.int 0]) (rest := []) (wr := []) (ws' := [oX5 h_ h_cells v_head v_size, aI h_cells k_cells v_cells_n v_cells_a]) (rv := u1) ⟨hx, hb, hml, hown, hts⟩ (mX5_at D k_cells h_ h_cells v_head v_size v_cells_n v_cells_a 0 u1 hu1) (cwV 1 hts gX5_first_X5_at rfl rfl rfl (by decide +kernel) ⟨Nat.le_of_ble_eq_true rfl, Nat.le_of_ble_eq_true rfl⟩) hK hP hD hS hA [0] [0, 1] [] [0, 1] rfl rfl rfl rfl rfl rfl rfl rfl rfl hl.1 rfl (Nat.le_of_ble_eq_true rfl) rfl dX5_first_2 ⟨Nat.le_refl _, Nat.le_refl _⟩ (fun H locs hP hD hS => ?_)
  exact hret u1 u1 _ _ 5 _ hP hD hS hF rfl dX5_first_5
def F_X5_setAt (p1 : Int32) (p2 : Int32) (v_head : Int32) (v_size : Int32) (v_cells_n : Nat) (v_cells_a : Nat → Int32) : Option ((Nat → Int32)) := bd (F_X5_cellOf p1 v_head v_cells_n) (fun u1 => if p1 < 0 then (some v_cells_a) else (if v_size ≤ p1 then (some v_cells_a) else (if u1 < 0 then (some v_cells_a) else (if (Int32.ofNat v_cells_n) ≤ u1 then (some v_cells_a) else (gd (inR u1 v_cells_n = true) (some (upd v_cells_a (u1.toNatClampNeg) p2)))))))
def wX5_setAt (k_cells : ClassId) (h_ : Nat) (h_cells : Nat) (v_head : Int32) (v_size : Int32) (v_cells_n : Nat) (u : (Nat → Int32)) : va_W := [oX5 h_ h_cells v_head v_size, aI h_cells k_cells v_cells_n u]
set_option maxHeartbeats 4000000 in
set_option maxRecDepth 100000 in
theorem mX5_setAt {l : Launch} (D : va_G) (k_cells : ClassId) (h_ : Nat) (h_cells : Nat) (v_head : Int32) (v_size : Int32) (v_cells_n : Nat) (v_cells_a : Nat → Int32) (p1 : Int32) (p2 : Int32) (u0 : (Nat → Int32)) (hF : F_X5_setAt p1 p2 v_head v_size v_cells_n v_cells_a = some u0) : MV l yX5_setAt wsX5_setAt { frames := 1, cells := 0, slots := 0, locals := 22 } D [(k_cells, .int)] [.ref h_, .int p1, .int p2] [oX5 h_ h_cells v_head v_size, aI h_cells k_cells v_cells_n v_cells_a] (wX5_setAt k_cells h_ h_cells v_head v_size v_cells_n u0) := by
  refine MV.ofW (cc := cX5_setAt) (maxL := 4) (ret := none) (lv := [(0, .ref h_), (1, .int p1), (2, .int p2)]) (by decide +kernel) rfl (Nat.le_of_ble_eq_true rfl) rfl ?_
  intro p e s m args below meth c A ls hx hb hr hml hts hown hlocks hA hK hP hD hS hl
  replace hown : s.vm.findClass RX5 = some m.cls := hown
  have i_X5 : ∀ w ∈ wsX50, w ∈ wsX5_setAt := by decide +kernel
  have f_13 := hts (.fieldLink RX5 13 "SerialPort$Ring" "cells" "[I") (by decide +kernel)
  have f_23 := hts (.fieldLink RX5 23 "SerialPort$Ring" "size" "I") (by decide +kernel)
  have hret : ∀ (u : (Nat → Int32)) (H : Heap) (locs : List Loc) (pc : Nat) (ls : Array Slot), va_P D vwCl (wX5_setAt k_cells h_ h_cells v_head v_size v_cells_n u) H → va_D A (wX5_setAt k_cells h_ h_cells v_head v_size v_cells_n u) → va_S A s.heap H locs → some u = some u0 → decode cX5_setAt pc = .ok (.return_, 1) → W p l e { frames := 1, cells := 0, slots := 0, locals := 22 } s m args below meth c H locs 0 0 (QV below D [(k_cells, .int)] (wX5_setAt k_cells h_ h_cells v_head v_size v_cells_n u0) args s A) (F0 m pc ls []) := fun u H locs pc ls h1 h2 h3 h4 h5 => rV (wf := wX5_setAt k_cells h_ h_cells v_head v_size v_cells_n) hx hb hr hlocks hK h1 h2 h3 h4 h5
  unfold F_X5_setAt at hF
  refine lv_aload_n hx hb dX5_setAt_0 rfl (lv_at hl 0 rfl) ?_
  refine lv_iload_n hx hb dX5_setAt_1 rfl (lv_at hl 1 rfl) ?_
  obtain ⟨u1, hu1, hF⟩ := bd_el hF
  refine cVI (q0 := 0) (ci := 5) (As := [.int p1]) (rest := []) (wr := []) (ws' := [oX5 h_ h_cells v_head v_size, aI h_cells k_cells v_cells_n v_cells_a]) (rv := u1) ⟨hx, hb, hml, hown, hts⟩ (mX5_cellOf D k_cells h_ h_cells v_head v_size v_cells_n v_cells_a p1 u1 hu1) (cwV 1 hts gX5_setAt_X5_cellOf rfl rfl rfl (by decide +kernel) ⟨Nat.le_of_ble_eq_true rfl, Nat.le_of_ble_eq_true rfl⟩) hK hP hD hS hA [0] [0, 1] [] [0, 1] rfl rfl rfl rfl rfl rfl rfl rfl rfl hl.1 rfl (Nat.le_of_ble_eq_true rfl) rfl dX5_setAt_2 ⟨Nat.le_refl _, Nat.le_refl _⟩ (fun H locs hP hD hS => ?_)
  refine lv_istore_n (lv' := [(3, .int u1), (0, .ref h_), (1, .int p1), (2, .int p2)]) hx hb dX5_setAt_5 rfl hl (Nat.le_of_ble_eq_true rfl) rfl (fun ls hl => ?_)
  refine lv_iload_n hx hb dX5_setAt_6 rfl (lv_at hl 2 rfl) ?_
  refine lv_if_lt (tgt := 38) hx hb dX5_setAt_7 (by decide) (fun c2 => ?_) (fun c2 => ?_)
  · replace hF := it_t c2 hF
    exact hret v_cells_a _ _ 38 _ hP hD hS hF dX5_setAt_38
  · replace hF := it_f c2 hF
    refine lv_iload_n hx hb dX5_setAt_10 rfl (lv_at hl 2 rfl) ?_
    refine lv_aload_n hx hb dX5_setAt_11 rfl (lv_at hl 1 rfl) ?_
    refine va_get (D := D) (ci := 5) (v := .int v_size) (C := RX5) (T := TX5) (N := 3) hx hb hts i_X5 hown hK hP 0 rfl rfl 2 (Nat.le_of_ble_eq_true rfl) f_23 (fun _ h9 => h9) rfl dX5_setAt_12 ?_
    refine lv_icmp_ge (tgt := 38) hx hb dX5_setAt_15 (by decide) (fun c3 => ?_) (fun c3 => ?_)
    · replace hF := it_t c3 hF
      exact hret v_cells_a _ _ 38 _ hP hD hS hF dX5_setAt_38
    · replace hF := it_f c3 hF
      refine lv_iload_n hx hb dX5_setAt_18 rfl (lv_at hl 0 rfl) ?_
      refine lv_if_lt (tgt := 38) hx hb dX5_setAt_19 (by decide) (fun c4 => ?_) (fun c4 => ?_)
      · replace hF := it_t c4 hF
        exact hret v_cells_a _ _ 38 _ hP hD hS hF dX5_setAt_38
      · replace hF := it_f c4 hF
        refine lv_iload_n hx hb dX5_setAt_22 rfl (lv_at hl 0 rfl) ?_
        refine lv_aload_n hx hb dX5_setAt_23 rfl (lv_at hl 1 rfl) ?_
        refine va_get (D := D) (ci := 5) (v := .ref h_cells) (C := RX5) (T := TX5) (N := 3) hx hb hts i_X5 hown hK hP 0 rfl rfl 0 (Nat.le_of_ble_eq_true rfl) f_13 (fun _ h9 => h9) rfl dX5_setAt_24 ?_
        refine va_alen (v := (Int32.ofNat v_cells_n)) hx hb hK hP 1 0 rfl rfl rfl dX5_setAt_27 ?_
        refine lv_icmp_ge (tgt := 38) hx hb dX5_setAt_28 (by decide) (fun c5 => ?_) (fun c5 => ?_)
        · replace hF := it_t c5 hF
          exact hret v_cells_a _ _ 38 _ hP hD hS hF dX5_setAt_38
        · replace hF := it_f c5 hF
          refine lv_aload_n hx hb dX5_setAt_31 rfl (lv_at hl 1 rfl) ?_
          refine va_get (D := D) (ci := 5) (v := .ref h_cells) (C := RX5) (T := TX5) (N := 3) hx hb hts i_X5 hown hK hP 0 rfl rfl 0 (Nat.le_of_ble_eq_true rfl) f_13 (fun _ h9 => h9) rfl dX5_setAt_32 ?_
          refine lv_iload_n hx hb dX5_setAt_35 rfl (lv_at hl 0 rfl) ?_
          refine lv_iload_n hx hb dX5_setAt_36 rfl (lv_at hl 3 rfl) ?_
          obtain ⟨g6, hF⟩ := gd_el hF
          refine ias (ws' := [oX5 h_ h_cells v_head v_size, aI h_cells k_cells v_cells_n (upd v_cells_a (u1.toNatClampNeg) p2)]) hx hb hK hP hD hS 1 0 rfl rfl g6 rfl dX5_setAt_37 (fun H locs hP hD hS => ?_)
          exact hret (upd v_cells_a (u1.toNatClampNeg) p2) _ _ 38 _ hP hD hS hF dX5_setAt_38
def F_X5_setFirst (p1 : Int32) (v_head : Int32) (v_size : Int32) (v_cells_n : Nat) (v_cells_a : Nat → Int32) : Option ((Nat → Int32)) := bd (F_X5_setAt 0 p1 v_head v_size v_cells_n v_cells_a) (fun u1 => some u1)
def wX5_setFirst (k_cells : ClassId) (h_ : Nat) (h_cells : Nat) (v_head : Int32) (v_size : Int32) (v_cells_n : Nat) (u : (Nat → Int32)) : va_W := [oX5 h_ h_cells v_head v_size, aI h_cells k_cells v_cells_n u]
set_option maxHeartbeats 4000000 in
set_option maxRecDepth 100000 in
theorem mX5_setFirst {l : Launch} (D : va_G) (k_cells : ClassId) (h_ : Nat) (h_cells : Nat) (v_head : Int32) (v_size : Int32) (v_cells_n : Nat) (v_cells_a : Nat → Int32) (p1 : Int32) (u0 : (Nat → Int32)) (hF : F_X5_setFirst p1 v_head v_size v_cells_n v_cells_a = some u0) : MV l yX5_setFirst wsX5_setFirst { frames := 2, cells := 0, slots := 0, locals := 45 } D [(k_cells, .int)] [.ref h_, .int p1] [oX5 h_ h_cells v_head v_size, aI h_cells k_cells v_cells_n v_cells_a] (wX5_setFirst k_cells h_ h_cells v_head v_size v_cells_n u0) := by
  refine MV.ofW (cc := cX5_setFirst) (maxL := 2) (ret := none) (lv := [(0, .ref h_), (1, .int p1)]) (by decide +kernel) rfl (Nat.le_of_ble_eq_true rfl) rfl ?_
  intro p e s m args below meth c A ls hx hb hr hml hts hown hlocks hA hK hP hD hS hl
  replace hown : s.vm.findClass RX5 = some m.cls := hown
  have hret : ∀ (u : (Nat → Int32)) (H : Heap) (locs : List Loc) (pc : Nat) (ls : Array Slot), va_P D vwCl (wX5_setFirst k_cells h_ h_cells v_head v_size v_cells_n u) H → va_D A (wX5_setFirst k_cells h_ h_cells v_head v_size v_cells_n u) → va_S A s.heap H locs → some u = some u0 → decode cX5_setFirst pc = .ok (.return_, 1) → W p l e { frames := 2, cells := 0, slots := 0, locals := 45 } s m args below meth c H locs 0 0 (QV below D [(k_cells, .int)] (wX5_setFirst k_cells h_ h_cells v_head v_size v_cells_n u0) args s A) (F0 m pc ls []) := fun u H locs pc ls h1 h2 h3 h4 h5 => rV (wf := wX5_setFirst k_cells h_ h_cells v_head v_size v_cells_n) hx hb hr hlocks hK h1 h2 h3 h4 h5
  unfold F_X5_setFirst at hF
  refine lv_aload_n hx hb dX5_setFirst_0 rfl (lv_at hl 0 rfl) ?_
  refine lv_iconst (v := 0) hx hb dX5_setFirst_1 (by decide) ?_
  refine lv_iload_n hx hb dX5_setFirst_2 rfl (lv_at hl 1 rfl) ?_
  obtain ⟨u1, hu1, hF⟩ := bd_el hF
  refine cVV (q0 := 0) (ci := 5) (As := [.int 0, .int p1]) (rest := []) (wr := []) (ws' := [oX5 h_ h_cells v_head v_size, aI h_cells k_cells v_cells_n u1]) ⟨hx, hb, hml, hown, hts⟩ (mX5_setAt D k_cells h_ h_cells v_head v_size v_cells_n v_cells_a 0 p1 u1 hu1) (cwV 2 hts gX5_setFirst_X5_setAt rfl rfl rfl (by decide +kernel) ⟨Nat.le_of_ble_eq_true rfl, Nat.le_of_ble_eq_true rfl⟩) hK hP hD hS hA [0] [0, 1] [] [0, 1] rfl rfl rfl rfl rfl rfl rfl rfl rfl hl.1 rfl (Nat.le_of_ble_eq_true rfl) dX5_setFirst_3 ⟨Nat.le_refl _, Nat.le_refl _⟩ (fun H locs hP hD hS => ?_)
  exact hret u1 _ _ 6 _ hP hD hS hF dX5_setFirst_6
def F_X5_add (p1 : Int32) (v_head : Int32) (v_size : Int32) (v_cells_n : Nat) (v_cells_a : Nat → Int32) : Option (Int32 × (Nat → Int32)) := if (Int32.ofNat v_cells_n) ≤ v_size then (some (v_size, v_cells_a)) else (lt1 (v_size + 1) (fun x2 => bd (F_X5_setAt (x2 - 1) p1 v_head x2 v_cells_n v_cells_a) (fun u3 => some (x2, u3))))
def wX5_add (k_cells : ClassId) (h_ : Nat) (h_cells : Nat) (v_head : Int32) (v_cells_n : Nat) (u : Int32 × (Nat → Int32)) : va_W := [oX5 h_ h_cells v_head u.1, aI h_cells k_cells v_cells_n u.2]
set_option maxHeartbeats 4000000 in
set_option maxRecDepth 100000 in
theorem mX5_add {l : Launch} (D : va_G) (k_cells : ClassId) (h_ : Nat) (h_cells : Nat) (v_head : Int32) (v_size : Int32) (v_cells_n : Nat) (v_cells_a : Nat → Int32) (p1 : Int32) (u0 : Int32 × (Nat → Int32)) (hF : F_X5_add p1 v_head v_size v_cells_n v_cells_a = some u0) : MV l yX5_add wsX5_add { frames := 2, cells := 0, slots := 0, locals := 45 } D [(k_cells, .int)] [.ref h_, .int p1] [oX5 h_ h_cells v_head v_size, aI h_cells k_cells v_cells_n v_cells_a] (wX5_add k_cells h_ h_cells v_head v_cells_n u0) := by
  refine MV.ofW (cc := cX5_add) (maxL := 2) (ret := none) (lv := [(0, .ref h_), (1, .int p1)]) (by decide +kernel) rfl (Nat.le_of_ble_eq_true rfl) rfl ?_
  intro p e s m args below meth c A ls hx hb hr hml hts hown hlocks hA hK hP hD hS hl
  replace hown : s.vm.findClass RX5 = some m.cls := hown
  have i_X5 : ∀ w ∈ wsX50, w ∈ wsX5_add := by decide +kernel
  have f_13 := hts (.fieldLink RX5 13 "SerialPort$Ring" "cells" "[I") (by decide +kernel)
  have f_23 := hts (.fieldLink RX5 23 "SerialPort$Ring" "size" "I") (by decide +kernel)
  have hret : ∀ (u : Int32 × (Nat → Int32)) (H : Heap) (locs : List Loc) (pc : Nat) (ls : Array Slot), va_P D vwCl (wX5_add k_cells h_ h_cells v_head v_cells_n u) H → va_D A (wX5_add k_cells h_ h_cells v_head v_cells_n u) → va_S A s.heap H locs → some u = some u0 → decode cX5_add pc = .ok (.return_, 1) → W p l e { frames := 2, cells := 0, slots := 0, locals := 45 } s m args below meth c H locs 0 0 (QV below D [(k_cells, .int)] (wX5_add k_cells h_ h_cells v_head v_cells_n u0) args s A) (F0 m pc ls []) := fun u H locs pc ls h1 h2 h3 h4 h5 => rV (wf := wX5_add k_cells h_ h_cells v_head v_cells_n) hx hb hr hlocks hK h1 h2 h3 h4 h5
  unfold F_X5_add at hF
  refine lv_aload_n hx hb dX5_add_0 rfl (lv_at hl 0 rfl) ?_
  refine va_get (D := D) (ci := 5) (v := .int v_size) (C := RX5) (T := TX5) (N := 3) hx hb hts i_X5 hown hK hP 0 rfl rfl 2 (Nat.le_of_ble_eq_true rfl) f_23 (fun _ h9 => h9) rfl dX5_add_1 ?_
  refine lv_aload_n hx hb dX5_add_4 rfl (lv_at hl 0 rfl) ?_
  refine va_get (D := D) (ci := 5) (v := .ref h_cells) (C := RX5) (T := TX5) (N := 3) hx hb hts i_X5 hown hK hP 0 rfl rfl 0 (Nat.le_of_ble_eq_true rfl) f_13 (fun _ h9 => h9) rfl dX5_add_5 ?_
  refine va_alen (v := (Int32.ofNat v_cells_n)) hx hb hK hP 1 0 rfl rfl rfl dX5_add_8 ?_
  refine lv_icmp_ge (tgt := 33) hx hb dX5_add_9 (by decide) (fun c1 => ?_) (fun c1 => ?_)
  · replace hF := it_t c1 hF
    exact hret (v_size, v_cells_a) _ _ 33 _ hP hD hS hF dX5_add_33
  · replace hF := it_f c1 hF
    refine lv_aload_n hx hb dX5_add_12 rfl (lv_at hl 0 rfl) ?_
    refine lv_dup hx hb dX5_add_13 rfl ?_
    refine va_get (D := D) (ci := 5) (v := .int v_size) (C := RX5) (T := TX5) (N := 3) hx hb hts i_X5 hown hK hP 0 rfl rfl 2 (Nat.le_of_ble_eq_true rfl) f_23 (fun _ h9 => h9) rfl dX5_add_14 ?_
    refine lv_iconst (v := 1) hx hb dX5_add_17 (by decide) ?_
    refine lv_iadd hx hb dX5_add_18 ?_
    refine lv_topi (fun x2 ex2 => ?_)
    replace hF := lt1_x ex2 hF
    refine pf (ci := 5) (v := .int x2) (ty := .int) (C := RX5) (T := TX5) (N := 3) (ws' := [oX5 h_ h_cells v_head x2, aI h_cells k_cells v_cells_n v_cells_a]) hx hb hts i_X5 tyX5_ok nmX5 hown hK hP hD hS 0 rfl rfl 2 (Nat.le_of_ble_eq_true rfl) f_23 rfl rfl (by decide +kernel) rfl rfl (Nat.le_of_ble_eq_true rfl) rfl dX5_add_19 (fun H locs hP hD hS => ?_)
    refine lv_aload_n hx hb dX5_add_22 rfl (lv_at hl 0 rfl) ?_
    refine lv_aload_n hx hb dX5_add_23 rfl (lv_at hl 0 rfl) ?_
    refine va_get (D := D) (ci := 5) (v := .int x2) (C := RX5) (T := TX5) (N := 3) hx hb hts i_X5 hown hK hP 0 rfl rfl 2 (Nat.le_of_ble_eq_true rfl) f_23 (fun _ h9 => h9) rfl dX5_add_24 ?_
    refine lv_iconst (v := 1) hx hb dX5_add_27 (by decide) ?_
    refine lv_isub hx hb dX5_add_28 ?_
    refine lv_iload_n hx hb dX5_add_29 rfl (lv_at hl 1 rfl) ?_
    obtain ⟨u3, hu3, hF⟩ := bd_el hF
    refine cVV (q0 := 0) (ci := 5) (As := [.int (x2 - 1), .int p1]) (rest := []) (wr := []) (ws' := [oX5 h_ h_cells v_head x2, aI h_cells k_cells v_cells_n u3]) ⟨hx, hb, hml, hown, hts⟩ (mX5_setAt D k_cells h_ h_cells v_head x2 v_cells_n v_cells_a (x2 - 1) p1 u3 hu3) (cwV 2 hts gX5_add_X5_setAt rfl rfl rfl (by decide +kernel) ⟨Nat.le_of_ble_eq_true rfl, Nat.le_of_ble_eq_true rfl⟩) hK hP hD hS hA [0] [0, 1] [] [0, 1] rfl rfl rfl rfl rfl rfl rfl rfl rfl hl.1 rfl (Nat.le_of_ble_eq_true rfl) dX5_add_30 ⟨Nat.le_refl _, Nat.le_refl _⟩ (fun H locs hP hD hS => ?_)
    exact hret (x2, u3) _ _ 33 _ hP hD hS hF dX5_add_33
def F_X5_dropFirst  (v_head : Int32) (v_size : Int32) (v_cells_n : Nat) : Option (Int32 × Int32) := if v_size ≤ 0 then (some (v_head, v_size)) else (bd (F_X5_cellOf 1 v_head v_cells_n) (fun u2 => lt1 (v_size - 1) (fun x3 => some (u2, x3))))
def wX5_dropFirst (k_cells : ClassId) (h_ : Nat) (h_cells : Nat) (v_cells_n : Nat) (v_cells_a : Nat → Int32) (u : Int32 × Int32) : va_W := [oX5 h_ h_cells u.1 u.2, aI h_cells k_cells v_cells_n v_cells_a]
set_option maxHeartbeats 4000000 in
set_option maxRecDepth 100000 in
theorem mX5_dropFirst {l : Launch} (D : va_G) (k_cells : ClassId) (h_ : Nat) (h_cells : Nat) (v_head : Int32) (v_size : Int32) (v_cells_n : Nat) (v_cells_a : Nat → Int32) (u0 : Int32 × Int32) (hF : F_X5_dropFirst v_head v_size v_cells_n = some u0) : MV l yX5_dropFirst wsX5_dropFirst { frames := 1, cells := 0, slots := 0, locals := 22 } D [(k_cells, .int)] [.ref h_] [oX5 h_ h_cells v_head v_size, aI h_cells k_cells v_cells_n v_cells_a] (wX5_dropFirst k_cells h_ h_cells v_cells_n v_cells_a u0) := by
  refine MV.ofW (cc := cX5_dropFirst) (maxL := 1) (ret := none) (lv := [(0, .ref h_)]) (by decide +kernel) rfl (Nat.le_of_ble_eq_true rfl) rfl ?_
  intro p e s m args below meth c A ls hx hb hr hml hts hown hlocks hA hK hP hD hS hl
  replace hown : s.vm.findClass RX5 = some m.cls := hown
  have i_X5 : ∀ w ∈ wsX50, w ∈ wsX5_dropFirst := by decide +kernel
  have f_19 := hts (.fieldLink RX5 19 "SerialPort$Ring" "head" "I") (by decide +kernel)
  have f_23 := hts (.fieldLink RX5 23 "SerialPort$Ring" "size" "I") (by decide +kernel)
  have hret : ∀ (u : Int32 × Int32) (H : Heap) (locs : List Loc) (pc : Nat) (ls : Array Slot), va_P D vwCl (wX5_dropFirst k_cells h_ h_cells v_cells_n v_cells_a u) H → va_D A (wX5_dropFirst k_cells h_ h_cells v_cells_n v_cells_a u) → va_S A s.heap H locs → some u = some u0 → decode cX5_dropFirst pc = .ok (.return_, 1) → W p l e { frames := 1, cells := 0, slots := 0, locals := 22 } s m args below meth c H locs 0 0 (QV below D [(k_cells, .int)] (wX5_dropFirst k_cells h_ h_cells v_cells_n v_cells_a u0) args s A) (F0 m pc ls []) := fun u H locs pc ls h1 h2 h3 h4 h5 => rV (wf := wX5_dropFirst k_cells h_ h_cells v_cells_n v_cells_a) hx hb hr hlocks hK h1 h2 h3 h4 h5
  unfold F_X5_dropFirst at hF
  refine lv_aload_n hx hb dX5_dropFirst_0 rfl (lv_at hl 0 rfl) ?_
  refine va_get (D := D) (ci := 5) (v := .int v_size) (C := RX5) (T := TX5) (N := 3) hx hb hts i_X5 hown hK hP 0 rfl rfl 2 (Nat.le_of_ble_eq_true rfl) f_23 (fun _ h9 => h9) rfl dX5_dropFirst_1 ?_
  refine lv_if_le (tgt := 26) hx hb dX5_dropFirst_4 (by decide) (fun c1 => ?_) (fun c1 => ?_)
  · replace hF := it_t c1 hF
    exact hret (v_head, v_size) _ _ 26 _ hP hD hS hF dX5_dropFirst_26
  · replace hF := it_f c1 hF
    refine lv_aload_n hx hb dX5_dropFirst_7 rfl (lv_at hl 0 rfl) ?_
    refine lv_aload_n hx hb dX5_dropFirst_8 rfl (lv_at hl 0 rfl) ?_
    refine lv_iconst (v := 1) hx hb dX5_dropFirst_9 (by decide) ?_
    obtain ⟨u2, hu2, hF⟩ := bd_el hF
    refine cVI (q0 := 0) (ci := 5) (As := [.int 1]) (rest := [.ref h_]) (wr := []) (ws' := [oX5 h_ h_cells v_head v_size, aI h_cells k_cells v_cells_n v_cells_a]) (rv := u2) ⟨hx, hb, hml, hown, hts⟩ (mX5_cellOf D k_cells h_ h_cells v_head v_size v_cells_n v_cells_a 1 u2 hu2) (cwV 1 hts gX5_dropFirst_X5_cellOf rfl rfl rfl (by decide +kernel) ⟨Nat.le_of_ble_eq_true rfl, Nat.le_of_ble_eq_true rfl⟩) hK hP hD hS hA [0] [0, 1] [] [0, 1] rfl rfl rfl rfl rfl rfl rfl rfl rfl hl.1 rfl (Nat.le_of_ble_eq_true rfl) rfl dX5_dropFirst_10 ⟨Nat.le_refl _, Nat.le_refl _⟩ (fun H locs hP hD hS => ?_)
    refine pf (ci := 5) (v := .int u2) (ty := .int) (C := RX5) (T := TX5) (N := 3) (ws' := [oX5 h_ h_cells u2 v_size, aI h_cells k_cells v_cells_n v_cells_a]) hx hb hts i_X5 tyX5_ok nmX5 hown hK hP hD hS 0 rfl rfl 1 (Nat.le_of_ble_eq_true rfl) f_19 rfl rfl (by decide +kernel) rfl rfl (Nat.le_of_ble_eq_true rfl) rfl dX5_dropFirst_13 (fun H locs hP hD hS => ?_)
    refine lv_aload_n hx hb dX5_dropFirst_16 rfl (lv_at hl 0 rfl) ?_
    refine lv_dup hx hb dX5_dropFirst_17 rfl ?_
    refine va_get (D := D) (ci := 5) (v := .int v_size) (C := RX5) (T := TX5) (N := 3) hx hb hts i_X5 hown hK hP 0 rfl rfl 2 (Nat.le_of_ble_eq_true rfl) f_23 (fun _ h9 => h9) rfl dX5_dropFirst_18 ?_
    refine lv_iconst (v := 1) hx hb dX5_dropFirst_21 (by decide) ?_
    refine lv_isub hx hb dX5_dropFirst_22 ?_
    refine lv_topi (fun x3 ex3 => ?_)
    replace hF := lt1_x ex3 hF
    refine pf (ci := 5) (v := .int x3) (ty := .int) (C := RX5) (T := TX5) (N := 3) (ws' := [oX5 h_ h_cells u2 x3, aI h_cells k_cells v_cells_n v_cells_a]) hx hb hts i_X5 tyX5_ok nmX5 hown hK hP hD hS 0 rfl rfl 2 (Nat.le_of_ble_eq_true rfl) f_23 rfl rfl (by decide +kernel) rfl rfl (Nat.le_of_ble_eq_true rfl) rfl dX5_dropFirst_23 (fun H locs hP hD hS => ?_)
    exact hret (u2, x3) _ _ 26 _ hP hD hS hF dX5_dropFirst_26
end
section
theorem dJ6_bitCount_0f7a4_0 : decode cJ6_bitCount_0f7a4 0 = .ok (.iload_n 0, 1) := by decide +kernel
theorem dJ6_bitCount_0f7a4_1 : decode cJ6_bitCount_0f7a4 1 = .ok (.iload_n 0, 1) := by decide +kernel
theorem dJ6_bitCount_0f7a4_2 : decode cJ6_bitCount_0f7a4 2 = .ok (.iconst 1, 1) := by decide +kernel
theorem dJ6_bitCount_0f7a4_3 : decode cJ6_bitCount_0f7a4 3 = .ok (.iushr, 1) := by decide +kernel
theorem dJ6_bitCount_0f7a4_4 : decode cJ6_bitCount_0f7a4 4 = .ok (.ldc_w 265, 3) := by decide +kernel
theorem dJ6_bitCount_0f7a4_7 : decode cJ6_bitCount_0f7a4 7 = .ok (.iand, 1) := by decide +kernel
theorem dJ6_bitCount_0f7a4_8 : decode cJ6_bitCount_0f7a4 8 = .ok (.isub, 1) := by decide +kernel
theorem dJ6_bitCount_0f7a4_9 : decode cJ6_bitCount_0f7a4 9 = .ok (.istore_n 0, 1) := by decide +kernel
theorem dJ6_bitCount_0f7a4_10 : decode cJ6_bitCount_0f7a4 10 = .ok (.iload_n 0, 1) := by decide +kernel
theorem dJ6_bitCount_0f7a4_11 : decode cJ6_bitCount_0f7a4 11 = .ok (.ldc_w 266, 3) := by decide +kernel
theorem dJ6_bitCount_0f7a4_14 : decode cJ6_bitCount_0f7a4 14 = .ok (.iand, 1) := by decide +kernel
theorem dJ6_bitCount_0f7a4_15 : decode cJ6_bitCount_0f7a4 15 = .ok (.iload_n 0, 1) := by decide +kernel
theorem dJ6_bitCount_0f7a4_16 : decode cJ6_bitCount_0f7a4 16 = .ok (.iconst 2, 1) := by decide +kernel
theorem dJ6_bitCount_0f7a4_17 : decode cJ6_bitCount_0f7a4 17 = .ok (.iushr, 1) := by decide +kernel
theorem dJ6_bitCount_0f7a4_18 : decode cJ6_bitCount_0f7a4 18 = .ok (.ldc_w 266, 3) := by decide +kernel
theorem dJ6_bitCount_0f7a4_21 : decode cJ6_bitCount_0f7a4 21 = .ok (.iand, 1) := by decide +kernel
theorem dJ6_bitCount_0f7a4_22 : decode cJ6_bitCount_0f7a4 22 = .ok (.iadd, 1) := by decide +kernel
theorem dJ6_bitCount_0f7a4_23 : decode cJ6_bitCount_0f7a4 23 = .ok (.istore_n 0, 1) := by decide +kernel
theorem dJ6_bitCount_0f7a4_24 : decode cJ6_bitCount_0f7a4 24 = .ok (.iload_n 0, 1) := by decide +kernel
theorem dJ6_bitCount_0f7a4_25 : decode cJ6_bitCount_0f7a4 25 = .ok (.iload_n 0, 1) := by decide +kernel
theorem dJ6_bitCount_0f7a4_26 : decode cJ6_bitCount_0f7a4 26 = .ok (.iconst 4, 1) := by decide +kernel
theorem dJ6_bitCount_0f7a4_27 : decode cJ6_bitCount_0f7a4 27 = .ok (.iushr, 1) := by decide +kernel
theorem dJ6_bitCount_0f7a4_28 : decode cJ6_bitCount_0f7a4 28 = .ok (.iadd, 1) := by decide +kernel
theorem dJ6_bitCount_0f7a4_29 : decode cJ6_bitCount_0f7a4 29 = .ok (.ldc_w 267, 3) := by decide +kernel
theorem dJ6_bitCount_0f7a4_32 : decode cJ6_bitCount_0f7a4 32 = .ok (.iand, 1) := by decide +kernel
theorem dJ6_bitCount_0f7a4_33 : decode cJ6_bitCount_0f7a4 33 = .ok (.istore_n 0, 1) := by decide +kernel
theorem dJ6_bitCount_0f7a4_34 : decode cJ6_bitCount_0f7a4 34 = .ok (.iload_n 0, 1) := by decide +kernel
theorem dJ6_bitCount_0f7a4_35 : decode cJ6_bitCount_0f7a4 35 = .ok (.iload_n 0, 1) := by decide +kernel
theorem dJ6_bitCount_0f7a4_36 : decode cJ6_bitCount_0f7a4 36 = .ok (.bipush 8, 2) := by decide +kernel
theorem dJ6_bitCount_0f7a4_38 : decode cJ6_bitCount_0f7a4 38 = .ok (.iushr, 1) := by decide +kernel
theorem dJ6_bitCount_0f7a4_39 : decode cJ6_bitCount_0f7a4 39 = .ok (.iadd, 1) := by decide +kernel
theorem dJ6_bitCount_0f7a4_40 : decode cJ6_bitCount_0f7a4 40 = .ok (.istore_n 0, 1) := by decide +kernel
theorem dJ6_bitCount_0f7a4_41 : decode cJ6_bitCount_0f7a4 41 = .ok (.iload_n 0, 1) := by decide +kernel
theorem dJ6_bitCount_0f7a4_42 : decode cJ6_bitCount_0f7a4 42 = .ok (.iload_n 0, 1) := by decide +kernel
theorem dJ6_bitCount_0f7a4_43 : decode cJ6_bitCount_0f7a4 43 = .ok (.bipush 16, 2) := by decide +kernel
theorem dJ6_bitCount_0f7a4_45 : decode cJ6_bitCount_0f7a4 45 = .ok (.iushr, 1) := by decide +kernel
theorem dJ6_bitCount_0f7a4_46 : decode cJ6_bitCount_0f7a4 46 = .ok (.iadd, 1) := by decide +kernel
theorem dJ6_bitCount_0f7a4_47 : decode cJ6_bitCount_0f7a4 47 = .ok (.istore_n 0, 1) := by decide +kernel
theorem dJ6_bitCount_0f7a4_48 : decode cJ6_bitCount_0f7a4 48 = .ok (.iload_n 0, 1) := by decide +kernel
theorem dJ6_bitCount_0f7a4_49 : decode cJ6_bitCount_0f7a4 49 = .ok (.bipush 63, 2) := by decide +kernel
theorem dJ6_bitCount_0f7a4_51 : decode cJ6_bitCount_0f7a4 51 = .ok (.iand, 1) := by decide +kernel
theorem dJ6_bitCount_0f7a4_52 : decode cJ6_bitCount_0f7a4 52 = .ok (.ireturn, 1) := by decide +kernel
theorem dX7_dataBits_0 : decode cX7_dataBits 0 = .ok (.iconst 5, 1) := by decide +kernel
theorem dX7_dataBits_1 : decode cX7_dataBits 1 = .ok (.iload_n 0, 1) := by decide +kernel
theorem dX7_dataBits_2 : decode cX7_dataBits 2 = .ok (.iconst 3, 1) := by decide +kernel
theorem dX7_dataBits_3 : decode cX7_dataBits 3 = .ok (.iand, 1) := by decide +kernel
theorem dX7_dataBits_4 : decode cX7_dataBits 4 = .ok (.iadd, 1) := by decide +kernel
theorem dX7_dataBits_5 : decode cX7_dataBits 5 = .ok (.ireturn, 1) := by decide +kernel
theorem dX7_hasParity_0 : decode cX7_hasParity 0 = .ok (.iload_n 0, 1) := by decide +kernel
theorem dX7_hasParity_1 : decode cX7_hasParity 1 = .ok (.bipush 8, 2) := by decide +kernel
theorem dX7_hasParity_3 : decode cX7_hasParity 3 = .ok (.iand, 1) := by decide +kernel
theorem dX7_hasParity_4 : decode cX7_hasParity 4 = .ok (.ifCond .eq 7, 3) := by decide +kernel
theorem dX7_hasParity_7 : decode cX7_hasParity 7 = .ok (.iconst 1, 1) := by decide +kernel
theorem dX7_hasParity_8 : decode cX7_hasParity 8 = .ok (.goto 4, 3) := by decide +kernel
theorem dX7_hasParity_11 : decode cX7_hasParity 11 = .ok (.iconst 0, 1) := by decide +kernel
theorem dX7_hasParity_12 : decode cX7_hasParity 12 = .ok (.ireturn, 1) := by decide +kernel
theorem dX7_pieces_0 : decode cX7_pieces 0 = .ok (.iload_n 0, 1) := by decide +kernel
theorem dX7_pieces_1 : decode cX7_pieces 1 = .ok (.invokestatic 11, 3) := by decide +kernel
theorem dX7_pieces_4 : decode cX7_pieces 4 = .ok (.iload_n 0, 1) := by decide +kernel
theorem dX7_pieces_5 : decode cX7_pieces 5 = .ok (.invokestatic 15, 3) := by decide +kernel
theorem dX7_pieces_8 : decode cX7_pieces 8 = .ok (.ifCond .eq 7, 3) := by decide +kernel
theorem dX7_pieces_11 : decode cX7_pieces 11 = .ok (.iconst 3, 1) := by decide +kernel
theorem dX7_pieces_12 : decode cX7_pieces 12 = .ok (.goto 4, 3) := by decide +kernel
theorem dX7_pieces_15 : decode cX7_pieces 15 = .ok (.iconst 2, 1) := by decide +kernel
theorem dX7_pieces_16 : decode cX7_pieces 16 = .ok (.iadd, 1) := by decide +kernel
theorem dX7_pieces_17 : decode cX7_pieces 17 = .ok (.ireturn, 1) := by decide +kernel
set_option maxRecDepth 20000 in
theorem ggX7_pieces_X7_dataBits : GoodIn wsX7_pieces wsX7_dataBits := goodIn_r _ [4] (by decide +kernel) (by decide +kernel)
set_option maxRecDepth 20000 in
theorem gX7_pieces_X7_dataBits : GoodIn wsX7_pieces (va_wsS RX7 11 yX7_dataBits wsX7_dataBits) := goodIn_app (goodIn_of _ (by decide +kernel)) ggX7_pieces_X7_dataBits
set_option maxRecDepth 20000 in
theorem ggX7_pieces_X7_hasParity : GoodIn wsX7_pieces wsX7_hasParity := goodIn_r _ [7] (by decide +kernel) (by decide +kernel)
set_option maxRecDepth 20000 in
theorem gX7_pieces_X7_hasParity : GoodIn wsX7_pieces (va_wsS RX7 15 yX7_hasParity wsX7_hasParity) := goodIn_app (goodIn_of _ (by decide +kernel)) ggX7_pieces_X7_hasParity
theorem dX7_stopBeats_0 : decode cX7_stopBeats 0 = .ok (.iload_n 0, 1) := by decide +kernel
theorem dX7_stopBeats_1 : decode cX7_stopBeats 1 = .ok (.iconst 4, 1) := by decide +kernel
theorem dX7_stopBeats_2 : decode cX7_stopBeats 2 = .ok (.iand, 1) := by decide +kernel
theorem dX7_stopBeats_3 : decode cX7_stopBeats 3 = .ok (.ifCond .ne 6, 3) := by decide +kernel
theorem dX7_stopBeats_6 : decode cX7_stopBeats 6 = .ok (.bipush 16, 2) := by decide +kernel
theorem dX7_stopBeats_8 : decode cX7_stopBeats 8 = .ok (.ireturn, 1) := by decide +kernel
theorem dX7_stopBeats_9 : decode cX7_stopBeats 9 = .ok (.iload_n 0, 1) := by decide +kernel
theorem dX7_stopBeats_10 : decode cX7_stopBeats 10 = .ok (.invokestatic 11, 3) := by decide +kernel
theorem dX7_stopBeats_13 : decode cX7_stopBeats 13 = .ok (.iconst 5, 1) := by decide +kernel
theorem dX7_stopBeats_14 : decode cX7_stopBeats 14 = .ok (.if_icmp .ne 8, 3) := by decide +kernel
theorem dX7_stopBeats_17 : decode cX7_stopBeats 17 = .ok (.bipush 24, 2) := by decide +kernel
theorem dX7_stopBeats_19 : decode cX7_stopBeats 19 = .ok (.goto 5, 3) := by decide +kernel
theorem dX7_stopBeats_22 : decode cX7_stopBeats 22 = .ok (.bipush 32, 2) := by decide +kernel
theorem dX7_stopBeats_24 : decode cX7_stopBeats 24 = .ok (.ireturn, 1) := by decide +kernel
set_option maxRecDepth 20000 in
theorem ggX7_stopBeats_X7_dataBits : GoodIn wsX7_stopBeats wsX7_dataBits := goodIn_r _ [4] (by decide +kernel) (by decide +kernel)
set_option maxRecDepth 20000 in
theorem gX7_stopBeats_X7_dataBits : GoodIn wsX7_stopBeats (va_wsS RX7 11 yX7_dataBits wsX7_dataBits) := goodIn_app (goodIn_of _ (by decide +kernel)) ggX7_stopBeats_X7_dataBits
theorem dX7_pieceBeats_0 : decode cX7_pieceBeats 0 = .ok (.iload_n 1, 1) := by decide +kernel
theorem dX7_pieceBeats_1 : decode cX7_pieceBeats 1 = .ok (.iload_n 0, 1) := by decide +kernel
theorem dX7_pieceBeats_2 : decode cX7_pieceBeats 2 = .ok (.invokestatic 19, 3) := by decide +kernel
theorem dX7_pieceBeats_5 : decode cX7_pieceBeats 5 = .ok (.iconst 1, 1) := by decide +kernel
theorem dX7_pieceBeats_6 : decode cX7_pieceBeats 6 = .ok (.isub, 1) := by decide +kernel
theorem dX7_pieceBeats_7 : decode cX7_pieceBeats 7 = .ok (.if_icmp .ne 10, 3) := by decide +kernel
theorem dX7_pieceBeats_10 : decode cX7_pieceBeats 10 = .ok (.iload_n 0, 1) := by decide +kernel
theorem dX7_pieceBeats_11 : decode cX7_pieceBeats 11 = .ok (.invokestatic 22, 3) := by decide +kernel
theorem dX7_pieceBeats_14 : decode cX7_pieceBeats 14 = .ok (.goto 5, 3) := by decide +kernel
theorem dX7_pieceBeats_17 : decode cX7_pieceBeats 17 = .ok (.bipush 16, 2) := by decide +kernel
theorem dX7_pieceBeats_19 : decode cX7_pieceBeats 19 = .ok (.ireturn, 1) := by decide +kernel
set_option maxRecDepth 20000 in
theorem ggX7_pieceBeats_X7_pieces : GoodIn wsX7_pieceBeats wsX7_pieces := goodIn_r _ [4, 5, 6, 3, 7, 8, 9, 10] (by decide +kernel) (by decide +kernel)
set_option maxRecDepth 20000 in
theorem gX7_pieceBeats_X7_pieces : GoodIn wsX7_pieceBeats (va_wsS RX7 19 yX7_pieces wsX7_pieces) := goodIn_app (goodIn_of _ (by decide +kernel)) ggX7_pieceBeats_X7_pieces
set_option maxRecDepth 20000 in
theorem ggX7_pieceBeats_X7_stopBeats : GoodIn wsX7_pieceBeats wsX7_stopBeats := goodIn_r _ [13, 5, 6, 3, 7] (by decide +kernel) (by decide +kernel)
set_option maxRecDepth 20000 in
theorem gX7_pieceBeats_X7_stopBeats : GoodIn wsX7_pieceBeats (va_wsS RX7 22 yX7_stopBeats wsX7_stopBeats) := goodIn_app (goodIn_of _ (by decide +kernel)) ggX7_pieceBeats_X7_stopBeats
theorem dX7_beats_0 : decode cX7_beats 0 = .ok (.iload_n 0, 1) := by decide +kernel
theorem dX7_beats_1 : decode cX7_beats 1 = .ok (.invokestatic 19, 3) := by decide +kernel
theorem dX7_beats_4 : decode cX7_beats 4 = .ok (.iconst 1, 1) := by decide +kernel
theorem dX7_beats_5 : decode cX7_beats 5 = .ok (.isub, 1) := by decide +kernel
theorem dX7_beats_6 : decode cX7_beats 6 = .ok (.bipush 16, 2) := by decide +kernel
theorem dX7_beats_8 : decode cX7_beats 8 = .ok (.imul, 1) := by decide +kernel
theorem dX7_beats_9 : decode cX7_beats 9 = .ok (.iload_n 0, 1) := by decide +kernel
theorem dX7_beats_10 : decode cX7_beats 10 = .ok (.invokestatic 22, 3) := by decide +kernel
theorem dX7_beats_13 : decode cX7_beats 13 = .ok (.iadd, 1) := by decide +kernel
theorem dX7_beats_14 : decode cX7_beats 14 = .ok (.ireturn, 1) := by decide +kernel
set_option maxRecDepth 20000 in
theorem ggX7_beats_X7_pieces : GoodIn wsX7_beats wsX7_pieces := goodIn_r _ [4, 5, 6, 3, 7, 8, 9, 10] (by decide +kernel) (by decide +kernel)
set_option maxRecDepth 20000 in
theorem gX7_beats_X7_pieces : GoodIn wsX7_beats (va_wsS RX7 19 yX7_pieces wsX7_pieces) := goodIn_app (goodIn_of _ (by decide +kernel)) ggX7_beats_X7_pieces
set_option maxRecDepth 20000 in
theorem ggX7_beats_X7_stopBeats : GoodIn wsX7_beats wsX7_stopBeats := goodIn_r _ [13, 5, 6, 3, 7] (by decide +kernel) (by decide +kernel)
set_option maxRecDepth 20000 in
theorem gX7_beats_X7_stopBeats : GoodIn wsX7_beats (va_wsS RX7 22 yX7_stopBeats wsX7_stopBeats) := goodIn_app (goodIn_of _ (by decide +kernel)) ggX7_beats_X7_stopBeats
theorem dX7_parityIsHigh_0 : decode cX7_parityIsHigh 0 = .ok (.iload_n 0, 1) := by decide +kernel
theorem dX7_parityIsHigh_1 : decode cX7_parityIsHigh 1 = .ok (.bipush 16, 2) := by decide +kernel
theorem dX7_parityIsHigh_3 : decode cX7_parityIsHigh 3 = .ok (.iand, 1) := by decide +kernel
theorem dX7_parityIsHigh_4 : decode cX7_parityIsHigh 4 = .ok (.ifCond .eq 7, 3) := by decide +kernel
theorem dX7_parityIsHigh_7 : decode cX7_parityIsHigh 7 = .ok (.iconst 1, 1) := by decide +kernel
theorem dX7_parityIsHigh_8 : decode cX7_parityIsHigh 8 = .ok (.goto 4, 3) := by decide +kernel
theorem dX7_parityIsHigh_11 : decode cX7_parityIsHigh 11 = .ok (.iconst 0, 1) := by decide +kernel
theorem dX7_parityIsHigh_12 : decode cX7_parityIsHigh 12 = .ok (.istore_n 2, 1) := by decide +kernel
theorem dX7_parityIsHigh_13 : decode cX7_parityIsHigh 13 = .ok (.iload_n 0, 1) := by decide +kernel
theorem dX7_parityIsHigh_14 : decode cX7_parityIsHigh 14 = .ok (.bipush 32, 2) := by decide +kernel
theorem dX7_parityIsHigh_16 : decode cX7_parityIsHigh 16 = .ok (.iand, 1) := by decide +kernel
theorem dX7_parityIsHigh_17 : decode cX7_parityIsHigh 17 = .ok (.ifCond .eq 13, 3) := by decide +kernel
theorem dX7_parityIsHigh_20 : decode cX7_parityIsHigh 20 = .ok (.iload_n 2, 1) := by decide +kernel
theorem dX7_parityIsHigh_21 : decode cX7_parityIsHigh 21 = .ok (.ifCond .ne 7, 3) := by decide +kernel
theorem dX7_parityIsHigh_24 : decode cX7_parityIsHigh 24 = .ok (.iconst 1, 1) := by decide +kernel
theorem dX7_parityIsHigh_25 : decode cX7_parityIsHigh 25 = .ok (.goto 4, 3) := by decide +kernel
theorem dX7_parityIsHigh_28 : decode cX7_parityIsHigh 28 = .ok (.iconst 0, 1) := by decide +kernel
theorem dX7_parityIsHigh_29 : decode cX7_parityIsHigh 29 = .ok (.ireturn, 1) := by decide +kernel
theorem dX7_parityIsHigh_30 : decode cX7_parityIsHigh 30 = .ok (.iload_n 1, 1) := by decide +kernel
theorem dX7_parityIsHigh_31 : decode cX7_parityIsHigh 31 = .ok (.iconst 1, 1) := by decide +kernel
theorem dX7_parityIsHigh_32 : decode cX7_parityIsHigh 32 = .ok (.iload_n 0, 1) := by decide +kernel
theorem dX7_parityIsHigh_33 : decode cX7_parityIsHigh 33 = .ok (.invokestatic 11, 3) := by decide +kernel
theorem dX7_parityIsHigh_36 : decode cX7_parityIsHigh 36 = .ok (.ishl, 1) := by decide +kernel
theorem dX7_parityIsHigh_37 : decode cX7_parityIsHigh 37 = .ok (.iconst 1, 1) := by decide +kernel
theorem dX7_parityIsHigh_38 : decode cX7_parityIsHigh 38 = .ok (.isub, 1) := by decide +kernel
theorem dX7_parityIsHigh_39 : decode cX7_parityIsHigh 39 = .ok (.iand, 1) := by decide +kernel
theorem dX7_parityIsHigh_40 : decode cX7_parityIsHigh 40 = .ok (.istore_n 3, 1) := by decide +kernel
theorem dX7_parityIsHigh_41 : decode cX7_parityIsHigh 41 = .ok (.iload_n 3, 1) := by decide +kernel
theorem dX7_parityIsHigh_42 : decode cX7_parityIsHigh 42 = .ok (.invokestatic 25, 3) := by decide +kernel
theorem dX7_parityIsHigh_45 : decode cX7_parityIsHigh 45 = .ok (.iconst 1, 1) := by decide +kernel
theorem dX7_parityIsHigh_46 : decode cX7_parityIsHigh 46 = .ok (.iand, 1) := by decide +kernel
theorem dX7_parityIsHigh_47 : decode cX7_parityIsHigh 47 = .ok (.ifCond .eq 7, 3) := by decide +kernel
theorem dX7_parityIsHigh_50 : decode cX7_parityIsHigh 50 = .ok (.iconst 1, 1) := by decide +kernel
theorem dX7_parityIsHigh_51 : decode cX7_parityIsHigh 51 = .ok (.goto 4, 3) := by decide +kernel
theorem dX7_parityIsHigh_54 : decode cX7_parityIsHigh 54 = .ok (.iconst 0, 1) := by decide +kernel
theorem dX7_parityIsHigh_55 : decode cX7_parityIsHigh 55 = .ok (.istore 4, 2) := by decide +kernel
theorem dX7_parityIsHigh_57 : decode cX7_parityIsHigh 57 = .ok (.iload_n 2, 1) := by decide +kernel
theorem dX7_parityIsHigh_58 : decode cX7_parityIsHigh 58 = .ok (.iload 4, 2) := by decide +kernel
theorem dX7_parityIsHigh_60 : decode cX7_parityIsHigh 60 = .ok (.if_icmp .ne 7, 3) := by decide +kernel
theorem dX7_parityIsHigh_63 : decode cX7_parityIsHigh 63 = .ok (.iconst 1, 1) := by decide +kernel
theorem dX7_parityIsHigh_64 : decode cX7_parityIsHigh 64 = .ok (.goto 4, 3) := by decide +kernel
theorem dX7_parityIsHigh_67 : decode cX7_parityIsHigh 67 = .ok (.iconst 0, 1) := by decide +kernel
theorem dX7_parityIsHigh_68 : decode cX7_parityIsHigh 68 = .ok (.ireturn, 1) := by decide +kernel
set_option maxRecDepth 20000 in
theorem ggX7_parityIsHigh_X7_dataBits : GoodIn wsX7_parityIsHigh wsX7_dataBits := goodIn_r _ [4] (by decide +kernel) (by decide +kernel)
set_option maxRecDepth 20000 in
theorem gX7_parityIsHigh_X7_dataBits : GoodIn wsX7_parityIsHigh (va_wsS RX7 11 yX7_dataBits wsX7_dataBits) := goodIn_app (goodIn_of _ (by decide +kernel)) ggX7_parityIsHigh_X7_dataBits
set_option maxRecDepth 20000 in
theorem ggX7_parityIsHigh_J6_bitCount_0f7a4 : GoodIn wsX7_parityIsHigh wsJ6_bitCount_0f7a4 := goodIn_r _ [8, 9, 10, 11] (by decide +kernel) (by decide +kernel)
set_option maxRecDepth 20000 in
theorem gX7_parityIsHigh_J6_bitCount_0f7a4 : GoodIn wsX7_parityIsHigh (va_wsS RX7 25 yJ6_bitCount_0f7a4 wsJ6_bitCount_0f7a4) := goodIn_app (goodIn_of _ (by decide +kernel)) ggX7_parityIsHigh_J6_bitCount_0f7a4
theorem dX7_pieceIsHigh_0 : decode cX7_pieceIsHigh 0 = .ok (.iload_n 0, 1) := by decide +kernel
theorem dX7_pieceIsHigh_1 : decode cX7_pieceIsHigh 1 = .ok (.invokestatic 11, 3) := by decide +kernel
theorem dX7_pieceIsHigh_4 : decode cX7_pieceIsHigh 4 = .ok (.istore_n 3, 1) := by decide +kernel
theorem dX7_pieceIsHigh_5 : decode cX7_pieceIsHigh 5 = .ok (.iload_n 2, 1) := by decide +kernel
theorem dX7_pieceIsHigh_6 : decode cX7_pieceIsHigh 6 = .ok (.ifCond .gt 5, 3) := by decide +kernel
theorem dX7_pieceIsHigh_9 : decode cX7_pieceIsHigh 9 = .ok (.iconst 0, 1) := by decide +kernel
theorem dX7_pieceIsHigh_10 : decode cX7_pieceIsHigh 10 = .ok (.ireturn, 1) := by decide +kernel
theorem dX7_pieceIsHigh_11 : decode cX7_pieceIsHigh 11 = .ok (.iload_n 2, 1) := by decide +kernel
theorem dX7_pieceIsHigh_12 : decode cX7_pieceIsHigh 12 = .ok (.iload_n 3, 1) := by decide +kernel
theorem dX7_pieceIsHigh_13 : decode cX7_pieceIsHigh 13 = .ok (.if_icmp .gt 19, 3) := by decide +kernel
theorem dX7_pieceIsHigh_16 : decode cX7_pieceIsHigh 16 = .ok (.iload_n 1, 1) := by decide +kernel
theorem dX7_pieceIsHigh_17 : decode cX7_pieceIsHigh 17 = .ok (.iload_n 2, 1) := by decide +kernel
theorem dX7_pieceIsHigh_18 : decode cX7_pieceIsHigh 18 = .ok (.iconst 1, 1) := by decide +kernel
theorem dX7_pieceIsHigh_19 : decode cX7_pieceIsHigh 19 = .ok (.isub, 1) := by decide +kernel
theorem dX7_pieceIsHigh_20 : decode cX7_pieceIsHigh 20 = .ok (.ishr, 1) := by decide +kernel
theorem dX7_pieceIsHigh_21 : decode cX7_pieceIsHigh 21 = .ok (.iconst 1, 1) := by decide +kernel
theorem dX7_pieceIsHigh_22 : decode cX7_pieceIsHigh 22 = .ok (.iand, 1) := by decide +kernel
theorem dX7_pieceIsHigh_23 : decode cX7_pieceIsHigh 23 = .ok (.ifCond .eq 7, 3) := by decide +kernel
theorem dX7_pieceIsHigh_26 : decode cX7_pieceIsHigh 26 = .ok (.iconst 1, 1) := by decide +kernel
theorem dX7_pieceIsHigh_27 : decode cX7_pieceIsHigh 27 = .ok (.goto 4, 3) := by decide +kernel
theorem dX7_pieceIsHigh_30 : decode cX7_pieceIsHigh 30 = .ok (.iconst 0, 1) := by decide +kernel
theorem dX7_pieceIsHigh_31 : decode cX7_pieceIsHigh 31 = .ok (.ireturn, 1) := by decide +kernel
theorem dX7_pieceIsHigh_32 : decode cX7_pieceIsHigh 32 = .ok (.iload_n 2, 1) := by decide +kernel
theorem dX7_pieceIsHigh_33 : decode cX7_pieceIsHigh 33 = .ok (.iload_n 3, 1) := by decide +kernel
theorem dX7_pieceIsHigh_34 : decode cX7_pieceIsHigh 34 = .ok (.iconst 1, 1) := by decide +kernel
theorem dX7_pieceIsHigh_35 : decode cX7_pieceIsHigh 35 = .ok (.iadd, 1) := by decide +kernel
theorem dX7_pieceIsHigh_36 : decode cX7_pieceIsHigh 36 = .ok (.if_icmp .ne 16, 3) := by decide +kernel
theorem dX7_pieceIsHigh_39 : decode cX7_pieceIsHigh 39 = .ok (.iload_n 0, 1) := by decide +kernel
theorem dX7_pieceIsHigh_40 : decode cX7_pieceIsHigh 40 = .ok (.invokestatic 15, 3) := by decide +kernel
theorem dX7_pieceIsHigh_43 : decode cX7_pieceIsHigh 43 = .ok (.ifCond .eq 9, 3) := by decide +kernel
theorem dX7_pieceIsHigh_46 : decode cX7_pieceIsHigh 46 = .ok (.iload_n 0, 1) := by decide +kernel
theorem dX7_pieceIsHigh_47 : decode cX7_pieceIsHigh 47 = .ok (.iload_n 1, 1) := by decide +kernel
theorem dX7_pieceIsHigh_48 : decode cX7_pieceIsHigh 48 = .ok (.invokestatic 30, 3) := by decide +kernel
theorem dX7_pieceIsHigh_51 : decode cX7_pieceIsHigh 51 = .ok (.ireturn, 1) := by decide +kernel
theorem dX7_pieceIsHigh_52 : decode cX7_pieceIsHigh 52 = .ok (.iconst 1, 1) := by decide +kernel
theorem dX7_pieceIsHigh_53 : decode cX7_pieceIsHigh 53 = .ok (.ireturn, 1) := by decide +kernel
set_option maxRecDepth 20000 in
theorem ggX7_pieceIsHigh_X7_dataBits : GoodIn wsX7_pieceIsHigh wsX7_dataBits := goodIn_r _ [4] (by decide +kernel) (by decide +kernel)
set_option maxRecDepth 20000 in
theorem gX7_pieceIsHigh_X7_dataBits : GoodIn wsX7_pieceIsHigh (va_wsS RX7 11 yX7_dataBits wsX7_dataBits) := goodIn_app (goodIn_of _ (by decide +kernel)) ggX7_pieceIsHigh_X7_dataBits
set_option maxRecDepth 20000 in
theorem ggX7_pieceIsHigh_X7_hasParity : GoodIn wsX7_pieceIsHigh wsX7_hasParity := goodIn_r _ [7] (by decide +kernel) (by decide +kernel)
set_option maxRecDepth 20000 in
theorem gX7_pieceIsHigh_X7_hasParity : GoodIn wsX7_pieceIsHigh (va_wsS RX7 15 yX7_hasParity wsX7_hasParity) := goodIn_app (goodIn_of _ (by decide +kernel)) ggX7_pieceIsHigh_X7_hasParity
set_option maxRecDepth 20000 in
theorem ggX7_pieceIsHigh_X7_parityIsHigh : GoodIn wsX7_pieceIsHigh wsX7_parityIsHigh := goodIn_r _ [10, 1, 2, 3, 4, 11, 12, 13, 14, 15, 16, 17] (by decide +kernel) (by decide +kernel)
set_option maxRecDepth 20000 in
theorem gX7_pieceIsHigh_X7_parityIsHigh : GoodIn wsX7_pieceIsHigh (va_wsS RX7 30 yX7_parityIsHigh wsX7_parityIsHigh) := goodIn_app (goodIn_of _ (by decide +kernel)) ggX7_pieceIsHigh_X7_parityIsHigh
def F_J6_bitCount_0f7a4 (p1 : Int32)  : Option (Int32) := lt1 (p1 - (((p1.toUInt32 >>> ((1 : Int32).toUInt32 &&& Int32.toUInt32 31)).toInt32) &&& (1431655765 : Int32))) (fun x1 => lt1 ((x1 &&& (858993459 : Int32)) + (((x1.toUInt32 >>> ((2 : Int32).toUInt32 &&& Int32.toUInt32 31)).toInt32) &&& (858993459 : Int32))) (fun x2 => lt1 ((x2 + ((x2.toUInt32 >>> ((4 : Int32).toUInt32 &&& Int32.toUInt32 31)).toInt32)) &&& (252645135 : Int32)) (fun x3 => lt1 (x3 + ((x3.toUInt32 >>> ((8 : Int32).toUInt32 &&& Int32.toUInt32 31)).toInt32)) (fun x4 => lt1 (x4 + ((x4.toUInt32 >>> ((16 : Int32).toUInt32 &&& Int32.toUInt32 31)).toInt32)) (fun x5 => some (x5 &&& 63))))))
def wJ6_bitCount_0f7a4  (_u : Int32) : va_W := []
set_option maxHeartbeats 4000000 in
set_option maxRecDepth 100000 in
theorem mJ6_bitCount_0f7a4 {l : Launch} (D : va_G) (p1 : Int32) (u0 : Int32) (hF : F_J6_bitCount_0f7a4 p1 = some u0) : MI l yJ6_bitCount_0f7a4 wsJ6_bitCount_0f7a4 { frames := 0, cells := 0, slots := 0, locals := 0 } D [] [.int p1] [] (wJ6_bitCount_0f7a4 u0) (u0) := by
  refine MI.ofW (cc := cJ6_bitCount_0f7a4) (maxL := 1) (ret := (some .int)) (lv := [(0, .int p1)]) (by decide +kernel) rfl (Nat.le_of_ble_eq_true rfl) rfl ?_
  intro p e s m args below meth c A ls hx hb hr hml hts hown hlocks hA hK hP hD hS hl
  replace hown : s.vm.findClass RJ6 = some m.cls := hown
  have c_265 := hts (.constant RJ6 265 (1431655765)) (by decide +kernel)
  have c_266 := hts (.constant RJ6 266 (858993459)) (by decide +kernel)
  have c_267 := hts (.constant RJ6 267 (252645135)) (by decide +kernel)
  have hret : ∀ (u : Int32) (v : Int32) (H : Heap) (locs : List Loc) (pc : Nat) (ls : Array Slot), va_P D vwCl (wJ6_bitCount_0f7a4 u) H → va_D A (wJ6_bitCount_0f7a4 u) → va_S A s.heap H locs → some u = some u0 → v = u → decode cJ6_bitCount_0f7a4 pc = .ok (.ireturn, 1) → W p l e { frames := 0, cells := 0, slots := 0, locals := 0 } s m args below meth c H locs 0 0 (QI below D [] (wJ6_bitCount_0f7a4 u0) (u0) args s A) (F0 m pc ls [.int v]) := fun u v H locs pc ls h1 h2 h3 h4 h5 h6 => rI (wf := wJ6_bitCount_0f7a4) (rf := fun u => u) hx hb hr hlocks hK h1 h2 h3 h4 h5 h6
  unfold F_J6_bitCount_0f7a4 at hF
  refine lv_iload_n hx hb dJ6_bitCount_0f7a4_0 rfl (lv_at hl 0 rfl) ?_
  refine lv_iload_n hx hb dJ6_bitCount_0f7a4_1 rfl (lv_at hl 0 rfl) ?_
  refine lv_iconst (v := 1) hx hb dJ6_bitCount_0f7a4_2 (by decide) ?_
  refine lv_iushr hx hb dJ6_bitCount_0f7a4_3 rfl ?_
  refine lv_ldcw (v := 1431655765) hx hb hown c_265 dJ6_bitCount_0f7a4_4 ?_
  refine lv_iand hx hb dJ6_bitCount_0f7a4_7 ?_
  refine lv_isub hx hb dJ6_bitCount_0f7a4_8 ?_
  refine lv_topi (fun x1 ex1 => ?_)
  replace hF := lt1_x ex1 hF
  refine lv_istore_n (lv' := [(0, .int x1)]) hx hb dJ6_bitCount_0f7a4_9 rfl hl (Nat.le_of_ble_eq_true rfl) rfl (fun ls hl => ?_)
  refine lv_iload_n hx hb dJ6_bitCount_0f7a4_10 rfl (lv_at hl 0 rfl) ?_
  refine lv_ldcw (v := 858993459) hx hb hown c_266 dJ6_bitCount_0f7a4_11 ?_
  refine lv_iand hx hb dJ6_bitCount_0f7a4_14 ?_
  refine lv_iload_n hx hb dJ6_bitCount_0f7a4_15 rfl (lv_at hl 0 rfl) ?_
  refine lv_iconst (v := 2) hx hb dJ6_bitCount_0f7a4_16 (by decide) ?_
  refine lv_iushr hx hb dJ6_bitCount_0f7a4_17 rfl ?_
  refine lv_ldcw (v := 858993459) hx hb hown c_266 dJ6_bitCount_0f7a4_18 ?_
  refine lv_iand hx hb dJ6_bitCount_0f7a4_21 ?_
  refine lv_iadd hx hb dJ6_bitCount_0f7a4_22 ?_
  refine lv_topi (fun x2 ex2 => ?_)
  replace hF := lt1_x ex2 hF
  refine lv_istore_n (lv' := [(0, .int x2)]) hx hb dJ6_bitCount_0f7a4_23 rfl hl (Nat.le_of_ble_eq_true rfl) rfl (fun ls hl => ?_)
  refine lv_iload_n hx hb dJ6_bitCount_0f7a4_24 rfl (lv_at hl 0 rfl) ?_
  refine lv_iload_n hx hb dJ6_bitCount_0f7a4_25 rfl (lv_at hl 0 rfl) ?_
  refine lv_iconst (v := 4) hx hb dJ6_bitCount_0f7a4_26 (by decide) ?_
  refine lv_iushr hx hb dJ6_bitCount_0f7a4_27 rfl ?_
  refine lv_iadd hx hb dJ6_bitCount_0f7a4_28 ?_
  refine lv_ldcw (v := 252645135) hx hb hown c_267 dJ6_bitCount_0f7a4_29 ?_
  refine lv_iand hx hb dJ6_bitCount_0f7a4_32 ?_
  refine lv_topi (fun x3 ex3 => ?_)
  replace hF := lt1_x ex3 hF
  refine lv_istore_n (lv' := [(0, .int x3)]) hx hb dJ6_bitCount_0f7a4_33 rfl hl (Nat.le_of_ble_eq_true rfl) rfl (fun ls hl => ?_)
  refine lv_iload_n hx hb dJ6_bitCount_0f7a4_34 rfl (lv_at hl 0 rfl) ?_
  refine lv_iload_n hx hb dJ6_bitCount_0f7a4_35 rfl (lv_at hl 0 rfl) ?_
  refine lv_bipush (v := 8) hx hb dJ6_bitCount_0f7a4_36 (by decide) ?_
  refine lv_iushr hx hb dJ6_bitCount_0f7a4_38 rfl ?_
  refine lv_iadd hx hb dJ6_bitCount_0f7a4_39 ?_
  refine lv_topi (fun x4 ex4 => ?_)
  replace hF := lt1_x ex4 hF
  refine lv_istore_n (lv' := [(0, .int x4)]) hx hb dJ6_bitCount_0f7a4_40 rfl hl (Nat.le_of_ble_eq_true rfl) rfl (fun ls hl => ?_)
  refine lv_iload_n hx hb dJ6_bitCount_0f7a4_41 rfl (lv_at hl 0 rfl) ?_
  refine lv_iload_n hx hb dJ6_bitCount_0f7a4_42 rfl (lv_at hl 0 rfl) ?_
  refine lv_bipush (v := 16) hx hb dJ6_bitCount_0f7a4_43 (by decide) ?_
  refine lv_iushr hx hb dJ6_bitCount_0f7a4_45 rfl ?_
  refine lv_iadd hx hb dJ6_bitCount_0f7a4_46 ?_
  refine lv_topi (fun x5 ex5 => ?_)
  replace hF := lt1_x ex5 hF
  refine lv_istore_n (lv' := [(0, .int x5)]) hx hb dJ6_bitCount_0f7a4_47 rfl hl (Nat.le_of_ble_eq_true rfl) rfl (fun ls hl => ?_)
  refine lv_iload_n hx hb dJ6_bitCount_0f7a4_48 rfl (lv_at hl 0 rfl) ?_
  refine lv_bipush (v := 63) hx hb dJ6_bitCount_0f7a4_49 (by decide) ?_
  refine lv_iand hx hb dJ6_bitCount_0f7a4_51 ?_
  exact hret (x5 &&& 63) (x5 &&& 63) _ _ 52 _ hP hD hS hF rfl dJ6_bitCount_0f7a4_52
def F_X7_dataBits (p1 : Int32)  : Option (Int32) := some (5 + (p1 &&& 3))
def wX7_dataBits  (_u : Int32) : va_W := []
set_option maxHeartbeats 4000000 in
set_option maxRecDepth 100000 in
theorem mX7_dataBits {l : Launch} (D : va_G) (p1 : Int32) (u0 : Int32) (hF : F_X7_dataBits p1 = some u0) : MI l yX7_dataBits wsX7_dataBits { frames := 0, cells := 0, slots := 0, locals := 0 } D [] [.int p1] [] (wX7_dataBits u0) (u0) := by
  refine MI.ofW (cc := cX7_dataBits) (maxL := 1) (ret := (some .int)) (lv := [(0, .int p1)]) (by decide +kernel) rfl (Nat.le_of_ble_eq_true rfl) rfl ?_
  intro p e s m args below meth c A ls hx hb hr hml hts hown hlocks hA hK hP hD hS hl
  replace hown : s.vm.findClass RX7 = some m.cls := hown
  have hret : ∀ (u : Int32) (v : Int32) (H : Heap) (locs : List Loc) (pc : Nat) (ls : Array Slot), va_P D vwCl (wX7_dataBits u) H → va_D A (wX7_dataBits u) → va_S A s.heap H locs → some u = some u0 → v = u → decode cX7_dataBits pc = .ok (.ireturn, 1) → W p l e { frames := 0, cells := 0, slots := 0, locals := 0 } s m args below meth c H locs 0 0 (QI below D [] (wX7_dataBits u0) (u0) args s A) (F0 m pc ls [.int v]) := fun u v H locs pc ls h1 h2 h3 h4 h5 h6 => rI (wf := wX7_dataBits) (rf := fun u => u) hx hb hr hlocks hK h1 h2 h3 h4 h5 h6
  unfold F_X7_dataBits at hF
  refine lv_iconst (v := 5) hx hb dX7_dataBits_0 (by decide) ?_
  refine lv_iload_n hx hb dX7_dataBits_1 rfl (lv_at hl 0 rfl) ?_
  refine lv_iconst (v := 3) hx hb dX7_dataBits_2 (by decide) ?_
  refine lv_iand hx hb dX7_dataBits_3 ?_
  refine lv_iadd hx hb dX7_dataBits_4 ?_
  exact hret (5 + (p1 &&& 3)) (5 + (p1 &&& 3)) _ _ 5 _ hP hD hS hF rfl dX7_dataBits_5
def F_X7_hasParity (p1 : Int32)  : Option (Bool) := if (p1 &&& 8) = 0 then (some false) else (some true)
def wX7_hasParity  (_u : Bool) : va_W := []
set_option maxHeartbeats 4000000 in
set_option maxRecDepth 100000 in
theorem mX7_hasParity {l : Launch} (D : va_G) (p1 : Int32) (u0 : Bool) (hF : F_X7_hasParity p1 = some u0) : MI l yX7_hasParity wsX7_hasParity { frames := 0, cells := 0, slots := 0, locals := 0 } D [] [.int p1] [] (wX7_hasParity u0) (bI u0) := by
  refine MI.ofW (cc := cX7_hasParity) (maxL := 1) (ret := (some .boolean)) (lv := [(0, .int p1)]) (by decide +kernel) rfl (Nat.le_of_ble_eq_true rfl) rfl ?_
  intro p e s m args below meth c A ls hx hb hr hml hts hown hlocks hA hK hP hD hS hl
  replace hown : s.vm.findClass RX7 = some m.cls := hown
  have hret : ∀ (u : Bool) (v : Int32) (H : Heap) (locs : List Loc) (pc : Nat) (ls : Array Slot), va_P D vwCl (wX7_hasParity u) H → va_D A (wX7_hasParity u) → va_S A s.heap H locs → some u = some u0 → v = bI u → decode cX7_hasParity pc = .ok (.ireturn, 1) → W p l e { frames := 0, cells := 0, slots := 0, locals := 0 } s m args below meth c H locs 0 0 (QI below D [] (wX7_hasParity u0) (bI u0) args s A) (F0 m pc ls [.int v]) := fun u v H locs pc ls h1 h2 h3 h4 h5 h6 => rZ (wf := wX7_hasParity) (rf := fun u => u) hx hb hr hlocks hK h1 h2 h3 h4 h5 h6
  unfold F_X7_hasParity at hF
  refine lv_iload_n hx hb dX7_hasParity_0 rfl (lv_at hl 0 rfl) ?_
  refine lv_bipush (v := 8) hx hb dX7_hasParity_1 (by decide) ?_
  refine lv_iand hx hb dX7_hasParity_3 ?_
  refine lv_if_eq (tgt := 11) hx hb dX7_hasParity_4 (by decide) (fun c1 => ?_) (fun c1 => ?_)
  · replace hF := it_t c1 hF
    refine lv_iconst (v := 0) hx hb dX7_hasParity_11 (by decide) ?_
    exact hret false 0 _ _ 12 _ hP hD hS hF rfl dX7_hasParity_12
  · replace hF := it_f c1 hF
    refine lv_iconst (v := 1) hx hb dX7_hasParity_7 (by decide) ?_
    refine lv_goto (tgt := 12) hx hb dX7_hasParity_8 (by decide) ?_
    exact hret true 1 _ _ 12 _ hP hD hS hF rfl dX7_hasParity_12
def F_X7_pieces (p1 : Int32)  : Option (Int32) := bd (F_X7_dataBits p1) (fun u1 => bd (F_X7_hasParity p1) (fun u2 => bt u2 (some (u1 + 3)) (some (u1 + 2))))
def wX7_pieces  (_u : Int32) : va_W := []
set_option maxHeartbeats 4000000 in
set_option maxRecDepth 100000 in
theorem mX7_pieces {l : Launch} (D : va_G) (p1 : Int32) (u0 : Int32) (hF : F_X7_pieces p1 = some u0) : MI l yX7_pieces wsX7_pieces { frames := 1, cells := 0, slots := 0, locals := 20 } D [] [.int p1] [] (wX7_pieces u0) (u0) := by
  refine MI.ofW (cc := cX7_pieces) (maxL := 1) (ret := (some .int)) (lv := [(0, .int p1)]) (by decide +kernel) rfl (Nat.le_of_ble_eq_true rfl) rfl ?_
  intro p e s m args below meth c A ls hx hb hr hml hts hown hlocks hA hK hP hD hS hl
  replace hown : s.vm.findClass RX7 = some m.cls := hown
  have hret : ∀ (u : Int32) (v : Int32) (H : Heap) (locs : List Loc) (pc : Nat) (ls : Array Slot), va_P D vwCl (wX7_pieces u) H → va_D A (wX7_pieces u) → va_S A s.heap H locs → some u = some u0 → v = u → decode cX7_pieces pc = .ok (.ireturn, 1) → W p l e { frames := 1, cells := 0, slots := 0, locals := 20 } s m args below meth c H locs 0 0 (QI below D [] (wX7_pieces u0) (u0) args s A) (F0 m pc ls [.int v]) := fun u v H locs pc ls h1 h2 h3 h4 h5 h6 => rI (wf := wX7_pieces) (rf := fun u => u) hx hb hr hlocks hK h1 h2 h3 h4 h5 h6
  unfold F_X7_pieces at hF
  refine lv_iload_n hx hb dX7_pieces_0 rfl (lv_at hl 0 rfl) ?_
  obtain ⟨u1, hu1, hF⟩ := bd_el hF
  refine cSI (As := [.int p1]) (rest := []) (wr := []) (ws' := []) (rv := u1) ⟨hx, hb, hml, hown, hts⟩ (mX7_dataBits D p1 u1 hu1) (va_cwS 1 hts gX7_pieces_X7_dataBits rfl rfl rfl (by decide +kernel) ⟨Nat.le_of_ble_eq_true rfl, Nat.le_of_ble_eq_true rfl⟩) hK hP hD hS hA [] [] [] [] rfl rfl rfl rfl rfl rfl hl.1 rfl (Nat.le_of_ble_eq_true rfl) rfl dX7_pieces_1 ⟨Nat.le_refl _, Nat.le_refl _⟩ (fun H locs hP hD hS => ?_)
  refine lv_iload_n hx hb dX7_pieces_4 rfl (lv_at hl 0 rfl) ?_
  obtain ⟨u2, hu2, hF⟩ := bd_el hF
  refine cSI (As := [.int p1]) (rest := [.int u1]) (wr := []) (ws' := []) (rv := bI u2) ⟨hx, hb, hml, hown, hts⟩ (mX7_hasParity D p1 u2 hu2) (va_cwS 1 hts gX7_pieces_X7_hasParity rfl rfl rfl (by decide +kernel) ⟨Nat.le_of_ble_eq_true rfl, Nat.le_of_ble_eq_true rfl⟩) hK hP hD hS hA [] [] [] [] rfl rfl rfl rfl rfl rfl hl.1 rfl (Nat.le_of_ble_eq_true rfl) rfl dX7_pieces_5 ⟨Nat.le_refl _, Nat.le_refl _⟩ (fun H locs hP hD hS => ?_)
  refine lv_if_eq (tgt := 15) hx hb dX7_pieces_8 (by decide) (fun c3 => ?_) (fun c3 => ?_)
  · replace hF := bt_f (bI_0 c3) hF
    refine lv_iconst (v := 2) hx hb dX7_pieces_15 (by decide) ?_
    refine lv_iadd hx hb dX7_pieces_16 ?_
    exact hret (u1 + 2) (u1 + 2) _ _ 17 _ hP hD hS hF rfl dX7_pieces_17
  · replace hF := bt_t (bI_n0 c3) hF
    refine lv_iconst (v := 3) hx hb dX7_pieces_11 (by decide) ?_
    refine lv_goto (tgt := 16) hx hb dX7_pieces_12 (by decide) ?_
    refine lv_iadd hx hb dX7_pieces_16 ?_
    exact hret (u1 + 3) (u1 + 3) _ _ 17 _ hP hD hS hF rfl dX7_pieces_17
def F_X7_stopBeats (p1 : Int32)  : Option (Int32) := if (p1 &&& 4) = 0 then (some (16 : Int32)) else (bd (F_X7_dataBits p1) (fun u2 => if u2 = 5 then (some (24 : Int32)) else (some (32 : Int32))))
def wX7_stopBeats  (_u : Int32) : va_W := []
set_option maxHeartbeats 4000000 in
set_option maxRecDepth 100000 in
theorem mX7_stopBeats {l : Launch} (D : va_G) (p1 : Int32) (u0 : Int32) (hF : F_X7_stopBeats p1 = some u0) : MI l yX7_stopBeats wsX7_stopBeats { frames := 1, cells := 0, slots := 0, locals := 20 } D [] [.int p1] [] (wX7_stopBeats u0) (u0) := by
  refine MI.ofW (cc := cX7_stopBeats) (maxL := 1) (ret := (some .int)) (lv := [(0, .int p1)]) (by decide +kernel) rfl (Nat.le_of_ble_eq_true rfl) rfl ?_
  intro p e s m args below meth c A ls hx hb hr hml hts hown hlocks hA hK hP hD hS hl
  replace hown : s.vm.findClass RX7 = some m.cls := hown
  have hret : ∀ (u : Int32) (v : Int32) (H : Heap) (locs : List Loc) (pc : Nat) (ls : Array Slot), va_P D vwCl (wX7_stopBeats u) H → va_D A (wX7_stopBeats u) → va_S A s.heap H locs → some u = some u0 → v = u → decode cX7_stopBeats pc = .ok (.ireturn, 1) → W p l e { frames := 1, cells := 0, slots := 0, locals := 20 } s m args below meth c H locs 0 0 (QI below D [] (wX7_stopBeats u0) (u0) args s A) (F0 m pc ls [.int v]) := fun u v H locs pc ls h1 h2 h3 h4 h5 h6 => rI (wf := wX7_stopBeats) (rf := fun u => u) hx hb hr hlocks hK h1 h2 h3 h4 h5 h6
  unfold F_X7_stopBeats at hF
  refine lv_iload_n hx hb dX7_stopBeats_0 rfl (lv_at hl 0 rfl) ?_
  refine lv_iconst (v := 4) hx hb dX7_stopBeats_1 (by decide) ?_
  refine lv_iand hx hb dX7_stopBeats_2 ?_
  refine lv_if_ne (tgt := 9) hx hb dX7_stopBeats_3 (by decide) (fun c1 => ?_) (fun c1 => ?_)
  · replace hF := it_f c1 hF
    refine lv_iload_n hx hb dX7_stopBeats_9 rfl (lv_at hl 0 rfl) ?_
    obtain ⟨u2, hu2, hF⟩ := bd_el hF
    refine cSI (As := [.int p1]) (rest := []) (wr := []) (ws' := []) (rv := u2) ⟨hx, hb, hml, hown, hts⟩ (mX7_dataBits D p1 u2 hu2) (va_cwS 1 hts gX7_stopBeats_X7_dataBits rfl rfl rfl (by decide +kernel) ⟨Nat.le_of_ble_eq_true rfl, Nat.le_of_ble_eq_true rfl⟩) hK hP hD hS hA [] [] [] [] rfl rfl rfl rfl rfl rfl hl.1 rfl (Nat.le_of_ble_eq_true rfl) rfl dX7_stopBeats_10 ⟨Nat.le_refl _, Nat.le_refl _⟩ (fun H locs hP hD hS => ?_)
    refine lv_iconst (v := 5) hx hb dX7_stopBeats_13 (by decide) ?_
    refine lv_icmp_ne (tgt := 22) hx hb dX7_stopBeats_14 (by decide) (fun c3 => ?_) (fun c3 => ?_)
    · replace hF := it_f c3 hF
      refine lv_bipush (v := 32) hx hb dX7_stopBeats_22 (by decide) ?_
      exact hret (32 : Int32) 32 _ _ 24 _ hP hD hS hF rfl dX7_stopBeats_24
    · replace hF := it_t c3 hF
      refine lv_bipush (v := 24) hx hb dX7_stopBeats_17 (by decide) ?_
      refine lv_goto (tgt := 24) hx hb dX7_stopBeats_19 (by decide) ?_
      exact hret (24 : Int32) 24 _ _ 24 _ hP hD hS hF rfl dX7_stopBeats_24
  · replace hF := it_t c1 hF
    refine lv_bipush (v := 16) hx hb dX7_stopBeats_6 (by decide) ?_
    exact hret (16 : Int32) 16 _ _ 8 _ hP hD hS hF rfl dX7_stopBeats_8
def F_X7_pieceBeats (p1 : Int32) (p2 : Int32)  : Option (Int32) := bd (F_X7_pieces p1) (fun u1 => if p2 = (u1 - 1) then (bd (F_X7_stopBeats p1) (fun u3 => some u3)) else (some (16 : Int32)))
def wX7_pieceBeats  (_u : Int32) : va_W := []
set_option maxHeartbeats 4000000 in
set_option maxRecDepth 100000 in
theorem mX7_pieceBeats {l : Launch} (D : va_G) (p1 : Int32) (p2 : Int32) (u0 : Int32) (hF : F_X7_pieceBeats p1 p2 = some u0) : MI l yX7_pieceBeats wsX7_pieceBeats { frames := 2, cells := 0, slots := 0, locals := 40 } D [] [.int p1, .int p2] [] (wX7_pieceBeats u0) (u0) := by
  refine MI.ofW (cc := cX7_pieceBeats) (maxL := 2) (ret := (some .int)) (lv := [(0, .int p1), (1, .int p2)]) (by decide +kernel) rfl (Nat.le_of_ble_eq_true rfl) rfl ?_
  intro p e s m args below meth c A ls hx hb hr hml hts hown hlocks hA hK hP hD hS hl
  replace hown : s.vm.findClass RX7 = some m.cls := hown
  have hret : ∀ (u : Int32) (v : Int32) (H : Heap) (locs : List Loc) (pc : Nat) (ls : Array Slot), va_P D vwCl (wX7_pieceBeats u) H → va_D A (wX7_pieceBeats u) → va_S A s.heap H locs → some u = some u0 → v = u → decode cX7_pieceBeats pc = .ok (.ireturn, 1) → W p l e { frames := 2, cells := 0, slots := 0, locals := 40 } s m args below meth c H locs 0 0 (QI below D [] (wX7_pieceBeats u0) (u0) args s A) (F0 m pc ls [.int v]) := fun u v H locs pc ls h1 h2 h3 h4 h5 h6 => rI (wf := wX7_pieceBeats) (rf := fun u => u) hx hb hr hlocks hK h1 h2 h3 h4 h5 h6
  unfold F_X7_pieceBeats at hF
  refine lv_iload_n hx hb dX7_pieceBeats_0 rfl (lv_at hl 1 rfl) ?_
  refine lv_iload_n hx hb dX7_pieceBeats_1 rfl (lv_at hl 0 rfl) ?_
  obtain ⟨u1, hu1, hF⟩ := bd_el hF
  refine cSI (As := [.int p1]) (rest := [.int p2]) (wr := []) (ws' := []) (rv := u1) ⟨hx, hb, hml, hown, hts⟩ (mX7_pieces D p1 u1 hu1) (va_cwS 1 hts gX7_pieceBeats_X7_pieces rfl rfl rfl (by decide +kernel) ⟨Nat.le_of_ble_eq_true rfl, Nat.le_of_ble_eq_true rfl⟩) hK hP hD hS hA [] [] [] [] rfl rfl rfl rfl rfl rfl hl.1 rfl (Nat.le_of_ble_eq_true rfl) rfl dX7_pieceBeats_2 ⟨Nat.le_refl _, Nat.le_refl _⟩ (fun H locs hP hD hS => ?_)
  refine lv_iconst (v := 1) hx hb dX7_pieceBeats_5 (by decide) ?_
  refine lv_isub hx hb dX7_pieceBeats_6 ?_
  refine lv_icmp_ne (tgt := 17) hx hb dX7_pieceBeats_7 (by decide) (fun c2 => ?_) (fun c2 => ?_)
  · replace hF := it_f c2 hF
    refine lv_bipush (v := 16) hx hb dX7_pieceBeats_17 (by decide) ?_
    exact hret (16 : Int32) 16 _ _ 19 _ hP hD hS hF rfl dX7_pieceBeats_19
  · replace hF := it_t c2 hF
    refine lv_iload_n hx hb dX7_pieceBeats_10 rfl (lv_at hl 0 rfl) ?_
    obtain ⟨u3, hu3, hF⟩ := bd_el hF
    refine cSI (As := [.int p1]) (rest := []) (wr := []) (ws' := []) (rv := u3) ⟨hx, hb, hml, hown, hts⟩ (mX7_stopBeats D p1 u3 hu3) (va_cwS 1 hts gX7_pieceBeats_X7_stopBeats rfl rfl rfl (by decide +kernel) ⟨Nat.le_of_ble_eq_true rfl, Nat.le_of_ble_eq_true rfl⟩) hK hP hD hS hA [] [] [] [] rfl rfl rfl rfl rfl rfl hl.1 rfl (Nat.le_of_ble_eq_true rfl) rfl dX7_pieceBeats_11 ⟨Nat.le_refl _, Nat.le_refl _⟩ (fun H locs hP hD hS => ?_)
    refine lv_goto (tgt := 19) hx hb dX7_pieceBeats_14 (by decide) ?_
    exact hret u3 u3 _ _ 19 _ hP hD hS hF rfl dX7_pieceBeats_19
def F_X7_beats (p1 : Int32)  : Option (Int32) := bd (F_X7_pieces p1) (fun u1 => bd (F_X7_stopBeats p1) (fun u2 => some (((u1 - 1) * 16) + u2)))
def wX7_beats  (_u : Int32) : va_W := []
set_option maxHeartbeats 4000000 in
set_option maxRecDepth 100000 in
theorem mX7_beats {l : Launch} (D : va_G) (p1 : Int32) (u0 : Int32) (hF : F_X7_beats p1 = some u0) : MI l yX7_beats wsX7_beats { frames := 2, cells := 0, slots := 0, locals := 40 } D [] [.int p1] [] (wX7_beats u0) (u0) := by
  refine MI.ofW (cc := cX7_beats) (maxL := 1) (ret := (some .int)) (lv := [(0, .int p1)]) (by decide +kernel) rfl (Nat.le_of_ble_eq_true rfl) rfl ?_
  intro p e s m args below meth c A ls hx hb hr hml hts hown hlocks hA hK hP hD hS hl
  replace hown : s.vm.findClass RX7 = some m.cls := hown
  have hret : ∀ (u : Int32) (v : Int32) (H : Heap) (locs : List Loc) (pc : Nat) (ls : Array Slot), va_P D vwCl (wX7_beats u) H → va_D A (wX7_beats u) → va_S A s.heap H locs → some u = some u0 → v = u → decode cX7_beats pc = .ok (.ireturn, 1) → W p l e { frames := 2, cells := 0, slots := 0, locals := 40 } s m args below meth c H locs 0 0 (QI below D [] (wX7_beats u0) (u0) args s A) (F0 m pc ls [.int v]) := fun u v H locs pc ls h1 h2 h3 h4 h5 h6 => rI (wf := wX7_beats) (rf := fun u => u) hx hb hr hlocks hK h1 h2 h3 h4 h5 h6
  unfold F_X7_beats at hF
  refine lv_iload_n hx hb dX7_beats_0 rfl (lv_at hl 0 rfl) ?_
  obtain ⟨u1, hu1, hF⟩ := bd_el hF
  refine cSI (As := [.int p1]) (rest := []) (wr := []) (ws' := []) (rv := u1) ⟨hx, hb, hml, hown, hts⟩ (mX7_pieces D p1 u1 hu1) (va_cwS 1 hts gX7_beats_X7_pieces rfl rfl rfl (by decide +kernel) ⟨Nat.le_of_ble_eq_true rfl, Nat.le_of_ble_eq_true rfl⟩) hK hP hD hS hA [] [] [] [] rfl rfl rfl rfl rfl rfl hl.1 rfl (Nat.le_of_ble_eq_true rfl) rfl dX7_beats_1 ⟨Nat.le_refl _, Nat.le_refl _⟩ (fun H locs hP hD hS => ?_)
  refine lv_iconst (v := 1) hx hb dX7_beats_4 (by decide) ?_
  refine lv_isub hx hb dX7_beats_5 ?_
  refine lv_bipush (v := 16) hx hb dX7_beats_6 (by decide) ?_
  refine lv_imul hx hb dX7_beats_8 ?_
  refine lv_iload_n hx hb dX7_beats_9 rfl (lv_at hl 0 rfl) ?_
  obtain ⟨u2, hu2, hF⟩ := bd_el hF
  refine cSI (As := [.int p1]) (rest := [.int ((u1 - 1) * 16)]) (wr := []) (ws' := []) (rv := u2) ⟨hx, hb, hml, hown, hts⟩ (mX7_stopBeats D p1 u2 hu2) (va_cwS 1 hts gX7_beats_X7_stopBeats rfl rfl rfl (by decide +kernel) ⟨Nat.le_of_ble_eq_true rfl, Nat.le_of_ble_eq_true rfl⟩) hK hP hD hS hA [] [] [] [] rfl rfl rfl rfl rfl rfl hl.1 rfl (Nat.le_of_ble_eq_true rfl) rfl dX7_beats_10 ⟨Nat.le_refl _, Nat.le_refl _⟩ (fun H locs hP hD hS => ?_)
  refine lv_iadd hx hb dX7_beats_13 ?_
  exact hret (((u1 - 1) * 16) + u2) (((u1 - 1) * 16) + u2) _ _ 14 _ hP hD hS hF rfl dX7_beats_14
def F_X7_parityIsHigh_55  (s0 : Bool) (l2 : Bool) : Option (Bool) := if (bI l2) = (bI s0) then (some true) else (some false)
def F_X7_parityIsHigh_12  (s0 : Bool) (l0 : Int32) (l1 : Int32) : Option (Bool) := if (l0 &&& 32) = 0 then (bd (F_X7_dataBits l0) (fun u3 => lt1 (l1 &&& ((1 <<< (u3 &&& 31)) - 1)) (fun x4 => bd (F_J6_bitCount_0f7a4 x4) (fun u5 => if (u5 &&& 1) = 0 then (F_X7_parityIsHigh_55  false s0) else (F_X7_parityIsHigh_55  true s0))))) else (bt s0 (some false) (some true))
def F_X7_parityIsHigh (p1 : Int32) (p2 : Int32)  : Option (Bool) := if (p1 &&& 16) = 0 then (F_X7_parityIsHigh_12  false p1 p2) else (F_X7_parityIsHigh_12  true p1 p2)
def wX7_parityIsHigh  (_u : Bool) : va_W := []
set_option maxHeartbeats 4000000 in
set_option maxRecDepth 100000 in
theorem mX7_parityIsHigh {l : Launch} (D : va_G) (p1 : Int32) (p2 : Int32) (u0 : Bool) (hF : F_X7_parityIsHigh p1 p2 = some u0) : MI l yX7_parityIsHigh wsX7_parityIsHigh { frames := 1, cells := 0, slots := 0, locals := 20 } D [] [.int p1, .int p2] [] (wX7_parityIsHigh u0) (bI u0) := by
  refine MI.ofW (cc := cX7_parityIsHigh) (maxL := 5) (ret := (some .boolean)) (lv := [(0, .int p1), (1, .int p2)]) (by decide +kernel) rfl (Nat.le_of_ble_eq_true rfl) rfl ?_
  intro p e s m args below meth c A ls hx hb hr hml hts hown hlocks hA hK hP hD hS hl
  replace hown : s.vm.findClass RX7 = some m.cls := hown
  have hret : ∀ (u : Bool) (v : Int32) (H : Heap) (locs : List Loc) (pc : Nat) (ls : Array Slot), va_P D vwCl (wX7_parityIsHigh u) H → va_D A (wX7_parityIsHigh u) → va_S A s.heap H locs → some u = some u0 → v = bI u → decode cX7_parityIsHigh pc = .ok (.ireturn, 1) → W p l e { frames := 1, cells := 0, slots := 0, locals := 20 } s m args below meth c H locs 0 0 (QI below D [] (wX7_parityIsHigh u0) (bI u0) args s A) (F0 m pc ls [.int v]) := fun u v H locs pc ls h1 h2 h3 h4 h5 h6 => rZ (wf := wX7_parityIsHigh) (rf := fun u => u) hx hb hr hlocks hK h1 h2 h3 h4 h5 h6
  have J55 : ∀ (s0 : Bool) (l2 : Bool) (H : Heap) (locs : List Loc) (ls : Array Slot), F_X7_parityIsHigh_55  s0 l2 = some u0 → lv_has ls 5 [(2, .int (bI l2))] → va_P D vwCl [] H → va_D A [] → va_S A s.heap H locs → W p l e { frames := 1, cells := 0, slots := 0, locals := 20 } s m args below meth c H locs 0 0 (QI below D [] (wX7_parityIsHigh u0) (bI u0) args s A) (F0 m 55 ls [.int (bI s0)]) := by
    intro s0 l2 H locs ls hF hl hP hD hS
    unfold F_X7_parityIsHigh_55 at hF
    refine lv_istore (lv' := [(4, .int (bI s0)), (2, .int (bI l2))]) hx hb dX7_parityIsHigh_55 hl (Nat.le_of_ble_eq_true rfl) rfl (fun ls hl => ?_)
    refine lv_iload_n hx hb dX7_parityIsHigh_57 rfl (lv_at hl 1 rfl) ?_
    refine lv_iload hx hb dX7_parityIsHigh_58 (lv_at hl 0 rfl) ?_
    refine lv_icmp_ne (tgt := 67) hx hb dX7_parityIsHigh_60 (by decide) (fun c1 => ?_) (fun c1 => ?_)
    · replace hF := it_f c1 hF
      refine lv_iconst (v := 0) hx hb dX7_parityIsHigh_67 (by decide) ?_
      exact hret false 0 _ _ 68 _ hP hD hS hF rfl dX7_parityIsHigh_68
    · replace hF := it_t c1 hF
      refine lv_iconst (v := 1) hx hb dX7_parityIsHigh_63 (by decide) ?_
      refine lv_goto (tgt := 68) hx hb dX7_parityIsHigh_64 (by decide) ?_
      exact hret true 1 _ _ 68 _ hP hD hS hF rfl dX7_parityIsHigh_68
  have J12 : ∀ (s0 : Bool) (l0 : Int32) (l1 : Int32) (H : Heap) (locs : List Loc) (ls : Array Slot), F_X7_parityIsHigh_12  s0 l0 l1 = some u0 → lv_has ls 5 [(0, .int l0), (1, .int l1)] → va_P D vwCl [] H → va_D A [] → va_S A s.heap H locs → W p l e { frames := 1, cells := 0, slots := 0, locals := 20 } s m args below meth c H locs 0 0 (QI below D [] (wX7_parityIsHigh u0) (bI u0) args s A) (F0 m 12 ls [.int (bI s0)]) := by
    intro s0 l0 l1 H locs ls hF hl hP hD hS
    unfold F_X7_parityIsHigh_12 at hF
    refine lv_istore_n (lv' := [(2, .int (bI s0)), (0, .int l0), (1, .int l1)]) hx hb dX7_parityIsHigh_12 rfl hl (Nat.le_of_ble_eq_true rfl) rfl (fun ls hl => ?_)
    refine lv_iload_n hx hb dX7_parityIsHigh_13 rfl (lv_at hl 1 rfl) ?_
    refine lv_bipush (v := 32) hx hb dX7_parityIsHigh_14 (by decide) ?_
    refine lv_iand hx hb dX7_parityIsHigh_16 ?_
    refine lv_if_eq (tgt := 30) hx hb dX7_parityIsHigh_17 (by decide) (fun c2 => ?_) (fun c2 => ?_)
    · replace hF := it_t c2 hF
      refine lv_iload_n hx hb dX7_parityIsHigh_30 rfl (lv_at hl 2 rfl) ?_
      refine lv_iconst (v := 1) hx hb dX7_parityIsHigh_31 (by decide) ?_
      refine lv_iload_n hx hb dX7_parityIsHigh_32 rfl (lv_at hl 1 rfl) ?_
      obtain ⟨u3, hu3, hF⟩ := bd_el hF
      refine cSI (As := [.int l0]) (rest := [.int 1, .int l1]) (wr := []) (ws' := []) (rv := u3) ⟨hx, hb, hml, hown, hts⟩ (mX7_dataBits D l0 u3 hu3) (va_cwS 1 hts gX7_parityIsHigh_X7_dataBits rfl rfl rfl (by decide +kernel) ⟨Nat.le_of_ble_eq_true rfl, Nat.le_of_ble_eq_true rfl⟩) hK hP hD hS hA [] [] [] [] rfl rfl rfl rfl rfl rfl hl.1 rfl (Nat.le_of_ble_eq_true rfl) rfl dX7_parityIsHigh_33 ⟨Nat.le_refl _, Nat.le_refl _⟩ (fun H locs hP hD hS => ?_)
      refine lv_ishl hx hb dX7_parityIsHigh_36 ?_
      refine lv_iconst (v := 1) hx hb dX7_parityIsHigh_37 (by decide) ?_
      refine lv_isub hx hb dX7_parityIsHigh_38 ?_
      refine lv_iand hx hb dX7_parityIsHigh_39 ?_
      refine lv_topi (fun x4 ex4 => ?_)
      replace hF := lt1_x ex4 hF
      refine lv_istore_n (lv' := [(3, .int x4), (2, .int (bI s0)), (0, .int l0), (1, .int l1)]) hx hb dX7_parityIsHigh_40 rfl hl (Nat.le_of_ble_eq_true rfl) rfl (fun ls hl => ?_)
      refine lv_iload_n hx hb dX7_parityIsHigh_41 rfl (lv_at hl 0 rfl) ?_
      obtain ⟨u5, hu5, hF⟩ := bd_el hF
      refine cSI (As := [.int x4]) (rest := []) (wr := []) (ws' := []) (rv := u5) ⟨hx, hb, hml, hown, hts⟩ (mJ6_bitCount_0f7a4 D x4 u5 hu5) (va_cwS 1 hts gX7_parityIsHigh_J6_bitCount_0f7a4 rfl rfl rfl (by decide +kernel) ⟨Nat.le_of_ble_eq_true rfl, Nat.le_of_ble_eq_true rfl⟩) hK hP hD hS hA [] [] [] [] rfl rfl rfl rfl rfl rfl hl.1 rfl (Nat.le_of_ble_eq_true rfl) rfl dX7_parityIsHigh_42 ⟨Nat.le_refl _, Nat.le_refl _⟩ (fun H locs hP hD hS => ?_)
      refine lv_iconst (v := 1) hx hb dX7_parityIsHigh_45 (by decide) ?_
      refine lv_iand hx hb dX7_parityIsHigh_46 ?_
      refine lv_if_eq (tgt := 54) hx hb dX7_parityIsHigh_47 (by decide) (fun c6 => ?_) (fun c6 => ?_)
      · replace hF := it_t c6 hF
        refine lv_iconst (v := 0) hx hb dX7_parityIsHigh_54 (by decide) ?_
        exact J55 false s0 _ _ _ hF (lv_sub hl [1] rfl) hP hD hS
      · replace hF := it_f c6 hF
        refine lv_iconst (v := 1) hx hb dX7_parityIsHigh_50 (by decide) ?_
        refine lv_goto (tgt := 55) hx hb dX7_parityIsHigh_51 (by decide) ?_
        exact J55 true s0 _ _ _ hF (lv_sub hl [1] rfl) hP hD hS
    · replace hF := it_f c2 hF
      refine lv_iload_n hx hb dX7_parityIsHigh_20 rfl (lv_at hl 0 rfl) ?_
      refine lv_if_ne (tgt := 28) hx hb dX7_parityIsHigh_21 (by decide) (fun c7 => ?_) (fun c7 => ?_)
      · replace hF := bt_t (bI_n0 c7) hF
        refine lv_iconst (v := 0) hx hb dX7_parityIsHigh_28 (by decide) ?_
        exact hret false 0 _ _ 29 _ hP hD hS hF rfl dX7_parityIsHigh_29
      · replace hF := bt_f (bI_0 c7) hF
        refine lv_iconst (v := 1) hx hb dX7_parityIsHigh_24 (by decide) ?_
        refine lv_goto (tgt := 29) hx hb dX7_parityIsHigh_25 (by decide) ?_
        exact hret true 1 _ _ 29 _ hP hD hS hF rfl dX7_parityIsHigh_29
  unfold F_X7_parityIsHigh at hF
  refine lv_iload_n hx hb dX7_parityIsHigh_0 rfl (lv_at hl 0 rfl) ?_
  refine lv_bipush (v := 16) hx hb dX7_parityIsHigh_1 (by decide) ?_
  refine lv_iand hx hb dX7_parityIsHigh_3 ?_
  refine lv_if_eq (tgt := 11) hx hb dX7_parityIsHigh_4 (by decide) (fun c8 => ?_) (fun c8 => ?_)
  · replace hF := it_t c8 hF
    refine lv_iconst (v := 0) hx hb dX7_parityIsHigh_11 (by decide) ?_
    exact J12 false p1 p2 _ _ _ hF hl hP hD hS
  · replace hF := it_f c8 hF
    refine lv_iconst (v := 1) hx hb dX7_parityIsHigh_7 (by decide) ?_
    refine lv_goto (tgt := 12) hx hb dX7_parityIsHigh_8 (by decide) ?_
    exact J12 true p1 p2 _ _ _ hF hl hP hD hS
def F_X7_pieceIsHigh (p1 : Int32) (p2 : Int32) (p3 : Int32)  : Option (Bool) := bd (F_X7_dataBits p1) (fun u1 => if 0 < p3 then (if u1 < p3 then (if p3 = (u1 + 1) then (bd (F_X7_hasParity p1) (fun u5 => bt u5 (bd (F_X7_parityIsHigh p1 p2) (fun u7 => some u7)) (some true))) else (some true)) else (if ((p2 >>> ((p3 - 1) &&& 31)) &&& 1) = 0 then (some false) else (some true))) else (some false))
def wX7_pieceIsHigh  (_u : Bool) : va_W := []
set_option maxHeartbeats 4000000 in
set_option maxRecDepth 100000 in
theorem mX7_pieceIsHigh {l : Launch} (D : va_G) (p1 : Int32) (p2 : Int32) (p3 : Int32) (u0 : Bool) (hF : F_X7_pieceIsHigh p1 p2 p3 = some u0) : MI l yX7_pieceIsHigh wsX7_pieceIsHigh { frames := 2, cells := 0, slots := 0, locals := 44 } D [] [.int p1, .int p2, .int p3] [] (wX7_pieceIsHigh u0) (bI u0) := by
  refine MI.ofW (cc := cX7_pieceIsHigh) (maxL := 4) (ret := (some .boolean)) (lv := [(0, .int p1), (1, .int p2), (2, .int p3)]) (by decide +kernel) rfl (Nat.le_of_ble_eq_true rfl) rfl ?_
  intro p e s m args below meth c A ls hx hb hr hml hts hown hlocks hA hK hP hD hS hl
  replace hown : s.vm.findClass RX7 = some m.cls := hown
  have hret : ∀ (u : Bool) (v : Int32) (H : Heap) (locs : List Loc) (pc : Nat) (ls : Array Slot), va_P D vwCl (wX7_pieceIsHigh u) H → va_D A (wX7_pieceIsHigh u) → va_S A s.heap H locs → some u = some u0 → v = bI u → decode cX7_pieceIsHigh pc = .ok (.ireturn, 1) → W p l e { frames := 2, cells := 0, slots := 0, locals := 44 } s m args below meth c H locs 0 0 (QI below D [] (wX7_pieceIsHigh u0) (bI u0) args s A) (F0 m pc ls [.int v]) := fun u v H locs pc ls h1 h2 h3 h4 h5 h6 => rZ (wf := wX7_pieceIsHigh) (rf := fun u => u) hx hb hr hlocks hK h1 h2 h3 h4 h5 h6
  unfold F_X7_pieceIsHigh at hF
  refine lv_iload_n hx hb dX7_pieceIsHigh_0 rfl (lv_at hl 0 rfl) ?_
  obtain ⟨u1, hu1, hF⟩ := bd_el hF
  refine cSI (As := [.int p1]) (rest := []) (wr := []) (ws' := []) (rv := u1) ⟨hx, hb, hml, hown, hts⟩ (mX7_dataBits D p1 u1 hu1) (va_cwS 1 hts gX7_pieceIsHigh_X7_dataBits rfl rfl rfl (by decide +kernel) ⟨Nat.le_of_ble_eq_true rfl, Nat.le_of_ble_eq_true rfl⟩) hK hP hD hS hA [] [] [] [] rfl rfl rfl rfl rfl rfl hl.1 rfl (Nat.le_of_ble_eq_true rfl) rfl dX7_pieceIsHigh_1 ⟨Nat.le_refl _, Nat.le_refl _⟩ (fun H locs hP hD hS => ?_)
  refine lv_istore_n (lv' := [(3, .int u1), (0, .int p1), (1, .int p2), (2, .int p3)]) hx hb dX7_pieceIsHigh_4 rfl hl (Nat.le_of_ble_eq_true rfl) rfl (fun ls hl => ?_)
  refine lv_iload_n hx hb dX7_pieceIsHigh_5 rfl (lv_at hl 3 rfl) ?_
  refine lv_if_gt (tgt := 11) hx hb dX7_pieceIsHigh_6 (by decide) (fun c2 => ?_) (fun c2 => ?_)
  · replace hF := it_t c2 hF
    refine lv_iload_n hx hb dX7_pieceIsHigh_11 rfl (lv_at hl 3 rfl) ?_
    refine lv_iload_n hx hb dX7_pieceIsHigh_12 rfl (lv_at hl 0 rfl) ?_
    refine lv_icmp_gt (tgt := 32) hx hb dX7_pieceIsHigh_13 (by decide) (fun c3 => ?_) (fun c3 => ?_)
    · replace hF := it_t c3 hF
      refine lv_iload_n hx hb dX7_pieceIsHigh_32 rfl (lv_at hl 3 rfl) ?_
      refine lv_iload_n hx hb dX7_pieceIsHigh_33 rfl (lv_at hl 0 rfl) ?_
      refine lv_iconst (v := 1) hx hb dX7_pieceIsHigh_34 (by decide) ?_
      refine lv_iadd hx hb dX7_pieceIsHigh_35 ?_
      refine lv_icmp_ne (tgt := 52) hx hb dX7_pieceIsHigh_36 (by decide) (fun c4 => ?_) (fun c4 => ?_)
      · replace hF := it_f c4 hF
        refine lv_iconst (v := 1) hx hb dX7_pieceIsHigh_52 (by decide) ?_
        exact hret true 1 _ _ 53 _ hP hD hS hF rfl dX7_pieceIsHigh_53
      · replace hF := it_t c4 hF
        refine lv_iload_n hx hb dX7_pieceIsHigh_39 rfl (lv_at hl 1 rfl) ?_
        obtain ⟨u5, hu5, hF⟩ := bd_el hF
        refine cSI (As := [.int p1]) (rest := []) (wr := []) (ws' := []) (rv := bI u5) ⟨hx, hb, hml, hown, hts⟩ (mX7_hasParity D p1 u5 hu5) (va_cwS 1 hts gX7_pieceIsHigh_X7_hasParity rfl rfl rfl (by decide +kernel) ⟨Nat.le_of_ble_eq_true rfl, Nat.le_of_ble_eq_true rfl⟩) hK hP hD hS hA [] [] [] [] rfl rfl rfl rfl rfl rfl hl.1 rfl (Nat.le_of_ble_eq_true rfl) rfl dX7_pieceIsHigh_40 ⟨Nat.le_refl _, Nat.le_refl _⟩ (fun H locs hP hD hS => ?_)
        refine lv_if_eq (tgt := 52) hx hb dX7_pieceIsHigh_43 (by decide) (fun c6 => ?_) (fun c6 => ?_)
        · replace hF := bt_f (bI_0 c6) hF
          refine lv_iconst (v := 1) hx hb dX7_pieceIsHigh_52 (by decide) ?_
          exact hret true 1 _ _ 53 _ hP hD hS hF rfl dX7_pieceIsHigh_53
        · replace hF := bt_t (bI_n0 c6) hF
          refine lv_iload_n hx hb dX7_pieceIsHigh_46 rfl (lv_at hl 1 rfl) ?_
          refine lv_iload_n hx hb dX7_pieceIsHigh_47 rfl (lv_at hl 2 rfl) ?_
          obtain ⟨u7, hu7, hF⟩ := bd_el hF
          refine cSI (As := [.int p1, .int p2]) (rest := []) (wr := []) (ws' := []) (rv := bI u7) ⟨hx, hb, hml, hown, hts⟩ (mX7_parityIsHigh D p1 p2 u7 hu7) (va_cwS 2 hts gX7_pieceIsHigh_X7_parityIsHigh rfl rfl rfl (by decide +kernel) ⟨Nat.le_of_ble_eq_true rfl, Nat.le_of_ble_eq_true rfl⟩) hK hP hD hS hA [] [] [] [] rfl rfl rfl rfl rfl rfl hl.1 rfl (Nat.le_of_ble_eq_true rfl) rfl dX7_pieceIsHigh_48 ⟨Nat.le_refl _, Nat.le_refl _⟩ (fun H locs hP hD hS => ?_)
          exact hret u7 (bI u7) _ _ 51 _ hP hD hS hF rfl dX7_pieceIsHigh_51
    · replace hF := it_f c3 hF
      refine lv_iload_n hx hb dX7_pieceIsHigh_16 rfl (lv_at hl 2 rfl) ?_
      refine lv_iload_n hx hb dX7_pieceIsHigh_17 rfl (lv_at hl 3 rfl) ?_
      refine lv_iconst (v := 1) hx hb dX7_pieceIsHigh_18 (by decide) ?_
      refine lv_isub hx hb dX7_pieceIsHigh_19 ?_
      refine lv_ishr hx hb dX7_pieceIsHigh_20 ?_
      refine lv_iconst (v := 1) hx hb dX7_pieceIsHigh_21 (by decide) ?_
      refine lv_iand hx hb dX7_pieceIsHigh_22 ?_
      refine lv_if_eq (tgt := 30) hx hb dX7_pieceIsHigh_23 (by decide) (fun c8 => ?_) (fun c8 => ?_)
      · replace hF := it_t c8 hF
        refine lv_iconst (v := 0) hx hb dX7_pieceIsHigh_30 (by decide) ?_
        exact hret false 0 _ _ 31 _ hP hD hS hF rfl dX7_pieceIsHigh_31
      · replace hF := it_f c8 hF
        refine lv_iconst (v := 1) hx hb dX7_pieceIsHigh_26 (by decide) ?_
        refine lv_goto (tgt := 31) hx hb dX7_pieceIsHigh_27 (by decide) ?_
        exact hret true 1 _ _ 31 _ hP hD hS hF rfl dX7_pieceIsHigh_31
  · replace hF := it_f c2 hF
    refine lv_iconst (v := 0) hx hb dX7_pieceIsHigh_9 (by decide) ?_
    exact hret false 0 _ _ 10 _ hP hD hS hF rfl dX7_pieceIsHigh_10
end
section
theorem dX0_clear_0 : decode cX0_clear 0 = .ok (.aload_n 0, 1) := by decide +kernel
theorem dX0_clear_1 : decode cX0_clear 1 = .ok (.iconst 0, 1) := by decide +kernel
theorem dX0_clear_2 : decode cX0_clear 2 = .ok (.putfield 9, 3) := by decide +kernel
theorem dX0_clear_5 : decode cX0_clear 5 = .ok (.aload_n 0, 1) := by decide +kernel
theorem dX0_clear_6 : decode cX0_clear 6 = .ok (.iconst 0, 1) := by decide +kernel
theorem dX0_clear_7 : decode cX0_clear 7 = .ok (.putfield 15, 3) := by decide +kernel
theorem dX0_clear_10 : decode cX0_clear 10 = .ok (.return_, 1) := by decide +kernel
theorem dX0_putByte_0 : decode cX0_putByte 0 = .ok (.aload_n 0, 1) := by decide +kernel
theorem dX0_putByte_1 : decode cX0_putByte 1 = .ok (.iload_n 1, 1) := by decide +kernel
theorem dX0_putByte_2 : decode cX0_putByte 2 = .ok (.ifCond .ne 15, 3) := by decide +kernel
theorem dX0_putByte_5 : decode cX0_putByte 5 = .ok (.aload_n 0, 1) := by decide +kernel
theorem dX0_putByte_6 : decode cX0_putByte 6 = .ok (.getfield 9, 3) := by decide +kernel
theorem dX0_putByte_9 : decode cX0_putByte 9 = .ok (.ldc 18, 2) := by decide +kernel
theorem dX0_putByte_11 : decode cX0_putByte 11 = .ok (.iand, 1) := by decide +kernel
theorem dX0_putByte_12 : decode cX0_putByte 12 = .ok (.iload_n 2, 1) := by decide +kernel
theorem dX0_putByte_13 : decode cX0_putByte 13 = .ok (.ior, 1) := by decide +kernel
theorem dX0_putByte_14 : decode cX0_putByte 14 = .ok (.goto 16, 3) := by decide +kernel
theorem dX0_putByte_17 : decode cX0_putByte 17 = .ok (.aload_n 0, 1) := by decide +kernel
theorem dX0_putByte_18 : decode cX0_putByte 18 = .ok (.getfield 9, 3) := by decide +kernel
theorem dX0_putByte_21 : decode cX0_putByte 21 = .ok (.sipush 255, 3) := by decide +kernel
theorem dX0_putByte_24 : decode cX0_putByte 24 = .ok (.iand, 1) := by decide +kernel
theorem dX0_putByte_25 : decode cX0_putByte 25 = .ok (.iload_n 2, 1) := by decide +kernel
theorem dX0_putByte_26 : decode cX0_putByte 26 = .ok (.bipush 8, 2) := by decide +kernel
theorem dX0_putByte_28 : decode cX0_putByte 28 = .ok (.ishl, 1) := by decide +kernel
theorem dX0_putByte_29 : decode cX0_putByte 29 = .ok (.ior, 1) := by decide +kernel
theorem dX0_putByte_30 : decode cX0_putByte 30 = .ok (.putfield 9, 3) := by decide +kernel
theorem dX0_putByte_33 : decode cX0_putByte 33 = .ok (.aload_n 0, 1) := by decide +kernel
theorem dX0_putByte_34 : decode cX0_putByte 34 = .ok (.iconst 0, 1) := by decide +kernel
theorem dX0_putByte_35 : decode cX0_putByte 35 = .ok (.putfield 15, 3) := by decide +kernel
theorem dX0_putByte_38 : decode cX0_putByte 38 = .ok (.return_, 1) := by decide +kernel
theorem dX0_tellByte_0 : decode cX0_tellByte 0 = .ok (.iload_n 1, 1) := by decide +kernel
theorem dX0_tellByte_1 : decode cX0_tellByte 1 = .ok (.ifCond .ne 14, 3) := by decide +kernel
theorem dX0_tellByte_4 : decode cX0_tellByte 4 = .ok (.aload_n 0, 1) := by decide +kernel
theorem dX0_tellByte_5 : decode cX0_tellByte 5 = .ok (.getfield 9, 3) := by decide +kernel
theorem dX0_tellByte_8 : decode cX0_tellByte 8 = .ok (.sipush 255, 3) := by decide +kernel
theorem dX0_tellByte_11 : decode cX0_tellByte 11 = .ok (.iand, 1) := by decide +kernel
theorem dX0_tellByte_12 : decode cX0_tellByte 12 = .ok (.goto 14, 3) := by decide +kernel
theorem dX0_tellByte_15 : decode cX0_tellByte 15 = .ok (.aload_n 0, 1) := by decide +kernel
theorem dX0_tellByte_16 : decode cX0_tellByte 16 = .ok (.getfield 9, 3) := by decide +kernel
theorem dX0_tellByte_19 : decode cX0_tellByte 19 = .ok (.bipush 8, 2) := by decide +kernel
theorem dX0_tellByte_21 : decode cX0_tellByte 21 = .ok (.ishr, 1) := by decide +kernel
theorem dX0_tellByte_22 : decode cX0_tellByte 22 = .ok (.sipush 255, 3) := by decide +kernel
theorem dX0_tellByte_25 : decode cX0_tellByte 25 = .ok (.iand, 1) := by decide +kernel
theorem dX0_tellByte_26 : decode cX0_tellByte 26 = .ok (.ireturn, 1) := by decide +kernel
theorem dX0_pass_0 : decode cX0_pass 0 = .ok (.aload_n 0, 1) := by decide +kernel
theorem dX0_pass_1 : decode cX0_pass 1 = .ok (.getfield 9, 3) := by decide +kernel
theorem dX0_pass_4 : decode cX0_pass 4 = .ok (.ifCond .gt 5, 3) := by decide +kernel
theorem dX0_pass_7 : decode cX0_pass 7 = .ok (.iconst 0, 1) := by decide +kernel
theorem dX0_pass_8 : decode cX0_pass 8 = .ok (.ireturn, 1) := by decide +kernel
theorem dX0_pass_9 : decode cX0_pass 9 = .ok (.aload_n 0, 1) := by decide +kernel
theorem dX0_pass_10 : decode cX0_pass 10 = .ok (.getfield 15, 3) := by decide +kernel
theorem dX0_pass_13 : decode cX0_pass 13 = .ok (.iload_n 1, 1) := by decide +kernel
theorem dX0_pass_14 : decode cX0_pass 14 = .ok (.iadd, 1) := by decide +kernel
theorem dX0_pass_15 : decode cX0_pass 15 = .ok (.istore_n 2, 1) := by decide +kernel
theorem dX0_pass_16 : decode cX0_pass 16 = .ok (.aload_n 0, 1) := by decide +kernel
theorem dX0_pass_17 : decode cX0_pass 17 = .ok (.iload_n 2, 1) := by decide +kernel
theorem dX0_pass_18 : decode cX0_pass 18 = .ok (.aload_n 0, 1) := by decide +kernel
theorem dX0_pass_19 : decode cX0_pass 19 = .ok (.getfield 9, 3) := by decide +kernel
theorem dX0_pass_22 : decode cX0_pass 22 = .ok (.irem, 1) := by decide +kernel
theorem dX0_pass_23 : decode cX0_pass 23 = .ok (.putfield 15, 3) := by decide +kernel
theorem dX0_pass_26 : decode cX0_pass 26 = .ok (.iload_n 2, 1) := by decide +kernel
theorem dX0_pass_27 : decode cX0_pass 27 = .ok (.aload_n 0, 1) := by decide +kernel
theorem dX0_pass_28 : decode cX0_pass 28 = .ok (.getfield 9, 3) := by decide +kernel
theorem dX0_pass_31 : decode cX0_pass 31 = .ok (.idiv, 1) := by decide +kernel
theorem dX0_pass_32 : decode cX0_pass 32 = .ok (.ireturn, 1) := by decide +kernel
theorem dX3_clear_0 : decode cX3_clear 0 = .ok (.aload_n 0, 1) := by decide +kernel
theorem dX3_clear_1 : decode cX3_clear 1 = .ok (.iconst 0, 1) := by decide +kernel
theorem dX3_clear_2 : decode cX3_clear 2 = .ok (.putfield 7, 3) := by decide +kernel
theorem dX3_clear_5 : decode cX3_clear 5 = .ok (.aload_n 0, 1) := by decide +kernel
theorem dX3_clear_6 : decode cX3_clear 6 = .ok (.iconst 0, 1) := by decide +kernel
theorem dX3_clear_7 : decode cX3_clear 7 = .ok (.putfield 13, 3) := by decide +kernel
theorem dX3_clear_10 : decode cX3_clear 10 = .ok (.aload_n 0, 1) := by decide +kernel
theorem dX3_clear_11 : decode cX3_clear 11 = .ok (.iconst 0, 1) := by decide +kernel
theorem dX3_clear_12 : decode cX3_clear 12 = .ok (.putfield 16, 3) := by decide +kernel
theorem dX3_clear_15 : decode cX3_clear 15 = .ok (.aload_n 0, 1) := by decide +kernel
theorem dX3_clear_16 : decode cX3_clear 16 = .ok (.iconst 0, 1) := by decide +kernel
theorem dX3_clear_17 : decode cX3_clear 17 = .ok (.putfield 19, 3) := by decide +kernel
theorem dX3_clear_20 : decode cX3_clear 20 = .ok (.return_, 1) := by decide +kernel
theorem dX3_outputs_0 : decode cX3_outputs 0 = .ok (.aload_n 0, 1) := by decide +kernel
theorem dX3_outputs_1 : decode cX3_outputs 1 = .ok (.getfield 7, 3) := by decide +kernel
theorem dX3_outputs_4 : decode cX3_outputs 4 = .ok (.ireturn, 1) := by decide +kernel
theorem dX3_loops_0 : decode cX3_loops 0 = .ok (.aload_n 0, 1) := by decide +kernel
theorem dX3_loops_1 : decode cX3_loops 1 = .ok (.getfield 7, 3) := by decide +kernel
theorem dX3_loops_4 : decode cX3_loops 4 = .ok (.bipush 16, 2) := by decide +kernel
theorem dX3_loops_6 : decode cX3_loops 6 = .ok (.iand, 1) := by decide +kernel
theorem dX3_loops_7 : decode cX3_loops 7 = .ok (.ifCond .eq 7, 3) := by decide +kernel
theorem dX3_loops_10 : decode cX3_loops 10 = .ok (.iconst 1, 1) := by decide +kernel
theorem dX3_loops_11 : decode cX3_loops 11 = .ok (.goto 4, 3) := by decide +kernel
theorem dX3_loops_14 : decode cX3_loops 14 = .ok (.iconst 0, 1) := by decide +kernel
theorem dX3_loops_15 : decode cX3_loops 15 = .ok (.ireturn, 1) := by decide +kernel
theorem dX3_hasChanged_0 : decode cX3_hasChanged 0 = .ok (.aload_n 0, 1) := by decide +kernel
theorem dX3_hasChanged_1 : decode cX3_hasChanged 1 = .ok (.getfield 19, 3) := by decide +kernel
theorem dX3_hasChanged_4 : decode cX3_hasChanged 4 = .ok (.ifCond .eq 7, 3) := by decide +kernel
theorem dX3_hasChanged_7 : decode cX3_hasChanged 7 = .ok (.iconst 1, 1) := by decide +kernel
theorem dX3_hasChanged_8 : decode cX3_hasChanged 8 = .ok (.goto 4, 3) := by decide +kernel
theorem dX3_hasChanged_11 : decode cX3_hasChanged 11 = .ok (.iconst 0, 1) := by decide +kernel
theorem dX3_hasChanged_12 : decode cX3_hasChanged 12 = .ok (.ireturn, 1) := by decide +kernel
theorem dX3_looped_0 : decode cX3_looped 0 = .ok (.aload_n 0, 1) := by decide +kernel
theorem dX3_looped_1 : decode cX3_looped 1 = .ok (.getfield 7, 3) := by decide +kernel
theorem dX3_looped_4 : decode cX3_looped 4 = .ok (.iconst 1, 1) := by decide +kernel
theorem dX3_looped_5 : decode cX3_looped 5 = .ok (.ishr, 1) := by decide +kernel
theorem dX3_looped_6 : decode cX3_looped 6 = .ok (.iconst 1, 1) := by decide +kernel
theorem dX3_looped_7 : decode cX3_looped 7 = .ok (.iand, 1) := by decide +kernel
theorem dX3_looped_8 : decode cX3_looped 8 = .ok (.aload_n 0, 1) := by decide +kernel
theorem dX3_looped_9 : decode cX3_looped 9 = .ok (.getfield 7, 3) := by decide +kernel
theorem dX3_looped_12 : decode cX3_looped 12 = .ok (.iconst 1, 1) := by decide +kernel
theorem dX3_looped_13 : decode cX3_looped 13 = .ok (.ishl, 1) := by decide +kernel
theorem dX3_looped_14 : decode cX3_looped 14 = .ok (.iconst 2, 1) := by decide +kernel
theorem dX3_looped_15 : decode cX3_looped 15 = .ok (.iand, 1) := by decide +kernel
theorem dX3_looped_16 : decode cX3_looped 16 = .ok (.ior, 1) := by decide +kernel
theorem dX3_looped_17 : decode cX3_looped 17 = .ok (.aload_n 0, 1) := by decide +kernel
theorem dX3_looped_18 : decode cX3_looped 18 = .ok (.getfield 7, 3) := by decide +kernel
theorem dX3_looped_21 : decode cX3_looped 21 = .ok (.bipush 12, 2) := by decide +kernel
theorem dX3_looped_23 : decode cX3_looped 23 = .ok (.iand, 1) := by decide +kernel
theorem dX3_looped_24 : decode cX3_looped 24 = .ok (.ior, 1) := by decide +kernel
theorem dX3_looped_25 : decode cX3_looped 25 = .ok (.ireturn, 1) := by decide +kernel
theorem dX3_follow_0 : decode cX3_follow 0 = .ok (.aload_n 0, 1) := by decide +kernel
theorem dX3_follow_1 : decode cX3_follow 1 = .ok (.invokevirtual 25, 3) := by decide +kernel
theorem dX3_follow_4 : decode cX3_follow 4 = .ok (.ifCond .eq 10, 3) := by decide +kernel
theorem dX3_follow_7 : decode cX3_follow 7 = .ok (.aload_n 0, 1) := by decide +kernel
theorem dX3_follow_8 : decode cX3_follow 8 = .ok (.invokevirtual 29, 3) := by decide +kernel
theorem dX3_follow_11 : decode cX3_follow 11 = .ok (.goto 7, 3) := by decide +kernel
theorem dX3_follow_14 : decode cX3_follow 14 = .ok (.aload_n 0, 1) := by decide +kernel
theorem dX3_follow_15 : decode cX3_follow 15 = .ok (.getfield 13, 3) := by decide +kernel
theorem dX3_follow_18 : decode cX3_follow 18 = .ok (.istore_n 1, 1) := by decide +kernel
theorem dX3_follow_19 : decode cX3_follow 19 = .ok (.iload_n 1, 1) := by decide +kernel
theorem dX3_follow_20 : decode cX3_follow 20 = .ok (.aload_n 0, 1) := by decide +kernel
theorem dX3_follow_21 : decode cX3_follow 21 = .ok (.getfield 16, 3) := by decide +kernel
theorem dX3_follow_24 : decode cX3_follow 24 = .ok (.ixor, 1) := by decide +kernel
theorem dX3_follow_25 : decode cX3_follow 25 = .ok (.istore_n 2, 1) := by decide +kernel
theorem dX3_follow_26 : decode cX3_follow 26 = .ok (.aload_n 0, 1) := by decide +kernel
theorem dX3_follow_27 : decode cX3_follow 27 = .ok (.dup, 1) := by decide +kernel
theorem dX3_follow_28 : decode cX3_follow 28 = .ok (.getfield 19, 3) := by decide +kernel
theorem dX3_follow_31 : decode cX3_follow 31 = .ok (.iload_n 2, 1) := by decide +kernel
theorem dX3_follow_32 : decode cX3_follow 32 = .ok (.bipush (-5), 2) := by decide +kernel
theorem dX3_follow_34 : decode cX3_follow 34 = .ok (.iand, 1) := by decide +kernel
theorem dX3_follow_35 : decode cX3_follow 35 = .ok (.iload_n 2, 1) := by decide +kernel
theorem dX3_follow_36 : decode cX3_follow 36 = .ok (.aload_n 0, 1) := by decide +kernel
theorem dX3_follow_37 : decode cX3_follow 37 = .ok (.getfield 16, 3) := by decide +kernel
theorem dX3_follow_40 : decode cX3_follow 40 = .ok (.iand, 1) := by decide +kernel
theorem dX3_follow_41 : decode cX3_follow 41 = .ok (.iconst 4, 1) := by decide +kernel
theorem dX3_follow_42 : decode cX3_follow 42 = .ok (.iand, 1) := by decide +kernel
theorem dX3_follow_43 : decode cX3_follow 43 = .ok (.ior, 1) := by decide +kernel
theorem dX3_follow_44 : decode cX3_follow 44 = .ok (.ior, 1) := by decide +kernel
theorem dX3_follow_45 : decode cX3_follow 45 = .ok (.putfield 19, 3) := by decide +kernel
theorem dX3_follow_48 : decode cX3_follow 48 = .ok (.aload_n 0, 1) := by decide +kernel
theorem dX3_follow_49 : decode cX3_follow 49 = .ok (.iload_n 1, 1) := by decide +kernel
theorem dX3_follow_50 : decode cX3_follow 50 = .ok (.putfield 16, 3) := by decide +kernel
theorem dX3_follow_53 : decode cX3_follow 53 = .ok (.return_, 1) := by decide +kernel
set_option maxRecDepth 20000 in
theorem ggX3_follow_X3_loops : GoodIn wsX3_follow wsX3_loops := goodIn_r _ [8, 9, 14, 15, 16, 17] (by decide +kernel) (by decide +kernel)
set_option maxRecDepth 20000 in
theorem gX3_follow_X3_loops : GoodIn wsX3_follow (wsV RX3 25 RX3 yX3_loops wsX3_loops) := goodIn_app (goodIn_of _ (by decide +kernel)) ggX3_follow_X3_loops
set_option maxRecDepth 20000 in
theorem ggX3_follow_X3_looped : GoodIn wsX3_follow wsX3_looped := goodIn_r _ [13, 9, 14, 15, 16, 17] (by decide +kernel) (by decide +kernel)
set_option maxRecDepth 20000 in
theorem gX3_follow_X3_looped : GoodIn wsX3_follow (wsV RX3 29 RX3 yX3_looped wsX3_looped) := goodIn_app (goodIn_of _ (by decide +kernel)) ggX3_follow_X3_looped
theorem dX3_putOutputs_0 : decode cX3_putOutputs 0 = .ok (.aload_n 0, 1) := by decide +kernel
theorem dX3_putOutputs_1 : decode cX3_putOutputs 1 = .ok (.iload_n 1, 1) := by decide +kernel
theorem dX3_putOutputs_2 : decode cX3_putOutputs 2 = .ok (.putfield 7, 3) := by decide +kernel
theorem dX3_putOutputs_5 : decode cX3_putOutputs 5 = .ok (.aload_n 0, 1) := by decide +kernel
theorem dX3_putOutputs_6 : decode cX3_putOutputs 6 = .ok (.invokevirtual 22, 3) := by decide +kernel
theorem dX3_putOutputs_9 : decode cX3_putOutputs 9 = .ok (.return_, 1) := by decide +kernel
set_option maxRecDepth 20000 in
theorem ggX3_putOutputs_X3_follow : GoodIn wsX3_putOutputs wsX3_follow := goodIn_r _ [6, 7, 8, 9, 10, 11, 12, 5, 13, 1, 14, 15, 16, 17, 18, 19, 20, 21] (by decide +kernel) (by decide +kernel)
set_option maxRecDepth 20000 in
theorem gX3_putOutputs_X3_follow : GoodIn wsX3_putOutputs (wsV RX3 22 RX3 yX3_follow wsX3_follow) := goodIn_app (goodIn_of _ (by decide +kernel)) ggX3_putOutputs_X3_follow
theorem dX3_putPins_0 : decode cX3_putPins 0 = .ok (.aload_n 0, 1) := by decide +kernel
theorem dX3_putPins_1 : decode cX3_putPins 1 = .ok (.iload_n 1, 1) := by decide +kernel
theorem dX3_putPins_2 : decode cX3_putPins 2 = .ok (.putfield 13, 3) := by decide +kernel
theorem dX3_putPins_5 : decode cX3_putPins 5 = .ok (.aload_n 0, 1) := by decide +kernel
theorem dX3_putPins_6 : decode cX3_putPins 6 = .ok (.invokevirtual 22, 3) := by decide +kernel
theorem dX3_putPins_9 : decode cX3_putPins 9 = .ok (.return_, 1) := by decide +kernel
set_option maxRecDepth 20000 in
theorem ggX3_putPins_X3_follow : GoodIn wsX3_putPins wsX3_follow := goodIn_r _ [6, 1, 7, 8, 9, 10, 11, 5, 12, 13, 14, 15, 16, 17, 18, 19, 20, 21] (by decide +kernel) (by decide +kernel)
set_option maxRecDepth 20000 in
theorem gX3_putPins_X3_follow : GoodIn wsX3_putPins (wsV RX3 22 RX3 yX3_follow wsX3_follow) := goodIn_app (goodIn_of _ (by decide +kernel)) ggX3_putPins_X3_follow
theorem dX3_tellState_0 : decode cX3_tellState 0 = .ok (.aload_n 0, 1) := by decide +kernel
theorem dX3_tellState_1 : decode cX3_tellState 1 = .ok (.getfield 16, 3) := by decide +kernel
theorem dX3_tellState_4 : decode cX3_tellState 4 = .ok (.iconst 4, 1) := by decide +kernel
theorem dX3_tellState_5 : decode cX3_tellState 5 = .ok (.ishl, 1) := by decide +kernel
theorem dX3_tellState_6 : decode cX3_tellState 6 = .ok (.aload_n 0, 1) := by decide +kernel
theorem dX3_tellState_7 : decode cX3_tellState 7 = .ok (.getfield 19, 3) := by decide +kernel
theorem dX3_tellState_10 : decode cX3_tellState 10 = .ok (.ior, 1) := by decide +kernel
theorem dX3_tellState_11 : decode cX3_tellState 11 = .ok (.istore_n 1, 1) := by decide +kernel
theorem dX3_tellState_12 : decode cX3_tellState 12 = .ok (.aload_n 0, 1) := by decide +kernel
theorem dX3_tellState_13 : decode cX3_tellState 13 = .ok (.iconst 0, 1) := by decide +kernel
theorem dX3_tellState_14 : decode cX3_tellState 14 = .ok (.putfield 19, 3) := by decide +kernel
theorem dX3_tellState_17 : decode cX3_tellState 17 = .ok (.iload_n 1, 1) := by decide +kernel
theorem dX3_tellState_18 : decode cX3_tellState 18 = .ok (.ireturn, 1) := by decide +kernel
theorem dX6_clear_0 : decode cX6_clear 0 = .ok (.aload_n 0, 1) := by decide +kernel
theorem dX6_clear_1 : decode cX6_clear 1 = .ok (.iconst 0, 1) := by decide +kernel
theorem dX6_clear_2 : decode cX6_clear 2 = .ok (.putfield 9, 3) := by decide +kernel
theorem dX6_clear_5 : decode cX6_clear 5 = .ok (.aload_n 0, 1) := by decide +kernel
theorem dX6_clear_6 : decode cX6_clear 6 = .ok (.iconst 0, 1) := by decide +kernel
theorem dX6_clear_7 : decode cX6_clear 7 = .ok (.putfield 15, 3) := by decide +kernel
theorem dX6_clear_10 : decode cX6_clear 10 = .ok (.aload_n 0, 1) := by decide +kernel
theorem dX6_clear_11 : decode cX6_clear 11 = .ok (.iconst 0, 1) := by decide +kernel
theorem dX6_clear_12 : decode cX6_clear 12 = .ok (.putfield 18, 3) := by decide +kernel
theorem dX6_clear_15 : decode cX6_clear 15 = .ok (.aload_n 0, 1) := by decide +kernel
theorem dX6_clear_16 : decode cX6_clear 16 = .ok (.iconst 0, 1) := by decide +kernel
theorem dX6_clear_17 : decode cX6_clear 17 = .ok (.putfield 21, 3) := by decide +kernel
theorem dX6_clear_20 : decode cX6_clear 20 = .ok (.return_, 1) := by decide +kernel
theorem dX6_isBusy_0 : decode cX6_isBusy 0 = .ok (.aload_n 0, 1) := by decide +kernel
theorem dX6_isBusy_1 : decode cX6_isBusy 1 = .ok (.getfield 21, 3) := by decide +kernel
theorem dX6_isBusy_4 : decode cX6_isBusy 4 = .ok (.ireturn, 1) := by decide +kernel
theorem dX6_begin_0 : decode cX6_begin 0 = .ok (.aload_n 0, 1) := by decide +kernel
theorem dX6_begin_1 : decode cX6_begin 1 = .ok (.iload_n 1, 1) := by decide +kernel
theorem dX6_begin_2 : decode cX6_begin 2 = .ok (.putfield 9, 3) := by decide +kernel
theorem dX6_begin_5 : decode cX6_begin 5 = .ok (.aload_n 0, 1) := by decide +kernel
theorem dX6_begin_6 : decode cX6_begin 6 = .ok (.iload_n 2, 1) := by decide +kernel
theorem dX6_begin_7 : decode cX6_begin 7 = .ok (.putfield 15, 3) := by decide +kernel
theorem dX6_begin_10 : decode cX6_begin 10 = .ok (.aload_n 0, 1) := by decide +kernel
theorem dX6_begin_11 : decode cX6_begin 11 = .ok (.iconst 0, 1) := by decide +kernel
theorem dX6_begin_12 : decode cX6_begin 12 = .ok (.putfield 18, 3) := by decide +kernel
theorem dX6_begin_15 : decode cX6_begin 15 = .ok (.aload_n 0, 1) := by decide +kernel
theorem dX6_begin_16 : decode cX6_begin 16 = .ok (.iconst 1, 1) := by decide +kernel
theorem dX6_begin_17 : decode cX6_begin 17 = .ok (.putfield 21, 3) := by decide +kernel
theorem dX6_begin_20 : decode cX6_begin 20 = .ok (.return_, 1) := by decide +kernel
theorem dX6_next_0 : decode cX6_next 0 = .ok (.aload_n 0, 1) := by decide +kernel
theorem dX6_next_1 : decode cX6_next 1 = .ok (.getfield 21, 3) := by decide +kernel
theorem dX6_next_4 : decode cX6_next 4 = .ok (.ifCond .ne 5, 3) := by decide +kernel
theorem dX6_next_7 : decode cX6_next 7 = .ok (.iconst 1, 1) := by decide +kernel
theorem dX6_next_8 : decode cX6_next 8 = .ok (.ireturn, 1) := by decide +kernel
theorem dX6_next_9 : decode cX6_next 9 = .ok (.aload_n 0, 1) := by decide +kernel
theorem dX6_next_10 : decode cX6_next 10 = .ok (.getfield 9, 3) := by decide +kernel
theorem dX6_next_13 : decode cX6_next 13 = .ok (.aload_n 0, 1) := by decide +kernel
theorem dX6_next_14 : decode cX6_next 14 = .ok (.getfield 15, 3) := by decide +kernel
theorem dX6_next_17 : decode cX6_next 17 = .ok (.aload_n 0, 1) := by decide +kernel
theorem dX6_next_18 : decode cX6_next 18 = .ok (.getfield 18, 3) := by decide +kernel
theorem dX6_next_21 : decode cX6_next 21 = .ok (.bipush 16, 2) := by decide +kernel
theorem dX6_next_23 : decode cX6_next 23 = .ok (.idiv, 1) := by decide +kernel
theorem dX6_next_24 : decode cX6_next 24 = .ok (.invokestatic 25, 3) := by decide +kernel
theorem dX6_next_27 : decode cX6_next 27 = .ok (.istore_n 1, 1) := by decide +kernel
theorem dX6_next_28 : decode cX6_next 28 = .ok (.aload_n 0, 1) := by decide +kernel
theorem dX6_next_29 : decode cX6_next 29 = .ok (.dup, 1) := by decide +kernel
theorem dX6_next_30 : decode cX6_next 30 = .ok (.getfield 18, 3) := by decide +kernel
theorem dX6_next_33 : decode cX6_next 33 = .ok (.iconst 1, 1) := by decide +kernel
theorem dX6_next_34 : decode cX6_next 34 = .ok (.iadd, 1) := by decide +kernel
theorem dX6_next_35 : decode cX6_next 35 = .ok (.putfield 18, 3) := by decide +kernel
theorem dX6_next_38 : decode cX6_next 38 = .ok (.aload_n 0, 1) := by decide +kernel
theorem dX6_next_39 : decode cX6_next 39 = .ok (.aload_n 0, 1) := by decide +kernel
theorem dX6_next_40 : decode cX6_next 40 = .ok (.getfield 18, 3) := by decide +kernel
theorem dX6_next_43 : decode cX6_next 43 = .ok (.aload_n 0, 1) := by decide +kernel
theorem dX6_next_44 : decode cX6_next 44 = .ok (.getfield 9, 3) := by decide +kernel
theorem dX6_next_47 : decode cX6_next 47 = .ok (.invokestatic 31, 3) := by decide +kernel
theorem dX6_next_50 : decode cX6_next 50 = .ok (.if_icmp .ge 7, 3) := by decide +kernel
theorem dX6_next_53 : decode cX6_next 53 = .ok (.iconst 1, 1) := by decide +kernel
theorem dX6_next_54 : decode cX6_next 54 = .ok (.goto 4, 3) := by decide +kernel
theorem dX6_next_57 : decode cX6_next 57 = .ok (.iconst 0, 1) := by decide +kernel
theorem dX6_next_58 : decode cX6_next 58 = .ok (.putfield 21, 3) := by decide +kernel
theorem dX6_next_61 : decode cX6_next 61 = .ok (.iload_n 1, 1) := by decide +kernel
theorem dX6_next_62 : decode cX6_next 62 = .ok (.ireturn, 1) := by decide +kernel
set_option maxRecDepth 20000 in
theorem ggX6_next_X7_pieceIsHigh : GoodIn wsX6_next wsX7_pieceIsHigh := goodIn_r _ [8, 9, 10, 7, 11, 12, 13, 14, 15, 16, 17, 18, 19, 20, 21, 22, 23, 24] (by decide +kernel) (by decide +kernel)
set_option maxRecDepth 20000 in
theorem gX6_next_X7_pieceIsHigh : GoodIn wsX6_next (va_wsS RX6 25 yX7_pieceIsHigh wsX7_pieceIsHigh) := goodIn_app (goodIn_of _ (by decide +kernel)) ggX6_next_X7_pieceIsHigh
set_option maxRecDepth 20000 in
theorem ggX6_next_X7_beats : GoodIn wsX6_next wsX7_beats := goodIn_r _ [27, 28, 29, 7, 30, 9, 10, 11, 12, 13, 14, 31, 32, 33] (by decide +kernel) (by decide +kernel)
set_option maxRecDepth 20000 in
theorem gX6_next_X7_beats : GoodIn wsX6_next (va_wsS RX6 31 yX7_beats wsX7_beats) := goodIn_app (goodIn_of _ (by decide +kernel)) ggX6_next_X7_beats
theorem dX4_begin_0 : decode cX4_begin 0 = .ok (.aload_n 0, 1) := by decide +kernel
theorem dX4_begin_1 : decode cX4_begin 1 = .ok (.iload_n 1, 1) := by decide +kernel
theorem dX4_begin_2 : decode cX4_begin 2 = .ok (.putfield 37, 3) := by decide +kernel
theorem dX4_begin_5 : decode cX4_begin 5 = .ok (.aload_n 0, 1) := by decide +kernel
theorem dX4_begin_6 : decode cX4_begin 6 = .ok (.iconst 0, 1) := by decide +kernel
theorem dX4_begin_7 : decode cX4_begin 7 = .ok (.putfield 40, 3) := by decide +kernel
theorem dX4_begin_10 : decode cX4_begin 10 = .ok (.aload_n 0, 1) := by decide +kernel
theorem dX4_begin_11 : decode cX4_begin 11 = .ok (.iconst 0, 1) := by decide +kernel
theorem dX4_begin_12 : decode cX4_begin 12 = .ok (.putfield 26, 3) := by decide +kernel
theorem dX4_begin_15 : decode cX4_begin 15 = .ok (.aload_n 0, 1) := by decide +kernel
theorem dX4_begin_16 : decode cX4_begin 16 = .ok (.iconst 1, 1) := by decide +kernel
theorem dX4_begin_17 : decode cX4_begin 17 = .ok (.putfield 15, 3) := by decide +kernel
theorem dX4_begin_20 : decode cX4_begin 20 = .ok (.aload_n 0, 1) := by decide +kernel
theorem dX4_begin_21 : decode cX4_begin 21 = .ok (.iconst 0, 1) := by decide +kernel
theorem dX4_begin_22 : decode cX4_begin 22 = .ok (.putfield 19, 3) := by decide +kernel
theorem dX4_begin_25 : decode cX4_begin 25 = .ok (.aload_n 0, 1) := by decide +kernel
theorem dX4_begin_26 : decode cX4_begin 26 = .ok (.iconst 0, 1) := by decide +kernel
theorem dX4_begin_27 : decode cX4_begin 27 = .ok (.putfield 43, 3) := by decide +kernel
theorem dX4_begin_30 : decode cX4_begin 30 = .ok (.aload_n 0, 1) := by decide +kernel
theorem dX4_begin_31 : decode cX4_begin 31 = .ok (.iconst 0, 1) := by decide +kernel
theorem dX4_begin_32 : decode cX4_begin 32 = .ok (.putfield 46, 3) := by decide +kernel
theorem dX4_begin_35 : decode cX4_begin 35 = .ok (.return_, 1) := by decide +kernel
theorem dX4_clear_0 : decode cX4_clear 0 = .ok (.aload_n 0, 1) := by decide +kernel
theorem dX4_clear_1 : decode cX4_clear 1 = .ok (.iconst 0, 1) := by decide +kernel
theorem dX4_clear_2 : decode cX4_clear 2 = .ok (.invokevirtual 9, 3) := by decide +kernel
theorem dX4_clear_5 : decode cX4_clear 5 = .ok (.aload_n 0, 1) := by decide +kernel
theorem dX4_clear_6 : decode cX4_clear 6 = .ok (.iconst 0, 1) := by decide +kernel
theorem dX4_clear_7 : decode cX4_clear 7 = .ok (.putfield 15, 3) := by decide +kernel
theorem dX4_clear_10 : decode cX4_clear 10 = .ok (.aload_n 0, 1) := by decide +kernel
theorem dX4_clear_11 : decode cX4_clear 11 = .ok (.iconst 1, 1) := by decide +kernel
theorem dX4_clear_12 : decode cX4_clear 12 = .ok (.putfield 19, 3) := by decide +kernel
theorem dX4_clear_15 : decode cX4_clear 15 = .ok (.return_, 1) := by decide +kernel
set_option maxRecDepth 20000 in
theorem ggX4_clear_X4_begin : GoodIn wsX4_clear wsX4_begin := goodIn_r _ [7, 8, 9, 10, 1, 2, 11, 12, 13, 14, 15, 16, 17, 18, 19] (by decide +kernel) (by decide +kernel)
set_option maxRecDepth 20000 in
theorem gX4_clear_X4_begin : GoodIn wsX4_clear (wsV RX4 9 RX4 yX4_begin wsX4_begin) := goodIn_app (goodIn_of _ (by decide +kernel)) ggX4_clear_X4_begin
theorem dX4_isBusy_0 : decode cX4_isBusy 0 = .ok (.aload_n 0, 1) := by decide +kernel
theorem dX4_isBusy_1 : decode cX4_isBusy 1 = .ok (.getfield 15, 3) := by decide +kernel
theorem dX4_isBusy_4 : decode cX4_isBusy 4 = .ok (.ireturn, 1) := by decide +kernel
theorem dX4_listen_0 : decode cX4_listen 0 = .ok (.iload_n 1, 1) := by decide +kernel
theorem dX4_listen_1 : decode cX4_listen 1 = .ok (.ifCond .eq 11, 3) := by decide +kernel
theorem dX4_listen_4 : decode cX4_listen 4 = .ok (.aload_n 0, 1) := by decide +kernel
theorem dX4_listen_5 : decode cX4_listen 5 = .ok (.iconst 1, 1) := by decide +kernel
theorem dX4_listen_6 : decode cX4_listen 6 = .ok (.putfield 19, 3) := by decide +kernel
theorem dX4_listen_9 : decode cX4_listen 9 = .ok (.goto 15, 3) := by decide +kernel
theorem dX4_listen_12 : decode cX4_listen 12 = .ok (.aload_n 0, 1) := by decide +kernel
theorem dX4_listen_13 : decode cX4_listen 13 = .ok (.getfield 19, 3) := by decide +kernel
theorem dX4_listen_16 : decode cX4_listen 16 = .ok (.ifCond .eq 8, 3) := by decide +kernel
theorem dX4_listen_19 : decode cX4_listen 19 = .ok (.aload_n 0, 1) := by decide +kernel
theorem dX4_listen_20 : decode cX4_listen 20 = .ok (.iload_n 2, 1) := by decide +kernel
theorem dX4_listen_21 : decode cX4_listen 21 = .ok (.invokevirtual 9, 3) := by decide +kernel
theorem dX4_listen_24 : decode cX4_listen 24 = .ok (.return_, 1) := by decide +kernel
set_option maxRecDepth 20000 in
theorem ggX4_listen_X4_begin : GoodIn wsX4_listen wsX4_begin := goodIn_r _ [6, 7, 8, 9, 10, 1, 11, 12, 13, 14, 15, 16, 17, 18, 19] (by decide +kernel) (by decide +kernel)
set_option maxRecDepth 20000 in
theorem gX4_listen_X4_begin : GoodIn wsX4_listen (wsV RX4 9 RX4 yX4_begin wsX4_begin) := goodIn_app (goodIn_of _ (by decide +kernel)) ggX4_listen_X4_begin
theorem dX4_becomeIdle_0 : decode cX4_becomeIdle 0 = .ok (.aload_n 0, 1) := by decide +kernel
theorem dX4_becomeIdle_1 : decode cX4_becomeIdle 1 = .ok (.iconst 0, 1) := by decide +kernel
theorem dX4_becomeIdle_2 : decode cX4_becomeIdle 2 = .ok (.putfield 15, 3) := by decide +kernel
theorem dX4_becomeIdle_5 : decode cX4_becomeIdle 5 = .ok (.aload_n 0, 1) := by decide +kernel
theorem dX4_becomeIdle_6 : decode cX4_becomeIdle 6 = .ok (.iload_n 1, 1) := by decide +kernel
theorem dX4_becomeIdle_7 : decode cX4_becomeIdle 7 = .ok (.putfield 19, 3) := by decide +kernel
theorem dX4_becomeIdle_10 : decode cX4_becomeIdle 10 = .ok (.return_, 1) := by decide +kernel
theorem dX4_seeStart_0 : decode cX4_seeStart 0 = .ok (.iload_n 1, 1) := by decide +kernel
theorem dX4_seeStart_1 : decode cX4_seeStart 1 = .ok (.ifCond .eq 8, 3) := by decide +kernel
theorem dX4_seeStart_4 : decode cX4_seeStart 4 = .ok (.aload_n 0, 1) := by decide +kernel
theorem dX4_seeStart_5 : decode cX4_seeStart 5 = .ok (.iconst 1, 1) := by decide +kernel
theorem dX4_seeStart_6 : decode cX4_seeStart 6 = .ok (.invokevirtual 49, 3) := by decide +kernel
theorem dX4_seeStart_9 : decode cX4_seeStart 9 = .ok (.iconst (-1), 1) := by decide +kernel
theorem dX4_seeStart_10 : decode cX4_seeStart 10 = .ok (.ireturn, 1) := by decide +kernel
set_option maxRecDepth 20000 in
theorem ggX4_seeStart_X4_becomeIdle : GoodIn wsX4_seeStart wsX4_becomeIdle := goodIn_r _ [5, 6, 7, 8, 9, 10, 11, 12, 13, 14] (by decide +kernel) (by decide +kernel)
set_option maxRecDepth 20000 in
theorem gX4_seeStart_X4_becomeIdle : GoodIn wsX4_seeStart (wsV RX4 49 RX4 yX4_becomeIdle wsX4_becomeIdle) := goodIn_app (goodIn_of _ (by decide +kernel)) ggX4_seeStart_X4_becomeIdle
theorem dX4_faults_0 : decode cX4_faults 0 = .ok (.iload_n 1, 1) := by decide +kernel
theorem dX4_faults_1 : decode cX4_faults 1 = .ok (.ifCond .eq 7, 3) := by decide +kernel
theorem dX4_faults_4 : decode cX4_faults 4 = .ok (.iconst 0, 1) := by decide +kernel
theorem dX4_faults_5 : decode cX4_faults 5 = .ok (.goto 5, 3) := by decide +kernel
theorem dX4_faults_8 : decode cX4_faults 8 = .ok (.bipush 8, 2) := by decide +kernel
theorem dX4_faults_10 : decode cX4_faults 10 = .ok (.istore_n 2, 1) := by decide +kernel
theorem dX4_faults_11 : decode cX4_faults 11 = .ok (.aload_n 0, 1) := by decide +kernel
theorem dX4_faults_12 : decode cX4_faults 12 = .ok (.getfield 46, 3) := by decide +kernel
theorem dX4_faults_15 : decode cX4_faults 15 = .ok (.ifCond .ne 8, 3) := by decide +kernel
theorem dX4_faults_18 : decode cX4_faults 18 = .ok (.iload_n 2, 1) := by decide +kernel
theorem dX4_faults_19 : decode cX4_faults 19 = .ok (.bipush 16, 2) := by decide +kernel
theorem dX4_faults_21 : decode cX4_faults 21 = .ok (.ior, 1) := by decide +kernel
theorem dX4_faults_22 : decode cX4_faults 22 = .ok (.istore_n 2, 1) := by decide +kernel
theorem dX4_faults_23 : decode cX4_faults 23 = .ok (.aload_n 0, 1) := by decide +kernel
theorem dX4_faults_24 : decode cX4_faults 24 = .ok (.getfield 37, 3) := by decide +kernel
theorem dX4_faults_27 : decode cX4_faults 27 = .ok (.invokestatic 59, 3) := by decide +kernel
theorem dX4_faults_30 : decode cX4_faults 30 = .ok (.ifCond .eq 25, 3) := by decide +kernel
theorem dX4_faults_33 : decode cX4_faults 33 = .ok (.aload_n 0, 1) := by decide +kernel
theorem dX4_faults_34 : decode cX4_faults 34 = .ok (.getfield 43, 3) := by decide +kernel
theorem dX4_faults_37 : decode cX4_faults 37 = .ok (.aload_n 0, 1) := by decide +kernel
theorem dX4_faults_38 : decode cX4_faults 38 = .ok (.getfield 37, 3) := by decide +kernel
theorem dX4_faults_41 : decode cX4_faults 41 = .ok (.aload_n 0, 1) := by decide +kernel
theorem dX4_faults_42 : decode cX4_faults 42 = .ok (.getfield 40, 3) := by decide +kernel
theorem dX4_faults_45 : decode cX4_faults 45 = .ok (.invokestatic 66, 3) := by decide +kernel
theorem dX4_faults_48 : decode cX4_faults 48 = .ok (.if_icmp .eq 7, 3) := by decide +kernel
theorem dX4_faults_51 : decode cX4_faults 51 = .ok (.iload_n 2, 1) := by decide +kernel
theorem dX4_faults_52 : decode cX4_faults 52 = .ok (.iconst 4, 1) := by decide +kernel
theorem dX4_faults_53 : decode cX4_faults 53 = .ok (.ior, 1) := by decide +kernel
theorem dX4_faults_54 : decode cX4_faults 54 = .ok (.istore_n 2, 1) := by decide +kernel
theorem dX4_faults_55 : decode cX4_faults 55 = .ok (.iload_n 2, 1) := by decide +kernel
theorem dX4_faults_56 : decode cX4_faults 56 = .ok (.ireturn, 1) := by decide +kernel
set_option maxRecDepth 20000 in
theorem ggX4_faults_X7_hasParity : GoodIn wsX4_faults wsX7_hasParity := goodIn_r _ [8] (by decide +kernel) (by decide +kernel)
set_option maxRecDepth 20000 in
theorem gX4_faults_X7_hasParity : GoodIn wsX4_faults (va_wsS RX4 59 yX7_hasParity wsX7_hasParity) := goodIn_app (goodIn_of _ (by decide +kernel)) ggX4_faults_X7_hasParity
set_option maxRecDepth 20000 in
theorem ggX4_faults_X7_parityIsHigh : GoodIn wsX4_faults wsX7_parityIsHigh := goodIn_r _ [11, 12, 13, 7, 14, 15, 16, 17, 18, 19, 20, 21] (by decide +kernel) (by decide +kernel)
set_option maxRecDepth 20000 in
theorem gX4_faults_X7_parityIsHigh : GoodIn wsX4_faults (va_wsS RX4 66 yX7_parityIsHigh wsX7_parityIsHigh) := goodIn_app (goodIn_of _ (by decide +kernel)) ggX4_faults_X7_parityIsHigh
theorem dX4_see_0 : decode cX4_see 0 = .ok (.aload_n 0, 1) := by decide +kernel
theorem dX4_see_1 : decode cX4_see 1 = .ok (.getfield 26, 3) := by decide +kernel
theorem dX4_see_4 : decode cX4_see 4 = .ok (.bipush 16, 2) := by decide +kernel
theorem dX4_see_6 : decode cX4_see 6 = .ok (.idiv, 1) := by decide +kernel
theorem dX4_see_7 : decode cX4_see 7 = .ok (.istore_n 2, 1) := by decide +kernel
theorem dX4_see_8 : decode cX4_see 8 = .ok (.aload_n 0, 1) := by decide +kernel
theorem dX4_see_9 : decode cX4_see 9 = .ok (.getfield 37, 3) := by decide +kernel
theorem dX4_see_12 : decode cX4_see 12 = .ok (.invokestatic 53, 3) := by decide +kernel
theorem dX4_see_15 : decode cX4_see 15 = .ok (.istore_n 3, 1) := by decide +kernel
theorem dX4_see_16 : decode cX4_see 16 = .ok (.aload_n 0, 1) := by decide +kernel
theorem dX4_see_17 : decode cX4_see 17 = .ok (.aload_n 0, 1) := by decide +kernel
theorem dX4_see_18 : decode cX4_see 18 = .ok (.getfield 46, 3) := by decide +kernel
theorem dX4_see_21 : decode cX4_see 21 = .ok (.ifCond .ne 7, 3) := by decide +kernel
theorem dX4_see_24 : decode cX4_see 24 = .ok (.iload_n 1, 1) := by decide +kernel
theorem dX4_see_25 : decode cX4_see 25 = .ok (.ifCond .eq 7, 3) := by decide +kernel
theorem dX4_see_28 : decode cX4_see 28 = .ok (.iconst 1, 1) := by decide +kernel
theorem dX4_see_29 : decode cX4_see 29 = .ok (.goto 4, 3) := by decide +kernel
theorem dX4_see_32 : decode cX4_see 32 = .ok (.iconst 0, 1) := by decide +kernel
theorem dX4_see_33 : decode cX4_see 33 = .ok (.putfield 46, 3) := by decide +kernel
theorem dX4_see_36 : decode cX4_see 36 = .ok (.iload_n 2, 1) := by decide +kernel
theorem dX4_see_37 : decode cX4_see 37 = .ok (.iload_n 3, 1) := by decide +kernel
theorem dX4_see_38 : decode cX4_see 38 = .ok (.if_icmp .gt 27, 3) := by decide +kernel
theorem dX4_see_41 : decode cX4_see 41 = .ok (.aload_n 0, 1) := by decide +kernel
theorem dX4_see_42 : decode cX4_see 42 = .ok (.dup, 1) := by decide +kernel
theorem dX4_see_43 : decode cX4_see 43 = .ok (.getfield 40, 3) := by decide +kernel
theorem dX4_see_46 : decode cX4_see 46 = .ok (.iload_n 1, 1) := by decide +kernel
theorem dX4_see_47 : decode cX4_see 47 = .ok (.ifCond .eq 11, 3) := by decide +kernel
theorem dX4_see_50 : decode cX4_see 50 = .ok (.iconst 1, 1) := by decide +kernel
theorem dX4_see_51 : decode cX4_see 51 = .ok (.iload_n 2, 1) := by decide +kernel
theorem dX4_see_52 : decode cX4_see 52 = .ok (.iconst 1, 1) := by decide +kernel
theorem dX4_see_53 : decode cX4_see 53 = .ok (.isub, 1) := by decide +kernel
theorem dX4_see_54 : decode cX4_see 54 = .ok (.ishl, 1) := by decide +kernel
theorem dX4_see_55 : decode cX4_see 55 = .ok (.goto 4, 3) := by decide +kernel
theorem dX4_see_58 : decode cX4_see 58 = .ok (.iconst 0, 1) := by decide +kernel
theorem dX4_see_59 : decode cX4_see 59 = .ok (.ior, 1) := by decide +kernel
theorem dX4_see_60 : decode cX4_see 60 = .ok (.putfield 40, 3) := by decide +kernel
theorem dX4_see_63 : decode cX4_see 63 = .ok (.iconst (-1), 1) := by decide +kernel
theorem dX4_see_64 : decode cX4_see 64 = .ok (.ireturn, 1) := by decide +kernel
theorem dX4_see_65 : decode cX4_see 65 = .ok (.iload_n 2, 1) := by decide +kernel
theorem dX4_see_66 : decode cX4_see 66 = .ok (.iload_n 3, 1) := by decide +kernel
theorem dX4_see_67 : decode cX4_see 67 = .ok (.iconst 1, 1) := by decide +kernel
theorem dX4_see_68 : decode cX4_see 68 = .ok (.iadd, 1) := by decide +kernel
theorem dX4_see_69 : decode cX4_see 69 = .ok (.if_icmp .ne 20, 3) := by decide +kernel
theorem dX4_see_72 : decode cX4_see 72 = .ok (.aload_n 0, 1) := by decide +kernel
theorem dX4_see_73 : decode cX4_see 73 = .ok (.getfield 37, 3) := by decide +kernel
theorem dX4_see_76 : decode cX4_see 76 = .ok (.invokestatic 59, 3) := by decide +kernel
theorem dX4_see_79 : decode cX4_see 79 = .ok (.ifCond .eq 10, 3) := by decide +kernel
theorem dX4_see_82 : decode cX4_see 82 = .ok (.aload_n 0, 1) := by decide +kernel
theorem dX4_see_83 : decode cX4_see 83 = .ok (.iload_n 1, 1) := by decide +kernel
theorem dX4_see_84 : decode cX4_see 84 = .ok (.putfield 43, 3) := by decide +kernel
theorem dX4_see_87 : decode cX4_see 87 = .ok (.iconst (-1), 1) := by decide +kernel
theorem dX4_see_88 : decode cX4_see 88 = .ok (.ireturn, 1) := by decide +kernel
theorem dX4_see_89 : decode cX4_see 89 = .ok (.aload_n 0, 1) := by decide +kernel
theorem dX4_see_90 : decode cX4_see 90 = .ok (.iload_n 1, 1) := by decide +kernel
theorem dX4_see_91 : decode cX4_see 91 = .ok (.invokevirtual 49, 3) := by decide +kernel
theorem dX4_see_94 : decode cX4_see 94 = .ok (.aload_n 0, 1) := by decide +kernel
theorem dX4_see_95 : decode cX4_see 95 = .ok (.getfield 40, 3) := by decide +kernel
theorem dX4_see_98 : decode cX4_see 98 = .ok (.aload_n 0, 1) := by decide +kernel
theorem dX4_see_99 : decode cX4_see 99 = .ok (.iload_n 1, 1) := by decide +kernel
theorem dX4_see_100 : decode cX4_see 100 = .ok (.invokevirtual 63, 3) := by decide +kernel
theorem dX4_see_103 : decode cX4_see 103 = .ok (.bipush 8, 2) := by decide +kernel
theorem dX4_see_105 : decode cX4_see 105 = .ok (.ishl, 1) := by decide +kernel
theorem dX4_see_106 : decode cX4_see 106 = .ok (.ior, 1) := by decide +kernel
theorem dX4_see_107 : decode cX4_see 107 = .ok (.ireturn, 1) := by decide +kernel
set_option maxRecDepth 20000 in
theorem ggX4_see_X7_dataBits : GoodIn wsX4_see wsX7_dataBits := goodIn_r _ [9] (by decide +kernel) (by decide +kernel)
set_option maxRecDepth 20000 in
theorem gX4_see_X7_dataBits : GoodIn wsX4_see (va_wsS RX4 53 yX7_dataBits wsX7_dataBits) := goodIn_app (goodIn_of _ (by decide +kernel)) ggX4_see_X7_dataBits
set_option maxRecDepth 20000 in
theorem ggX4_see_X7_hasParity : GoodIn wsX4_see wsX7_hasParity := goodIn_r _ [12] (by decide +kernel) (by decide +kernel)
set_option maxRecDepth 20000 in
theorem gX4_see_X7_hasParity : GoodIn wsX4_see (va_wsS RX4 59 yX7_hasParity wsX7_hasParity) := goodIn_app (goodIn_of _ (by decide +kernel)) ggX4_see_X7_hasParity
set_option maxRecDepth 20000 in
theorem ggX4_see_X4_becomeIdle : GoodIn wsX4_see wsX4_becomeIdle := goodIn_r _ [17, 18, 19, 35, 36, 37, 38, 39, 40, 41] (by decide +kernel) (by decide +kernel)
set_option maxRecDepth 20000 in
theorem gX4_see_X4_becomeIdle : GoodIn wsX4_see (wsV RX4 49 RX4 yX4_becomeIdle wsX4_becomeIdle) := goodIn_app (goodIn_of _ (by decide +kernel)) ggX4_see_X4_becomeIdle
set_option maxRecDepth 20000 in
theorem ggX4_see_X4_faults : GoodIn wsX4_see wsX4_faults := goodIn_r _ [23, 3, 2, 5, 4, 10, 11, 8, 12, 24, 25, 26, 27, 7, 9, 28, 29, 30, 31, 32, 33, 34, 35, 36, 37, 38, 39, 40, 41] (by decide +kernel) (by decide +kernel)
set_option maxRecDepth 20000 in
theorem gX4_see_X4_faults : GoodIn wsX4_see (wsV RX4 63 RX4 yX4_faults wsX4_faults) := goodIn_app (goodIn_of _ (by decide +kernel)) ggX4_see_X4_faults
theorem dX4_step_0 : decode cX4_step 0 = .ok (.aload_n 0, 1) := by decide +kernel
theorem dX4_step_1 : decode cX4_step 1 = .ok (.getfield 15, 3) := by decide +kernel
theorem dX4_step_4 : decode cX4_step 4 = .ok (.ifCond .ne 11, 3) := by decide +kernel
theorem dX4_step_7 : decode cX4_step 7 = .ok (.aload_n 0, 1) := by decide +kernel
theorem dX4_step_8 : decode cX4_step 8 = .ok (.iload_n 1, 1) := by decide +kernel
theorem dX4_step_9 : decode cX4_step 9 = .ok (.iload_n 2, 1) := by decide +kernel
theorem dX4_step_10 : decode cX4_step 10 = .ok (.invokevirtual 22, 3) := by decide +kernel
theorem dX4_step_13 : decode cX4_step 13 = .ok (.iconst (-1), 1) := by decide +kernel
theorem dX4_step_14 : decode cX4_step 14 = .ok (.ireturn, 1) := by decide +kernel
theorem dX4_step_15 : decode cX4_step 15 = .ok (.aload_n 0, 1) := by decide +kernel
theorem dX4_step_16 : decode cX4_step 16 = .ok (.dup, 1) := by decide +kernel
theorem dX4_step_17 : decode cX4_step 17 = .ok (.getfield 26, 3) := by decide +kernel
theorem dX4_step_20 : decode cX4_step 20 = .ok (.iconst 1, 1) := by decide +kernel
theorem dX4_step_21 : decode cX4_step 21 = .ok (.iadd, 1) := by decide +kernel
theorem dX4_step_22 : decode cX4_step 22 = .ok (.putfield 26, 3) := by decide +kernel
theorem dX4_step_25 : decode cX4_step 25 = .ok (.aload_n 0, 1) := by decide +kernel
theorem dX4_step_26 : decode cX4_step 26 = .ok (.getfield 26, 3) := by decide +kernel
theorem dX4_step_29 : decode cX4_step 29 = .ok (.bipush 16, 2) := by decide +kernel
theorem dX4_step_31 : decode cX4_step 31 = .ok (.irem, 1) := by decide +kernel
theorem dX4_step_32 : decode cX4_step 32 = .ok (.bipush 7, 2) := by decide +kernel
theorem dX4_step_34 : decode cX4_step 34 = .ok (.if_icmp .eq 5, 3) := by decide +kernel
theorem dX4_step_37 : decode cX4_step 37 = .ok (.iconst (-1), 1) := by decide +kernel
theorem dX4_step_38 : decode cX4_step 38 = .ok (.ireturn, 1) := by decide +kernel
theorem dX4_step_39 : decode cX4_step 39 = .ok (.aload_n 0, 1) := by decide +kernel
theorem dX4_step_40 : decode cX4_step 40 = .ok (.getfield 26, 3) := by decide +kernel
theorem dX4_step_43 : decode cX4_step 43 = .ok (.bipush 7, 2) := by decide +kernel
theorem dX4_step_45 : decode cX4_step 45 = .ok (.if_icmp .ne 11, 3) := by decide +kernel
theorem dX4_step_48 : decode cX4_step 48 = .ok (.aload_n 0, 1) := by decide +kernel
theorem dX4_step_49 : decode cX4_step 49 = .ok (.iload_n 1, 1) := by decide +kernel
theorem dX4_step_50 : decode cX4_step 50 = .ok (.invokevirtual 30, 3) := by decide +kernel
theorem dX4_step_53 : decode cX4_step 53 = .ok (.goto 8, 3) := by decide +kernel
theorem dX4_step_56 : decode cX4_step 56 = .ok (.aload_n 0, 1) := by decide +kernel
theorem dX4_step_57 : decode cX4_step 57 = .ok (.iload_n 1, 1) := by decide +kernel
theorem dX4_step_58 : decode cX4_step 58 = .ok (.invokevirtual 34, 3) := by decide +kernel
theorem dX4_step_61 : decode cX4_step 61 = .ok (.ireturn, 1) := by decide +kernel
set_option maxRecDepth 20000 in
theorem ggX4_step_X4_listen : GoodIn wsX4_step wsX4_listen := goodIn_r _ [7, 8, 9, 10, 11, 6, 12, 13, 14, 2, 1, 15, 16, 51, 52, 53, 54, 55, 56, 57] (by decide +kernel) (by decide +kernel)
set_option maxRecDepth 20000 in
theorem gX4_step_X4_listen : GoodIn wsX4_step (wsV RX4 22 RX4 yX4_listen wsX4_listen) := goodIn_app (goodIn_of _ (by decide +kernel)) ggX4_step_X4_listen
set_option maxRecDepth 20000 in
theorem ggX4_step_X4_seeStart : GoodIn wsX4_step wsX4_seeStart := goodIn_r _ [20, 21, 22, 23, 6, 24, 1, 8, 51, 52, 53, 54, 55, 56, 57] (by decide +kernel) (by decide +kernel)
set_option maxRecDepth 20000 in
theorem gX4_step_X4_seeStart : GoodIn wsX4_step (wsV RX4 30 RX4 yX4_seeStart wsX4_seeStart) := goodIn_app (goodIn_of _ (by decide +kernel)) ggX4_step_X4_seeStart
set_option maxRecDepth 20000 in
theorem ggX4_step_X4_see : GoodIn wsX4_step wsX4_see := goodIn_r _ [28, 2, 13, 16, 14, 15, 29, 30, 31, 32, 33, 34, 35, 21, 22, 23, 6, 24, 1, 8, 36, 37, 38, 39, 40, 41, 42, 43, 44, 45, 46, 47, 48, 49, 50, 51, 52, 53, 54, 55, 56, 57] (by decide +kernel) (by decide +kernel)
set_option maxRecDepth 20000 in
theorem gX4_step_X4_see : GoodIn wsX4_step (wsV RX4 34 RX4 yX4_see wsX4_see) := goodIn_app (goodIn_of _ (by decide +kernel)) ggX4_step_X4_see
def F_X0_clear  (v_divisor : Int32) (v_passed : Int32) : Option (Int32 × Int32) := some (0, 0)
def wX0_clear (h_ : Nat) (u : Int32 × Int32) : va_W := [oX0 h_ u.1 u.2]
set_option maxHeartbeats 4000000 in
set_option maxRecDepth 100000 in
theorem mX0_clear {l : Launch} (D : va_G) (h_ : Nat) (v_divisor : Int32) (v_passed : Int32) (u0 : Int32 × Int32) (hF : F_X0_clear v_divisor v_passed = some u0) : MV l yX0_clear wsX0_clear { frames := 0, cells := 0, slots := 0, locals := 0 } D [] [.ref h_] [oX0 h_ v_divisor v_passed] (wX0_clear h_ u0) := by
  refine MV.ofW (cc := cX0_clear) (maxL := 1) (ret := none) (lv := [(0, .ref h_)]) (by decide +kernel) rfl (Nat.le_of_ble_eq_true rfl) rfl ?_
  intro p e s m args below meth c A ls hx hb hr hml hts hown hlocks hA hK hP hD hS hl
  replace hown : s.vm.findClass RX0 = some m.cls := hown
  have i_X0 : ∀ w ∈ wsX00, w ∈ wsX0_clear := by decide +kernel
  have f_9 := hts (.fieldLink RX0 9 "SerialPort$Divider" "divisor" "I") (by decide +kernel)
  have f_15 := hts (.fieldLink RX0 15 "SerialPort$Divider" "passed" "I") (by decide +kernel)
  have hret : ∀ (u : Int32 × Int32) (H : Heap) (locs : List Loc) (pc : Nat) (ls : Array Slot), va_P D vwCl (wX0_clear h_ u) H → va_D A (wX0_clear h_ u) → va_S A s.heap H locs → some u = some u0 → decode cX0_clear pc = .ok (.return_, 1) → W p l e { frames := 0, cells := 0, slots := 0, locals := 0 } s m args below meth c H locs 0 0 (QV below D [] (wX0_clear h_ u0) args s A) (F0 m pc ls []) := fun u H locs pc ls h1 h2 h3 h4 h5 => rV (wf := wX0_clear h_) hx hb hr hlocks hK h1 h2 h3 h4 h5
  unfold F_X0_clear at hF
  refine lv_aload_n hx hb dX0_clear_0 rfl (lv_at hl 0 rfl) ?_
  refine lv_iconst (v := 0) hx hb dX0_clear_1 (by decide) ?_
  refine pf (ci := 0) (v := .int 0) (ty := .int) (C := RX0) (T := TX0) (N := 2) (ws' := [oX0 h_ 0 v_passed]) hx hb hts i_X0 tyX0_ok nmX0 hown hK hP hD hS 0 rfl rfl 0 (Nat.le_of_ble_eq_true rfl) f_9 rfl rfl (by decide +kernel) rfl rfl (Nat.le_of_ble_eq_true rfl) rfl dX0_clear_2 (fun H locs hP hD hS => ?_)
  refine lv_aload_n hx hb dX0_clear_5 rfl (lv_at hl 0 rfl) ?_
  refine lv_iconst (v := 0) hx hb dX0_clear_6 (by decide) ?_
  refine pf (ci := 0) (v := .int 0) (ty := .int) (C := RX0) (T := TX0) (N := 2) (ws' := [oX0 h_ 0 0]) hx hb hts i_X0 tyX0_ok nmX0 hown hK hP hD hS 0 rfl rfl 1 (Nat.le_of_ble_eq_true rfl) f_15 rfl rfl (by decide +kernel) rfl rfl (Nat.le_of_ble_eq_true rfl) rfl dX0_clear_7 (fun H locs hP hD hS => ?_)
  exact hret (0, 0) _ _ 10 _ hP hD hS hF dX0_clear_10
def F_X0_putByte (p1 : Int32) (p2 : Int32) (v_divisor : Int32) (v_passed : Int32) : Option (Int32 × Int32) := if p1 = 0 then (lt1 ((v_divisor &&& (65280 : Int32)) ||| p2) (fun x3 => some (x3, 0))) else (lt1 ((v_divisor &&& 255) ||| (p2 <<< ((8 : Int32) &&& 31))) (fun x2 => some (x2, 0)))
def wX0_putByte (h_ : Nat) (u : Int32 × Int32) : va_W := [oX0 h_ u.1 u.2]
set_option maxHeartbeats 4000000 in
set_option maxRecDepth 100000 in
theorem mX0_putByte {l : Launch} (D : va_G) (h_ : Nat) (v_divisor : Int32) (v_passed : Int32) (p1 : Int32) (p2 : Int32) (u0 : Int32 × Int32) (hF : F_X0_putByte p1 p2 v_divisor v_passed = some u0) : MV l yX0_putByte wsX0_putByte { frames := 0, cells := 0, slots := 0, locals := 0 } D [] [.ref h_, .int p1, .int p2] [oX0 h_ v_divisor v_passed] (wX0_putByte h_ u0) := by
  refine MV.ofW (cc := cX0_putByte) (maxL := 3) (ret := none) (lv := [(0, .ref h_), (1, .int p1), (2, .int p2)]) (by decide +kernel) rfl (Nat.le_of_ble_eq_true rfl) rfl ?_
  intro p e s m args below meth c A ls hx hb hr hml hts hown hlocks hA hK hP hD hS hl
  replace hown : s.vm.findClass RX0 = some m.cls := hown
  have i_X0 : ∀ w ∈ wsX00, w ∈ wsX0_putByte := by decide +kernel
  have f_9 := hts (.fieldLink RX0 9 "SerialPort$Divider" "divisor" "I") (by decide +kernel)
  have f_15 := hts (.fieldLink RX0 15 "SerialPort$Divider" "passed" "I") (by decide +kernel)
  have c_18 := hts (.constant RX0 18 (65280)) (by decide +kernel)
  have hret : ∀ (u : Int32 × Int32) (H : Heap) (locs : List Loc) (pc : Nat) (ls : Array Slot), va_P D vwCl (wX0_putByte h_ u) H → va_D A (wX0_putByte h_ u) → va_S A s.heap H locs → some u = some u0 → decode cX0_putByte pc = .ok (.return_, 1) → W p l e { frames := 0, cells := 0, slots := 0, locals := 0 } s m args below meth c H locs 0 0 (QV below D [] (wX0_putByte h_ u0) args s A) (F0 m pc ls []) := fun u H locs pc ls h1 h2 h3 h4 h5 => rV (wf := wX0_putByte h_) hx hb hr hlocks hK h1 h2 h3 h4 h5
  unfold F_X0_putByte at hF
  refine lv_aload_n hx hb dX0_putByte_0 rfl (lv_at hl 0 rfl) ?_
  refine lv_iload_n hx hb dX0_putByte_1 rfl (lv_at hl 1 rfl) ?_
  refine lv_if_ne (tgt := 17) hx hb dX0_putByte_2 (by decide) (fun c1 => ?_) (fun c1 => ?_)
  · replace hF := it_f c1 hF
    refine lv_aload_n hx hb dX0_putByte_17 rfl (lv_at hl 0 rfl) ?_
    refine va_get (D := D) (ci := 0) (v := .int v_divisor) (C := RX0) (T := TX0) (N := 2) hx hb hts i_X0 hown hK hP 0 rfl rfl 0 (Nat.le_of_ble_eq_true rfl) f_9 (fun _ h9 => h9) rfl dX0_putByte_18 ?_
    refine lv_sipush (v := 255) hx hb dX0_putByte_21 (by decide) ?_
    refine lv_iand hx hb dX0_putByte_24 ?_
    refine lv_iload_n hx hb dX0_putByte_25 rfl (lv_at hl 2 rfl) ?_
    refine lv_bipush (v := 8) hx hb dX0_putByte_26 (by decide) ?_
    refine lv_ishl hx hb dX0_putByte_28 ?_
    refine lv_ior hx hb dX0_putByte_29 ?_
    refine lv_topi (fun x2 ex2 => ?_)
    replace hF := lt1_x ex2 hF
    refine pf (ci := 0) (v := .int x2) (ty := .int) (C := RX0) (T := TX0) (N := 2) (ws' := [oX0 h_ x2 v_passed]) hx hb hts i_X0 tyX0_ok nmX0 hown hK hP hD hS 0 rfl rfl 0 (Nat.le_of_ble_eq_true rfl) f_9 rfl rfl (by decide +kernel) rfl rfl (Nat.le_of_ble_eq_true rfl) rfl dX0_putByte_30 (fun H locs hP hD hS => ?_)
    refine lv_aload_n hx hb dX0_putByte_33 rfl (lv_at hl 0 rfl) ?_
    refine lv_iconst (v := 0) hx hb dX0_putByte_34 (by decide) ?_
    refine pf (ci := 0) (v := .int 0) (ty := .int) (C := RX0) (T := TX0) (N := 2) (ws' := [oX0 h_ x2 0]) hx hb hts i_X0 tyX0_ok nmX0 hown hK hP hD hS 0 rfl rfl 1 (Nat.le_of_ble_eq_true rfl) f_15 rfl rfl (by decide +kernel) rfl rfl (Nat.le_of_ble_eq_true rfl) rfl dX0_putByte_35 (fun H locs hP hD hS => ?_)
    exact hret (x2, 0) _ _ 38 _ hP hD hS hF dX0_putByte_38
  · replace hF := it_t c1 hF
    refine lv_aload_n hx hb dX0_putByte_5 rfl (lv_at hl 0 rfl) ?_
    refine va_get (D := D) (ci := 0) (v := .int v_divisor) (C := RX0) (T := TX0) (N := 2) hx hb hts i_X0 hown hK hP 0 rfl rfl 0 (Nat.le_of_ble_eq_true rfl) f_9 (fun _ h9 => h9) rfl dX0_putByte_6 ?_
    refine lv_ldc (v := 65280) hx hb hown c_18 dX0_putByte_9 ?_
    refine lv_iand hx hb dX0_putByte_11 ?_
    refine lv_iload_n hx hb dX0_putByte_12 rfl (lv_at hl 2 rfl) ?_
    refine lv_ior hx hb dX0_putByte_13 ?_
    refine lv_goto (tgt := 30) hx hb dX0_putByte_14 (by decide) ?_
    refine lv_topi (fun x3 ex3 => ?_)
    replace hF := lt1_x ex3 hF
    refine pf (ci := 0) (v := .int x3) (ty := .int) (C := RX0) (T := TX0) (N := 2) (ws' := [oX0 h_ x3 v_passed]) hx hb hts i_X0 tyX0_ok nmX0 hown hK hP hD hS 0 rfl rfl 0 (Nat.le_of_ble_eq_true rfl) f_9 rfl rfl (by decide +kernel) rfl rfl (Nat.le_of_ble_eq_true rfl) rfl dX0_putByte_30 (fun H locs hP hD hS => ?_)
    refine lv_aload_n hx hb dX0_putByte_33 rfl (lv_at hl 0 rfl) ?_
    refine lv_iconst (v := 0) hx hb dX0_putByte_34 (by decide) ?_
    refine pf (ci := 0) (v := .int 0) (ty := .int) (C := RX0) (T := TX0) (N := 2) (ws' := [oX0 h_ x3 0]) hx hb hts i_X0 tyX0_ok nmX0 hown hK hP hD hS 0 rfl rfl 1 (Nat.le_of_ble_eq_true rfl) f_15 rfl rfl (by decide +kernel) rfl rfl (Nat.le_of_ble_eq_true rfl) rfl dX0_putByte_35 (fun H locs hP hD hS => ?_)
    exact hret (x3, 0) _ _ 38 _ hP hD hS hF dX0_putByte_38
def F_X0_tellByte (p1 : Int32) (v_divisor : Int32) : Option (Int32) := if p1 = 0 then (some (v_divisor &&& 255)) else (some ((v_divisor >>> ((8 : Int32) &&& 31)) &&& 255))
def wX0_tellByte (h_ : Nat) (v_divisor : Int32) (v_passed : Int32) (_u : Int32) : va_W := [oX0 h_ v_divisor v_passed]
set_option maxHeartbeats 4000000 in
set_option maxRecDepth 100000 in
theorem mX0_tellByte {l : Launch} (D : va_G) (h_ : Nat) (v_divisor : Int32) (v_passed : Int32) (p1 : Int32) (u0 : Int32) (hF : F_X0_tellByte p1 v_divisor = some u0) : MI l yX0_tellByte wsX0_tellByte { frames := 0, cells := 0, slots := 0, locals := 0 } D [] [.ref h_, .int p1] [oX0 h_ v_divisor v_passed] (wX0_tellByte h_ v_divisor v_passed u0) (u0) := by
  refine MI.ofW (cc := cX0_tellByte) (maxL := 2) (ret := (some .int)) (lv := [(0, .ref h_), (1, .int p1)]) (by decide +kernel) rfl (Nat.le_of_ble_eq_true rfl) rfl ?_
  intro p e s m args below meth c A ls hx hb hr hml hts hown hlocks hA hK hP hD hS hl
  replace hown : s.vm.findClass RX0 = some m.cls := hown
  have i_X0 : ∀ w ∈ wsX00, w ∈ wsX0_tellByte := by decide +kernel
  have f_9 := hts (.fieldLink RX0 9 "SerialPort$Divider" "divisor" "I") (by decide +kernel)
  have hret : ∀ (u : Int32) (v : Int32) (H : Heap) (locs : List Loc) (pc : Nat) (ls : Array Slot), va_P D vwCl (wX0_tellByte h_ v_divisor v_passed u) H → va_D A (wX0_tellByte h_ v_divisor v_passed u) → va_S A s.heap H locs → some u = some u0 → v = u → decode cX0_tellByte pc = .ok (.ireturn, 1) → W p l e { frames := 0, cells := 0, slots := 0, locals := 0 } s m args below meth c H locs 0 0 (QI below D [] (wX0_tellByte h_ v_divisor v_passed u0) (u0) args s A) (F0 m pc ls [.int v]) := fun u v H locs pc ls h1 h2 h3 h4 h5 h6 => rI (wf := wX0_tellByte h_ v_divisor v_passed) (rf := fun u => u) hx hb hr hlocks hK h1 h2 h3 h4 h5 h6
  unfold F_X0_tellByte at hF
  refine lv_iload_n hx hb dX0_tellByte_0 rfl (lv_at hl 1 rfl) ?_
  refine lv_if_ne (tgt := 15) hx hb dX0_tellByte_1 (by decide) (fun c1 => ?_) (fun c1 => ?_)
  · replace hF := it_f c1 hF
    refine lv_aload_n hx hb dX0_tellByte_15 rfl (lv_at hl 0 rfl) ?_
    refine va_get (D := D) (ci := 0) (v := .int v_divisor) (C := RX0) (T := TX0) (N := 2) hx hb hts i_X0 hown hK hP 0 rfl rfl 0 (Nat.le_of_ble_eq_true rfl) f_9 (fun _ h9 => h9) rfl dX0_tellByte_16 ?_
    refine lv_bipush (v := 8) hx hb dX0_tellByte_19 (by decide) ?_
    refine lv_ishr hx hb dX0_tellByte_21 ?_
    refine lv_sipush (v := 255) hx hb dX0_tellByte_22 (by decide) ?_
    refine lv_iand hx hb dX0_tellByte_25 ?_
    exact hret ((v_divisor >>> ((8 : Int32) &&& 31)) &&& 255) ((v_divisor >>> ((8 : Int32) &&& 31)) &&& 255) _ _ 26 _ hP hD hS hF rfl dX0_tellByte_26
  · replace hF := it_t c1 hF
    refine lv_aload_n hx hb dX0_tellByte_4 rfl (lv_at hl 0 rfl) ?_
    refine va_get (D := D) (ci := 0) (v := .int v_divisor) (C := RX0) (T := TX0) (N := 2) hx hb hts i_X0 hown hK hP 0 rfl rfl 0 (Nat.le_of_ble_eq_true rfl) f_9 (fun _ h9 => h9) rfl dX0_tellByte_5 ?_
    refine lv_sipush (v := 255) hx hb dX0_tellByte_8 (by decide) ?_
    refine lv_iand hx hb dX0_tellByte_11 ?_
    refine lv_goto (tgt := 26) hx hb dX0_tellByte_12 (by decide) ?_
    exact hret (v_divisor &&& 255) (v_divisor &&& 255) _ _ 26 _ hP hD hS hF rfl dX0_tellByte_26
def F_X0_pass (p1 : Int32) (v_divisor : Int32) (v_passed : Int32) : Option (Int32 × Int32) := if 0 < v_divisor then (lt1 (v_passed + p1) (fun x2 => gd (¬ v_divisor = 0) (lt1 (x2 - x2 / v_divisor * v_divisor) (fun x4 => gd (¬ v_divisor = 0) (some ((x2 / v_divisor), x4)))))) else (some (0, v_passed))
def wX0_pass (h_ : Nat) (v_divisor : Int32) (u : Int32 × Int32) : va_W := [oX0 h_ v_divisor u.2]
set_option maxHeartbeats 4000000 in
set_option maxRecDepth 100000 in
theorem mX0_pass {l : Launch} (D : va_G) (h_ : Nat) (v_divisor : Int32) (v_passed : Int32) (p1 : Int32) (u0 : Int32 × Int32) (hF : F_X0_pass p1 v_divisor v_passed = some u0) : MI l yX0_pass wsX0_pass { frames := 0, cells := 0, slots := 0, locals := 0 } D [] [.ref h_, .int p1] [oX0 h_ v_divisor v_passed] (wX0_pass h_ v_divisor u0) (u0.1) := by
  refine MI.ofW (cc := cX0_pass) (maxL := 3) (ret := (some .int)) (lv := [(0, .ref h_), (1, .int p1)]) (by decide +kernel) rfl (Nat.le_of_ble_eq_true rfl) rfl ?_
  intro p e s m args below meth c A ls hx hb hr hml hts hown hlocks hA hK hP hD hS hl
  replace hown : s.vm.findClass RX0 = some m.cls := hown
  have i_X0 : ∀ w ∈ wsX00, w ∈ wsX0_pass := by decide +kernel
  have f_9 := hts (.fieldLink RX0 9 "SerialPort$Divider" "divisor" "I") (by decide +kernel)
  have f_15 := hts (.fieldLink RX0 15 "SerialPort$Divider" "passed" "I") (by decide +kernel)
  have hret : ∀ (u : Int32 × Int32) (v : Int32) (H : Heap) (locs : List Loc) (pc : Nat) (ls : Array Slot), va_P D vwCl (wX0_pass h_ v_divisor u) H → va_D A (wX0_pass h_ v_divisor u) → va_S A s.heap H locs → some u = some u0 → v = u.1 → decode cX0_pass pc = .ok (.ireturn, 1) → W p l e { frames := 0, cells := 0, slots := 0, locals := 0 } s m args below meth c H locs 0 0 (QI below D [] (wX0_pass h_ v_divisor u0) (u0.1) args s A) (F0 m pc ls [.int v]) := fun u v H locs pc ls h1 h2 h3 h4 h5 h6 => rI (wf := wX0_pass h_ v_divisor) (rf := fun u => u.1) hx hb hr hlocks hK h1 h2 h3 h4 h5 h6
  unfold F_X0_pass at hF
  refine lv_aload_n hx hb dX0_pass_0 rfl (lv_at hl 0 rfl) ?_
  refine va_get (D := D) (ci := 0) (v := .int v_divisor) (C := RX0) (T := TX0) (N := 2) hx hb hts i_X0 hown hK hP 0 rfl rfl 0 (Nat.le_of_ble_eq_true rfl) f_9 (fun _ h9 => h9) rfl dX0_pass_1 ?_
  refine lv_if_gt (tgt := 9) hx hb dX0_pass_4 (by decide) (fun c1 => ?_) (fun c1 => ?_)
  · replace hF := it_t c1 hF
    refine lv_aload_n hx hb dX0_pass_9 rfl (lv_at hl 0 rfl) ?_
    refine va_get (D := D) (ci := 0) (v := .int v_passed) (C := RX0) (T := TX0) (N := 2) hx hb hts i_X0 hown hK hP 0 rfl rfl 1 (Nat.le_of_ble_eq_true rfl) f_15 (fun _ h9 => h9) rfl dX0_pass_10 ?_
    refine lv_iload_n hx hb dX0_pass_13 rfl (lv_at hl 1 rfl) ?_
    refine lv_iadd hx hb dX0_pass_14 ?_
    refine lv_topi (fun x2 ex2 => ?_)
    replace hF := lt1_x ex2 hF
    refine lv_istore_n (lv' := [(2, .int x2), (0, .ref h_), (1, .int p1)]) hx hb dX0_pass_15 rfl hl (Nat.le_of_ble_eq_true rfl) rfl (fun ls hl => ?_)
    refine lv_aload_n hx hb dX0_pass_16 rfl (lv_at hl 1 rfl) ?_
    refine lv_iload_n hx hb dX0_pass_17 rfl (lv_at hl 0 rfl) ?_
    refine lv_aload_n hx hb dX0_pass_18 rfl (lv_at hl 1 rfl) ?_
    refine va_get (D := D) (ci := 0) (v := .int v_divisor) (C := RX0) (T := TX0) (N := 2) hx hb hts i_X0 hown hK hP 0 rfl rfl 0 (Nat.le_of_ble_eq_true rfl) f_9 (fun _ h9 => h9) rfl dX0_pass_19 ?_
    obtain ⟨g3, hF⟩ := gd_el hF
    refine lv_irem hx hb dX0_pass_22 g3 ?_
    refine lv_topi (fun x4 ex4 => ?_)
    replace hF := lt1_x ex4 hF
    refine pf (ci := 0) (v := .int x4) (ty := .int) (C := RX0) (T := TX0) (N := 2) (ws' := [oX0 h_ v_divisor x4]) hx hb hts i_X0 tyX0_ok nmX0 hown hK hP hD hS 0 rfl rfl 1 (Nat.le_of_ble_eq_true rfl) f_15 rfl rfl (by decide +kernel) rfl rfl (Nat.le_of_ble_eq_true rfl) rfl dX0_pass_23 (fun H locs hP hD hS => ?_)
    refine lv_iload_n hx hb dX0_pass_26 rfl (lv_at hl 0 rfl) ?_
    refine lv_aload_n hx hb dX0_pass_27 rfl (lv_at hl 1 rfl) ?_
    refine va_get (D := D) (ci := 0) (v := .int v_divisor) (C := RX0) (T := TX0) (N := 2) hx hb hts i_X0 hown hK hP 0 rfl rfl 0 (Nat.le_of_ble_eq_true rfl) f_9 (fun _ h9 => h9) rfl dX0_pass_28 ?_
    obtain ⟨g5, hF⟩ := gd_el hF
    refine lv_idiv hx hb dX0_pass_31 g5 ?_
    exact hret ((x2 / v_divisor), x4) (x2 / v_divisor) _ _ 32 _ hP hD hS hF rfl dX0_pass_32
  · replace hF := it_f c1 hF
    refine lv_iconst (v := 0) hx hb dX0_pass_7 (by decide) ?_
    exact hret (0, v_passed) 0 _ _ 8 _ hP hD hS hF rfl dX0_pass_8
def F_X3_clear  (v_outputs : Int32) (v_pins : Int32) (v_state : Int32) (v_changes : Int32) : Option (Int32 × Int32 × Int32 × Int32) := some (0, 0, 0, 0)
def wX3_clear (h_ : Nat) (u : Int32 × Int32 × Int32 × Int32) : va_W := [oX3 h_ u.1 u.2.1 u.2.2.1 u.2.2.2]
set_option maxHeartbeats 4000000 in
set_option maxRecDepth 100000 in
theorem mX3_clear {l : Launch} (D : va_G) (h_ : Nat) (v_outputs : Int32) (v_pins : Int32) (v_state : Int32) (v_changes : Int32) (u0 : Int32 × Int32 × Int32 × Int32) (hF : F_X3_clear v_outputs v_pins v_state v_changes = some u0) : MV l yX3_clear wsX3_clear { frames := 0, cells := 0, slots := 0, locals := 0 } D [] [.ref h_] [oX3 h_ v_outputs v_pins v_state v_changes] (wX3_clear h_ u0) := by
  refine MV.ofW (cc := cX3_clear) (maxL := 1) (ret := none) (lv := [(0, .ref h_)]) (by decide +kernel) rfl (Nat.le_of_ble_eq_true rfl) rfl ?_
  intro p e s m args below meth c A ls hx hb hr hml hts hown hlocks hA hK hP hD hS hl
  replace hown : s.vm.findClass RX3 = some m.cls := hown
  have i_X3 : ∀ w ∈ wsX30, w ∈ wsX3_clear := by decide +kernel
  have f_7 := hts (.fieldLink RX3 7 "SerialPort$Modem" "outputs" "I") (by decide +kernel)
  have f_13 := hts (.fieldLink RX3 13 "SerialPort$Modem" "pins" "I") (by decide +kernel)
  have f_16 := hts (.fieldLink RX3 16 "SerialPort$Modem" "state" "I") (by decide +kernel)
  have f_19 := hts (.fieldLink RX3 19 "SerialPort$Modem" "changes" "I") (by decide +kernel)
  have hret : ∀ (u : Int32 × Int32 × Int32 × Int32) (H : Heap) (locs : List Loc) (pc : Nat) (ls : Array Slot), va_P D vwCl (wX3_clear h_ u) H → va_D A (wX3_clear h_ u) → va_S A s.heap H locs → some u = some u0 → decode cX3_clear pc = .ok (.return_, 1) → W p l e { frames := 0, cells := 0, slots := 0, locals := 0 } s m args below meth c H locs 0 0 (QV below D [] (wX3_clear h_ u0) args s A) (F0 m pc ls []) := fun u H locs pc ls h1 h2 h3 h4 h5 => rV (wf := wX3_clear h_) hx hb hr hlocks hK h1 h2 h3 h4 h5
  unfold F_X3_clear at hF
  refine lv_aload_n hx hb dX3_clear_0 rfl (lv_at hl 0 rfl) ?_
  refine lv_iconst (v := 0) hx hb dX3_clear_1 (by decide) ?_
  refine pf (ci := 3) (v := .int 0) (ty := .int) (C := RX3) (T := TX3) (N := 4) (ws' := [oX3 h_ 0 v_pins v_state v_changes]) hx hb hts i_X3 tyX3_ok nmX3 hown hK hP hD hS 0 rfl rfl 0 (Nat.le_of_ble_eq_true rfl) f_7 rfl rfl (by decide +kernel) rfl rfl (Nat.le_of_ble_eq_true rfl) rfl dX3_clear_2 (fun H locs hP hD hS => ?_)
  refine lv_aload_n hx hb dX3_clear_5 rfl (lv_at hl 0 rfl) ?_
  refine lv_iconst (v := 0) hx hb dX3_clear_6 (by decide) ?_
  refine pf (ci := 3) (v := .int 0) (ty := .int) (C := RX3) (T := TX3) (N := 4) (ws' := [oX3 h_ 0 0 v_state v_changes]) hx hb hts i_X3 tyX3_ok nmX3 hown hK hP hD hS 0 rfl rfl 1 (Nat.le_of_ble_eq_true rfl) f_13 rfl rfl (by decide +kernel) rfl rfl (Nat.le_of_ble_eq_true rfl) rfl dX3_clear_7 (fun H locs hP hD hS => ?_)
  refine lv_aload_n hx hb dX3_clear_10 rfl (lv_at hl 0 rfl) ?_
  refine lv_iconst (v := 0) hx hb dX3_clear_11 (by decide) ?_
  refine pf (ci := 3) (v := .int 0) (ty := .int) (C := RX3) (T := TX3) (N := 4) (ws' := [oX3 h_ 0 0 0 v_changes]) hx hb hts i_X3 tyX3_ok nmX3 hown hK hP hD hS 0 rfl rfl 2 (Nat.le_of_ble_eq_true rfl) f_16 rfl rfl (by decide +kernel) rfl rfl (Nat.le_of_ble_eq_true rfl) rfl dX3_clear_12 (fun H locs hP hD hS => ?_)
  refine lv_aload_n hx hb dX3_clear_15 rfl (lv_at hl 0 rfl) ?_
  refine lv_iconst (v := 0) hx hb dX3_clear_16 (by decide) ?_
  refine pf (ci := 3) (v := .int 0) (ty := .int) (C := RX3) (T := TX3) (N := 4) (ws' := [oX3 h_ 0 0 0 0]) hx hb hts i_X3 tyX3_ok nmX3 hown hK hP hD hS 0 rfl rfl 3 (Nat.le_of_ble_eq_true rfl) f_19 rfl rfl (by decide +kernel) rfl rfl (Nat.le_of_ble_eq_true rfl) rfl dX3_clear_17 (fun H locs hP hD hS => ?_)
  exact hret (0, 0, 0, 0) _ _ 20 _ hP hD hS hF dX3_clear_20
def F_X3_outputs  (v_outputs : Int32) : Option (Int32) := some v_outputs
def wX3_outputs (h_ : Nat) (v_outputs : Int32) (v_pins : Int32) (v_state : Int32) (v_changes : Int32) (_u : Int32) : va_W := [oX3 h_ v_outputs v_pins v_state v_changes]
set_option maxHeartbeats 4000000 in
set_option maxRecDepth 100000 in
theorem mX3_outputs {l : Launch} (D : va_G) (h_ : Nat) (v_outputs : Int32) (v_pins : Int32) (v_state : Int32) (v_changes : Int32) (u0 : Int32) (hF : F_X3_outputs v_outputs = some u0) : MI l yX3_outputs wsX3_outputs { frames := 0, cells := 0, slots := 0, locals := 0 } D [] [.ref h_] [oX3 h_ v_outputs v_pins v_state v_changes] (wX3_outputs h_ v_outputs v_pins v_state v_changes u0) (u0) := by
  refine MI.ofW (cc := cX3_outputs) (maxL := 1) (ret := (some .int)) (lv := [(0, .ref h_)]) (by decide +kernel) rfl (Nat.le_of_ble_eq_true rfl) rfl ?_
  intro p e s m args below meth c A ls hx hb hr hml hts hown hlocks hA hK hP hD hS hl
  replace hown : s.vm.findClass RX3 = some m.cls := hown
  have i_X3 : ∀ w ∈ wsX30, w ∈ wsX3_outputs := by decide +kernel
  have f_7 := hts (.fieldLink RX3 7 "SerialPort$Modem" "outputs" "I") (by decide +kernel)
  have hret : ∀ (u : Int32) (v : Int32) (H : Heap) (locs : List Loc) (pc : Nat) (ls : Array Slot), va_P D vwCl (wX3_outputs h_ v_outputs v_pins v_state v_changes u) H → va_D A (wX3_outputs h_ v_outputs v_pins v_state v_changes u) → va_S A s.heap H locs → some u = some u0 → v = u → decode cX3_outputs pc = .ok (.ireturn, 1) → W p l e { frames := 0, cells := 0, slots := 0, locals := 0 } s m args below meth c H locs 0 0 (QI below D [] (wX3_outputs h_ v_outputs v_pins v_state v_changes u0) (u0) args s A) (F0 m pc ls [.int v]) := fun u v H locs pc ls h1 h2 h3 h4 h5 h6 => rI (wf := wX3_outputs h_ v_outputs v_pins v_state v_changes) (rf := fun u => u) hx hb hr hlocks hK h1 h2 h3 h4 h5 h6
  unfold F_X3_outputs at hF
  refine lv_aload_n hx hb dX3_outputs_0 rfl (lv_at hl 0 rfl) ?_
  refine va_get (D := D) (ci := 3) (v := .int v_outputs) (C := RX3) (T := TX3) (N := 4) hx hb hts i_X3 hown hK hP 0 rfl rfl 0 (Nat.le_of_ble_eq_true rfl) f_7 (fun _ h9 => h9) rfl dX3_outputs_1 ?_
  exact hret v_outputs v_outputs _ _ 4 _ hP hD hS hF rfl dX3_outputs_4
def F_X3_loops  (v_outputs : Int32) : Option (Bool) := if (v_outputs &&& 16) = 0 then (some false) else (some true)
def wX3_loops (h_ : Nat) (v_outputs : Int32) (v_pins : Int32) (v_state : Int32) (v_changes : Int32) (_u : Bool) : va_W := [oX3 h_ v_outputs v_pins v_state v_changes]
set_option maxHeartbeats 4000000 in
set_option maxRecDepth 100000 in
theorem mX3_loops {l : Launch} (D : va_G) (h_ : Nat) (v_outputs : Int32) (v_pins : Int32) (v_state : Int32) (v_changes : Int32) (u0 : Bool) (hF : F_X3_loops v_outputs = some u0) : MI l yX3_loops wsX3_loops { frames := 0, cells := 0, slots := 0, locals := 0 } D [] [.ref h_] [oX3 h_ v_outputs v_pins v_state v_changes] (wX3_loops h_ v_outputs v_pins v_state v_changes u0) (bI u0) := by
  refine MI.ofW (cc := cX3_loops) (maxL := 1) (ret := (some .boolean)) (lv := [(0, .ref h_)]) (by decide +kernel) rfl (Nat.le_of_ble_eq_true rfl) rfl ?_
  intro p e s m args below meth c A ls hx hb hr hml hts hown hlocks hA hK hP hD hS hl
  replace hown : s.vm.findClass RX3 = some m.cls := hown
  have i_X3 : ∀ w ∈ wsX30, w ∈ wsX3_loops := by decide +kernel
  have f_7 := hts (.fieldLink RX3 7 "SerialPort$Modem" "outputs" "I") (by decide +kernel)
  have hret : ∀ (u : Bool) (v : Int32) (H : Heap) (locs : List Loc) (pc : Nat) (ls : Array Slot), va_P D vwCl (wX3_loops h_ v_outputs v_pins v_state v_changes u) H → va_D A (wX3_loops h_ v_outputs v_pins v_state v_changes u) → va_S A s.heap H locs → some u = some u0 → v = bI u → decode cX3_loops pc = .ok (.ireturn, 1) → W p l e { frames := 0, cells := 0, slots := 0, locals := 0 } s m args below meth c H locs 0 0 (QI below D [] (wX3_loops h_ v_outputs v_pins v_state v_changes u0) (bI u0) args s A) (F0 m pc ls [.int v]) := fun u v H locs pc ls h1 h2 h3 h4 h5 h6 => rZ (wf := wX3_loops h_ v_outputs v_pins v_state v_changes) (rf := fun u => u) hx hb hr hlocks hK h1 h2 h3 h4 h5 h6
  unfold F_X3_loops at hF
  refine lv_aload_n hx hb dX3_loops_0 rfl (lv_at hl 0 rfl) ?_
  refine va_get (D := D) (ci := 3) (v := .int v_outputs) (C := RX3) (T := TX3) (N := 4) hx hb hts i_X3 hown hK hP 0 rfl rfl 0 (Nat.le_of_ble_eq_true rfl) f_7 (fun _ h9 => h9) rfl dX3_loops_1 ?_
  refine lv_bipush (v := 16) hx hb dX3_loops_4 (by decide) ?_
  refine lv_iand hx hb dX3_loops_6 ?_
  refine lv_if_eq (tgt := 14) hx hb dX3_loops_7 (by decide) (fun c1 => ?_) (fun c1 => ?_)
  · replace hF := it_t c1 hF
    refine lv_iconst (v := 0) hx hb dX3_loops_14 (by decide) ?_
    exact hret false 0 _ _ 15 _ hP hD hS hF rfl dX3_loops_15
  · replace hF := it_f c1 hF
    refine lv_iconst (v := 1) hx hb dX3_loops_10 (by decide) ?_
    refine lv_goto (tgt := 15) hx hb dX3_loops_11 (by decide) ?_
    exact hret true 1 _ _ 15 _ hP hD hS hF rfl dX3_loops_15
def F_X3_hasChanged  (v_changes : Int32) : Option (Bool) := if v_changes = 0 then (some false) else (some true)
def wX3_hasChanged (h_ : Nat) (v_outputs : Int32) (v_pins : Int32) (v_state : Int32) (v_changes : Int32) (_u : Bool) : va_W := [oX3 h_ v_outputs v_pins v_state v_changes]
set_option maxHeartbeats 4000000 in
set_option maxRecDepth 100000 in
theorem mX3_hasChanged {l : Launch} (D : va_G) (h_ : Nat) (v_outputs : Int32) (v_pins : Int32) (v_state : Int32) (v_changes : Int32) (u0 : Bool) (hF : F_X3_hasChanged v_changes = some u0) : MI l yX3_hasChanged wsX3_hasChanged { frames := 0, cells := 0, slots := 0, locals := 0 } D [] [.ref h_] [oX3 h_ v_outputs v_pins v_state v_changes] (wX3_hasChanged h_ v_outputs v_pins v_state v_changes u0) (bI u0) := by
  refine MI.ofW (cc := cX3_hasChanged) (maxL := 1) (ret := (some .boolean)) (lv := [(0, .ref h_)]) (by decide +kernel) rfl (Nat.le_of_ble_eq_true rfl) rfl ?_
  intro p e s m args below meth c A ls hx hb hr hml hts hown hlocks hA hK hP hD hS hl
  replace hown : s.vm.findClass RX3 = some m.cls := hown
  have i_X3 : ∀ w ∈ wsX30, w ∈ wsX3_hasChanged := by decide +kernel
  have f_19 := hts (.fieldLink RX3 19 "SerialPort$Modem" "changes" "I") (by decide +kernel)
  have hret : ∀ (u : Bool) (v : Int32) (H : Heap) (locs : List Loc) (pc : Nat) (ls : Array Slot), va_P D vwCl (wX3_hasChanged h_ v_outputs v_pins v_state v_changes u) H → va_D A (wX3_hasChanged h_ v_outputs v_pins v_state v_changes u) → va_S A s.heap H locs → some u = some u0 → v = bI u → decode cX3_hasChanged pc = .ok (.ireturn, 1) → W p l e { frames := 0, cells := 0, slots := 0, locals := 0 } s m args below meth c H locs 0 0 (QI below D [] (wX3_hasChanged h_ v_outputs v_pins v_state v_changes u0) (bI u0) args s A) (F0 m pc ls [.int v]) := fun u v H locs pc ls h1 h2 h3 h4 h5 h6 => rZ (wf := wX3_hasChanged h_ v_outputs v_pins v_state v_changes) (rf := fun u => u) hx hb hr hlocks hK h1 h2 h3 h4 h5 h6
  unfold F_X3_hasChanged at hF
  refine lv_aload_n hx hb dX3_hasChanged_0 rfl (lv_at hl 0 rfl) ?_
  refine va_get (D := D) (ci := 3) (v := .int v_changes) (C := RX3) (T := TX3) (N := 4) hx hb hts i_X3 hown hK hP 0 rfl rfl 3 (Nat.le_of_ble_eq_true rfl) f_19 (fun _ h9 => h9) rfl dX3_hasChanged_1 ?_
  refine lv_if_eq (tgt := 11) hx hb dX3_hasChanged_4 (by decide) (fun c1 => ?_) (fun c1 => ?_)
  · replace hF := it_t c1 hF
    refine lv_iconst (v := 0) hx hb dX3_hasChanged_11 (by decide) ?_
    exact hret false 0 _ _ 12 _ hP hD hS hF rfl dX3_hasChanged_12
  · replace hF := it_f c1 hF
    refine lv_iconst (v := 1) hx hb dX3_hasChanged_7 (by decide) ?_
    refine lv_goto (tgt := 12) hx hb dX3_hasChanged_8 (by decide) ?_
    exact hret true 1 _ _ 12 _ hP hD hS hF rfl dX3_hasChanged_12
def F_X3_looped  (v_outputs : Int32) : Option (Int32) := some ((((v_outputs >>> ((1 : Int32) &&& 31)) &&& 1) ||| ((v_outputs <<< ((1 : Int32) &&& 31)) &&& 2)) ||| (v_outputs &&& 12))
def wX3_looped (h_ : Nat) (v_outputs : Int32) (v_pins : Int32) (v_state : Int32) (v_changes : Int32) (_u : Int32) : va_W := [oX3 h_ v_outputs v_pins v_state v_changes]
set_option maxHeartbeats 4000000 in
set_option maxRecDepth 100000 in
theorem mX3_looped {l : Launch} (D : va_G) (h_ : Nat) (v_outputs : Int32) (v_pins : Int32) (v_state : Int32) (v_changes : Int32) (u0 : Int32) (hF : F_X3_looped v_outputs = some u0) : MI l yX3_looped wsX3_looped { frames := 0, cells := 0, slots := 0, locals := 0 } D [] [.ref h_] [oX3 h_ v_outputs v_pins v_state v_changes] (wX3_looped h_ v_outputs v_pins v_state v_changes u0) (u0) := by
  refine MI.ofW (cc := cX3_looped) (maxL := 1) (ret := (some .int)) (lv := [(0, .ref h_)]) (by decide +kernel) rfl (Nat.le_of_ble_eq_true rfl) rfl ?_
  intro p e s m args below meth c A ls hx hb hr hml hts hown hlocks hA hK hP hD hS hl
  replace hown : s.vm.findClass RX3 = some m.cls := hown
  have i_X3 : ∀ w ∈ wsX30, w ∈ wsX3_looped := by decide +kernel
  have f_7 := hts (.fieldLink RX3 7 "SerialPort$Modem" "outputs" "I") (by decide +kernel)
  have hret : ∀ (u : Int32) (v : Int32) (H : Heap) (locs : List Loc) (pc : Nat) (ls : Array Slot), va_P D vwCl (wX3_looped h_ v_outputs v_pins v_state v_changes u) H → va_D A (wX3_looped h_ v_outputs v_pins v_state v_changes u) → va_S A s.heap H locs → some u = some u0 → v = u → decode cX3_looped pc = .ok (.ireturn, 1) → W p l e { frames := 0, cells := 0, slots := 0, locals := 0 } s m args below meth c H locs 0 0 (QI below D [] (wX3_looped h_ v_outputs v_pins v_state v_changes u0) (u0) args s A) (F0 m pc ls [.int v]) := fun u v H locs pc ls h1 h2 h3 h4 h5 h6 => rI (wf := wX3_looped h_ v_outputs v_pins v_state v_changes) (rf := fun u => u) hx hb hr hlocks hK h1 h2 h3 h4 h5 h6
  unfold F_X3_looped at hF
  refine lv_aload_n hx hb dX3_looped_0 rfl (lv_at hl 0 rfl) ?_
  refine va_get (D := D) (ci := 3) (v := .int v_outputs) (C := RX3) (T := TX3) (N := 4) hx hb hts i_X3 hown hK hP 0 rfl rfl 0 (Nat.le_of_ble_eq_true rfl) f_7 (fun _ h9 => h9) rfl dX3_looped_1 ?_
  refine lv_iconst (v := 1) hx hb dX3_looped_4 (by decide) ?_
  refine lv_ishr hx hb dX3_looped_5 ?_
  refine lv_iconst (v := 1) hx hb dX3_looped_6 (by decide) ?_
  refine lv_iand hx hb dX3_looped_7 ?_
  refine lv_aload_n hx hb dX3_looped_8 rfl (lv_at hl 0 rfl) ?_
  refine va_get (D := D) (ci := 3) (v := .int v_outputs) (C := RX3) (T := TX3) (N := 4) hx hb hts i_X3 hown hK hP 0 rfl rfl 0 (Nat.le_of_ble_eq_true rfl) f_7 (fun _ h9 => h9) rfl dX3_looped_9 ?_
  refine lv_iconst (v := 1) hx hb dX3_looped_12 (by decide) ?_
  refine lv_ishl hx hb dX3_looped_13 ?_
  refine lv_iconst (v := 2) hx hb dX3_looped_14 (by decide) ?_
  refine lv_iand hx hb dX3_looped_15 ?_
  refine lv_ior hx hb dX3_looped_16 ?_
  refine lv_aload_n hx hb dX3_looped_17 rfl (lv_at hl 0 rfl) ?_
  refine va_get (D := D) (ci := 3) (v := .int v_outputs) (C := RX3) (T := TX3) (N := 4) hx hb hts i_X3 hown hK hP 0 rfl rfl 0 (Nat.le_of_ble_eq_true rfl) f_7 (fun _ h9 => h9) rfl dX3_looped_18 ?_
  refine lv_bipush (v := 12) hx hb dX3_looped_21 (by decide) ?_
  refine lv_iand hx hb dX3_looped_23 ?_
  refine lv_ior hx hb dX3_looped_24 ?_
  exact hret ((((v_outputs >>> ((1 : Int32) &&& 31)) &&& 1) ||| ((v_outputs <<< ((1 : Int32) &&& 31)) &&& 2)) ||| (v_outputs &&& 12)) ((((v_outputs >>> ((1 : Int32) &&& 31)) &&& 1) ||| ((v_outputs <<< ((1 : Int32) &&& 31)) &&& 2)) ||| (v_outputs &&& 12)) _ _ 25 _ hP hD hS hF rfl dX3_looped_25
def F_X3_follow_18 (v_outputs : Int32) (v_pins : Int32) (s0 : Int32) (v_state : Int32) (v_changes : Int32) : Option (Int32 × Int32) := lt1 (s0 ^^^ v_state) (fun x1 => lt1 (v_changes ||| ((x1 &&& (-5)) ||| ((x1 &&& v_state) &&& 4))) (fun x2 => some (s0, x2)))
def F_X3_follow  (v_outputs : Int32) (v_pins : Int32) (v_state : Int32) (v_changes : Int32) : Option (Int32 × Int32) := bd (F_X3_loops v_outputs) (fun u3 => bt u3 (bd (F_X3_looped v_outputs) (fun u5 => F_X3_follow_18 v_outputs v_pins u5 v_state v_changes)) (F_X3_follow_18 v_outputs v_pins v_pins v_state v_changes))
def wX3_follow (h_ : Nat) (v_outputs : Int32) (v_pins : Int32) (u : Int32 × Int32) : va_W := [oX3 h_ v_outputs v_pins u.1 u.2]
set_option maxHeartbeats 4000000 in
set_option maxRecDepth 100000 in
theorem mX3_follow {l : Launch} (D : va_G) (h_ : Nat) (v_outputs : Int32) (v_pins : Int32) (v_state : Int32) (v_changes : Int32) (u0 : Int32 × Int32) (hF : F_X3_follow v_outputs v_pins v_state v_changes = some u0) : MV l yX3_follow wsX3_follow { frames := 1, cells := 0, slots := 0, locals := 20 } D [] [.ref h_] [oX3 h_ v_outputs v_pins v_state v_changes] (wX3_follow h_ v_outputs v_pins u0) := by
  refine MV.ofW (cc := cX3_follow) (maxL := 3) (ret := none) (lv := [(0, .ref h_)]) (by decide +kernel) rfl (Nat.le_of_ble_eq_true rfl) rfl ?_
  intro p e s m args below meth c A ls hx hb hr hml hts hown hlocks hA hK hP hD hS hl
  replace hown : s.vm.findClass RX3 = some m.cls := hown
  have i_X3 : ∀ w ∈ wsX30, w ∈ wsX3_follow := by decide +kernel
  have f_13 := hts (.fieldLink RX3 13 "SerialPort$Modem" "pins" "I") (by decide +kernel)
  have f_16 := hts (.fieldLink RX3 16 "SerialPort$Modem" "state" "I") (by decide +kernel)
  have f_19 := hts (.fieldLink RX3 19 "SerialPort$Modem" "changes" "I") (by decide +kernel)
  have hret : ∀ (u : Int32 × Int32) (H : Heap) (locs : List Loc) (pc : Nat) (ls : Array Slot), va_P D vwCl (wX3_follow h_ v_outputs v_pins u) H → va_D A (wX3_follow h_ v_outputs v_pins u) → va_S A s.heap H locs → some u = some u0 → decode cX3_follow pc = .ok (.return_, 1) → W p l e { frames := 1, cells := 0, slots := 0, locals := 20 } s m args below meth c H locs 0 0 (QV below D [] (wX3_follow h_ v_outputs v_pins u0) args s A) (F0 m pc ls []) := fun u H locs pc ls h1 h2 h3 h4 h5 => rV (wf := wX3_follow h_ v_outputs v_pins) hx hb hr hlocks hK h1 h2 h3 h4 h5
  have J18 : ∀ (s0 : Int32) (v_state : Int32) (v_changes : Int32) (H : Heap) (locs : List Loc) (ls : Array Slot), F_X3_follow_18 v_outputs v_pins s0 v_state v_changes = some u0 → lv_has ls 3 [(0, .ref h_)] → va_P D vwCl [oX3 h_ v_outputs v_pins v_state v_changes] H → va_D A [oX3 h_ v_outputs v_pins v_state v_changes] → va_S A s.heap H locs → W p l e { frames := 1, cells := 0, slots := 0, locals := 20 } s m args below meth c H locs 0 0 (QV below D [] (wX3_follow h_ v_outputs v_pins u0) args s A) (F0 m 18 ls [.int s0]) := by
    intro s0 v_state v_changes H locs ls hF hl hP hD hS
    unfold F_X3_follow_18 at hF
    refine lv_istore_n (lv' := [(1, .int s0), (0, .ref h_)]) hx hb dX3_follow_18 rfl hl (Nat.le_of_ble_eq_true rfl) rfl (fun ls hl => ?_)
    refine lv_iload_n hx hb dX3_follow_19 rfl (lv_at hl 0 rfl) ?_
    refine lv_aload_n hx hb dX3_follow_20 rfl (lv_at hl 1 rfl) ?_
    refine va_get (D := D) (ci := 3) (v := .int v_state) (C := RX3) (T := TX3) (N := 4) hx hb hts i_X3 hown hK hP 0 rfl rfl 2 (Nat.le_of_ble_eq_true rfl) f_16 (fun _ h9 => h9) rfl dX3_follow_21 ?_
    refine lv_ixor hx hb dX3_follow_24 ?_
    refine lv_topi (fun x1 ex1 => ?_)
    replace hF := lt1_x ex1 hF
    refine lv_istore_n (lv' := [(2, .int x1), (1, .int s0), (0, .ref h_)]) hx hb dX3_follow_25 rfl hl (Nat.le_of_ble_eq_true rfl) rfl (fun ls hl => ?_)
    refine lv_aload_n hx hb dX3_follow_26 rfl (lv_at hl 2 rfl) ?_
    refine lv_dup hx hb dX3_follow_27 rfl ?_
    refine va_get (D := D) (ci := 3) (v := .int v_changes) (C := RX3) (T := TX3) (N := 4) hx hb hts i_X3 hown hK hP 0 rfl rfl 3 (Nat.le_of_ble_eq_true rfl) f_19 (fun _ h9 => h9) rfl dX3_follow_28 ?_
    refine lv_iload_n hx hb dX3_follow_31 rfl (lv_at hl 0 rfl) ?_
    refine lv_bipush (v := (-5)) hx hb dX3_follow_32 (by decide) ?_
    refine lv_iand hx hb dX3_follow_34 ?_
    refine lv_iload_n hx hb dX3_follow_35 rfl (lv_at hl 0 rfl) ?_
    refine lv_aload_n hx hb dX3_follow_36 rfl (lv_at hl 2 rfl) ?_
    refine va_get (D := D) (ci := 3) (v := .int v_state) (C := RX3) (T := TX3) (N := 4) hx hb hts i_X3 hown hK hP 0 rfl rfl 2 (Nat.le_of_ble_eq_true rfl) f_16 (fun _ h9 => h9) rfl dX3_follow_37 ?_
    refine lv_iand hx hb dX3_follow_40 ?_
    refine lv_iconst (v := 4) hx hb dX3_follow_41 (by decide) ?_
    refine lv_iand hx hb dX3_follow_42 ?_
    refine lv_ior hx hb dX3_follow_43 ?_
    refine lv_ior hx hb dX3_follow_44 ?_
    refine lv_topi (fun x2 ex2 => ?_)
    replace hF := lt1_x ex2 hF
    refine pf (ci := 3) (v := .int x2) (ty := .int) (C := RX3) (T := TX3) (N := 4) (ws' := [oX3 h_ v_outputs v_pins v_state x2]) hx hb hts i_X3 tyX3_ok nmX3 hown hK hP hD hS 0 rfl rfl 3 (Nat.le_of_ble_eq_true rfl) f_19 rfl rfl (by decide +kernel) rfl rfl (Nat.le_of_ble_eq_true rfl) rfl dX3_follow_45 (fun H locs hP hD hS => ?_)
    refine lv_aload_n hx hb dX3_follow_48 rfl (lv_at hl 2 rfl) ?_
    refine lv_iload_n hx hb dX3_follow_49 rfl (lv_at hl 1 rfl) ?_
    refine pf (ci := 3) (v := .int s0) (ty := .int) (C := RX3) (T := TX3) (N := 4) (ws' := [oX3 h_ v_outputs v_pins s0 x2]) hx hb hts i_X3 tyX3_ok nmX3 hown hK hP hD hS 0 rfl rfl 2 (Nat.le_of_ble_eq_true rfl) f_16 rfl rfl (by decide +kernel) rfl rfl (Nat.le_of_ble_eq_true rfl) rfl dX3_follow_50 (fun H locs hP hD hS => ?_)
    exact hret (s0, x2) _ _ 53 _ hP hD hS hF dX3_follow_53
  unfold F_X3_follow at hF
  refine lv_aload_n hx hb dX3_follow_0 rfl (lv_at hl 0 rfl) ?_
  obtain ⟨u3, hu3, hF⟩ := bd_el hF
  refine cVI (q0 := 0) (ci := 3) (As := []) (rest := []) (wr := []) (ws' := [oX3 h_ v_outputs v_pins v_state v_changes]) (rv := bI u3) ⟨hx, hb, hml, hown, hts⟩ (mX3_loops D h_ v_outputs v_pins v_state v_changes u3 hu3) (cwV 0 hts gX3_follow_X3_loops rfl rfl rfl (by decide +kernel) ⟨Nat.le_of_ble_eq_true rfl, Nat.le_of_ble_eq_true rfl⟩) hK hP hD hS hA [] [0] [] [0] rfl rfl rfl rfl rfl rfl rfl rfl rfl hl.1 rfl (Nat.le_of_ble_eq_true rfl) rfl dX3_follow_1 ⟨Nat.le_refl _, Nat.le_refl _⟩ (fun H locs hP hD hS => ?_)
  refine lv_if_eq (tgt := 14) hx hb dX3_follow_4 (by decide) (fun c4 => ?_) (fun c4 => ?_)
  · replace hF := bt_f (bI_0 c4) hF
    refine lv_aload_n hx hb dX3_follow_14 rfl (lv_at hl 0 rfl) ?_
    refine va_get (D := D) (ci := 3) (v := .int v_pins) (C := RX3) (T := TX3) (N := 4) hx hb hts i_X3 hown hK hP 0 rfl rfl 1 (Nat.le_of_ble_eq_true rfl) f_13 (fun _ h9 => h9) rfl dX3_follow_15 ?_
    exact J18 v_pins v_state v_changes _ _ _ hF hl hP hD hS
  · replace hF := bt_t (bI_n0 c4) hF
    refine lv_aload_n hx hb dX3_follow_7 rfl (lv_at hl 0 rfl) ?_
    obtain ⟨u5, hu5, hF⟩ := bd_el hF
    refine cVI (q0 := 0) (ci := 3) (As := []) (rest := []) (wr := []) (ws' := [oX3 h_ v_outputs v_pins v_state v_changes]) (rv := u5) ⟨hx, hb, hml, hown, hts⟩ (mX3_looped D h_ v_outputs v_pins v_state v_changes u5 hu5) (cwV 0 hts gX3_follow_X3_looped rfl rfl rfl (by decide +kernel) ⟨Nat.le_of_ble_eq_true rfl, Nat.le_of_ble_eq_true rfl⟩) hK hP hD hS hA [] [0] [] [0] rfl rfl rfl rfl rfl rfl rfl rfl rfl hl.1 rfl (Nat.le_of_ble_eq_true rfl) rfl dX3_follow_8 ⟨Nat.le_refl _, Nat.le_refl _⟩ (fun H locs hP hD hS => ?_)
    refine lv_goto (tgt := 18) hx hb dX3_follow_11 (by decide) ?_
    exact J18 u5 v_state v_changes _ _ _ hF hl hP hD hS
def F_X3_putOutputs (p1 : Int32) (v_outputs : Int32) (v_pins : Int32) (v_state : Int32) (v_changes : Int32) : Option (Int32 × Int32 × Int32) := bd (F_X3_follow p1 v_pins v_state v_changes) (fun u1 => some (p1, u1.1, u1.2))
def wX3_putOutputs (h_ : Nat) (v_pins : Int32) (u : Int32 × Int32 × Int32) : va_W := [oX3 h_ u.1 v_pins u.2.1 u.2.2]
set_option maxHeartbeats 4000000 in
set_option maxRecDepth 100000 in
theorem mX3_putOutputs {l : Launch} (D : va_G) (h_ : Nat) (v_outputs : Int32) (v_pins : Int32) (v_state : Int32) (v_changes : Int32) (p1 : Int32) (u0 : Int32 × Int32 × Int32) (hF : F_X3_putOutputs p1 v_outputs v_pins v_state v_changes = some u0) : MV l yX3_putOutputs wsX3_putOutputs { frames := 2, cells := 0, slots := 0, locals := 42 } D [] [.ref h_, .int p1] [oX3 h_ v_outputs v_pins v_state v_changes] (wX3_putOutputs h_ v_pins u0) := by
  refine MV.ofW (cc := cX3_putOutputs) (maxL := 2) (ret := none) (lv := [(0, .ref h_), (1, .int p1)]) (by decide +kernel) rfl (Nat.le_of_ble_eq_true rfl) rfl ?_
  intro p e s m args below meth c A ls hx hb hr hml hts hown hlocks hA hK hP hD hS hl
  replace hown : s.vm.findClass RX3 = some m.cls := hown
  have i_X3 : ∀ w ∈ wsX30, w ∈ wsX3_putOutputs := by decide +kernel
  have f_7 := hts (.fieldLink RX3 7 "SerialPort$Modem" "outputs" "I") (by decide +kernel)
  have hret : ∀ (u : Int32 × Int32 × Int32) (H : Heap) (locs : List Loc) (pc : Nat) (ls : Array Slot), va_P D vwCl (wX3_putOutputs h_ v_pins u) H → va_D A (wX3_putOutputs h_ v_pins u) → va_S A s.heap H locs → some u = some u0 → decode cX3_putOutputs pc = .ok (.return_, 1) → W p l e { frames := 2, cells := 0, slots := 0, locals := 42 } s m args below meth c H locs 0 0 (QV below D [] (wX3_putOutputs h_ v_pins u0) args s A) (F0 m pc ls []) := fun u H locs pc ls h1 h2 h3 h4 h5 => rV (wf := wX3_putOutputs h_ v_pins) hx hb hr hlocks hK h1 h2 h3 h4 h5
  unfold F_X3_putOutputs at hF
  refine lv_aload_n hx hb dX3_putOutputs_0 rfl (lv_at hl 0 rfl) ?_
  refine lv_iload_n hx hb dX3_putOutputs_1 rfl (lv_at hl 1 rfl) ?_
  refine pf (ci := 3) (v := .int p1) (ty := .int) (C := RX3) (T := TX3) (N := 4) (ws' := [oX3 h_ p1 v_pins v_state v_changes]) hx hb hts i_X3 tyX3_ok nmX3 hown hK hP hD hS 0 rfl rfl 0 (Nat.le_of_ble_eq_true rfl) f_7 rfl rfl (by decide +kernel) rfl rfl (Nat.le_of_ble_eq_true rfl) rfl dX3_putOutputs_2 (fun H locs hP hD hS => ?_)
  refine lv_aload_n hx hb dX3_putOutputs_5 rfl (lv_at hl 0 rfl) ?_
  obtain ⟨u1, hu1, hF⟩ := bd_el hF
  refine cVV (q0 := 0) (ci := 3) (As := []) (rest := []) (wr := []) (ws' := [oX3 h_ p1 v_pins u1.1 u1.2]) ⟨hx, hb, hml, hown, hts⟩ (mX3_follow D h_ p1 v_pins v_state v_changes u1 hu1) (cwV 0 hts gX3_putOutputs_X3_follow rfl rfl rfl (by decide +kernel) ⟨Nat.le_of_ble_eq_true rfl, Nat.le_of_ble_eq_true rfl⟩) hK hP hD hS hA [] [0] [] [0] rfl rfl rfl rfl rfl rfl rfl rfl rfl hl.1 rfl (Nat.le_of_ble_eq_true rfl) dX3_putOutputs_6 ⟨Nat.le_refl _, Nat.le_refl _⟩ (fun H locs hP hD hS => ?_)
  exact hret (p1, u1.1, u1.2) _ _ 9 _ hP hD hS hF dX3_putOutputs_9
def F_X3_putPins (p1 : Int32) (v_outputs : Int32) (v_pins : Int32) (v_state : Int32) (v_changes : Int32) : Option (Int32 × Int32 × Int32) := bd (F_X3_follow v_outputs p1 v_state v_changes) (fun u1 => some (p1, u1.1, u1.2))
def wX3_putPins (h_ : Nat) (v_outputs : Int32) (u : Int32 × Int32 × Int32) : va_W := [oX3 h_ v_outputs u.1 u.2.1 u.2.2]
set_option maxHeartbeats 4000000 in
set_option maxRecDepth 100000 in
theorem mX3_putPins {l : Launch} (D : va_G) (h_ : Nat) (v_outputs : Int32) (v_pins : Int32) (v_state : Int32) (v_changes : Int32) (p1 : Int32) (u0 : Int32 × Int32 × Int32) (hF : F_X3_putPins p1 v_outputs v_pins v_state v_changes = some u0) : MV l yX3_putPins wsX3_putPins { frames := 2, cells := 0, slots := 0, locals := 42 } D [] [.ref h_, .int p1] [oX3 h_ v_outputs v_pins v_state v_changes] (wX3_putPins h_ v_outputs u0) := by
  refine MV.ofW (cc := cX3_putPins) (maxL := 2) (ret := none) (lv := [(0, .ref h_), (1, .int p1)]) (by decide +kernel) rfl (Nat.le_of_ble_eq_true rfl) rfl ?_
  intro p e s m args below meth c A ls hx hb hr hml hts hown hlocks hA hK hP hD hS hl
  replace hown : s.vm.findClass RX3 = some m.cls := hown
  have i_X3 : ∀ w ∈ wsX30, w ∈ wsX3_putPins := by decide +kernel
  have f_13 := hts (.fieldLink RX3 13 "SerialPort$Modem" "pins" "I") (by decide +kernel)
  have hret : ∀ (u : Int32 × Int32 × Int32) (H : Heap) (locs : List Loc) (pc : Nat) (ls : Array Slot), va_P D vwCl (wX3_putPins h_ v_outputs u) H → va_D A (wX3_putPins h_ v_outputs u) → va_S A s.heap H locs → some u = some u0 → decode cX3_putPins pc = .ok (.return_, 1) → W p l e { frames := 2, cells := 0, slots := 0, locals := 42 } s m args below meth c H locs 0 0 (QV below D [] (wX3_putPins h_ v_outputs u0) args s A) (F0 m pc ls []) := fun u H locs pc ls h1 h2 h3 h4 h5 => rV (wf := wX3_putPins h_ v_outputs) hx hb hr hlocks hK h1 h2 h3 h4 h5
  unfold F_X3_putPins at hF
  refine lv_aload_n hx hb dX3_putPins_0 rfl (lv_at hl 0 rfl) ?_
  refine lv_iload_n hx hb dX3_putPins_1 rfl (lv_at hl 1 rfl) ?_
  refine pf (ci := 3) (v := .int p1) (ty := .int) (C := RX3) (T := TX3) (N := 4) (ws' := [oX3 h_ v_outputs p1 v_state v_changes]) hx hb hts i_X3 tyX3_ok nmX3 hown hK hP hD hS 0 rfl rfl 1 (Nat.le_of_ble_eq_true rfl) f_13 rfl rfl (by decide +kernel) rfl rfl (Nat.le_of_ble_eq_true rfl) rfl dX3_putPins_2 (fun H locs hP hD hS => ?_)
  refine lv_aload_n hx hb dX3_putPins_5 rfl (lv_at hl 0 rfl) ?_
  obtain ⟨u1, hu1, hF⟩ := bd_el hF
  refine cVV (q0 := 0) (ci := 3) (As := []) (rest := []) (wr := []) (ws' := [oX3 h_ v_outputs p1 u1.1 u1.2]) ⟨hx, hb, hml, hown, hts⟩ (mX3_follow D h_ v_outputs p1 v_state v_changes u1 hu1) (cwV 0 hts gX3_putPins_X3_follow rfl rfl rfl (by decide +kernel) ⟨Nat.le_of_ble_eq_true rfl, Nat.le_of_ble_eq_true rfl⟩) hK hP hD hS hA [] [0] [] [0] rfl rfl rfl rfl rfl rfl rfl rfl rfl hl.1 rfl (Nat.le_of_ble_eq_true rfl) dX3_putPins_6 ⟨Nat.le_refl _, Nat.le_refl _⟩ (fun H locs hP hD hS => ?_)
  exact hret (p1, u1.1, u1.2) _ _ 9 _ hP hD hS hF dX3_putPins_9
def F_X3_tellState  (v_state : Int32) (v_changes : Int32) : Option (Int32 × Int32) := lt1 ((v_state <<< ((4 : Int32) &&& 31)) ||| v_changes) (fun x1 => some (x1, 0))
def wX3_tellState (h_ : Nat) (v_outputs : Int32) (v_pins : Int32) (v_state : Int32) (u : Int32 × Int32) : va_W := [oX3 h_ v_outputs v_pins v_state u.2]
set_option maxHeartbeats 4000000 in
set_option maxRecDepth 100000 in
theorem mX3_tellState {l : Launch} (D : va_G) (h_ : Nat) (v_outputs : Int32) (v_pins : Int32) (v_state : Int32) (v_changes : Int32) (u0 : Int32 × Int32) (hF : F_X3_tellState v_state v_changes = some u0) : MI l yX3_tellState wsX3_tellState { frames := 0, cells := 0, slots := 0, locals := 0 } D [] [.ref h_] [oX3 h_ v_outputs v_pins v_state v_changes] (wX3_tellState h_ v_outputs v_pins v_state u0) (u0.1) := by
  refine MI.ofW (cc := cX3_tellState) (maxL := 2) (ret := (some .int)) (lv := [(0, .ref h_)]) (by decide +kernel) rfl (Nat.le_of_ble_eq_true rfl) rfl ?_
  intro p e s m args below meth c A ls hx hb hr hml hts hown hlocks hA hK hP hD hS hl
  replace hown : s.vm.findClass RX3 = some m.cls := hown
  have i_X3 : ∀ w ∈ wsX30, w ∈ wsX3_tellState := by decide +kernel
  have f_16 := hts (.fieldLink RX3 16 "SerialPort$Modem" "state" "I") (by decide +kernel)
  have f_19 := hts (.fieldLink RX3 19 "SerialPort$Modem" "changes" "I") (by decide +kernel)
  have hret : ∀ (u : Int32 × Int32) (v : Int32) (H : Heap) (locs : List Loc) (pc : Nat) (ls : Array Slot), va_P D vwCl (wX3_tellState h_ v_outputs v_pins v_state u) H → va_D A (wX3_tellState h_ v_outputs v_pins v_state u) → va_S A s.heap H locs → some u = some u0 → v = u.1 → decode cX3_tellState pc = .ok (.ireturn, 1) → W p l e { frames := 0, cells := 0, slots := 0, locals := 0 } s m args below meth c H locs 0 0 (QI below D [] (wX3_tellState h_ v_outputs v_pins v_state u0) (u0.1) args s A) (F0 m pc ls [.int v]) := fun u v H locs pc ls h1 h2 h3 h4 h5 h6 => rI (wf := wX3_tellState h_ v_outputs v_pins v_state) (rf := fun u => u.1) hx hb hr hlocks hK h1 h2 h3 h4 h5 h6
  unfold F_X3_tellState at hF
  refine lv_aload_n hx hb dX3_tellState_0 rfl (lv_at hl 0 rfl) ?_
  refine va_get (D := D) (ci := 3) (v := .int v_state) (C := RX3) (T := TX3) (N := 4) hx hb hts i_X3 hown hK hP 0 rfl rfl 2 (Nat.le_of_ble_eq_true rfl) f_16 (fun _ h9 => h9) rfl dX3_tellState_1 ?_
  refine lv_iconst (v := 4) hx hb dX3_tellState_4 (by decide) ?_
  refine lv_ishl hx hb dX3_tellState_5 ?_
  refine lv_aload_n hx hb dX3_tellState_6 rfl (lv_at hl 0 rfl) ?_
  refine va_get (D := D) (ci := 3) (v := .int v_changes) (C := RX3) (T := TX3) (N := 4) hx hb hts i_X3 hown hK hP 0 rfl rfl 3 (Nat.le_of_ble_eq_true rfl) f_19 (fun _ h9 => h9) rfl dX3_tellState_7 ?_
  refine lv_ior hx hb dX3_tellState_10 ?_
  refine lv_topi (fun x1 ex1 => ?_)
  replace hF := lt1_x ex1 hF
  refine lv_istore_n (lv' := [(1, .int x1), (0, .ref h_)]) hx hb dX3_tellState_11 rfl hl (Nat.le_of_ble_eq_true rfl) rfl (fun ls hl => ?_)
  refine lv_aload_n hx hb dX3_tellState_12 rfl (lv_at hl 1 rfl) ?_
  refine lv_iconst (v := 0) hx hb dX3_tellState_13 (by decide) ?_
  refine pf (ci := 3) (v := .int 0) (ty := .int) (C := RX3) (T := TX3) (N := 4) (ws' := [oX3 h_ v_outputs v_pins v_state 0]) hx hb hts i_X3 tyX3_ok nmX3 hown hK hP hD hS 0 rfl rfl 3 (Nat.le_of_ble_eq_true rfl) f_19 rfl rfl (by decide +kernel) rfl rfl (Nat.le_of_ble_eq_true rfl) rfl dX3_tellState_14 (fun H locs hP hD hS => ?_)
  refine lv_iload_n hx hb dX3_tellState_17 rfl (lv_at hl 0 rfl) ?_
  exact hret (x1, 0) x1 _ _ 18 _ hP hD hS hF rfl dX3_tellState_18
def F_X6_clear  (v_control : Int32) (v_character : Int32) (v_beat : Int32) (v_busy : Bool) : Option (Int32 × Int32 × Int32 × Bool) := some (0, 0, 0, false)
def wX6_clear (h_ : Nat) (u : Int32 × Int32 × Int32 × Bool) : va_W := [oX6 h_ u.1 u.2.1 u.2.2.1 u.2.2.2]
set_option maxHeartbeats 4000000 in
set_option maxRecDepth 100000 in
theorem mX6_clear {l : Launch} (D : va_G) (h_ : Nat) (v_control : Int32) (v_character : Int32) (v_beat : Int32) (v_busy : Bool) (u0 : Int32 × Int32 × Int32 × Bool) (hF : F_X6_clear v_control v_character v_beat v_busy = some u0) : MV l yX6_clear wsX6_clear { frames := 0, cells := 0, slots := 0, locals := 0 } D [] [.ref h_] [oX6 h_ v_control v_character v_beat v_busy] (wX6_clear h_ u0) := by
  refine MV.ofW (cc := cX6_clear) (maxL := 1) (ret := none) (lv := [(0, .ref h_)]) (by decide +kernel) rfl (Nat.le_of_ble_eq_true rfl) rfl ?_
  intro p e s m args below meth c A ls hx hb hr hml hts hown hlocks hA hK hP hD hS hl
  replace hown : s.vm.findClass RX6 = some m.cls := hown
  have i_X6 : ∀ w ∈ wsX60, w ∈ wsX6_clear := by decide +kernel
  have f_9 := hts (.fieldLink RX6 9 "SerialPort$Sender" "control" "I") (by decide +kernel)
  have f_15 := hts (.fieldLink RX6 15 "SerialPort$Sender" "character" "I") (by decide +kernel)
  have f_18 := hts (.fieldLink RX6 18 "SerialPort$Sender" "beat" "I") (by decide +kernel)
  have f_21 := hts (.fieldLink RX6 21 "SerialPort$Sender" "busy" "Z") (by decide +kernel)
  have hret : ∀ (u : Int32 × Int32 × Int32 × Bool) (H : Heap) (locs : List Loc) (pc : Nat) (ls : Array Slot), va_P D vwCl (wX6_clear h_ u) H → va_D A (wX6_clear h_ u) → va_S A s.heap H locs → some u = some u0 → decode cX6_clear pc = .ok (.return_, 1) → W p l e { frames := 0, cells := 0, slots := 0, locals := 0 } s m args below meth c H locs 0 0 (QV below D [] (wX6_clear h_ u0) args s A) (F0 m pc ls []) := fun u H locs pc ls h1 h2 h3 h4 h5 => rV (wf := wX6_clear h_) hx hb hr hlocks hK h1 h2 h3 h4 h5
  unfold F_X6_clear at hF
  refine lv_aload_n hx hb dX6_clear_0 rfl (lv_at hl 0 rfl) ?_
  refine lv_iconst (v := 0) hx hb dX6_clear_1 (by decide) ?_
  refine pf (ci := 6) (v := .int 0) (ty := .int) (C := RX6) (T := TX6) (N := 4) (ws' := [oX6 h_ 0 v_character v_beat v_busy]) hx hb hts i_X6 tyX6_ok nmX6 hown hK hP hD hS 0 rfl rfl 0 (Nat.le_of_ble_eq_true rfl) f_9 rfl rfl (by decide +kernel) rfl rfl (Nat.le_of_ble_eq_true rfl) rfl dX6_clear_2 (fun H locs hP hD hS => ?_)
  refine lv_aload_n hx hb dX6_clear_5 rfl (lv_at hl 0 rfl) ?_
  refine lv_iconst (v := 0) hx hb dX6_clear_6 (by decide) ?_
  refine pf (ci := 6) (v := .int 0) (ty := .int) (C := RX6) (T := TX6) (N := 4) (ws' := [oX6 h_ 0 0 v_beat v_busy]) hx hb hts i_X6 tyX6_ok nmX6 hown hK hP hD hS 0 rfl rfl 1 (Nat.le_of_ble_eq_true rfl) f_15 rfl rfl (by decide +kernel) rfl rfl (Nat.le_of_ble_eq_true rfl) rfl dX6_clear_7 (fun H locs hP hD hS => ?_)
  refine lv_aload_n hx hb dX6_clear_10 rfl (lv_at hl 0 rfl) ?_
  refine lv_iconst (v := 0) hx hb dX6_clear_11 (by decide) ?_
  refine pf (ci := 6) (v := .int 0) (ty := .int) (C := RX6) (T := TX6) (N := 4) (ws' := [oX6 h_ 0 0 0 v_busy]) hx hb hts i_X6 tyX6_ok nmX6 hown hK hP hD hS 0 rfl rfl 2 (Nat.le_of_ble_eq_true rfl) f_18 rfl rfl (by decide +kernel) rfl rfl (Nat.le_of_ble_eq_true rfl) rfl dX6_clear_12 (fun H locs hP hD hS => ?_)
  refine lv_aload_n hx hb dX6_clear_15 rfl (lv_at hl 0 rfl) ?_
  refine lv_iconst (v := 0) hx hb dX6_clear_16 (by decide) ?_
  refine pf (ci := 6) (v := .int (bI false)) (ty := .boolean) (C := RX6) (T := TX6) (N := 4) (ws' := [oX6 h_ 0 0 0 false]) hx hb hts i_X6 tyX6_ok nmX6 hown hK hP hD hS 0 rfl rfl 3 (Nat.le_of_ble_eq_true rfl) f_21 rfl rfl (by decide +kernel) (nar_bI false) (fit_bI false) (Nat.le_of_ble_eq_true rfl) rfl dX6_clear_17 (fun H locs hP hD hS => ?_)
  exact hret (0, 0, 0, false) _ _ 20 _ hP hD hS hF dX6_clear_20
def F_X6_isBusy  (v_busy : Bool) : Option (Bool) := some v_busy
def wX6_isBusy (h_ : Nat) (v_control : Int32) (v_character : Int32) (v_beat : Int32) (v_busy : Bool) (_u : Bool) : va_W := [oX6 h_ v_control v_character v_beat v_busy]
set_option maxHeartbeats 4000000 in
set_option maxRecDepth 100000 in
theorem mX6_isBusy {l : Launch} (D : va_G) (h_ : Nat) (v_control : Int32) (v_character : Int32) (v_beat : Int32) (v_busy : Bool) (u0 : Bool) (hF : F_X6_isBusy v_busy = some u0) : MI l yX6_isBusy wsX6_isBusy { frames := 0, cells := 0, slots := 0, locals := 0 } D [] [.ref h_] [oX6 h_ v_control v_character v_beat v_busy] (wX6_isBusy h_ v_control v_character v_beat v_busy u0) (bI u0) := by
  refine MI.ofW (cc := cX6_isBusy) (maxL := 1) (ret := (some .boolean)) (lv := [(0, .ref h_)]) (by decide +kernel) rfl (Nat.le_of_ble_eq_true rfl) rfl ?_
  intro p e s m args below meth c A ls hx hb hr hml hts hown hlocks hA hK hP hD hS hl
  replace hown : s.vm.findClass RX6 = some m.cls := hown
  have i_X6 : ∀ w ∈ wsX60, w ∈ wsX6_isBusy := by decide +kernel
  have f_21 := hts (.fieldLink RX6 21 "SerialPort$Sender" "busy" "Z") (by decide +kernel)
  have hret : ∀ (u : Bool) (v : Int32) (H : Heap) (locs : List Loc) (pc : Nat) (ls : Array Slot), va_P D vwCl (wX6_isBusy h_ v_control v_character v_beat v_busy u) H → va_D A (wX6_isBusy h_ v_control v_character v_beat v_busy u) → va_S A s.heap H locs → some u = some u0 → v = bI u → decode cX6_isBusy pc = .ok (.ireturn, 1) → W p l e { frames := 0, cells := 0, slots := 0, locals := 0 } s m args below meth c H locs 0 0 (QI below D [] (wX6_isBusy h_ v_control v_character v_beat v_busy u0) (bI u0) args s A) (F0 m pc ls [.int v]) := fun u v H locs pc ls h1 h2 h3 h4 h5 h6 => rZ (wf := wX6_isBusy h_ v_control v_character v_beat v_busy) (rf := fun u => u) hx hb hr hlocks hK h1 h2 h3 h4 h5 h6
  unfold F_X6_isBusy at hF
  refine lv_aload_n hx hb dX6_isBusy_0 rfl (lv_at hl 0 rfl) ?_
  refine va_get (D := D) (ci := 6) (v := .int (bI v_busy)) (C := RX6) (T := TX6) (N := 4) hx hb hts i_X6 hown hK hP 0 rfl rfl 3 (Nat.le_of_ble_eq_true rfl) f_21 (fun _ h9 => h9) rfl dX6_isBusy_1 ?_
  exact hret v_busy (bI v_busy) _ _ 4 _ hP hD hS hF rfl dX6_isBusy_4
def F_X6_begin (p1 : Int32) (p2 : Int32) (v_control : Int32) (v_character : Int32) (v_beat : Int32) (v_busy : Bool) : Option (Int32 × Int32 × Int32 × Bool) := some (p1, p2, 0, true)
def wX6_begin (h_ : Nat) (u : Int32 × Int32 × Int32 × Bool) : va_W := [oX6 h_ u.1 u.2.1 u.2.2.1 u.2.2.2]
set_option maxHeartbeats 4000000 in
set_option maxRecDepth 100000 in
theorem mX6_begin {l : Launch} (D : va_G) (h_ : Nat) (v_control : Int32) (v_character : Int32) (v_beat : Int32) (v_busy : Bool) (p1 : Int32) (p2 : Int32) (u0 : Int32 × Int32 × Int32 × Bool) (hF : F_X6_begin p1 p2 v_control v_character v_beat v_busy = some u0) : MV l yX6_begin wsX6_begin { frames := 0, cells := 0, slots := 0, locals := 0 } D [] [.ref h_, .int p1, .int p2] [oX6 h_ v_control v_character v_beat v_busy] (wX6_begin h_ u0) := by
  refine MV.ofW (cc := cX6_begin) (maxL := 3) (ret := none) (lv := [(0, .ref h_), (1, .int p1), (2, .int p2)]) (by decide +kernel) rfl (Nat.le_of_ble_eq_true rfl) rfl ?_
  intro p e s m args below meth c A ls hx hb hr hml hts hown hlocks hA hK hP hD hS hl
  replace hown : s.vm.findClass RX6 = some m.cls := hown
  have i_X6 : ∀ w ∈ wsX60, w ∈ wsX6_begin := by decide +kernel
  have f_9 := hts (.fieldLink RX6 9 "SerialPort$Sender" "control" "I") (by decide +kernel)
  have f_15 := hts (.fieldLink RX6 15 "SerialPort$Sender" "character" "I") (by decide +kernel)
  have f_18 := hts (.fieldLink RX6 18 "SerialPort$Sender" "beat" "I") (by decide +kernel)
  have f_21 := hts (.fieldLink RX6 21 "SerialPort$Sender" "busy" "Z") (by decide +kernel)
  have hret : ∀ (u : Int32 × Int32 × Int32 × Bool) (H : Heap) (locs : List Loc) (pc : Nat) (ls : Array Slot), va_P D vwCl (wX6_begin h_ u) H → va_D A (wX6_begin h_ u) → va_S A s.heap H locs → some u = some u0 → decode cX6_begin pc = .ok (.return_, 1) → W p l e { frames := 0, cells := 0, slots := 0, locals := 0 } s m args below meth c H locs 0 0 (QV below D [] (wX6_begin h_ u0) args s A) (F0 m pc ls []) := fun u H locs pc ls h1 h2 h3 h4 h5 => rV (wf := wX6_begin h_) hx hb hr hlocks hK h1 h2 h3 h4 h5
  unfold F_X6_begin at hF
  refine lv_aload_n hx hb dX6_begin_0 rfl (lv_at hl 0 rfl) ?_
  refine lv_iload_n hx hb dX6_begin_1 rfl (lv_at hl 1 rfl) ?_
  refine pf (ci := 6) (v := .int p1) (ty := .int) (C := RX6) (T := TX6) (N := 4) (ws' := [oX6 h_ p1 v_character v_beat v_busy]) hx hb hts i_X6 tyX6_ok nmX6 hown hK hP hD hS 0 rfl rfl 0 (Nat.le_of_ble_eq_true rfl) f_9 rfl rfl (by decide +kernel) rfl rfl (Nat.le_of_ble_eq_true rfl) rfl dX6_begin_2 (fun H locs hP hD hS => ?_)
  refine lv_aload_n hx hb dX6_begin_5 rfl (lv_at hl 0 rfl) ?_
  refine lv_iload_n hx hb dX6_begin_6 rfl (lv_at hl 2 rfl) ?_
  refine pf (ci := 6) (v := .int p2) (ty := .int) (C := RX6) (T := TX6) (N := 4) (ws' := [oX6 h_ p1 p2 v_beat v_busy]) hx hb hts i_X6 tyX6_ok nmX6 hown hK hP hD hS 0 rfl rfl 1 (Nat.le_of_ble_eq_true rfl) f_15 rfl rfl (by decide +kernel) rfl rfl (Nat.le_of_ble_eq_true rfl) rfl dX6_begin_7 (fun H locs hP hD hS => ?_)
  refine lv_aload_n hx hb dX6_begin_10 rfl (lv_at hl 0 rfl) ?_
  refine lv_iconst (v := 0) hx hb dX6_begin_11 (by decide) ?_
  refine pf (ci := 6) (v := .int 0) (ty := .int) (C := RX6) (T := TX6) (N := 4) (ws' := [oX6 h_ p1 p2 0 v_busy]) hx hb hts i_X6 tyX6_ok nmX6 hown hK hP hD hS 0 rfl rfl 2 (Nat.le_of_ble_eq_true rfl) f_18 rfl rfl (by decide +kernel) rfl rfl (Nat.le_of_ble_eq_true rfl) rfl dX6_begin_12 (fun H locs hP hD hS => ?_)
  refine lv_aload_n hx hb dX6_begin_15 rfl (lv_at hl 0 rfl) ?_
  refine lv_iconst (v := 1) hx hb dX6_begin_16 (by decide) ?_
  refine pf (ci := 6) (v := .int (bI true)) (ty := .boolean) (C := RX6) (T := TX6) (N := 4) (ws' := [oX6 h_ p1 p2 0 true]) hx hb hts i_X6 tyX6_ok nmX6 hown hK hP hD hS 0 rfl rfl 3 (Nat.le_of_ble_eq_true rfl) f_21 rfl rfl (by decide +kernel) (nar_bI true) (fit_bI true) (Nat.le_of_ble_eq_true rfl) rfl dX6_begin_17 (fun H locs hP hD hS => ?_)
  exact hret (p1, p2, 0, true) _ _ 20 _ hP hD hS hF dX6_begin_20
def F_X6_next  (v_control : Int32) (v_character : Int32) (v_beat : Int32) (v_busy : Bool) : Option (Bool × Int32 × Bool) := bt v_busy (bd (F_X7_pieceIsHigh v_control v_character (v_beat / 16)) (fun u2 => lt1 (v_beat + 1) (fun x3 => bd (F_X7_beats v_control) (fun u4 => if u4 ≤ x3 then (some (u2, x3, false)) else (some (u2, x3, true)))))) (some (true, v_beat, v_busy))
def wX6_next (h_ : Nat) (v_control : Int32) (v_character : Int32) (u : Bool × Int32 × Bool) : va_W := [oX6 h_ v_control v_character u.2.1 u.2.2]
set_option maxHeartbeats 4000000 in
set_option maxRecDepth 100000 in
theorem mX6_next {l : Launch} (D : va_G) (h_ : Nat) (v_control : Int32) (v_character : Int32) (v_beat : Int32) (v_busy : Bool) (u0 : Bool × Int32 × Bool) (hF : F_X6_next v_control v_character v_beat v_busy = some u0) : MI l yX6_next wsX6_next { frames := 3, cells := 0, slots := 0, locals := 67 } D [] [.ref h_] [oX6 h_ v_control v_character v_beat v_busy] (wX6_next h_ v_control v_character u0) (bI u0.1) := by
  refine MI.ofW (cc := cX6_next) (maxL := 2) (ret := (some .boolean)) (lv := [(0, .ref h_)]) (by decide +kernel) rfl (Nat.le_of_ble_eq_true rfl) rfl ?_
  intro p e s m args below meth c A ls hx hb hr hml hts hown hlocks hA hK hP hD hS hl
  replace hown : s.vm.findClass RX6 = some m.cls := hown
  have i_X6 : ∀ w ∈ wsX60, w ∈ wsX6_next := by decide +kernel
  have f_9 := hts (.fieldLink RX6 9 "SerialPort$Sender" "control" "I") (by decide +kernel)
  have f_15 := hts (.fieldLink RX6 15 "SerialPort$Sender" "character" "I") (by decide +kernel)
  have f_18 := hts (.fieldLink RX6 18 "SerialPort$Sender" "beat" "I") (by decide +kernel)
  have f_21 := hts (.fieldLink RX6 21 "SerialPort$Sender" "busy" "Z") (by decide +kernel)
  have hret : ∀ (u : Bool × Int32 × Bool) (v : Int32) (H : Heap) (locs : List Loc) (pc : Nat) (ls : Array Slot), va_P D vwCl (wX6_next h_ v_control v_character u) H → va_D A (wX6_next h_ v_control v_character u) → va_S A s.heap H locs → some u = some u0 → v = bI u.1 → decode cX6_next pc = .ok (.ireturn, 1) → W p l e { frames := 3, cells := 0, slots := 0, locals := 67 } s m args below meth c H locs 0 0 (QI below D [] (wX6_next h_ v_control v_character u0) (bI u0.1) args s A) (F0 m pc ls [.int v]) := fun u v H locs pc ls h1 h2 h3 h4 h5 h6 => rZ (wf := wX6_next h_ v_control v_character) (rf := fun u => u.1) hx hb hr hlocks hK h1 h2 h3 h4 h5 h6
  unfold F_X6_next at hF
  refine lv_aload_n hx hb dX6_next_0 rfl (lv_at hl 0 rfl) ?_
  refine va_get (D := D) (ci := 6) (v := .int (bI v_busy)) (C := RX6) (T := TX6) (N := 4) hx hb hts i_X6 hown hK hP 0 rfl rfl 3 (Nat.le_of_ble_eq_true rfl) f_21 (fun _ h9 => h9) rfl dX6_next_1 ?_
  refine lv_if_ne (tgt := 9) hx hb dX6_next_4 (by decide) (fun c1 => ?_) (fun c1 => ?_)
  · replace hF := bt_t (bI_n0 c1) hF
    refine lv_aload_n hx hb dX6_next_9 rfl (lv_at hl 0 rfl) ?_
    refine va_get (D := D) (ci := 6) (v := .int v_control) (C := RX6) (T := TX6) (N := 4) hx hb hts i_X6 hown hK hP 0 rfl rfl 0 (Nat.le_of_ble_eq_true rfl) f_9 (fun _ h9 => h9) rfl dX6_next_10 ?_
    refine lv_aload_n hx hb dX6_next_13 rfl (lv_at hl 0 rfl) ?_
    refine va_get (D := D) (ci := 6) (v := .int v_character) (C := RX6) (T := TX6) (N := 4) hx hb hts i_X6 hown hK hP 0 rfl rfl 1 (Nat.le_of_ble_eq_true rfl) f_15 (fun _ h9 => h9) rfl dX6_next_14 ?_
    refine lv_aload_n hx hb dX6_next_17 rfl (lv_at hl 0 rfl) ?_
    refine va_get (D := D) (ci := 6) (v := .int v_beat) (C := RX6) (T := TX6) (N := 4) hx hb hts i_X6 hown hK hP 0 rfl rfl 2 (Nat.le_of_ble_eq_true rfl) f_18 (fun _ h9 => h9) rfl dX6_next_18 ?_
    refine lv_bipush (v := 16) hx hb dX6_next_21 (by decide) ?_
    refine lv_idiv hx hb dX6_next_23 (by decide) ?_
    obtain ⟨u2, hu2, hF⟩ := bd_el hF
    refine cSI (As := [.int v_control, .int v_character, .int (v_beat / 16)]) (rest := []) (wr := [oX6 h_ v_control v_character v_beat v_busy]) (ws' := [oX6 h_ v_control v_character v_beat v_busy]) (rv := bI u2) ⟨hx, hb, hml, hown, hts⟩ (mX7_pieceIsHigh D v_control v_character (v_beat / 16) u2 hu2) (va_cwS 3 hts gX6_next_X7_pieceIsHigh rfl rfl rfl (by decide +kernel) ⟨Nat.le_of_ble_eq_true rfl, Nat.le_of_ble_eq_true rfl⟩) hK hP hD hS hA [] [] [0] [0] rfl rfl rfl rfl rfl rfl hl.1 rfl (Nat.le_of_ble_eq_true rfl) rfl dX6_next_24 ⟨Nat.le_refl _, Nat.le_refl _⟩ (fun H locs hP hD hS => ?_)
    refine lv_istore_n (lv' := [(1, .int (bI u2)), (0, .ref h_)]) hx hb dX6_next_27 rfl hl (Nat.le_of_ble_eq_true rfl) rfl (fun ls hl => ?_)
    refine lv_aload_n hx hb dX6_next_28 rfl (lv_at hl 1 rfl) ?_
    refine lv_dup hx hb dX6_next_29 rfl ?_
    refine va_get (D := D) (ci := 6) (v := .int v_beat) (C := RX6) (T := TX6) (N := 4) hx hb hts i_X6 hown hK hP 0 rfl rfl 2 (Nat.le_of_ble_eq_true rfl) f_18 (fun _ h9 => h9) rfl dX6_next_30 ?_
    refine lv_iconst (v := 1) hx hb dX6_next_33 (by decide) ?_
    refine lv_iadd hx hb dX6_next_34 ?_
    refine lv_topi (fun x3 ex3 => ?_)
    replace hF := lt1_x ex3 hF
    refine pf (ci := 6) (v := .int x3) (ty := .int) (C := RX6) (T := TX6) (N := 4) (ws' := [oX6 h_ v_control v_character x3 v_busy]) hx hb hts i_X6 tyX6_ok nmX6 hown hK hP hD hS 0 rfl rfl 2 (Nat.le_of_ble_eq_true rfl) f_18 rfl rfl (by decide +kernel) rfl rfl (Nat.le_of_ble_eq_true rfl) rfl dX6_next_35 (fun H locs hP hD hS => ?_)
    refine lv_aload_n hx hb dX6_next_38 rfl (lv_at hl 1 rfl) ?_
    refine lv_aload_n hx hb dX6_next_39 rfl (lv_at hl 1 rfl) ?_
    refine va_get (D := D) (ci := 6) (v := .int x3) (C := RX6) (T := TX6) (N := 4) hx hb hts i_X6 hown hK hP 0 rfl rfl 2 (Nat.le_of_ble_eq_true rfl) f_18 (fun _ h9 => h9) rfl dX6_next_40 ?_
    refine lv_aload_n hx hb dX6_next_43 rfl (lv_at hl 1 rfl) ?_
    refine va_get (D := D) (ci := 6) (v := .int v_control) (C := RX6) (T := TX6) (N := 4) hx hb hts i_X6 hown hK hP 0 rfl rfl 0 (Nat.le_of_ble_eq_true rfl) f_9 (fun _ h9 => h9) rfl dX6_next_44 ?_
    obtain ⟨u4, hu4, hF⟩ := bd_el hF
    refine cSI (As := [.int v_control]) (rest := [.int x3, .ref h_]) (wr := [oX6 h_ v_control v_character x3 v_busy]) (ws' := [oX6 h_ v_control v_character x3 v_busy]) (rv := u4) ⟨hx, hb, hml, hown, hts⟩ (mX7_beats D v_control u4 hu4) (va_cwS 1 hts gX6_next_X7_beats rfl rfl rfl (by decide +kernel) ⟨Nat.le_of_ble_eq_true rfl, Nat.le_of_ble_eq_true rfl⟩) hK hP hD hS hA [] [] [0] [0] rfl rfl rfl rfl rfl rfl hl.1 rfl (Nat.le_of_ble_eq_true rfl) rfl dX6_next_47 ⟨Nat.le_refl _, Nat.le_refl _⟩ (fun H locs hP hD hS => ?_)
    refine lv_icmp_ge (tgt := 57) hx hb dX6_next_50 (by decide) (fun c5 => ?_) (fun c5 => ?_)
    · replace hF := it_t c5 hF
      refine lv_iconst (v := 0) hx hb dX6_next_57 (by decide) ?_
      refine pf (ci := 6) (v := .int (bI false)) (ty := .boolean) (C := RX6) (T := TX6) (N := 4) (ws' := [oX6 h_ v_control v_character x3 false]) hx hb hts i_X6 tyX6_ok nmX6 hown hK hP hD hS 0 rfl rfl 3 (Nat.le_of_ble_eq_true rfl) f_21 rfl rfl (by decide +kernel) (nar_bI false) (fit_bI false) (Nat.le_of_ble_eq_true rfl) rfl dX6_next_58 (fun H locs hP hD hS => ?_)
      refine lv_iload_n hx hb dX6_next_61 rfl (lv_at hl 0 rfl) ?_
      exact hret (u2, x3, false) (bI u2) _ _ 62 _ hP hD hS hF rfl dX6_next_62
    · replace hF := it_f c5 hF
      refine lv_iconst (v := 1) hx hb dX6_next_53 (by decide) ?_
      refine lv_goto (tgt := 58) hx hb dX6_next_54 (by decide) ?_
      refine pf (ci := 6) (v := .int (bI true)) (ty := .boolean) (C := RX6) (T := TX6) (N := 4) (ws' := [oX6 h_ v_control v_character x3 true]) hx hb hts i_X6 tyX6_ok nmX6 hown hK hP hD hS 0 rfl rfl 3 (Nat.le_of_ble_eq_true rfl) f_21 rfl rfl (by decide +kernel) (nar_bI true) (fit_bI true) (Nat.le_of_ble_eq_true rfl) rfl dX6_next_58 (fun H locs hP hD hS => ?_)
      refine lv_iload_n hx hb dX6_next_61 rfl (lv_at hl 0 rfl) ?_
      exact hret (u2, x3, true) (bI u2) _ _ 62 _ hP hD hS hF rfl dX6_next_62
  · replace hF := bt_f (bI_0 c1) hF
    refine lv_iconst (v := 1) hx hb dX6_next_7 (by decide) ?_
    exact hret (true, v_beat, v_busy) 1 _ _ 8 _ hP hD hS hF rfl dX6_next_8
def F_X4_begin (p1 : Int32) (v_control : Int32) (v_character : Int32) (v_beat : Int32) (v_busy : Bool) (v_wasHigh : Bool) (v_parityHigh : Bool) (v_someHigh : Bool) : Option (Int32 × Int32 × Int32 × Bool × Bool × Bool × Bool) := some (p1, 0, 0, true, false, false, false)
def wX4_begin (h_ : Nat) (u : Int32 × Int32 × Int32 × Bool × Bool × Bool × Bool) : va_W := [oX4 h_ u.1 u.2.1 u.2.2.1 u.2.2.2.1 u.2.2.2.2.1 u.2.2.2.2.2.1 u.2.2.2.2.2.2]
set_option maxHeartbeats 4000000 in
set_option maxRecDepth 100000 in
theorem mX4_begin {l : Launch} (D : va_G) (h_ : Nat) (v_control : Int32) (v_character : Int32) (v_beat : Int32) (v_busy : Bool) (v_wasHigh : Bool) (v_parityHigh : Bool) (v_someHigh : Bool) (p1 : Int32) (u0 : Int32 × Int32 × Int32 × Bool × Bool × Bool × Bool) (hF : F_X4_begin p1 v_control v_character v_beat v_busy v_wasHigh v_parityHigh v_someHigh = some u0) : MV l yX4_begin wsX4_begin { frames := 0, cells := 0, slots := 0, locals := 0 } D [] [.ref h_, .int p1] [oX4 h_ v_control v_character v_beat v_busy v_wasHigh v_parityHigh v_someHigh] (wX4_begin h_ u0) := by
  refine MV.ofW (cc := cX4_begin) (maxL := 2) (ret := none) (lv := [(0, .ref h_), (1, .int p1)]) (by decide +kernel) rfl (Nat.le_of_ble_eq_true rfl) rfl ?_
  intro p e s m args below meth c A ls hx hb hr hml hts hown hlocks hA hK hP hD hS hl
  replace hown : s.vm.findClass RX4 = some m.cls := hown
  have i_X4 : ∀ w ∈ wsX40, w ∈ wsX4_begin := by decide +kernel
  have f_15 := hts (.fieldLink RX4 15 "SerialPort$Receiver" "busy" "Z") (by decide +kernel)
  have f_19 := hts (.fieldLink RX4 19 "SerialPort$Receiver" "wasHigh" "Z") (by decide +kernel)
  have f_26 := hts (.fieldLink RX4 26 "SerialPort$Receiver" "beat" "I") (by decide +kernel)
  have f_37 := hts (.fieldLink RX4 37 "SerialPort$Receiver" "control" "I") (by decide +kernel)
  have f_40 := hts (.fieldLink RX4 40 "SerialPort$Receiver" "character" "I") (by decide +kernel)
  have f_43 := hts (.fieldLink RX4 43 "SerialPort$Receiver" "parityHigh" "Z") (by decide +kernel)
  have f_46 := hts (.fieldLink RX4 46 "SerialPort$Receiver" "someHigh" "Z") (by decide +kernel)
  have hret : ∀ (u : Int32 × Int32 × Int32 × Bool × Bool × Bool × Bool) (H : Heap) (locs : List Loc) (pc : Nat) (ls : Array Slot), va_P D vwCl (wX4_begin h_ u) H → va_D A (wX4_begin h_ u) → va_S A s.heap H locs → some u = some u0 → decode cX4_begin pc = .ok (.return_, 1) → W p l e { frames := 0, cells := 0, slots := 0, locals := 0 } s m args below meth c H locs 0 0 (QV below D [] (wX4_begin h_ u0) args s A) (F0 m pc ls []) := fun u H locs pc ls h1 h2 h3 h4 h5 => rV (wf := wX4_begin h_) hx hb hr hlocks hK h1 h2 h3 h4 h5
  unfold F_X4_begin at hF
  refine lv_aload_n hx hb dX4_begin_0 rfl (lv_at hl 0 rfl) ?_
  refine lv_iload_n hx hb dX4_begin_1 rfl (lv_at hl 1 rfl) ?_
  refine pf (ci := 4) (v := .int p1) (ty := .int) (C := RX4) (T := TX4) (N := 7) (ws' := [oX4 h_ p1 v_character v_beat v_busy v_wasHigh v_parityHigh v_someHigh]) hx hb hts i_X4 tyX4_ok nmX4 hown hK hP hD hS 0 rfl rfl 0 (Nat.le_of_ble_eq_true rfl) f_37 rfl rfl (by decide +kernel) rfl rfl (Nat.le_of_ble_eq_true rfl) rfl dX4_begin_2 (fun H locs hP hD hS => ?_)
  refine lv_aload_n hx hb dX4_begin_5 rfl (lv_at hl 0 rfl) ?_
  refine lv_iconst (v := 0) hx hb dX4_begin_6 (by decide) ?_
  refine pf (ci := 4) (v := .int 0) (ty := .int) (C := RX4) (T := TX4) (N := 7) (ws' := [oX4 h_ p1 0 v_beat v_busy v_wasHigh v_parityHigh v_someHigh]) hx hb hts i_X4 tyX4_ok nmX4 hown hK hP hD hS 0 rfl rfl 1 (Nat.le_of_ble_eq_true rfl) f_40 rfl rfl (by decide +kernel) rfl rfl (Nat.le_of_ble_eq_true rfl) rfl dX4_begin_7 (fun H locs hP hD hS => ?_)
  refine lv_aload_n hx hb dX4_begin_10 rfl (lv_at hl 0 rfl) ?_
  refine lv_iconst (v := 0) hx hb dX4_begin_11 (by decide) ?_
  refine pf (ci := 4) (v := .int 0) (ty := .int) (C := RX4) (T := TX4) (N := 7) (ws' := [oX4 h_ p1 0 0 v_busy v_wasHigh v_parityHigh v_someHigh]) hx hb hts i_X4 tyX4_ok nmX4 hown hK hP hD hS 0 rfl rfl 2 (Nat.le_of_ble_eq_true rfl) f_26 rfl rfl (by decide +kernel) rfl rfl (Nat.le_of_ble_eq_true rfl) rfl dX4_begin_12 (fun H locs hP hD hS => ?_)
  refine lv_aload_n hx hb dX4_begin_15 rfl (lv_at hl 0 rfl) ?_
  refine lv_iconst (v := 1) hx hb dX4_begin_16 (by decide) ?_
  refine pf (ci := 4) (v := .int (bI true)) (ty := .boolean) (C := RX4) (T := TX4) (N := 7) (ws' := [oX4 h_ p1 0 0 true v_wasHigh v_parityHigh v_someHigh]) hx hb hts i_X4 tyX4_ok nmX4 hown hK hP hD hS 0 rfl rfl 3 (Nat.le_of_ble_eq_true rfl) f_15 rfl rfl (by decide +kernel) (nar_bI true) (fit_bI true) (Nat.le_of_ble_eq_true rfl) rfl dX4_begin_17 (fun H locs hP hD hS => ?_)
  refine lv_aload_n hx hb dX4_begin_20 rfl (lv_at hl 0 rfl) ?_
  refine lv_iconst (v := 0) hx hb dX4_begin_21 (by decide) ?_
  refine pf (ci := 4) (v := .int (bI false)) (ty := .boolean) (C := RX4) (T := TX4) (N := 7) (ws' := [oX4 h_ p1 0 0 true false v_parityHigh v_someHigh]) hx hb hts i_X4 tyX4_ok nmX4 hown hK hP hD hS 0 rfl rfl 4 (Nat.le_of_ble_eq_true rfl) f_19 rfl rfl (by decide +kernel) (nar_bI false) (fit_bI false) (Nat.le_of_ble_eq_true rfl) rfl dX4_begin_22 (fun H locs hP hD hS => ?_)
  refine lv_aload_n hx hb dX4_begin_25 rfl (lv_at hl 0 rfl) ?_
  refine lv_iconst (v := 0) hx hb dX4_begin_26 (by decide) ?_
  refine pf (ci := 4) (v := .int (bI false)) (ty := .boolean) (C := RX4) (T := TX4) (N := 7) (ws' := [oX4 h_ p1 0 0 true false false v_someHigh]) hx hb hts i_X4 tyX4_ok nmX4 hown hK hP hD hS 0 rfl rfl 5 (Nat.le_of_ble_eq_true rfl) f_43 rfl rfl (by decide +kernel) (nar_bI false) (fit_bI false) (Nat.le_of_ble_eq_true rfl) rfl dX4_begin_27 (fun H locs hP hD hS => ?_)
  refine lv_aload_n hx hb dX4_begin_30 rfl (lv_at hl 0 rfl) ?_
  refine lv_iconst (v := 0) hx hb dX4_begin_31 (by decide) ?_
  refine pf (ci := 4) (v := .int (bI false)) (ty := .boolean) (C := RX4) (T := TX4) (N := 7) (ws' := [oX4 h_ p1 0 0 true false false false]) hx hb hts i_X4 tyX4_ok nmX4 hown hK hP hD hS 0 rfl rfl 6 (Nat.le_of_ble_eq_true rfl) f_46 rfl rfl (by decide +kernel) (nar_bI false) (fit_bI false) (Nat.le_of_ble_eq_true rfl) rfl dX4_begin_32 (fun H locs hP hD hS => ?_)
  exact hret (p1, 0, 0, true, false, false, false) _ _ 35 _ hP hD hS hF dX4_begin_35
def F_X4_clear  (v_control : Int32) (v_character : Int32) (v_beat : Int32) (v_busy : Bool) (v_wasHigh : Bool) (v_parityHigh : Bool) (v_someHigh : Bool) : Option (Int32 × Int32 × Int32 × Bool × Bool × Bool × Bool) := bd (F_X4_begin 0 v_control v_character v_beat v_busy v_wasHigh v_parityHigh v_someHigh) (fun u1 => some (u1.1, u1.2.1, u1.2.2.1, false, true, u1.2.2.2.2.2.1, u1.2.2.2.2.2.2))
def wX4_clear (h_ : Nat) (u : Int32 × Int32 × Int32 × Bool × Bool × Bool × Bool) : va_W := [oX4 h_ u.1 u.2.1 u.2.2.1 u.2.2.2.1 u.2.2.2.2.1 u.2.2.2.2.2.1 u.2.2.2.2.2.2]
set_option maxHeartbeats 4000000 in
set_option maxRecDepth 100000 in
theorem mX4_clear {l : Launch} (D : va_G) (h_ : Nat) (v_control : Int32) (v_character : Int32) (v_beat : Int32) (v_busy : Bool) (v_wasHigh : Bool) (v_parityHigh : Bool) (v_someHigh : Bool) (u0 : Int32 × Int32 × Int32 × Bool × Bool × Bool × Bool) (hF : F_X4_clear v_control v_character v_beat v_busy v_wasHigh v_parityHigh v_someHigh = some u0) : MV l yX4_clear wsX4_clear { frames := 1, cells := 0, slots := 0, locals := 21 } D [] [.ref h_] [oX4 h_ v_control v_character v_beat v_busy v_wasHigh v_parityHigh v_someHigh] (wX4_clear h_ u0) := by
  refine MV.ofW (cc := cX4_clear) (maxL := 1) (ret := none) (lv := [(0, .ref h_)]) (by decide +kernel) rfl (Nat.le_of_ble_eq_true rfl) rfl ?_
  intro p e s m args below meth c A ls hx hb hr hml hts hown hlocks hA hK hP hD hS hl
  replace hown : s.vm.findClass RX4 = some m.cls := hown
  have i_X4 : ∀ w ∈ wsX40, w ∈ wsX4_clear := by decide +kernel
  have f_15 := hts (.fieldLink RX4 15 "SerialPort$Receiver" "busy" "Z") (by decide +kernel)
  have f_19 := hts (.fieldLink RX4 19 "SerialPort$Receiver" "wasHigh" "Z") (by decide +kernel)
  have hret : ∀ (u : Int32 × Int32 × Int32 × Bool × Bool × Bool × Bool) (H : Heap) (locs : List Loc) (pc : Nat) (ls : Array Slot), va_P D vwCl (wX4_clear h_ u) H → va_D A (wX4_clear h_ u) → va_S A s.heap H locs → some u = some u0 → decode cX4_clear pc = .ok (.return_, 1) → W p l e { frames := 1, cells := 0, slots := 0, locals := 21 } s m args below meth c H locs 0 0 (QV below D [] (wX4_clear h_ u0) args s A) (F0 m pc ls []) := fun u H locs pc ls h1 h2 h3 h4 h5 => rV (wf := wX4_clear h_) hx hb hr hlocks hK h1 h2 h3 h4 h5
  unfold F_X4_clear at hF
  refine lv_aload_n hx hb dX4_clear_0 rfl (lv_at hl 0 rfl) ?_
  refine lv_iconst (v := 0) hx hb dX4_clear_1 (by decide) ?_
  obtain ⟨u1, hu1, hF⟩ := bd_el hF
  refine cVV (q0 := 0) (ci := 4) (As := [.int 0]) (rest := []) (wr := []) (ws' := [oX4 h_ u1.1 u1.2.1 u1.2.2.1 u1.2.2.2.1 u1.2.2.2.2.1 u1.2.2.2.2.2.1 u1.2.2.2.2.2.2]) ⟨hx, hb, hml, hown, hts⟩ (mX4_begin D h_ v_control v_character v_beat v_busy v_wasHigh v_parityHigh v_someHigh 0 u1 hu1) (cwV 1 hts gX4_clear_X4_begin rfl rfl rfl (by decide +kernel) ⟨Nat.le_of_ble_eq_true rfl, Nat.le_of_ble_eq_true rfl⟩) hK hP hD hS hA [] [0] [] [0] rfl rfl rfl rfl rfl rfl rfl rfl rfl hl.1 rfl (Nat.le_of_ble_eq_true rfl) dX4_clear_2 ⟨Nat.le_refl _, Nat.le_refl _⟩ (fun H locs hP hD hS => ?_)
  refine lv_aload_n hx hb dX4_clear_5 rfl (lv_at hl 0 rfl) ?_
  refine lv_iconst (v := 0) hx hb dX4_clear_6 (by decide) ?_
  refine pf (ci := 4) (v := .int (bI false)) (ty := .boolean) (C := RX4) (T := TX4) (N := 7) (ws' := [oX4 h_ u1.1 u1.2.1 u1.2.2.1 false u1.2.2.2.2.1 u1.2.2.2.2.2.1 u1.2.2.2.2.2.2]) hx hb hts i_X4 tyX4_ok nmX4 hown hK hP hD hS 0 rfl rfl 3 (Nat.le_of_ble_eq_true rfl) f_15 rfl rfl (by decide +kernel) (nar_bI false) (fit_bI false) (Nat.le_of_ble_eq_true rfl) rfl dX4_clear_7 (fun H locs hP hD hS => ?_)
  refine lv_aload_n hx hb dX4_clear_10 rfl (lv_at hl 0 rfl) ?_
  refine lv_iconst (v := 1) hx hb dX4_clear_11 (by decide) ?_
  refine pf (ci := 4) (v := .int (bI true)) (ty := .boolean) (C := RX4) (T := TX4) (N := 7) (ws' := [oX4 h_ u1.1 u1.2.1 u1.2.2.1 false true u1.2.2.2.2.2.1 u1.2.2.2.2.2.2]) hx hb hts i_X4 tyX4_ok nmX4 hown hK hP hD hS 0 rfl rfl 4 (Nat.le_of_ble_eq_true rfl) f_19 rfl rfl (by decide +kernel) (nar_bI true) (fit_bI true) (Nat.le_of_ble_eq_true rfl) rfl dX4_clear_12 (fun H locs hP hD hS => ?_)
  exact hret (u1.1, u1.2.1, u1.2.2.1, false, true, u1.2.2.2.2.2.1, u1.2.2.2.2.2.2) _ _ 15 _ hP hD hS hF dX4_clear_15
def F_X4_isBusy  (v_busy : Bool) : Option (Bool) := some v_busy
def wX4_isBusy (h_ : Nat) (v_control : Int32) (v_character : Int32) (v_beat : Int32) (v_busy : Bool) (v_wasHigh : Bool) (v_parityHigh : Bool) (v_someHigh : Bool) (_u : Bool) : va_W := [oX4 h_ v_control v_character v_beat v_busy v_wasHigh v_parityHigh v_someHigh]
set_option maxHeartbeats 4000000 in
set_option maxRecDepth 100000 in
theorem mX4_isBusy {l : Launch} (D : va_G) (h_ : Nat) (v_control : Int32) (v_character : Int32) (v_beat : Int32) (v_busy : Bool) (v_wasHigh : Bool) (v_parityHigh : Bool) (v_someHigh : Bool) (u0 : Bool) (hF : F_X4_isBusy v_busy = some u0) : MI l yX4_isBusy wsX4_isBusy { frames := 0, cells := 0, slots := 0, locals := 0 } D [] [.ref h_] [oX4 h_ v_control v_character v_beat v_busy v_wasHigh v_parityHigh v_someHigh] (wX4_isBusy h_ v_control v_character v_beat v_busy v_wasHigh v_parityHigh v_someHigh u0) (bI u0) := by
  refine MI.ofW (cc := cX4_isBusy) (maxL := 1) (ret := (some .boolean)) (lv := [(0, .ref h_)]) (by decide +kernel) rfl (Nat.le_of_ble_eq_true rfl) rfl ?_
  intro p e s m args below meth c A ls hx hb hr hml hts hown hlocks hA hK hP hD hS hl
  replace hown : s.vm.findClass RX4 = some m.cls := hown
  have i_X4 : ∀ w ∈ wsX40, w ∈ wsX4_isBusy := by decide +kernel
  have f_15 := hts (.fieldLink RX4 15 "SerialPort$Receiver" "busy" "Z") (by decide +kernel)
  have hret : ∀ (u : Bool) (v : Int32) (H : Heap) (locs : List Loc) (pc : Nat) (ls : Array Slot), va_P D vwCl (wX4_isBusy h_ v_control v_character v_beat v_busy v_wasHigh v_parityHigh v_someHigh u) H → va_D A (wX4_isBusy h_ v_control v_character v_beat v_busy v_wasHigh v_parityHigh v_someHigh u) → va_S A s.heap H locs → some u = some u0 → v = bI u → decode cX4_isBusy pc = .ok (.ireturn, 1) → W p l e { frames := 0, cells := 0, slots := 0, locals := 0 } s m args below meth c H locs 0 0 (QI below D [] (wX4_isBusy h_ v_control v_character v_beat v_busy v_wasHigh v_parityHigh v_someHigh u0) (bI u0) args s A) (F0 m pc ls [.int v]) := fun u v H locs pc ls h1 h2 h3 h4 h5 h6 => rZ (wf := wX4_isBusy h_ v_control v_character v_beat v_busy v_wasHigh v_parityHigh v_someHigh) (rf := fun u => u) hx hb hr hlocks hK h1 h2 h3 h4 h5 h6
  unfold F_X4_isBusy at hF
  refine lv_aload_n hx hb dX4_isBusy_0 rfl (lv_at hl 0 rfl) ?_
  refine va_get (D := D) (ci := 4) (v := .int (bI v_busy)) (C := RX4) (T := TX4) (N := 7) hx hb hts i_X4 hown hK hP 0 rfl rfl 3 (Nat.le_of_ble_eq_true rfl) f_15 (fun _ h9 => h9) rfl dX4_isBusy_1 ?_
  exact hret v_busy (bI v_busy) _ _ 4 _ hP hD hS hF rfl dX4_isBusy_4
def F_X4_listen (p1 : Bool) (p2 : Int32) (v_control : Int32) (v_character : Int32) (v_beat : Int32) (v_busy : Bool) (v_wasHigh : Bool) (v_parityHigh : Bool) (v_someHigh : Bool) : Option (Int32 × Int32 × Int32 × Bool × Bool × Bool × Bool) := bt p1 (some (v_control, v_character, v_beat, v_busy, true, v_parityHigh, v_someHigh)) (bt v_wasHigh (bd (F_X4_begin p2 v_control v_character v_beat v_busy v_wasHigh v_parityHigh v_someHigh) (fun u3 => some (u3.1, u3.2.1, u3.2.2.1, u3.2.2.2.1, u3.2.2.2.2.1, u3.2.2.2.2.2.1, u3.2.2.2.2.2.2))) (some (v_control, v_character, v_beat, v_busy, v_wasHigh, v_parityHigh, v_someHigh)))
def wX4_listen (h_ : Nat) (u : Int32 × Int32 × Int32 × Bool × Bool × Bool × Bool) : va_W := [oX4 h_ u.1 u.2.1 u.2.2.1 u.2.2.2.1 u.2.2.2.2.1 u.2.2.2.2.2.1 u.2.2.2.2.2.2]
set_option maxHeartbeats 4000000 in
set_option maxRecDepth 100000 in
theorem mX4_listen {l : Launch} (D : va_G) (h_ : Nat) (v_control : Int32) (v_character : Int32) (v_beat : Int32) (v_busy : Bool) (v_wasHigh : Bool) (v_parityHigh : Bool) (v_someHigh : Bool) (p1 : Bool) (p2 : Int32) (u0 : Int32 × Int32 × Int32 × Bool × Bool × Bool × Bool) (hF : F_X4_listen p1 p2 v_control v_character v_beat v_busy v_wasHigh v_parityHigh v_someHigh = some u0) : MV l yX4_listen wsX4_listen { frames := 1, cells := 0, slots := 0, locals := 21 } D [] [.ref h_, .int (bI p1), .int p2] [oX4 h_ v_control v_character v_beat v_busy v_wasHigh v_parityHigh v_someHigh] (wX4_listen h_ u0) := by
  refine MV.ofW (cc := cX4_listen) (maxL := 3) (ret := none) (lv := [(0, .ref h_), (1, .int (bI p1)), (2, .int p2)]) (by decide +kernel) rfl (Nat.le_of_ble_eq_true rfl) rfl ?_
  intro p e s m args below meth c A ls hx hb hr hml hts hown hlocks hA hK hP hD hS hl
  replace hown : s.vm.findClass RX4 = some m.cls := hown
  have i_X4 : ∀ w ∈ wsX40, w ∈ wsX4_listen := by decide +kernel
  have f_19 := hts (.fieldLink RX4 19 "SerialPort$Receiver" "wasHigh" "Z") (by decide +kernel)
  have hret : ∀ (u : Int32 × Int32 × Int32 × Bool × Bool × Bool × Bool) (H : Heap) (locs : List Loc) (pc : Nat) (ls : Array Slot), va_P D vwCl (wX4_listen h_ u) H → va_D A (wX4_listen h_ u) → va_S A s.heap H locs → some u = some u0 → decode cX4_listen pc = .ok (.return_, 1) → W p l e { frames := 1, cells := 0, slots := 0, locals := 21 } s m args below meth c H locs 0 0 (QV below D [] (wX4_listen h_ u0) args s A) (F0 m pc ls []) := fun u H locs pc ls h1 h2 h3 h4 h5 => rV (wf := wX4_listen h_) hx hb hr hlocks hK h1 h2 h3 h4 h5
  unfold F_X4_listen at hF
  refine lv_iload_n hx hb dX4_listen_0 rfl (lv_at hl 1 rfl) ?_
  refine lv_if_eq (tgt := 12) hx hb dX4_listen_1 (by decide) (fun c1 => ?_) (fun c1 => ?_)
  · replace hF := bt_f (bI_0 c1) hF
    refine lv_aload_n hx hb dX4_listen_12 rfl (lv_at hl 0 rfl) ?_
    refine va_get (D := D) (ci := 4) (v := .int (bI v_wasHigh)) (C := RX4) (T := TX4) (N := 7) hx hb hts i_X4 hown hK hP 0 rfl rfl 4 (Nat.le_of_ble_eq_true rfl) f_19 (fun _ h9 => h9) rfl dX4_listen_13 ?_
    refine lv_if_eq (tgt := 24) hx hb dX4_listen_16 (by decide) (fun c2 => ?_) (fun c2 => ?_)
    · replace hF := bt_f (bI_0 c2) hF
      exact hret (v_control, v_character, v_beat, v_busy, v_wasHigh, v_parityHigh, v_someHigh) _ _ 24 _ hP hD hS hF dX4_listen_24
    · replace hF := bt_t (bI_n0 c2) hF
      refine lv_aload_n hx hb dX4_listen_19 rfl (lv_at hl 0 rfl) ?_
      refine lv_iload_n hx hb dX4_listen_20 rfl (lv_at hl 2 rfl) ?_
      obtain ⟨u3, hu3, hF⟩ := bd_el hF
      refine cVV (q0 := 0) (ci := 4) (As := [.int p2]) (rest := []) (wr := []) (ws' := [oX4 h_ u3.1 u3.2.1 u3.2.2.1 u3.2.2.2.1 u3.2.2.2.2.1 u3.2.2.2.2.2.1 u3.2.2.2.2.2.2]) ⟨hx, hb, hml, hown, hts⟩ (mX4_begin D h_ v_control v_character v_beat v_busy v_wasHigh v_parityHigh v_someHigh p2 u3 hu3) (cwV 1 hts gX4_listen_X4_begin rfl rfl rfl (by decide +kernel) ⟨Nat.le_of_ble_eq_true rfl, Nat.le_of_ble_eq_true rfl⟩) hK hP hD hS hA [] [0] [] [0] rfl rfl rfl rfl rfl rfl rfl rfl rfl hl.1 rfl (Nat.le_of_ble_eq_true rfl) dX4_listen_21 ⟨Nat.le_refl _, Nat.le_refl _⟩ (fun H locs hP hD hS => ?_)
      exact hret (u3.1, u3.2.1, u3.2.2.1, u3.2.2.2.1, u3.2.2.2.2.1, u3.2.2.2.2.2.1, u3.2.2.2.2.2.2) _ _ 24 _ hP hD hS hF dX4_listen_24
  · replace hF := bt_t (bI_n0 c1) hF
    refine lv_aload_n hx hb dX4_listen_4 rfl (lv_at hl 0 rfl) ?_
    refine lv_iconst (v := 1) hx hb dX4_listen_5 (by decide) ?_
    refine pf (ci := 4) (v := .int (bI true)) (ty := .boolean) (C := RX4) (T := TX4) (N := 7) (ws' := [oX4 h_ v_control v_character v_beat v_busy true v_parityHigh v_someHigh]) hx hb hts i_X4 tyX4_ok nmX4 hown hK hP hD hS 0 rfl rfl 4 (Nat.le_of_ble_eq_true rfl) f_19 rfl rfl (by decide +kernel) (nar_bI true) (fit_bI true) (Nat.le_of_ble_eq_true rfl) rfl dX4_listen_6 (fun H locs hP hD hS => ?_)
    refine lv_goto (tgt := 24) hx hb dX4_listen_9 (by decide) ?_
    exact hret (v_control, v_character, v_beat, v_busy, true, v_parityHigh, v_someHigh) _ _ 24 _ hP hD hS hF dX4_listen_24
def F_X4_becomeIdle (p1 : Bool) (v_busy : Bool) (v_wasHigh : Bool) : Option (Bool × Bool) := some (false, p1)
def wX4_becomeIdle (h_ : Nat) (v_control : Int32) (v_character : Int32) (v_beat : Int32) (v_parityHigh : Bool) (v_someHigh : Bool) (u : Bool × Bool) : va_W := [oX4 h_ v_control v_character v_beat u.1 u.2 v_parityHigh v_someHigh]
set_option maxHeartbeats 4000000 in
set_option maxRecDepth 100000 in
theorem mX4_becomeIdle {l : Launch} (D : va_G) (h_ : Nat) (v_control : Int32) (v_character : Int32) (v_beat : Int32) (v_busy : Bool) (v_wasHigh : Bool) (v_parityHigh : Bool) (v_someHigh : Bool) (p1 : Bool) (u0 : Bool × Bool) (hF : F_X4_becomeIdle p1 v_busy v_wasHigh = some u0) : MV l yX4_becomeIdle wsX4_becomeIdle { frames := 0, cells := 0, slots := 0, locals := 0 } D [] [.ref h_, .int (bI p1)] [oX4 h_ v_control v_character v_beat v_busy v_wasHigh v_parityHigh v_someHigh] (wX4_becomeIdle h_ v_control v_character v_beat v_parityHigh v_someHigh u0) := by
  refine MV.ofW (cc := cX4_becomeIdle) (maxL := 2) (ret := none) (lv := [(0, .ref h_), (1, .int (bI p1))]) (by decide +kernel) rfl (Nat.le_of_ble_eq_true rfl) rfl ?_
  intro p e s m args below meth c A ls hx hb hr hml hts hown hlocks hA hK hP hD hS hl
  replace hown : s.vm.findClass RX4 = some m.cls := hown
  have i_X4 : ∀ w ∈ wsX40, w ∈ wsX4_becomeIdle := by decide +kernel
  have f_15 := hts (.fieldLink RX4 15 "SerialPort$Receiver" "busy" "Z") (by decide +kernel)
  have f_19 := hts (.fieldLink RX4 19 "SerialPort$Receiver" "wasHigh" "Z") (by decide +kernel)
  have hret : ∀ (u : Bool × Bool) (H : Heap) (locs : List Loc) (pc : Nat) (ls : Array Slot), va_P D vwCl (wX4_becomeIdle h_ v_control v_character v_beat v_parityHigh v_someHigh u) H → va_D A (wX4_becomeIdle h_ v_control v_character v_beat v_parityHigh v_someHigh u) → va_S A s.heap H locs → some u = some u0 → decode cX4_becomeIdle pc = .ok (.return_, 1) → W p l e { frames := 0, cells := 0, slots := 0, locals := 0 } s m args below meth c H locs 0 0 (QV below D [] (wX4_becomeIdle h_ v_control v_character v_beat v_parityHigh v_someHigh u0) args s A) (F0 m pc ls []) := fun u H locs pc ls h1 h2 h3 h4 h5 => rV (wf := wX4_becomeIdle h_ v_control v_character v_beat v_parityHigh v_someHigh) hx hb hr hlocks hK h1 h2 h3 h4 h5
  unfold F_X4_becomeIdle at hF
  refine lv_aload_n hx hb dX4_becomeIdle_0 rfl (lv_at hl 0 rfl) ?_
  refine lv_iconst (v := 0) hx hb dX4_becomeIdle_1 (by decide) ?_
  refine pf (ci := 4) (v := .int (bI false)) (ty := .boolean) (C := RX4) (T := TX4) (N := 7) (ws' := [oX4 h_ v_control v_character v_beat false v_wasHigh v_parityHigh v_someHigh]) hx hb hts i_X4 tyX4_ok nmX4 hown hK hP hD hS 0 rfl rfl 3 (Nat.le_of_ble_eq_true rfl) f_15 rfl rfl (by decide +kernel) (nar_bI false) (fit_bI false) (Nat.le_of_ble_eq_true rfl) rfl dX4_becomeIdle_2 (fun H locs hP hD hS => ?_)
  refine lv_aload_n hx hb dX4_becomeIdle_5 rfl (lv_at hl 0 rfl) ?_
  refine lv_iload_n hx hb dX4_becomeIdle_6 rfl (lv_at hl 1 rfl) ?_
  refine pf (ci := 4) (v := .int (bI p1)) (ty := .boolean) (C := RX4) (T := TX4) (N := 7) (ws' := [oX4 h_ v_control v_character v_beat false p1 v_parityHigh v_someHigh]) hx hb hts i_X4 tyX4_ok nmX4 hown hK hP hD hS 0 rfl rfl 4 (Nat.le_of_ble_eq_true rfl) f_19 rfl rfl (by decide +kernel) (nar_bI p1) (fit_bI p1) (Nat.le_of_ble_eq_true rfl) rfl dX4_becomeIdle_7 (fun H locs hP hD hS => ?_)
  exact hret (false, p1) _ _ 10 _ hP hD hS hF dX4_becomeIdle_10
def F_X4_seeStart (p1 : Bool) (v_busy : Bool) (v_wasHigh : Bool) : Option (Int32 × Bool × Bool) := bt p1 (bd (F_X4_becomeIdle true v_busy v_wasHigh) (fun u2 => some ((-1), u2.1, u2.2))) (some ((-1), v_busy, v_wasHigh))
def wX4_seeStart (h_ : Nat) (v_control : Int32) (v_character : Int32) (v_beat : Int32) (v_parityHigh : Bool) (v_someHigh : Bool) (u : Int32 × Bool × Bool) : va_W := [oX4 h_ v_control v_character v_beat u.2.1 u.2.2 v_parityHigh v_someHigh]
set_option maxHeartbeats 4000000 in
set_option maxRecDepth 100000 in
theorem mX4_seeStart {l : Launch} (D : va_G) (h_ : Nat) (v_control : Int32) (v_character : Int32) (v_beat : Int32) (v_busy : Bool) (v_wasHigh : Bool) (v_parityHigh : Bool) (v_someHigh : Bool) (p1 : Bool) (u0 : Int32 × Bool × Bool) (hF : F_X4_seeStart p1 v_busy v_wasHigh = some u0) : MI l yX4_seeStart wsX4_seeStart { frames := 1, cells := 0, slots := 0, locals := 21 } D [] [.ref h_, .int (bI p1)] [oX4 h_ v_control v_character v_beat v_busy v_wasHigh v_parityHigh v_someHigh] (wX4_seeStart h_ v_control v_character v_beat v_parityHigh v_someHigh u0) (u0.1) := by
  refine MI.ofW (cc := cX4_seeStart) (maxL := 2) (ret := (some .int)) (lv := [(0, .ref h_), (1, .int (bI p1))]) (by decide +kernel) rfl (Nat.le_of_ble_eq_true rfl) rfl ?_
  intro p e s m args below meth c A ls hx hb hr hml hts hown hlocks hA hK hP hD hS hl
  replace hown : s.vm.findClass RX4 = some m.cls := hown
  have hret : ∀ (u : Int32 × Bool × Bool) (v : Int32) (H : Heap) (locs : List Loc) (pc : Nat) (ls : Array Slot), va_P D vwCl (wX4_seeStart h_ v_control v_character v_beat v_parityHigh v_someHigh u) H → va_D A (wX4_seeStart h_ v_control v_character v_beat v_parityHigh v_someHigh u) → va_S A s.heap H locs → some u = some u0 → v = u.1 → decode cX4_seeStart pc = .ok (.ireturn, 1) → W p l e { frames := 1, cells := 0, slots := 0, locals := 21 } s m args below meth c H locs 0 0 (QI below D [] (wX4_seeStart h_ v_control v_character v_beat v_parityHigh v_someHigh u0) (u0.1) args s A) (F0 m pc ls [.int v]) := fun u v H locs pc ls h1 h2 h3 h4 h5 h6 => rI (wf := wX4_seeStart h_ v_control v_character v_beat v_parityHigh v_someHigh) (rf := fun u => u.1) hx hb hr hlocks hK h1 h2 h3 h4 h5 h6
  unfold F_X4_seeStart at hF
  refine lv_iload_n hx hb dX4_seeStart_0 rfl (lv_at hl 1 rfl) ?_
  refine lv_if_eq (tgt := 9) hx hb dX4_seeStart_1 (by decide) (fun c1 => ?_) (fun c1 => ?_)
  · replace hF := bt_f (bI_0 c1) hF
    refine lv_iconst (v := (-1)) hx hb dX4_seeStart_9 (by decide) ?_
    exact hret ((-1), v_busy, v_wasHigh) (-1) _ _ 10 _ hP hD hS hF rfl dX4_seeStart_10
  · replace hF := bt_t (bI_n0 c1) hF
    refine lv_aload_n hx hb dX4_seeStart_4 rfl (lv_at hl 0 rfl) ?_
    refine lv_iconst (v := 1) hx hb dX4_seeStart_5 (by decide) ?_
    obtain ⟨u2, hu2, hF⟩ := bd_el hF
    refine cVV (q0 := 0) (ci := 4) (As := [.int (bI true)]) (rest := []) (wr := []) (ws' := [oX4 h_ v_control v_character v_beat u2.1 u2.2 v_parityHigh v_someHigh]) ⟨hx, hb, hml, hown, hts⟩ (mX4_becomeIdle D h_ v_control v_character v_beat v_busy v_wasHigh v_parityHigh v_someHigh true u2 hu2) (cwV 1 hts gX4_seeStart_X4_becomeIdle rfl rfl rfl (by decide +kernel) ⟨Nat.le_of_ble_eq_true rfl, Nat.le_of_ble_eq_true rfl⟩) hK hP hD hS hA [] [0] [] [0] rfl rfl rfl rfl rfl rfl rfl rfl rfl hl.1 rfl (Nat.le_of_ble_eq_true rfl) dX4_seeStart_6 ⟨Nat.le_refl _, Nat.le_refl _⟩ (fun H locs hP hD hS => ?_)
    refine lv_iconst (v := (-1)) hx hb dX4_seeStart_9 (by decide) ?_
    exact hret ((-1), u2.1, u2.2) (-1) _ _ 10 _ hP hD hS hF rfl dX4_seeStart_10
def F_X4_faults_23 (v_control : Int32) (v_character : Int32) (v_parityHigh : Bool) (v_someHigh : Bool) (l2 : Int32) : Option (Int32) := bd (F_X7_hasParity v_control) (fun u1 => bt u1 (bd (F_X7_parityIsHigh v_control v_character) (fun u3 => if (bI v_parityHigh) = (bI u3) then (some l2) else (lt1 (l2 ||| 4) (fun x5 => some x5)))) (some l2))
def F_X4_faults_10 (v_control : Int32) (v_character : Int32) (v_parityHigh : Bool) (v_someHigh : Bool) (s0 : Int32) : Option (Int32) := bt v_someHigh (F_X4_faults_23 v_control v_character v_parityHigh v_someHigh s0) (lt1 (s0 ||| 16) (fun x7 => F_X4_faults_23 v_control v_character v_parityHigh v_someHigh x7))
def F_X4_faults (p1 : Bool) (v_control : Int32) (v_character : Int32) (v_parityHigh : Bool) (v_someHigh : Bool) : Option (Int32) := bt p1 (F_X4_faults_10 v_control v_character v_parityHigh v_someHigh 0) (F_X4_faults_10 v_control v_character v_parityHigh v_someHigh 8)
def wX4_faults (h_ : Nat) (v_control : Int32) (v_character : Int32) (v_beat : Int32) (v_busy : Bool) (v_wasHigh : Bool) (v_parityHigh : Bool) (v_someHigh : Bool) (_u : Int32) : va_W := [oX4 h_ v_control v_character v_beat v_busy v_wasHigh v_parityHigh v_someHigh]
set_option maxHeartbeats 4000000 in
set_option maxRecDepth 100000 in
theorem mX4_faults {l : Launch} (D : va_G) (h_ : Nat) (v_control : Int32) (v_character : Int32) (v_beat : Int32) (v_busy : Bool) (v_wasHigh : Bool) (v_parityHigh : Bool) (v_someHigh : Bool) (p1 : Bool) (u0 : Int32) (hF : F_X4_faults p1 v_control v_character v_parityHigh v_someHigh = some u0) : MI l yX4_faults wsX4_faults { frames := 2, cells := 0, slots := 0, locals := 44 } D [] [.ref h_, .int (bI p1)] [oX4 h_ v_control v_character v_beat v_busy v_wasHigh v_parityHigh v_someHigh] (wX4_faults h_ v_control v_character v_beat v_busy v_wasHigh v_parityHigh v_someHigh u0) (u0) := by
  refine MI.ofW (cc := cX4_faults) (maxL := 3) (ret := (some .int)) (lv := [(0, .ref h_), (1, .int (bI p1))]) (by decide +kernel) rfl (Nat.le_of_ble_eq_true rfl) rfl ?_
  intro p e s m args below meth c A ls hx hb hr hml hts hown hlocks hA hK hP hD hS hl
  replace hown : s.vm.findClass RX4 = some m.cls := hown
  have i_X4 : ∀ w ∈ wsX40, w ∈ wsX4_faults := by decide +kernel
  have f_37 := hts (.fieldLink RX4 37 "SerialPort$Receiver" "control" "I") (by decide +kernel)
  have f_40 := hts (.fieldLink RX4 40 "SerialPort$Receiver" "character" "I") (by decide +kernel)
  have f_43 := hts (.fieldLink RX4 43 "SerialPort$Receiver" "parityHigh" "Z") (by decide +kernel)
  have f_46 := hts (.fieldLink RX4 46 "SerialPort$Receiver" "someHigh" "Z") (by decide +kernel)
  have hret : ∀ (u : Int32) (v : Int32) (H : Heap) (locs : List Loc) (pc : Nat) (ls : Array Slot), va_P D vwCl (wX4_faults h_ v_control v_character v_beat v_busy v_wasHigh v_parityHigh v_someHigh u) H → va_D A (wX4_faults h_ v_control v_character v_beat v_busy v_wasHigh v_parityHigh v_someHigh u) → va_S A s.heap H locs → some u = some u0 → v = u → decode cX4_faults pc = .ok (.ireturn, 1) → W p l e { frames := 2, cells := 0, slots := 0, locals := 44 } s m args below meth c H locs 0 0 (QI below D [] (wX4_faults h_ v_control v_character v_beat v_busy v_wasHigh v_parityHigh v_someHigh u0) (u0) args s A) (F0 m pc ls [.int v]) := fun u v H locs pc ls h1 h2 h3 h4 h5 h6 => rI (wf := wX4_faults h_ v_control v_character v_beat v_busy v_wasHigh v_parityHigh v_someHigh) (rf := fun u => u) hx hb hr hlocks hK h1 h2 h3 h4 h5 h6
  have J23 : ∀ (l2 : Int32) (H : Heap) (locs : List Loc) (ls : Array Slot), F_X4_faults_23 v_control v_character v_parityHigh v_someHigh l2 = some u0 → lv_has ls 3 [(0, .ref h_), (2, .int l2)] → va_P D vwCl [oX4 h_ v_control v_character v_beat v_busy v_wasHigh v_parityHigh v_someHigh] H → va_D A [oX4 h_ v_control v_character v_beat v_busy v_wasHigh v_parityHigh v_someHigh] → va_S A s.heap H locs → W p l e { frames := 2, cells := 0, slots := 0, locals := 44 } s m args below meth c H locs 0 0 (QI below D [] (wX4_faults h_ v_control v_character v_beat v_busy v_wasHigh v_parityHigh v_someHigh u0) (u0) args s A) (F0 m 23 ls []) := by
    intro l2 H locs ls hF hl hP hD hS
    unfold F_X4_faults_23 at hF
    refine lv_aload_n hx hb dX4_faults_23 rfl (lv_at hl 0 rfl) ?_
    refine va_get (D := D) (ci := 4) (v := .int v_control) (C := RX4) (T := TX4) (N := 7) hx hb hts i_X4 hown hK hP 0 rfl rfl 0 (Nat.le_of_ble_eq_true rfl) f_37 (fun _ h9 => h9) rfl dX4_faults_24 ?_
    obtain ⟨u1, hu1, hF⟩ := bd_el hF
    refine cSI (As := [.int v_control]) (rest := []) (wr := [oX4 h_ v_control v_character v_beat v_busy v_wasHigh v_parityHigh v_someHigh]) (ws' := [oX4 h_ v_control v_character v_beat v_busy v_wasHigh v_parityHigh v_someHigh]) (rv := bI u1) ⟨hx, hb, hml, hown, hts⟩ (mX7_hasParity D v_control u1 hu1) (va_cwS 1 hts gX4_faults_X7_hasParity rfl rfl rfl (by decide +kernel) ⟨Nat.le_of_ble_eq_true rfl, Nat.le_of_ble_eq_true rfl⟩) hK hP hD hS hA [] [] [0] [0] rfl rfl rfl rfl rfl rfl hl.1 rfl (Nat.le_of_ble_eq_true rfl) rfl dX4_faults_27 ⟨Nat.le_refl _, Nat.le_refl _⟩ (fun H locs hP hD hS => ?_)
    refine lv_if_eq (tgt := 55) hx hb dX4_faults_30 (by decide) (fun c2 => ?_) (fun c2 => ?_)
    · replace hF := bt_f (bI_0 c2) hF
      refine lv_iload_n hx hb dX4_faults_55 rfl (lv_at hl 1 rfl) ?_
      exact hret l2 l2 _ _ 56 _ hP hD hS hF rfl dX4_faults_56
    · replace hF := bt_t (bI_n0 c2) hF
      refine lv_aload_n hx hb dX4_faults_33 rfl (lv_at hl 0 rfl) ?_
      refine va_get (D := D) (ci := 4) (v := .int (bI v_parityHigh)) (C := RX4) (T := TX4) (N := 7) hx hb hts i_X4 hown hK hP 0 rfl rfl 5 (Nat.le_of_ble_eq_true rfl) f_43 (fun _ h9 => h9) rfl dX4_faults_34 ?_
      refine lv_aload_n hx hb dX4_faults_37 rfl (lv_at hl 0 rfl) ?_
      refine va_get (D := D) (ci := 4) (v := .int v_control) (C := RX4) (T := TX4) (N := 7) hx hb hts i_X4 hown hK hP 0 rfl rfl 0 (Nat.le_of_ble_eq_true rfl) f_37 (fun _ h9 => h9) rfl dX4_faults_38 ?_
      refine lv_aload_n hx hb dX4_faults_41 rfl (lv_at hl 0 rfl) ?_
      refine va_get (D := D) (ci := 4) (v := .int v_character) (C := RX4) (T := TX4) (N := 7) hx hb hts i_X4 hown hK hP 0 rfl rfl 1 (Nat.le_of_ble_eq_true rfl) f_40 (fun _ h9 => h9) rfl dX4_faults_42 ?_
      obtain ⟨u3, hu3, hF⟩ := bd_el hF
      refine cSI (As := [.int v_control, .int v_character]) (rest := [.int (bI v_parityHigh)]) (wr := [oX4 h_ v_control v_character v_beat v_busy v_wasHigh v_parityHigh v_someHigh]) (ws' := [oX4 h_ v_control v_character v_beat v_busy v_wasHigh v_parityHigh v_someHigh]) (rv := bI u3) ⟨hx, hb, hml, hown, hts⟩ (mX7_parityIsHigh D v_control v_character u3 hu3) (va_cwS 2 hts gX4_faults_X7_parityIsHigh rfl rfl rfl (by decide +kernel) ⟨Nat.le_of_ble_eq_true rfl, Nat.le_of_ble_eq_true rfl⟩) hK hP hD hS hA [] [] [0] [0] rfl rfl rfl rfl rfl rfl hl.1 rfl (Nat.le_of_ble_eq_true rfl) rfl dX4_faults_45 ⟨Nat.le_refl _, Nat.le_refl _⟩ (fun H locs hP hD hS => ?_)
      refine lv_icmp_eq (tgt := 55) hx hb dX4_faults_48 (by decide) (fun c4 => ?_) (fun c4 => ?_)
      · replace hF := it_t c4 hF
        refine lv_iload_n hx hb dX4_faults_55 rfl (lv_at hl 1 rfl) ?_
        exact hret l2 l2 _ _ 56 _ hP hD hS hF rfl dX4_faults_56
      · replace hF := it_f c4 hF
        refine lv_iload_n hx hb dX4_faults_51 rfl (lv_at hl 1 rfl) ?_
        refine lv_iconst (v := 4) hx hb dX4_faults_52 (by decide) ?_
        refine lv_ior hx hb dX4_faults_53 ?_
        refine lv_topi (fun x5 ex5 => ?_)
        replace hF := lt1_x ex5 hF
        refine lv_istore_n (lv' := [(2, .int x5), (0, .ref h_)]) hx hb dX4_faults_54 rfl hl (Nat.le_of_ble_eq_true rfl) rfl (fun ls hl => ?_)
        refine lv_iload_n hx hb dX4_faults_55 rfl (lv_at hl 0 rfl) ?_
        exact hret x5 x5 _ _ 56 _ hP hD hS hF rfl dX4_faults_56
  have J10 : ∀ (s0 : Int32) (H : Heap) (locs : List Loc) (ls : Array Slot), F_X4_faults_10 v_control v_character v_parityHigh v_someHigh s0 = some u0 → lv_has ls 3 [(0, .ref h_)] → va_P D vwCl [oX4 h_ v_control v_character v_beat v_busy v_wasHigh v_parityHigh v_someHigh] H → va_D A [oX4 h_ v_control v_character v_beat v_busy v_wasHigh v_parityHigh v_someHigh] → va_S A s.heap H locs → W p l e { frames := 2, cells := 0, slots := 0, locals := 44 } s m args below meth c H locs 0 0 (QI below D [] (wX4_faults h_ v_control v_character v_beat v_busy v_wasHigh v_parityHigh v_someHigh u0) (u0) args s A) (F0 m 10 ls [.int s0]) := by
    intro s0 H locs ls hF hl hP hD hS
    unfold F_X4_faults_10 at hF
    refine lv_istore_n (lv' := [(2, .int s0), (0, .ref h_)]) hx hb dX4_faults_10 rfl hl (Nat.le_of_ble_eq_true rfl) rfl (fun ls hl => ?_)
    refine lv_aload_n hx hb dX4_faults_11 rfl (lv_at hl 1 rfl) ?_
    refine va_get (D := D) (ci := 4) (v := .int (bI v_someHigh)) (C := RX4) (T := TX4) (N := 7) hx hb hts i_X4 hown hK hP 0 rfl rfl 6 (Nat.le_of_ble_eq_true rfl) f_46 (fun _ h9 => h9) rfl dX4_faults_12 ?_
    refine lv_if_ne (tgt := 23) hx hb dX4_faults_15 (by decide) (fun c6 => ?_) (fun c6 => ?_)
    · replace hF := bt_t (bI_n0 c6) hF
      exact J23 s0 _ _ _ hF (lv_sub hl [1, 0] rfl) hP hD hS
    · replace hF := bt_f (bI_0 c6) hF
      refine lv_iload_n hx hb dX4_faults_18 rfl (lv_at hl 0 rfl) ?_
      refine lv_bipush (v := 16) hx hb dX4_faults_19 (by decide) ?_
      refine lv_ior hx hb dX4_faults_21 ?_
      refine lv_topi (fun x7 ex7 => ?_)
      replace hF := lt1_x ex7 hF
      refine lv_istore_n (lv' := [(2, .int x7), (0, .ref h_)]) hx hb dX4_faults_22 rfl hl (Nat.le_of_ble_eq_true rfl) rfl (fun ls hl => ?_)
      exact J23 x7 _ _ _ hF (lv_sub hl [1, 0] rfl) hP hD hS
  unfold F_X4_faults at hF
  refine lv_iload_n hx hb dX4_faults_0 rfl (lv_at hl 1 rfl) ?_
  refine lv_if_eq (tgt := 8) hx hb dX4_faults_1 (by decide) (fun c8 => ?_) (fun c8 => ?_)
  · replace hF := bt_f (bI_0 c8) hF
    refine lv_bipush (v := 8) hx hb dX4_faults_8 (by decide) ?_
    exact J10 8 _ _ _ hF (lv_sub hl [0] rfl) hP hD hS
  · replace hF := bt_t (bI_n0 c8) hF
    refine lv_iconst (v := 0) hx hb dX4_faults_4 (by decide) ?_
    refine lv_goto (tgt := 10) hx hb dX4_faults_5 (by decide) ?_
    exact J10 0 _ _ _ hF (lv_sub hl [0] rfl) hP hD hS
def F_X4_see_89 (v_control : Int32) (v_beat : Int32) (l1 : Bool) (v_character : Int32) (v_busy : Bool) (v_wasHigh : Bool) (v_parityHigh : Bool) (v_someHigh : Bool) : Option (Int32 × Int32 × Bool × Bool × Bool × Bool) := bd (F_X4_becomeIdle l1 v_busy v_wasHigh) (fun u1 => bd (F_X4_faults l1 v_control v_character v_parityHigh v_someHigh) (fun u2 => some ((v_character ||| (u2 <<< ((8 : Int32) &&& 31))), v_character, u1.1, u1.2, v_parityHigh, v_someHigh)))
def F_X4_see_33 (v_control : Int32) (v_beat : Int32) (s1 : Bool) (l1 : Bool) (l2 : Int32) (l3 : Int32) (v_character : Int32) (v_busy : Bool) (v_wasHigh : Bool) (v_parityHigh : Bool) (v_someHigh : Bool) : Option (Int32 × Int32 × Bool × Bool × Bool × Bool) := if l3 < l2 then (if l2 = (l3 + 1) then (bd (F_X7_hasParity v_control) (fun u5 => bt u5 (some ((-1), v_character, v_busy, v_wasHigh, l1, s1)) (F_X4_see_89 v_control v_beat l1 v_character v_busy v_wasHigh v_parityHigh s1))) else (F_X4_see_89 v_control v_beat l1 v_character v_busy v_wasHigh v_parityHigh s1)) else (bt l1 (lt1 (v_character ||| (1 <<< ((l2 - 1) &&& 31))) (fun x9 => some ((-1), x9, v_busy, v_wasHigh, v_parityHigh, s1))) (lt1 (v_character ||| 0) (fun x8 => some ((-1), x8, v_busy, v_wasHigh, v_parityHigh, s1))))
def F_X4_see (p1 : Bool) (v_control : Int32) (v_character : Int32) (v_beat : Int32) (v_busy : Bool) (v_wasHigh : Bool) (v_parityHigh : Bool) (v_someHigh : Bool) : Option (Int32 × Int32 × Bool × Bool × Bool × Bool) := lt1 (v_beat / 16) (fun x10 => bd (F_X7_dataBits v_control) (fun u11 => bt v_someHigh (F_X4_see_33 v_control v_beat true p1 x10 u11 v_character v_busy v_wasHigh v_parityHigh v_someHigh) (bt p1 (F_X4_see_33 v_control v_beat true p1 x10 u11 v_character v_busy v_wasHigh v_parityHigh v_someHigh) (F_X4_see_33 v_control v_beat false p1 x10 u11 v_character v_busy v_wasHigh v_parityHigh v_someHigh))))
def wX4_see (h_ : Nat) (v_control : Int32) (v_beat : Int32) (u : Int32 × Int32 × Bool × Bool × Bool × Bool) : va_W := [oX4 h_ v_control u.2.1 v_beat u.2.2.1 u.2.2.2.1 u.2.2.2.2.1 u.2.2.2.2.2]
set_option maxHeartbeats 4000000 in
set_option maxRecDepth 100000 in
theorem mX4_see {l : Launch} (D : va_G) (h_ : Nat) (v_control : Int32) (v_character : Int32) (v_beat : Int32) (v_busy : Bool) (v_wasHigh : Bool) (v_parityHigh : Bool) (v_someHigh : Bool) (p1 : Bool) (u0 : Int32 × Int32 × Bool × Bool × Bool × Bool) (hF : F_X4_see p1 v_control v_character v_beat v_busy v_wasHigh v_parityHigh v_someHigh = some u0) : MI l yX4_see wsX4_see { frames := 3, cells := 0, slots := 0, locals := 66 } D [] [.ref h_, .int (bI p1)] [oX4 h_ v_control v_character v_beat v_busy v_wasHigh v_parityHigh v_someHigh] (wX4_see h_ v_control v_beat u0) (u0.1) := by
  refine MI.ofW (cc := cX4_see) (maxL := 4) (ret := (some .int)) (lv := [(0, .ref h_), (1, .int (bI p1))]) (by decide +kernel) rfl (Nat.le_of_ble_eq_true rfl) rfl ?_
  intro p e s m args below meth c A ls hx hb hr hml hts hown hlocks hA hK hP hD hS hl
  replace hown : s.vm.findClass RX4 = some m.cls := hown
  have i_X4 : ∀ w ∈ wsX40, w ∈ wsX4_see := by decide +kernel
  have f_26 := hts (.fieldLink RX4 26 "SerialPort$Receiver" "beat" "I") (by decide +kernel)
  have f_37 := hts (.fieldLink RX4 37 "SerialPort$Receiver" "control" "I") (by decide +kernel)
  have f_40 := hts (.fieldLink RX4 40 "SerialPort$Receiver" "character" "I") (by decide +kernel)
  have f_43 := hts (.fieldLink RX4 43 "SerialPort$Receiver" "parityHigh" "Z") (by decide +kernel)
  have f_46 := hts (.fieldLink RX4 46 "SerialPort$Receiver" "someHigh" "Z") (by decide +kernel)
  have hret : ∀ (u : Int32 × Int32 × Bool × Bool × Bool × Bool) (v : Int32) (H : Heap) (locs : List Loc) (pc : Nat) (ls : Array Slot), va_P D vwCl (wX4_see h_ v_control v_beat u) H → va_D A (wX4_see h_ v_control v_beat u) → va_S A s.heap H locs → some u = some u0 → v = u.1 → decode cX4_see pc = .ok (.ireturn, 1) → W p l e { frames := 3, cells := 0, slots := 0, locals := 66 } s m args below meth c H locs 0 0 (QI below D [] (wX4_see h_ v_control v_beat u0) (u0.1) args s A) (F0 m pc ls [.int v]) := fun u v H locs pc ls h1 h2 h3 h4 h5 h6 => rI (wf := wX4_see h_ v_control v_beat) (rf := fun u => u.1) hx hb hr hlocks hK h1 h2 h3 h4 h5 h6
  have J89 : ∀ (l1 : Bool) (v_character : Int32) (v_busy : Bool) (v_wasHigh : Bool) (v_parityHigh : Bool) (v_someHigh : Bool) (H : Heap) (locs : List Loc) (ls : Array Slot), F_X4_see_89 v_control v_beat l1 v_character v_busy v_wasHigh v_parityHigh v_someHigh = some u0 → lv_has ls 4 [(0, .ref h_), (1, .int (bI l1))] → va_P D vwCl [oX4 h_ v_control v_character v_beat v_busy v_wasHigh v_parityHigh v_someHigh] H → va_D A [oX4 h_ v_control v_character v_beat v_busy v_wasHigh v_parityHigh v_someHigh] → va_S A s.heap H locs → W p l e { frames := 3, cells := 0, slots := 0, locals := 66 } s m args below meth c H locs 0 0 (QI below D [] (wX4_see h_ v_control v_beat u0) (u0.1) args s A) (F0 m 89 ls []) := by
    intro l1 v_character v_busy v_wasHigh v_parityHigh v_someHigh H locs ls hF hl hP hD hS
    unfold F_X4_see_89 at hF
    refine lv_aload_n hx hb dX4_see_89 rfl (lv_at hl 0 rfl) ?_
    refine lv_iload_n hx hb dX4_see_90 rfl (lv_at hl 1 rfl) ?_
    obtain ⟨u1, hu1, hF⟩ := bd_el hF
    refine cVV (q0 := 0) (ci := 4) (As := [.int (bI l1)]) (rest := []) (wr := []) (ws' := [oX4 h_ v_control v_character v_beat u1.1 u1.2 v_parityHigh v_someHigh]) ⟨hx, hb, hml, hown, hts⟩ (mX4_becomeIdle D h_ v_control v_character v_beat v_busy v_wasHigh v_parityHigh v_someHigh l1 u1 hu1) (cwV 1 hts gX4_see_X4_becomeIdle rfl rfl rfl (by decide +kernel) ⟨Nat.le_of_ble_eq_true rfl, Nat.le_of_ble_eq_true rfl⟩) hK hP hD hS hA [] [0] [] [0] rfl rfl rfl rfl rfl rfl rfl rfl rfl hl.1 rfl (Nat.le_of_ble_eq_true rfl) dX4_see_91 ⟨Nat.le_refl _, Nat.le_refl _⟩ (fun H locs hP hD hS => ?_)
    refine lv_aload_n hx hb dX4_see_94 rfl (lv_at hl 0 rfl) ?_
    refine va_get (D := D) (ci := 4) (v := .int v_character) (C := RX4) (T := TX4) (N := 7) hx hb hts i_X4 hown hK hP 0 rfl rfl 1 (Nat.le_of_ble_eq_true rfl) f_40 (fun _ h9 => h9) rfl dX4_see_95 ?_
    refine lv_aload_n hx hb dX4_see_98 rfl (lv_at hl 0 rfl) ?_
    refine lv_iload_n hx hb dX4_see_99 rfl (lv_at hl 1 rfl) ?_
    obtain ⟨u2, hu2, hF⟩ := bd_el hF
    refine cVI (q0 := 0) (ci := 4) (As := [.int (bI l1)]) (rest := [.int v_character]) (wr := []) (ws' := [oX4 h_ v_control v_character v_beat u1.1 u1.2 v_parityHigh v_someHigh]) (rv := u2) ⟨hx, hb, hml, hown, hts⟩ (mX4_faults D h_ v_control v_character v_beat u1.1 u1.2 v_parityHigh v_someHigh l1 u2 hu2) (cwV 1 hts gX4_see_X4_faults rfl rfl rfl (by decide +kernel) ⟨Nat.le_of_ble_eq_true rfl, Nat.le_of_ble_eq_true rfl⟩) hK hP hD hS hA [] [0] [] [0] rfl rfl rfl rfl rfl rfl rfl rfl rfl hl.1 rfl (Nat.le_of_ble_eq_true rfl) rfl dX4_see_100 ⟨Nat.le_refl _, Nat.le_refl _⟩ (fun H locs hP hD hS => ?_)
    refine lv_bipush (v := 8) hx hb dX4_see_103 (by decide) ?_
    refine lv_ishl hx hb dX4_see_105 ?_
    refine lv_ior hx hb dX4_see_106 ?_
    exact hret ((v_character ||| (u2 <<< ((8 : Int32) &&& 31))), v_character, u1.1, u1.2, v_parityHigh, v_someHigh) (v_character ||| (u2 <<< ((8 : Int32) &&& 31))) _ _ 107 _ hP hD hS hF rfl dX4_see_107
  have J33 : ∀ (s1 : Bool) (l1 : Bool) (l2 : Int32) (l3 : Int32) (v_character : Int32) (v_busy : Bool) (v_wasHigh : Bool) (v_parityHigh : Bool) (v_someHigh : Bool) (H : Heap) (locs : List Loc) (ls : Array Slot), F_X4_see_33 v_control v_beat s1 l1 l2 l3 v_character v_busy v_wasHigh v_parityHigh v_someHigh = some u0 → lv_has ls 4 [(0, .ref h_), (1, .int (bI l1)), (2, .int l2), (3, .int l3)] → va_P D vwCl [oX4 h_ v_control v_character v_beat v_busy v_wasHigh v_parityHigh v_someHigh] H → va_D A [oX4 h_ v_control v_character v_beat v_busy v_wasHigh v_parityHigh v_someHigh] → va_S A s.heap H locs → W p l e { frames := 3, cells := 0, slots := 0, locals := 66 } s m args below meth c H locs 0 0 (QI below D [] (wX4_see h_ v_control v_beat u0) (u0.1) args s A) (F0 m 33 ls [.int (bI s1), .ref h_]) := by
    intro s1 l1 l2 l3 v_character v_busy v_wasHigh v_parityHigh v_someHigh H locs ls hF hl hP hD hS
    unfold F_X4_see_33 at hF
    refine pf (ci := 4) (v := .int (bI s1)) (ty := .boolean) (C := RX4) (T := TX4) (N := 7) (ws' := [oX4 h_ v_control v_character v_beat v_busy v_wasHigh v_parityHigh s1]) hx hb hts i_X4 tyX4_ok nmX4 hown hK hP hD hS 0 rfl rfl 6 (Nat.le_of_ble_eq_true rfl) f_46 rfl rfl (by decide +kernel) (nar_bI s1) (fit_bI s1) (Nat.le_of_ble_eq_true rfl) rfl dX4_see_33 (fun H locs hP hD hS => ?_)
    refine lv_iload_n hx hb dX4_see_36 rfl (lv_at hl 2 rfl) ?_
    refine lv_iload_n hx hb dX4_see_37 rfl (lv_at hl 3 rfl) ?_
    refine lv_icmp_gt (tgt := 65) hx hb dX4_see_38 (by decide) (fun c3 => ?_) (fun c3 => ?_)
    · replace hF := it_t c3 hF
      refine lv_iload_n hx hb dX4_see_65 rfl (lv_at hl 2 rfl) ?_
      refine lv_iload_n hx hb dX4_see_66 rfl (lv_at hl 3 rfl) ?_
      refine lv_iconst (v := 1) hx hb dX4_see_67 (by decide) ?_
      refine lv_iadd hx hb dX4_see_68 ?_
      refine lv_icmp_ne (tgt := 89) hx hb dX4_see_69 (by decide) (fun c4 => ?_) (fun c4 => ?_)
      · replace hF := it_f c4 hF
        exact J89 l1 v_character v_busy v_wasHigh v_parityHigh s1 _ _ _ hF (lv_sub hl [0, 1] rfl) hP hD hS
      · replace hF := it_t c4 hF
        refine lv_aload_n hx hb dX4_see_72 rfl (lv_at hl 0 rfl) ?_
        refine va_get (D := D) (ci := 4) (v := .int v_control) (C := RX4) (T := TX4) (N := 7) hx hb hts i_X4 hown hK hP 0 rfl rfl 0 (Nat.le_of_ble_eq_true rfl) f_37 (fun _ h9 => h9) rfl dX4_see_73 ?_
        obtain ⟨u5, hu5, hF⟩ := bd_el hF
        refine cSI (As := [.int v_control]) (rest := []) (wr := [oX4 h_ v_control v_character v_beat v_busy v_wasHigh v_parityHigh s1]) (ws' := [oX4 h_ v_control v_character v_beat v_busy v_wasHigh v_parityHigh s1]) (rv := bI u5) ⟨hx, hb, hml, hown, hts⟩ (mX7_hasParity D v_control u5 hu5) (va_cwS 1 hts gX4_see_X7_hasParity rfl rfl rfl (by decide +kernel) ⟨Nat.le_of_ble_eq_true rfl, Nat.le_of_ble_eq_true rfl⟩) hK hP hD hS hA [] [] [0] [0] rfl rfl rfl rfl rfl rfl hl.1 rfl (Nat.le_of_ble_eq_true rfl) rfl dX4_see_76 ⟨Nat.le_refl _, Nat.le_refl _⟩ (fun H locs hP hD hS => ?_)
        refine lv_if_eq (tgt := 89) hx hb dX4_see_79 (by decide) (fun c6 => ?_) (fun c6 => ?_)
        · replace hF := bt_f (bI_0 c6) hF
          exact J89 l1 v_character v_busy v_wasHigh v_parityHigh s1 _ _ _ hF (lv_sub hl [0, 1] rfl) hP hD hS
        · replace hF := bt_t (bI_n0 c6) hF
          refine lv_aload_n hx hb dX4_see_82 rfl (lv_at hl 0 rfl) ?_
          refine lv_iload_n hx hb dX4_see_83 rfl (lv_at hl 1 rfl) ?_
          refine pf (ci := 4) (v := .int (bI l1)) (ty := .boolean) (C := RX4) (T := TX4) (N := 7) (ws' := [oX4 h_ v_control v_character v_beat v_busy v_wasHigh l1 s1]) hx hb hts i_X4 tyX4_ok nmX4 hown hK hP hD hS 0 rfl rfl 5 (Nat.le_of_ble_eq_true rfl) f_43 rfl rfl (by decide +kernel) (nar_bI l1) (fit_bI l1) (Nat.le_of_ble_eq_true rfl) rfl dX4_see_84 (fun H locs hP hD hS => ?_)
          refine lv_iconst (v := (-1)) hx hb dX4_see_87 (by decide) ?_
          exact hret ((-1), v_character, v_busy, v_wasHigh, l1, s1) (-1) _ _ 88 _ hP hD hS hF rfl dX4_see_88
    · replace hF := it_f c3 hF
      refine lv_aload_n hx hb dX4_see_41 rfl (lv_at hl 0 rfl) ?_
      refine lv_dup hx hb dX4_see_42 rfl ?_
      refine va_get (D := D) (ci := 4) (v := .int v_character) (C := RX4) (T := TX4) (N := 7) hx hb hts i_X4 hown hK hP 0 rfl rfl 1 (Nat.le_of_ble_eq_true rfl) f_40 (fun _ h9 => h9) rfl dX4_see_43 ?_
      refine lv_iload_n hx hb dX4_see_46 rfl (lv_at hl 1 rfl) ?_
      refine lv_if_eq (tgt := 58) hx hb dX4_see_47 (by decide) (fun c7 => ?_) (fun c7 => ?_)
      · replace hF := bt_f (bI_0 c7) hF
        refine lv_iconst (v := 0) hx hb dX4_see_58 (by decide) ?_
        refine lv_ior hx hb dX4_see_59 ?_
        refine lv_topi (fun x8 ex8 => ?_)
        replace hF := lt1_x ex8 hF
        refine pf (ci := 4) (v := .int x8) (ty := .int) (C := RX4) (T := TX4) (N := 7) (ws' := [oX4 h_ v_control x8 v_beat v_busy v_wasHigh v_parityHigh s1]) hx hb hts i_X4 tyX4_ok nmX4 hown hK hP hD hS 0 rfl rfl 1 (Nat.le_of_ble_eq_true rfl) f_40 rfl rfl (by decide +kernel) rfl rfl (Nat.le_of_ble_eq_true rfl) rfl dX4_see_60 (fun H locs hP hD hS => ?_)
        refine lv_iconst (v := (-1)) hx hb dX4_see_63 (by decide) ?_
        exact hret ((-1), x8, v_busy, v_wasHigh, v_parityHigh, s1) (-1) _ _ 64 _ hP hD hS hF rfl dX4_see_64
      · replace hF := bt_t (bI_n0 c7) hF
        refine lv_iconst (v := 1) hx hb dX4_see_50 (by decide) ?_
        refine lv_iload_n hx hb dX4_see_51 rfl (lv_at hl 2 rfl) ?_
        refine lv_iconst (v := 1) hx hb dX4_see_52 (by decide) ?_
        refine lv_isub hx hb dX4_see_53 ?_
        refine lv_ishl hx hb dX4_see_54 ?_
        refine lv_goto (tgt := 59) hx hb dX4_see_55 (by decide) ?_
        refine lv_ior hx hb dX4_see_59 ?_
        refine lv_topi (fun x9 ex9 => ?_)
        replace hF := lt1_x ex9 hF
        refine pf (ci := 4) (v := .int x9) (ty := .int) (C := RX4) (T := TX4) (N := 7) (ws' := [oX4 h_ v_control x9 v_beat v_busy v_wasHigh v_parityHigh s1]) hx hb hts i_X4 tyX4_ok nmX4 hown hK hP hD hS 0 rfl rfl 1 (Nat.le_of_ble_eq_true rfl) f_40 rfl rfl (by decide +kernel) rfl rfl (Nat.le_of_ble_eq_true rfl) rfl dX4_see_60 (fun H locs hP hD hS => ?_)
        refine lv_iconst (v := (-1)) hx hb dX4_see_63 (by decide) ?_
        exact hret ((-1), x9, v_busy, v_wasHigh, v_parityHigh, s1) (-1) _ _ 64 _ hP hD hS hF rfl dX4_see_64
  unfold F_X4_see at hF
  refine lv_aload_n hx hb dX4_see_0 rfl (lv_at hl 0 rfl) ?_
  refine va_get (D := D) (ci := 4) (v := .int v_beat) (C := RX4) (T := TX4) (N := 7) hx hb hts i_X4 hown hK hP 0 rfl rfl 2 (Nat.le_of_ble_eq_true rfl) f_26 (fun _ h9 => h9) rfl dX4_see_1 ?_
  refine lv_bipush (v := 16) hx hb dX4_see_4 (by decide) ?_
  refine lv_idiv hx hb dX4_see_6 (by decide) ?_
  refine lv_topi (fun x10 ex10 => ?_)
  replace hF := lt1_x ex10 hF
  refine lv_istore_n (lv' := [(2, .int x10), (0, .ref h_), (1, .int (bI p1))]) hx hb dX4_see_7 rfl hl (Nat.le_of_ble_eq_true rfl) rfl (fun ls hl => ?_)
  refine lv_aload_n hx hb dX4_see_8 rfl (lv_at hl 1 rfl) ?_
  refine va_get (D := D) (ci := 4) (v := .int v_control) (C := RX4) (T := TX4) (N := 7) hx hb hts i_X4 hown hK hP 0 rfl rfl 0 (Nat.le_of_ble_eq_true rfl) f_37 (fun _ h9 => h9) rfl dX4_see_9 ?_
  obtain ⟨u11, hu11, hF⟩ := bd_el hF
  refine cSI (As := [.int v_control]) (rest := []) (wr := [oX4 h_ v_control v_character v_beat v_busy v_wasHigh v_parityHigh v_someHigh]) (ws' := [oX4 h_ v_control v_character v_beat v_busy v_wasHigh v_parityHigh v_someHigh]) (rv := u11) ⟨hx, hb, hml, hown, hts⟩ (mX7_dataBits D v_control u11 hu11) (va_cwS 1 hts gX4_see_X7_dataBits rfl rfl rfl (by decide +kernel) ⟨Nat.le_of_ble_eq_true rfl, Nat.le_of_ble_eq_true rfl⟩) hK hP hD hS hA [] [] [0] [0] rfl rfl rfl rfl rfl rfl hl.1 rfl (Nat.le_of_ble_eq_true rfl) rfl dX4_see_12 ⟨Nat.le_refl _, Nat.le_refl _⟩ (fun H locs hP hD hS => ?_)
  refine lv_istore_n (lv' := [(3, .int u11), (2, .int x10), (0, .ref h_), (1, .int (bI p1))]) hx hb dX4_see_15 rfl hl (Nat.le_of_ble_eq_true rfl) rfl (fun ls hl => ?_)
  refine lv_aload_n hx hb dX4_see_16 rfl (lv_at hl 2 rfl) ?_
  refine lv_aload_n hx hb dX4_see_17 rfl (lv_at hl 2 rfl) ?_
  refine va_get (D := D) (ci := 4) (v := .int (bI v_someHigh)) (C := RX4) (T := TX4) (N := 7) hx hb hts i_X4 hown hK hP 0 rfl rfl 6 (Nat.le_of_ble_eq_true rfl) f_46 (fun _ h9 => h9) rfl dX4_see_18 ?_
  refine lv_if_ne (tgt := 28) hx hb dX4_see_21 (by decide) (fun c12 => ?_) (fun c12 => ?_)
  · replace hF := bt_t (bI_n0 c12) hF
    refine lv_iconst (v := 1) hx hb dX4_see_28 (by decide) ?_
    refine lv_goto (tgt := 33) hx hb dX4_see_29 (by decide) ?_
    exact J33 true p1 x10 u11 v_character v_busy v_wasHigh v_parityHigh v_someHigh _ _ _ hF (lv_sub hl [2, 3, 1, 0] rfl) hP hD hS
  · replace hF := bt_f (bI_0 c12) hF
    refine lv_iload_n hx hb dX4_see_24 rfl (lv_at hl 3 rfl) ?_
    refine lv_if_eq (tgt := 32) hx hb dX4_see_25 (by decide) (fun c13 => ?_) (fun c13 => ?_)
    · replace hF := bt_f (bI_0 c13) hF
      refine lv_iconst (v := 0) hx hb dX4_see_32 (by decide) ?_
      exact J33 false p1 x10 u11 v_character v_busy v_wasHigh v_parityHigh v_someHigh _ _ _ hF (lv_sub hl [2, 3, 1, 0] rfl) hP hD hS
    · replace hF := bt_t (bI_n0 c13) hF
      refine lv_iconst (v := 1) hx hb dX4_see_28 (by decide) ?_
      refine lv_goto (tgt := 33) hx hb dX4_see_29 (by decide) ?_
      exact J33 true p1 x10 u11 v_character v_busy v_wasHigh v_parityHigh v_someHigh _ _ _ hF (lv_sub hl [2, 3, 1, 0] rfl) hP hD hS
def F_X4_step (p1 : Bool) (p2 : Int32) (v_control : Int32) (v_character : Int32) (v_beat : Int32) (v_busy : Bool) (v_wasHigh : Bool) (v_parityHigh : Bool) (v_someHigh : Bool) : Option (Int32 × Int32 × Int32 × Int32 × Bool × Bool × Bool × Bool) := bt v_busy (lt1 (v_beat + 1) (fun x2 => if (x2 - x2 / 16 * 16) = 7 then (if x2 = 7 then (bd (F_X4_seeStart p1 v_busy v_wasHigh) (fun u6 => some (u6.1, v_control, v_character, x2, u6.2.1, u6.2.2, v_parityHigh, v_someHigh))) else (bd (F_X4_see p1 v_control v_character x2 v_busy v_wasHigh v_parityHigh v_someHigh) (fun u5 => some (u5.1, v_control, u5.2.1, x2, u5.2.2.1, u5.2.2.2.1, u5.2.2.2.2.1, u5.2.2.2.2.2)))) else (some ((-1), v_control, v_character, x2, v_busy, v_wasHigh, v_parityHigh, v_someHigh)))) (bd (F_X4_listen p1 p2 v_control v_character v_beat v_busy v_wasHigh v_parityHigh v_someHigh) (fun u7 => some ((-1), u7.1, u7.2.1, u7.2.2.1, u7.2.2.2.1, u7.2.2.2.2.1, u7.2.2.2.2.2.1, u7.2.2.2.2.2.2)))
def wX4_step (h_ : Nat) (u : Int32 × Int32 × Int32 × Int32 × Bool × Bool × Bool × Bool) : va_W := [oX4 h_ u.2.1 u.2.2.1 u.2.2.2.1 u.2.2.2.2.1 u.2.2.2.2.2.1 u.2.2.2.2.2.2.1 u.2.2.2.2.2.2.2]
set_option maxHeartbeats 4000000 in
set_option maxRecDepth 100000 in
theorem mX4_step {l : Launch} (D : va_G) (h_ : Nat) (v_control : Int32) (v_character : Int32) (v_beat : Int32) (v_busy : Bool) (v_wasHigh : Bool) (v_parityHigh : Bool) (v_someHigh : Bool) (p1 : Bool) (p2 : Int32) (u0 : Int32 × Int32 × Int32 × Int32 × Bool × Bool × Bool × Bool) (hF : F_X4_step p1 p2 v_control v_character v_beat v_busy v_wasHigh v_parityHigh v_someHigh = some u0) : MI l yX4_step wsX4_step { frames := 4, cells := 0, slots := 0, locals := 89 } D [] [.ref h_, .int (bI p1), .int p2] [oX4 h_ v_control v_character v_beat v_busy v_wasHigh v_parityHigh v_someHigh] (wX4_step h_ u0) (u0.1) := by
  refine MI.ofW (cc := cX4_step) (maxL := 3) (ret := (some .int)) (lv := [(0, .ref h_), (1, .int (bI p1)), (2, .int p2)]) (by decide +kernel) rfl (Nat.le_of_ble_eq_true rfl) rfl ?_
  intro p e s m args below meth c A ls hx hb hr hml hts hown hlocks hA hK hP hD hS hl
  replace hown : s.vm.findClass RX4 = some m.cls := hown
  have i_X4 : ∀ w ∈ wsX40, w ∈ wsX4_step := by decide +kernel
  have f_15 := hts (.fieldLink RX4 15 "SerialPort$Receiver" "busy" "Z") (by decide +kernel)
  have f_26 := hts (.fieldLink RX4 26 "SerialPort$Receiver" "beat" "I") (by decide +kernel)
  have hret : ∀ (u : Int32 × Int32 × Int32 × Int32 × Bool × Bool × Bool × Bool) (v : Int32) (H : Heap) (locs : List Loc) (pc : Nat) (ls : Array Slot), va_P D vwCl (wX4_step h_ u) H → va_D A (wX4_step h_ u) → va_S A s.heap H locs → some u = some u0 → v = u.1 → decode cX4_step pc = .ok (.ireturn, 1) → W p l e { frames := 4, cells := 0, slots := 0, locals := 89 } s m args below meth c H locs 0 0 (QI below D [] (wX4_step h_ u0) (u0.1) args s A) (F0 m pc ls [.int v]) := fun u v H locs pc ls h1 h2 h3 h4 h5 h6 => rI (wf := wX4_step h_) (rf := fun u => u.1) hx hb hr hlocks hK h1 h2 h3 h4 h5 h6
  unfold F_X4_step at hF
  refine lv_aload_n hx hb dX4_step_0 rfl (lv_at hl 0 rfl) ?_
  refine va_get (D := D) (ci := 4) (v := .int (bI v_busy)) (C := RX4) (T := TX4) (N := 7) hx hb hts i_X4 hown hK hP 0 rfl rfl 3 (Nat.le_of_ble_eq_true rfl) f_15 (fun _ h9 => h9) rfl dX4_step_1 ?_
  refine lv_if_ne (tgt := 15) hx hb dX4_step_4 (by decide) (fun c1 => ?_) (fun c1 => ?_)
  · replace hF := bt_t (bI_n0 c1) hF
    refine lv_aload_n hx hb dX4_step_15 rfl (lv_at hl 0 rfl) ?_
    refine lv_dup hx hb dX4_step_16 rfl ?_
    refine va_get (D := D) (ci := 4) (v := .int v_beat) (C := RX4) (T := TX4) (N := 7) hx hb hts i_X4 hown hK hP 0 rfl rfl 2 (Nat.le_of_ble_eq_true rfl) f_26 (fun _ h9 => h9) rfl dX4_step_17 ?_
    refine lv_iconst (v := 1) hx hb dX4_step_20 (by decide) ?_
    refine lv_iadd hx hb dX4_step_21 ?_
    refine lv_topi (fun x2 ex2 => ?_)
    replace hF := lt1_x ex2 hF
    refine pf (ci := 4) (v := .int x2) (ty := .int) (C := RX4) (T := TX4) (N := 7) (ws' := [oX4 h_ v_control v_character x2 v_busy v_wasHigh v_parityHigh v_someHigh]) hx hb hts i_X4 tyX4_ok nmX4 hown hK hP hD hS 0 rfl rfl 2 (Nat.le_of_ble_eq_true rfl) f_26 rfl rfl (by decide +kernel) rfl rfl (Nat.le_of_ble_eq_true rfl) rfl dX4_step_22 (fun H locs hP hD hS => ?_)
    refine lv_aload_n hx hb dX4_step_25 rfl (lv_at hl 0 rfl) ?_
    refine va_get (D := D) (ci := 4) (v := .int x2) (C := RX4) (T := TX4) (N := 7) hx hb hts i_X4 hown hK hP 0 rfl rfl 2 (Nat.le_of_ble_eq_true rfl) f_26 (fun _ h9 => h9) rfl dX4_step_26 ?_
    refine lv_bipush (v := 16) hx hb dX4_step_29 (by decide) ?_
    refine lv_irem hx hb dX4_step_31 (by decide) ?_
    refine lv_bipush (v := 7) hx hb dX4_step_32 (by decide) ?_
    refine lv_icmp_eq (tgt := 39) hx hb dX4_step_34 (by decide) (fun c3 => ?_) (fun c3 => ?_)
    · replace hF := it_t c3 hF
      refine lv_aload_n hx hb dX4_step_39 rfl (lv_at hl 0 rfl) ?_
      refine va_get (D := D) (ci := 4) (v := .int x2) (C := RX4) (T := TX4) (N := 7) hx hb hts i_X4 hown hK hP 0 rfl rfl 2 (Nat.le_of_ble_eq_true rfl) f_26 (fun _ h9 => h9) rfl dX4_step_40 ?_
      refine lv_bipush (v := 7) hx hb dX4_step_43 (by decide) ?_
      refine lv_icmp_ne (tgt := 56) hx hb dX4_step_45 (by decide) (fun c4 => ?_) (fun c4 => ?_)
      · replace hF := it_f c4 hF
        refine lv_aload_n hx hb dX4_step_56 rfl (lv_at hl 0 rfl) ?_
        refine lv_iload_n hx hb dX4_step_57 rfl (lv_at hl 1 rfl) ?_
        obtain ⟨u5, hu5, hF⟩ := bd_el hF
        refine cVI (q0 := 0) (ci := 4) (As := [.int (bI p1)]) (rest := []) (wr := []) (ws' := [oX4 h_ v_control u5.2.1 x2 u5.2.2.1 u5.2.2.2.1 u5.2.2.2.2.1 u5.2.2.2.2.2]) (rv := u5.1) ⟨hx, hb, hml, hown, hts⟩ (mX4_see D h_ v_control v_character x2 v_busy v_wasHigh v_parityHigh v_someHigh p1 u5 hu5) (cwV 1 hts gX4_step_X4_see rfl rfl rfl (by decide +kernel) ⟨Nat.le_of_ble_eq_true rfl, Nat.le_of_ble_eq_true rfl⟩) hK hP hD hS hA [] [0] [] [0] rfl rfl rfl rfl rfl rfl rfl rfl rfl hl.1 rfl (Nat.le_of_ble_eq_true rfl) rfl dX4_step_58 ⟨Nat.le_refl _, Nat.le_refl _⟩ (fun H locs hP hD hS => ?_)
        exact hret (u5.1, v_control, u5.2.1, x2, u5.2.2.1, u5.2.2.2.1, u5.2.2.2.2.1, u5.2.2.2.2.2) u5.1 _ _ 61 _ hP hD hS hF rfl dX4_step_61
      · replace hF := it_t c4 hF
        refine lv_aload_n hx hb dX4_step_48 rfl (lv_at hl 0 rfl) ?_
        refine lv_iload_n hx hb dX4_step_49 rfl (lv_at hl 1 rfl) ?_
        obtain ⟨u6, hu6, hF⟩ := bd_el hF
        refine cVI (q0 := 0) (ci := 4) (As := [.int (bI p1)]) (rest := []) (wr := []) (ws' := [oX4 h_ v_control v_character x2 u6.2.1 u6.2.2 v_parityHigh v_someHigh]) (rv := u6.1) ⟨hx, hb, hml, hown, hts⟩ (mX4_seeStart D h_ v_control v_character x2 v_busy v_wasHigh v_parityHigh v_someHigh p1 u6 hu6) (cwV 1 hts gX4_step_X4_seeStart rfl rfl rfl (by decide +kernel) ⟨Nat.le_of_ble_eq_true rfl, Nat.le_of_ble_eq_true rfl⟩) hK hP hD hS hA [] [0] [] [0] rfl rfl rfl rfl rfl rfl rfl rfl rfl hl.1 rfl (Nat.le_of_ble_eq_true rfl) rfl dX4_step_50 ⟨Nat.le_refl _, Nat.le_refl _⟩ (fun H locs hP hD hS => ?_)
        refine lv_goto (tgt := 61) hx hb dX4_step_53 (by decide) ?_
        exact hret (u6.1, v_control, v_character, x2, u6.2.1, u6.2.2, v_parityHigh, v_someHigh) u6.1 _ _ 61 _ hP hD hS hF rfl dX4_step_61
    · replace hF := it_f c3 hF
      refine lv_iconst (v := (-1)) hx hb dX4_step_37 (by decide) ?_
      exact hret ((-1), v_control, v_character, x2, v_busy, v_wasHigh, v_parityHigh, v_someHigh) (-1) _ _ 38 _ hP hD hS hF rfl dX4_step_38
  · replace hF := bt_f (bI_0 c1) hF
    refine lv_aload_n hx hb dX4_step_7 rfl (lv_at hl 0 rfl) ?_
    refine lv_iload_n hx hb dX4_step_8 rfl (lv_at hl 1 rfl) ?_
    refine lv_iload_n hx hb dX4_step_9 rfl (lv_at hl 2 rfl) ?_
    obtain ⟨u7, hu7, hF⟩ := bd_el hF
    refine cVV (q0 := 0) (ci := 4) (As := [.int (bI p1), .int p2]) (rest := []) (wr := []) (ws' := [oX4 h_ u7.1 u7.2.1 u7.2.2.1 u7.2.2.2.1 u7.2.2.2.2.1 u7.2.2.2.2.2.1 u7.2.2.2.2.2.2]) ⟨hx, hb, hml, hown, hts⟩ (mX4_listen D h_ v_control v_character v_beat v_busy v_wasHigh v_parityHigh v_someHigh p1 p2 u7 hu7) (cwV 2 hts gX4_step_X4_listen rfl rfl rfl (by decide +kernel) ⟨Nat.le_of_ble_eq_true rfl, Nat.le_of_ble_eq_true rfl⟩) hK hP hD hS hA [] [0] [] [0] rfl rfl rfl rfl rfl rfl rfl rfl rfl hl.1 rfl (Nat.le_of_ble_eq_true rfl) dX4_step_10 ⟨Nat.le_refl _, Nat.le_refl _⟩ (fun H locs hP hD hS => ?_)
    refine lv_iconst (v := (-1)) hx hb dX4_step_13 (by decide) ?_
    exact hret ((-1), u7.1, u7.2.1, u7.2.2.1, u7.2.2.2.1, u7.2.2.2.2.1, u7.2.2.2.2.2.1, u7.2.2.2.2.2.2) (-1) _ _ 14 _ hP hD hS hF rfl dX4_step_14
end
section
theorem dX1_clear_0 : decode cX1_clear 0 = .ok (.aload_n 0, 1) := by decide +kernel
theorem dX1_clear_1 : decode cX1_clear 1 = .ok (.getfield 14, 3) := by decide +kernel
theorem dX1_clear_4 : decode cX1_clear 4 = .ok (.invokevirtual 20, 3) := by decide +kernel
theorem dX1_clear_7 : decode cX1_clear 7 = .ok (.aload_n 0, 1) := by decide +kernel
theorem dX1_clear_8 : decode cX1_clear 8 = .ok (.iconst 1, 1) := by decide +kernel
theorem dX1_clear_9 : decode cX1_clear 9 = .ok (.putfield 23, 3) := by decide +kernel
theorem dX1_clear_12 : decode cX1_clear 12 = .ok (.return_, 1) := by decide +kernel
set_option maxRecDepth 20000 in
theorem ggX1_clear_X5_clear : GoodIn wsX1_clear wsX5_clear := goodIn_r _ [7, 8, 9, 12, 13, 14] (by decide +kernel) (by decide +kernel)
set_option maxRecDepth 20000 in
theorem gX1_clear_X5_clear : GoodIn wsX1_clear (wsV RX1 20 RX5 yX5_clear wsX5_clear) := goodIn_app (goodIn_of _ (by decide +kernel)) ggX1_clear_X5_clear
theorem dX1_pieces_0 : decode cX1_pieces 0 = .ok (.aload_n 0, 1) := by decide +kernel
theorem dX1_pieces_1 : decode cX1_pieces 1 = .ok (.getfield 14, 3) := by decide +kernel
theorem dX1_pieces_4 : decode cX1_pieces 4 = .ok (.invokevirtual 27, 3) := by decide +kernel
theorem dX1_pieces_7 : decode cX1_pieces 7 = .ok (.ireturn, 1) := by decide +kernel
set_option maxRecDepth 20000 in
theorem ggX1_pieces_X5_size : GoodIn wsX1_pieces wsX5_size := goodIn_r _ [6, 7, 10, 11, 12] (by decide +kernel) (by decide +kernel)
set_option maxRecDepth 20000 in
theorem gX1_pieces_X5_size : GoodIn wsX1_pieces (wsV RX1 27 RX5 yX5_size wsX5_size) := goodIn_app (goodIn_of _ (by decide +kernel)) ggX1_pieces_X5_size
theorem dX1_room_0 : decode cX1_room 0 = .ok (.aload_n 0, 1) := by decide +kernel
theorem dX1_room_1 : decode cX1_room 1 = .ok (.getfield 14, 3) := by decide +kernel
theorem dX1_room_4 : decode cX1_room 4 = .ok (.invokevirtual 31, 3) := by decide +kernel
theorem dX1_room_7 : decode cX1_room 7 = .ok (.ireturn, 1) := by decide +kernel
set_option maxRecDepth 20000 in
theorem ggX1_room_X5_room : GoodIn wsX1_room wsX5_room := goodIn_r _ [6, 7, 8, 11, 12, 13] (by decide +kernel) (by decide +kernel)
set_option maxRecDepth 20000 in
theorem gX1_room_X5_room : GoodIn wsX1_room (wsV RX1 31 RX5 yX5_room wsX5_room) := goodIn_app (goodIn_of _ (by decide +kernel)) ggX1_room_X5_room
theorem dX1_append_0 : decode cX1_append 0 = .ok (.aload_n 0, 1) := by decide +kernel
theorem dX1_append_1 : decode cX1_append 1 = .ok (.getfield 14, 3) := by decide +kernel
theorem dX1_append_4 : decode cX1_append 4 = .ok (.iload_n 2, 1) := by decide +kernel
theorem dX1_append_5 : decode cX1_append 5 = .ok (.iconst 2, 1) := by decide +kernel
theorem dX1_append_6 : decode cX1_append 6 = .ok (.imul, 1) := by decide +kernel
theorem dX1_append_7 : decode cX1_append 7 = .ok (.iload_n 1, 1) := by decide +kernel
theorem dX1_append_8 : decode cX1_append 8 = .ok (.ifCond .eq 7, 3) := by decide +kernel
theorem dX1_append_11 : decode cX1_append 11 = .ok (.iconst 1, 1) := by decide +kernel
theorem dX1_append_12 : decode cX1_append 12 = .ok (.goto 4, 3) := by decide +kernel
theorem dX1_append_15 : decode cX1_append 15 = .ok (.iconst 0, 1) := by decide +kernel
theorem dX1_append_16 : decode cX1_append 16 = .ok (.iadd, 1) := by decide +kernel
theorem dX1_append_17 : decode cX1_append 17 = .ok (.invokevirtual 34, 3) := by decide +kernel
theorem dX1_append_20 : decode cX1_append 20 = .ok (.return_, 1) := by decide +kernel
set_option maxRecDepth 20000 in
theorem ggX1_append_X5_add : GoodIn wsX1_append wsX5_add := goodIn_r _ [6, 7, 8, 9, 10, 11, 5, 12, 13, 14, 15, 16, 17, 20, 21, 22] (by decide +kernel) (by decide +kernel)
set_option maxRecDepth 20000 in
theorem gX1_append_X5_add : GoodIn wsX1_append (wsV RX1 34 RX5 yX5_add wsX5_add) := goodIn_app (goodIn_of _ (by decide +kernel)) ggX1_append_X5_add
theorem dX1_next_0 : decode cX1_next 0 = .ok (.aload_n 0, 1) := by decide +kernel
theorem dX1_next_1 : decode cX1_next 1 = .ok (.getfield 14, 3) := by decide +kernel
theorem dX1_next_4 : decode cX1_next 4 = .ok (.invokevirtual 37, 3) := by decide +kernel
theorem dX1_next_7 : decode cX1_next 7 = .ok (.ifCond .ne 51, 3) := by decide +kernel
theorem dX1_next_10 : decode cX1_next 10 = .ok (.aload_n 0, 1) := by decide +kernel
theorem dX1_next_11 : decode cX1_next 11 = .ok (.getfield 14, 3) := by decide +kernel
theorem dX1_next_14 : decode cX1_next 14 = .ok (.invokevirtual 41, 3) := by decide +kernel
theorem dX1_next_17 : decode cX1_next 17 = .ok (.istore_n 1, 1) := by decide +kernel
theorem dX1_next_18 : decode cX1_next 18 = .ok (.aload_n 0, 1) := by decide +kernel
theorem dX1_next_19 : decode cX1_next 19 = .ok (.iload_n 1, 1) := by decide +kernel
theorem dX1_next_20 : decode cX1_next 20 = .ok (.iconst 1, 1) := by decide +kernel
theorem dX1_next_21 : decode cX1_next 21 = .ok (.iand, 1) := by decide +kernel
theorem dX1_next_22 : decode cX1_next 22 = .ok (.ifCond .eq 7, 3) := by decide +kernel
theorem dX1_next_25 : decode cX1_next 25 = .ok (.iconst 1, 1) := by decide +kernel
theorem dX1_next_26 : decode cX1_next 26 = .ok (.goto 4, 3) := by decide +kernel
theorem dX1_next_29 : decode cX1_next 29 = .ok (.iconst 0, 1) := by decide +kernel
theorem dX1_next_30 : decode cX1_next 30 = .ok (.putfield 23, 3) := by decide +kernel
theorem dX1_next_33 : decode cX1_next 33 = .ok (.iload_n 1, 1) := by decide +kernel
theorem dX1_next_34 : decode cX1_next 34 = .ok (.iconst 4, 1) := by decide +kernel
theorem dX1_next_35 : decode cX1_next 35 = .ok (.if_icmp .lt 16, 3) := by decide +kernel
theorem dX1_next_38 : decode cX1_next 38 = .ok (.aload_n 0, 1) := by decide +kernel
theorem dX1_next_39 : decode cX1_next 39 = .ok (.getfield 14, 3) := by decide +kernel
theorem dX1_next_42 : decode cX1_next 42 = .ok (.iload_n 1, 1) := by decide +kernel
theorem dX1_next_43 : decode cX1_next 43 = .ok (.iconst 2, 1) := by decide +kernel
theorem dX1_next_44 : decode cX1_next 44 = .ok (.isub, 1) := by decide +kernel
theorem dX1_next_45 : decode cX1_next 45 = .ok (.invokevirtual 44, 3) := by decide +kernel
theorem dX1_next_48 : decode cX1_next 48 = .ok (.goto 10, 3) := by decide +kernel
theorem dX1_next_51 : decode cX1_next 51 = .ok (.aload_n 0, 1) := by decide +kernel
theorem dX1_next_52 : decode cX1_next 52 = .ok (.getfield 14, 3) := by decide +kernel
theorem dX1_next_55 : decode cX1_next 55 = .ok (.invokevirtual 47, 3) := by decide +kernel
theorem dX1_next_58 : decode cX1_next 58 = .ok (.aload_n 0, 1) := by decide +kernel
theorem dX1_next_59 : decode cX1_next 59 = .ok (.getfield 23, 3) := by decide +kernel
theorem dX1_next_62 : decode cX1_next 62 = .ok (.ireturn, 1) := by decide +kernel
set_option maxRecDepth 20000 in
theorem ggX1_next_X5_isEmpty : GoodIn wsX1_next wsX5_isEmpty := goodIn_r _ [7, 8, 37, 38, 39] (by decide +kernel) (by decide +kernel)
set_option maxRecDepth 20000 in
theorem gX1_next_X5_isEmpty : GoodIn wsX1_next (wsV RX1 37 RX5 yX5_isEmpty wsX5_isEmpty) := goodIn_app (goodIn_of _ (by decide +kernel)) ggX1_next_X5_isEmpty
set_option maxRecDepth 20000 in
theorem ggX1_next_X5_first : GoodIn wsX1_next wsX5_first := goodIn_r _ [12, 13, 14, 15, 6, 16, 8, 17, 18, 19, 20, 21, 22, 37, 38, 39] (by decide +kernel) (by decide +kernel)
set_option maxRecDepth 20000 in
theorem gX1_next_X5_first : GoodIn wsX1_next (wsV RX1 41 RX5 yX5_first wsX5_first) := goodIn_app (goodIn_of _ (by decide +kernel)) ggX1_next_X5_first
set_option maxRecDepth 20000 in
theorem ggX1_next_X5_setFirst : GoodIn wsX1_next wsX5_setFirst := goodIn_r _ [26, 27, 28, 29, 6, 30, 8, 17, 18, 19, 20, 21, 22, 37, 38, 39] (by decide +kernel) (by decide +kernel)
set_option maxRecDepth 20000 in
theorem gX1_next_X5_setFirst : GoodIn wsX1_next (wsV RX1 44 RX5 yX5_setFirst wsX5_setFirst) := goodIn_app (goodIn_of _ (by decide +kernel)) ggX1_next_X5_setFirst
set_option maxRecDepth 20000 in
theorem ggX1_next_X5_dropFirst : GoodIn wsX1_next wsX5_dropFirst := goodIn_r _ [34, 8, 22, 18, 19, 20, 6, 21, 17, 37, 38, 39] (by decide +kernel) (by decide +kernel)
set_option maxRecDepth 20000 in
theorem gX1_next_X5_dropFirst : GoodIn wsX1_next (wsV RX1 47 RX5 yX5_dropFirst wsX5_dropFirst) := goodIn_app (goodIn_of _ (by decide +kernel)) ggX1_next_X5_dropFirst
theorem dX2_clear_0 : decode cX2_clear 0 = .ok (.aload_n 0, 1) := by decide +kernel
theorem dX2_clear_1 : decode cX2_clear 1 = .ok (.getfield 14, 3) := by decide +kernel
theorem dX2_clear_4 : decode cX2_clear 4 = .ok (.invokevirtual 20, 3) := by decide +kernel
theorem dX2_clear_7 : decode cX2_clear 7 = .ok (.aload_n 0, 1) := by decide +kernel
theorem dX2_clear_8 : decode cX2_clear 8 = .ok (.iconst 0, 1) := by decide +kernel
theorem dX2_clear_9 : decode cX2_clear 9 = .ok (.putfield 23, 3) := by decide +kernel
theorem dX2_clear_12 : decode cX2_clear 12 = .ok (.return_, 1) := by decide +kernel
set_option maxRecDepth 20000 in
theorem ggX2_clear_X5_clear : GoodIn wsX2_clear wsX5_clear := goodIn_r _ [7, 8, 9, 12, 13, 14] (by decide +kernel) (by decide +kernel)
set_option maxRecDepth 20000 in
theorem gX2_clear_X5_clear : GoodIn wsX2_clear (wsV RX2 20 RX5 yX5_clear wsX5_clear) := goodIn_app (goodIn_of _ (by decide +kernel)) ggX2_clear_X5_clear
theorem dX2_fromEnd_0 : decode cX2_fromEnd 0 = .ok (.aload_n 0, 1) := by decide +kernel
theorem dX2_fromEnd_1 : decode cX2_fromEnd 1 = .ok (.getfield 14, 3) := by decide +kernel
theorem dX2_fromEnd_4 : decode cX2_fromEnd 4 = .ok (.aload_n 0, 1) := by decide +kernel
theorem dX2_fromEnd_5 : decode cX2_fromEnd 5 = .ok (.getfield 14, 3) := by decide +kernel
theorem dX2_fromEnd_8 : decode cX2_fromEnd 8 = .ok (.invokevirtual 35, 3) := by decide +kernel
theorem dX2_fromEnd_11 : decode cX2_fromEnd 11 = .ok (.iconst 1, 1) := by decide +kernel
theorem dX2_fromEnd_12 : decode cX2_fromEnd 12 = .ok (.isub, 1) := by decide +kernel
theorem dX2_fromEnd_13 : decode cX2_fromEnd 13 = .ok (.iload_n 1, 1) := by decide +kernel
theorem dX2_fromEnd_14 : decode cX2_fromEnd 14 = .ok (.isub, 1) := by decide +kernel
theorem dX2_fromEnd_15 : decode cX2_fromEnd 15 = .ok (.invokevirtual 56, 3) := by decide +kernel
theorem dX2_fromEnd_18 : decode cX2_fromEnd 18 = .ok (.ireturn, 1) := by decide +kernel
set_option maxRecDepth 20000 in
theorem ggX2_fromEnd_X5_size : GoodIn wsX2_fromEnd wsX5_size := goodIn_r _ [6, 7, 20, 21, 22] (by decide +kernel) (by decide +kernel)
set_option maxRecDepth 20000 in
theorem gX2_fromEnd_X5_size : GoodIn wsX2_fromEnd (wsV RX2 35 RX5 yX5_size wsX5_size) := goodIn_app (goodIn_of _ (by decide +kernel)) ggX2_fromEnd_X5_size
set_option maxRecDepth 20000 in
theorem ggX2_fromEnd_X5_at : GoodIn wsX2_fromEnd wsX5_at := goodIn_r _ [11, 7, 12, 13, 14, 15, 5, 16, 17, 20, 21, 22] (by decide +kernel) (by decide +kernel)
set_option maxRecDepth 20000 in
theorem gX2_fromEnd_X5_at : GoodIn wsX2_fromEnd (wsV RX2 56 RX5 yX5_at wsX5_at) := goodIn_app (goodIn_of _ (by decide +kernel)) ggX2_fromEnd_X5_at
theorem dX2_runIsHigh_0 : decode cX2_runIsHigh 0 = .ok (.aload_n 0, 1) := by decide +kernel
theorem dX2_runIsHigh_1 : decode cX2_runIsHigh 1 = .ok (.iload_n 1, 1) := by decide +kernel
theorem dX2_runIsHigh_2 : decode cX2_runIsHigh 2 = .ok (.invokevirtual 39, 3) := by decide +kernel
theorem dX2_runIsHigh_5 : decode cX2_runIsHigh 5 = .ok (.iconst 1, 1) := by decide +kernel
theorem dX2_runIsHigh_6 : decode cX2_runIsHigh 6 = .ok (.iand, 1) := by decide +kernel
theorem dX2_runIsHigh_7 : decode cX2_runIsHigh 7 = .ok (.ifCond .eq 7, 3) := by decide +kernel
theorem dX2_runIsHigh_10 : decode cX2_runIsHigh 10 = .ok (.iconst 1, 1) := by decide +kernel
theorem dX2_runIsHigh_11 : decode cX2_runIsHigh 11 = .ok (.goto 4, 3) := by decide +kernel
theorem dX2_runIsHigh_14 : decode cX2_runIsHigh 14 = .ok (.iconst 0, 1) := by decide +kernel
theorem dX2_runIsHigh_15 : decode cX2_runIsHigh 15 = .ok (.ireturn, 1) := by decide +kernel
set_option maxRecDepth 20000 in
theorem ggX2_runIsHigh_X2_fromEnd : GoodIn wsX2_runIsHigh wsX2_fromEnd := goodIn_r _ [5, 6, 7, 8, 9, 10, 11, 12, 13, 14, 15, 16, 17, 18, 19, 20, 21, 22, 23, 24, 25, 26, 27] (by decide +kernel) (by decide +kernel)
set_option maxRecDepth 20000 in
theorem gX2_runIsHigh_X2_fromEnd : GoodIn wsX2_runIsHigh (wsV RX2 39 RX2 yX2_fromEnd wsX2_fromEnd) := goodIn_app (goodIn_of _ (by decide +kernel)) ggX2_runIsHigh_X2_fromEnd
theorem dX2_isHigh_0 : decode cX2_isHigh 0 = .ok (.aload_n 0, 1) := by decide +kernel
theorem dX2_isHigh_1 : decode cX2_isHigh 1 = .ok (.getfield 14, 3) := by decide +kernel
theorem dX2_isHigh_4 : decode cX2_isHigh 4 = .ok (.invokevirtual 27, 3) := by decide +kernel
theorem dX2_isHigh_7 : decode cX2_isHigh 7 = .ok (.ifCond .ne 11, 3) := by decide +kernel
theorem dX2_isHigh_10 : decode cX2_isHigh 10 = .ok (.aload_n 0, 1) := by decide +kernel
theorem dX2_isHigh_11 : decode cX2_isHigh 11 = .ok (.iconst 0, 1) := by decide +kernel
theorem dX2_isHigh_12 : decode cX2_isHigh 12 = .ok (.invokevirtual 31, 3) := by decide +kernel
theorem dX2_isHigh_15 : decode cX2_isHigh 15 = .ok (.ifCond .eq 7, 3) := by decide +kernel
theorem dX2_isHigh_18 : decode cX2_isHigh 18 = .ok (.iconst 1, 1) := by decide +kernel
theorem dX2_isHigh_19 : decode cX2_isHigh 19 = .ok (.goto 4, 3) := by decide +kernel
theorem dX2_isHigh_22 : decode cX2_isHigh 22 = .ok (.iconst 0, 1) := by decide +kernel
theorem dX2_isHigh_23 : decode cX2_isHigh 23 = .ok (.ireturn, 1) := by decide +kernel
set_option maxRecDepth 20000 in
theorem ggX2_isHigh_X5_isEmpty : GoodIn wsX2_isHigh wsX5_isEmpty := goodIn_r _ [6, 7, 33, 34, 35] (by decide +kernel) (by decide +kernel)
set_option maxRecDepth 20000 in
theorem gX2_isHigh_X5_isEmpty : GoodIn wsX2_isHigh (wsV RX2 27 RX5 yX5_isEmpty wsX5_isEmpty) := goodIn_app (goodIn_of _ (by decide +kernel)) ggX2_isHigh_X5_isEmpty
set_option maxRecDepth 20000 in
theorem ggX2_isHigh_X2_runIsHigh : GoodIn wsX2_isHigh wsX2_runIsHigh := goodIn_r _ [12, 13, 14, 15, 11, 16, 1, 17, 18, 19, 5, 20, 7, 21, 22, 23, 24, 25, 26, 27, 28, 29, 30, 31, 32, 33, 34, 35] (by decide +kernel) (by decide +kernel)
set_option maxRecDepth 20000 in
theorem gX2_isHigh_X2_runIsHigh : GoodIn wsX2_isHigh (wsV RX2 31 RX2 yX2_runIsHigh wsX2_runIsHigh) := goodIn_app (goodIn_of _ (by decide +kernel)) ggX2_isHigh_X2_runIsHigh
theorem dX2_runsInAll_0 : decode cX2_runsInAll 0 = .ok (.aload_n 0, 1) := by decide +kernel
theorem dX2_runsInAll_1 : decode cX2_runsInAll 1 = .ok (.getfield 23, 3) := by decide +kernel
theorem dX2_runsInAll_4 : decode cX2_runsInAll 4 = .ok (.ireturn, 1) := by decide +kernel
theorem dX2_runsKept_0 : decode cX2_runsKept 0 = .ok (.aload_n 0, 1) := by decide +kernel
theorem dX2_runsKept_1 : decode cX2_runsKept 1 = .ok (.getfield 14, 3) := by decide +kernel
theorem dX2_runsKept_4 : decode cX2_runsKept 4 = .ok (.invokevirtual 35, 3) := by decide +kernel
theorem dX2_runsKept_7 : decode cX2_runsKept 7 = .ok (.ireturn, 1) := by decide +kernel
set_option maxRecDepth 20000 in
theorem ggX2_runsKept_X5_size : GoodIn wsX2_runsKept wsX5_size := goodIn_r _ [6, 7, 10, 11, 12] (by decide +kernel) (by decide +kernel)
set_option maxRecDepth 20000 in
theorem gX2_runsKept_X5_size : GoodIn wsX2_runsKept (wsV RX2 35 RX5 yX5_size wsX5_size) := goodIn_app (goodIn_of _ (by decide +kernel)) ggX2_runsKept_X5_size
theorem dX2_runBeats_0 : decode cX2_runBeats 0 = .ok (.aload_n 0, 1) := by decide +kernel
theorem dX2_runBeats_1 : decode cX2_runBeats 1 = .ok (.iload_n 1, 1) := by decide +kernel
theorem dX2_runBeats_2 : decode cX2_runBeats 2 = .ok (.invokevirtual 39, 3) := by decide +kernel
theorem dX2_runBeats_5 : decode cX2_runBeats 5 = .ok (.iconst 1, 1) := by decide +kernel
theorem dX2_runBeats_6 : decode cX2_runBeats 6 = .ok (.ishr, 1) := by decide +kernel
theorem dX2_runBeats_7 : decode cX2_runBeats 7 = .ok (.ireturn, 1) := by decide +kernel
set_option maxRecDepth 20000 in
theorem ggX2_runBeats_X2_fromEnd : GoodIn wsX2_runBeats wsX2_fromEnd := goodIn_r _ [5, 6, 7, 8, 9, 10, 11, 12, 13, 14, 15, 16, 17, 18, 19, 20, 21, 22, 23, 24, 25, 26, 27] (by decide +kernel) (by decide +kernel)
set_option maxRecDepth 20000 in
theorem gX2_runBeats_X2_fromEnd : GoodIn wsX2_runBeats (wsV RX2 39 RX2 yX2_fromEnd wsX2_fromEnd) := goodIn_app (goodIn_of _ (by decide +kernel)) ggX2_runBeats_X2_fromEnd
theorem dX2_append_0 : decode cX2_append 0 = .ok (.aload_n 0, 1) := by decide +kernel
theorem dX2_append_1 : decode cX2_append 1 = .ok (.getfield 14, 3) := by decide +kernel
theorem dX2_append_4 : decode cX2_append 4 = .ok (.invokevirtual 27, 3) := by decide +kernel
theorem dX2_append_7 : decode cX2_append 7 = .ok (.ifCond .ne 36, 3) := by decide +kernel
theorem dX2_append_10 : decode cX2_append 10 = .ok (.aload_n 0, 1) := by decide +kernel
theorem dX2_append_11 : decode cX2_append 11 = .ok (.iconst 0, 1) := by decide +kernel
theorem dX2_append_12 : decode cX2_append 12 = .ok (.invokevirtual 31, 3) := by decide +kernel
theorem dX2_append_15 : decode cX2_append 15 = .ok (.iload_n 1, 1) := by decide +kernel
theorem dX2_append_16 : decode cX2_append 16 = .ok (.if_icmp .ne 27, 3) := by decide +kernel
theorem dX2_append_19 : decode cX2_append 19 = .ok (.aload_n 0, 1) := by decide +kernel
theorem dX2_append_20 : decode cX2_append 20 = .ok (.getfield 14, 3) := by decide +kernel
theorem dX2_append_23 : decode cX2_append 23 = .ok (.aload_n 0, 1) := by decide +kernel
theorem dX2_append_24 : decode cX2_append 24 = .ok (.getfield 14, 3) := by decide +kernel
theorem dX2_append_27 : decode cX2_append 27 = .ok (.invokevirtual 35, 3) := by decide +kernel
theorem dX2_append_30 : decode cX2_append 30 = .ok (.iconst 1, 1) := by decide +kernel
theorem dX2_append_31 : decode cX2_append 31 = .ok (.isub, 1) := by decide +kernel
theorem dX2_append_32 : decode cX2_append 32 = .ok (.aload_n 0, 1) := by decide +kernel
theorem dX2_append_33 : decode cX2_append 33 = .ok (.iconst 0, 1) := by decide +kernel
theorem dX2_append_34 : decode cX2_append 34 = .ok (.invokevirtual 39, 3) := by decide +kernel
theorem dX2_append_37 : decode cX2_append 37 = .ok (.iconst 2, 1) := by decide +kernel
theorem dX2_append_38 : decode cX2_append 38 = .ok (.iadd, 1) := by decide +kernel
theorem dX2_append_39 : decode cX2_append 39 = .ok (.invokevirtual 43, 3) := by decide +kernel
theorem dX2_append_42 : decode cX2_append 42 = .ok (.return_, 1) := by decide +kernel
theorem dX2_append_43 : decode cX2_append 43 = .ok (.aload_n 0, 1) := by decide +kernel
theorem dX2_append_44 : decode cX2_append 44 = .ok (.getfield 14, 3) := by decide +kernel
theorem dX2_append_47 : decode cX2_append 47 = .ok (.invokevirtual 47, 3) := by decide +kernel
theorem dX2_append_50 : decode cX2_append 50 = .ok (.ifCond .ne 10, 3) := by decide +kernel
theorem dX2_append_53 : decode cX2_append 53 = .ok (.aload_n 0, 1) := by decide +kernel
theorem dX2_append_54 : decode cX2_append 54 = .ok (.getfield 14, 3) := by decide +kernel
theorem dX2_append_57 : decode cX2_append 57 = .ok (.invokevirtual 50, 3) := by decide +kernel
theorem dX2_append_60 : decode cX2_append 60 = .ok (.aload_n 0, 1) := by decide +kernel
theorem dX2_append_61 : decode cX2_append 61 = .ok (.getfield 14, 3) := by decide +kernel
theorem dX2_append_64 : decode cX2_append 64 = .ok (.iload_n 1, 1) := by decide +kernel
theorem dX2_append_65 : decode cX2_append 65 = .ok (.ifCond .eq 7, 3) := by decide +kernel
theorem dX2_append_68 : decode cX2_append 68 = .ok (.iconst 3, 1) := by decide +kernel
theorem dX2_append_69 : decode cX2_append 69 = .ok (.goto 4, 3) := by decide +kernel
theorem dX2_append_72 : decode cX2_append 72 = .ok (.iconst 2, 1) := by decide +kernel
theorem dX2_append_73 : decode cX2_append 73 = .ok (.invokevirtual 53, 3) := by decide +kernel
theorem dX2_append_76 : decode cX2_append 76 = .ok (.aload_n 0, 1) := by decide +kernel
theorem dX2_append_77 : decode cX2_append 77 = .ok (.dup, 1) := by decide +kernel
theorem dX2_append_78 : decode cX2_append 78 = .ok (.getfield 23, 3) := by decide +kernel
theorem dX2_append_81 : decode cX2_append 81 = .ok (.iconst 1, 1) := by decide +kernel
theorem dX2_append_82 : decode cX2_append 82 = .ok (.iadd, 1) := by decide +kernel
theorem dX2_append_83 : decode cX2_append 83 = .ok (.putfield 23, 3) := by decide +kernel
theorem dX2_append_86 : decode cX2_append 86 = .ok (.return_, 1) := by decide +kernel
set_option maxRecDepth 20000 in
theorem ggX2_append_X5_isEmpty : GoodIn wsX2_append wsX5_isEmpty := goodIn_r _ [7, 8, 51, 52, 53] (by decide +kernel) (by decide +kernel)
set_option maxRecDepth 20000 in
theorem gX2_append_X5_isEmpty : GoodIn wsX2_append (wsV RX2 27 RX5 yX5_isEmpty wsX5_isEmpty) := goodIn_app (goodIn_of _ (by decide +kernel)) ggX2_append_X5_isEmpty
set_option maxRecDepth 20000 in
theorem ggX2_append_X2_runIsHigh : GoodIn wsX2_append wsX2_runIsHigh := goodIn_r _ [13, 14, 15, 16, 12, 17, 1, 18, 19, 20, 6, 21, 8, 22, 23, 24, 25, 26, 27, 28, 29, 30, 31, 49, 50, 51, 52, 53] (by decide +kernel) (by decide +kernel)
set_option maxRecDepth 20000 in
theorem gX2_append_X2_runIsHigh : GoodIn wsX2_append (wsV RX2 31 RX2 yX2_runIsHigh wsX2_runIsHigh) := goodIn_app (goodIn_of _ (by decide +kernel)) ggX2_append_X2_runIsHigh
set_option maxRecDepth 20000 in
theorem ggX2_append_X5_size : GoodIn wsX2_append wsX5_size := goodIn_r _ [21, 8, 51, 52, 53] (by decide +kernel) (by decide +kernel)
set_option maxRecDepth 20000 in
theorem gX2_append_X5_size : GoodIn wsX2_append (wsV RX2 35 RX5 yX5_size wsX5_size) := goodIn_app (goodIn_of _ (by decide +kernel)) ggX2_append_X5_size
set_option maxRecDepth 20000 in
theorem ggX2_append_X2_fromEnd : GoodIn wsX2_append wsX2_fromEnd := goodIn_r _ [17, 1, 18, 19, 20, 6, 21, 8, 22, 23, 24, 25, 26, 27, 28, 29, 30, 31, 49, 50, 51, 52, 53] (by decide +kernel) (by decide +kernel)
set_option maxRecDepth 20000 in
theorem gX2_append_X2_fromEnd : GoodIn wsX2_append (wsV RX2 39 RX2 yX2_fromEnd wsX2_fromEnd) := goodIn_app (goodIn_of _ (by decide +kernel)) ggX2_append_X2_fromEnd
set_option maxRecDepth 20000 in
theorem ggX2_append_X5_setAt : GoodIn wsX2_append wsX5_setAt := goodIn_r _ [35, 8, 26, 27, 28, 29, 6, 30, 31, 51, 52, 53] (by decide +kernel) (by decide +kernel)
set_option maxRecDepth 20000 in
theorem gX2_append_X5_setAt : GoodIn wsX2_append (wsV RX2 43 RX5 yX5_setAt wsX5_setAt) := goodIn_app (goodIn_of _ (by decide +kernel)) ggX2_append_X5_setAt
set_option maxRecDepth 20000 in
theorem ggX2_append_X5_room : GoodIn wsX2_append wsX5_room := goodIn_r _ [39, 26, 8, 51, 52, 53] (by decide +kernel) (by decide +kernel)
set_option maxRecDepth 20000 in
theorem gX2_append_X5_room : GoodIn wsX2_append (wsV RX2 47 RX5 yX5_room wsX5_room) := goodIn_app (goodIn_of _ (by decide +kernel)) ggX2_append_X5_room
set_option maxRecDepth 20000 in
theorem ggX2_append_X5_dropFirst : GoodIn wsX2_append wsX5_dropFirst := goodIn_r _ [43, 8, 31, 27, 28, 29, 6, 30, 26, 51, 52, 53] (by decide +kernel) (by decide +kernel)
set_option maxRecDepth 20000 in
theorem gX2_append_X5_dropFirst : GoodIn wsX2_append (wsV RX2 50 RX5 yX5_dropFirst wsX5_dropFirst) := goodIn_app (goodIn_of _ (by decide +kernel)) ggX2_append_X5_dropFirst
set_option maxRecDepth 20000 in
theorem ggX2_append_X5_add : GoodIn wsX2_append wsX5_add := goodIn_r _ [47, 8, 26, 48, 33, 34, 6, 35, 27, 28, 29, 30, 31, 51, 52, 53] (by decide +kernel) (by decide +kernel)
set_option maxRecDepth 20000 in
theorem gX2_append_X5_add : GoodIn wsX2_append (wsV RX2 53 RX5 yX5_add wsX5_add) := goodIn_app (goodIn_of _ (by decide +kernel)) ggX2_append_X5_add
def F_X1_clear  (v_high : Bool) (v_wave_head : Int32) (v_wave_size : Int32) : Option (Bool × Int32 × Int32) := bd (F_X5_clear v_wave_head v_wave_size) (fun u1 => some (true, u1.1, u1.2))
def wX1_clear (h_ : Nat) (h_wave : Nat) (h_wave_cells : Nat) (u : Bool × Int32 × Int32) : va_W := [oX1 h_ h_wave u.1, oX5 h_wave h_wave_cells u.2.1 u.2.2]
set_option maxHeartbeats 4000000 in
set_option maxRecDepth 100000 in
theorem mX1_clear {l : Launch} (D : va_G) (h_ : Nat) (h_wave : Nat) (h_wave_cells : Nat) (v_high : Bool) (v_wave_head : Int32) (v_wave_size : Int32) (u0 : Bool × Int32 × Int32) (hF : F_X1_clear v_high v_wave_head v_wave_size = some u0) : MV l yX1_clear wsX1_clear { frames := 1, cells := 0, slots := 0, locals := 20 } D [] [.ref h_] [oX1 h_ h_wave v_high, oX5 h_wave h_wave_cells v_wave_head v_wave_size] (wX1_clear h_ h_wave h_wave_cells u0) := by
  refine MV.ofW (cc := cX1_clear) (maxL := 1) (ret := none) (lv := [(0, .ref h_)]) (by decide +kernel) rfl (Nat.le_of_ble_eq_true rfl) rfl ?_
  intro p e s m args below meth c A ls hx hb hr hml hts hown hlocks hA hK hP hD hS hl
  replace hown : s.vm.findClass RX1 = some m.cls := hown
  have i_X1 : ∀ w ∈ wsX10, w ∈ wsX1_clear := by decide +kernel
  have f_14 := hts (.fieldLink RX1 14 "SerialPort$LineIn" "wave" "LSerialPort$Ring;") (by decide +kernel)
  have f_23 := hts (.fieldLink RX1 23 "SerialPort$LineIn" "high" "Z") (by decide +kernel)
  have hret : ∀ (u : Bool × Int32 × Int32) (H : Heap) (locs : List Loc) (pc : Nat) (ls : Array Slot), va_P D vwCl (wX1_clear h_ h_wave h_wave_cells u) H → va_D A (wX1_clear h_ h_wave h_wave_cells u) → va_S A s.heap H locs → some u = some u0 → decode cX1_clear pc = .ok (.return_, 1) → W p l e { frames := 1, cells := 0, slots := 0, locals := 20 } s m args below meth c H locs 0 0 (QV below D [] (wX1_clear h_ h_wave h_wave_cells u0) args s A) (F0 m pc ls []) := fun u H locs pc ls h1 h2 h3 h4 h5 => rV (wf := wX1_clear h_ h_wave h_wave_cells) hx hb hr hlocks hK h1 h2 h3 h4 h5
  unfold F_X1_clear at hF
  refine lv_aload_n hx hb dX1_clear_0 rfl (lv_at hl 0 rfl) ?_
  refine va_get (D := D) (ci := 1) (v := .ref h_wave) (C := RX1) (T := TX1) (N := 2) hx hb hts i_X1 hown hK hP 0 rfl rfl 0 (Nat.le_of_ble_eq_true rfl) f_14 (fun _ h9 => h9) rfl dX1_clear_1 ?_
  obtain ⟨u1, hu1, hF⟩ := bd_el hF
  refine cVV (q0 := 1) (ci := 5) (As := []) (rest := []) (wr := [oX1 h_ h_wave v_high]) (ws' := [oX1 h_ h_wave v_high, oX5 h_wave h_wave_cells u1.1 u1.2]) ⟨hx, hb, hml, hown, hts⟩ (mX5_clear D h_wave h_wave_cells v_wave_head v_wave_size u1 hu1) (cwV 0 hts gX1_clear_X5_clear rfl rfl rfl (by decide +kernel) ⟨Nat.le_of_ble_eq_true rfl, Nat.le_of_ble_eq_true rfl⟩) hK hP hD hS hA [] [1] [0] [0, 1] rfl rfl rfl rfl rfl rfl rfl rfl rfl hl.1 rfl (Nat.le_of_ble_eq_true rfl) dX1_clear_4 ⟨Nat.le_refl _, Nat.le_refl _⟩ (fun H locs hP hD hS => ?_)
  refine lv_aload_n hx hb dX1_clear_7 rfl (lv_at hl 0 rfl) ?_
  refine lv_iconst (v := 1) hx hb dX1_clear_8 (by decide) ?_
  refine pf (ci := 1) (v := .int (bI true)) (ty := .boolean) (C := RX1) (T := TX1) (N := 2) (ws' := [oX1 h_ h_wave true, oX5 h_wave h_wave_cells u1.1 u1.2]) hx hb hts i_X1 tyX1_ok nmX1 hown hK hP hD hS 0 rfl rfl 1 (Nat.le_of_ble_eq_true rfl) f_23 rfl rfl (by decide +kernel) (nar_bI true) (fit_bI true) (Nat.le_of_ble_eq_true rfl) rfl dX1_clear_9 (fun H locs hP hD hS => ?_)
  exact hret (true, u1.1, u1.2) _ _ 12 _ hP hD hS hF dX1_clear_12
def F_X1_pieces  (v_wave_size : Int32) : Option (Int32) := bd (F_X5_size v_wave_size) (fun u1 => some u1)
def wX1_pieces (h_ : Nat) (h_wave : Nat) (h_wave_cells : Nat) (v_high : Bool) (v_wave_head : Int32) (v_wave_size : Int32) (_u : Int32) : va_W := [oX1 h_ h_wave v_high, oX5 h_wave h_wave_cells v_wave_head v_wave_size]
set_option maxHeartbeats 4000000 in
set_option maxRecDepth 100000 in
theorem mX1_pieces {l : Launch} (D : va_G) (h_ : Nat) (h_wave : Nat) (h_wave_cells : Nat) (v_high : Bool) (v_wave_head : Int32) (v_wave_size : Int32) (u0 : Int32) (hF : F_X1_pieces v_wave_size = some u0) : MI l yX1_pieces wsX1_pieces { frames := 1, cells := 0, slots := 0, locals := 20 } D [] [.ref h_] [oX1 h_ h_wave v_high, oX5 h_wave h_wave_cells v_wave_head v_wave_size] (wX1_pieces h_ h_wave h_wave_cells v_high v_wave_head v_wave_size u0) (u0) := by
  refine MI.ofW (cc := cX1_pieces) (maxL := 1) (ret := (some .int)) (lv := [(0, .ref h_)]) (by decide +kernel) rfl (Nat.le_of_ble_eq_true rfl) rfl ?_
  intro p e s m args below meth c A ls hx hb hr hml hts hown hlocks hA hK hP hD hS hl
  replace hown : s.vm.findClass RX1 = some m.cls := hown
  have i_X1 : ∀ w ∈ wsX10, w ∈ wsX1_pieces := by decide +kernel
  have f_14 := hts (.fieldLink RX1 14 "SerialPort$LineIn" "wave" "LSerialPort$Ring;") (by decide +kernel)
  have hret : ∀ (u : Int32) (v : Int32) (H : Heap) (locs : List Loc) (pc : Nat) (ls : Array Slot), va_P D vwCl (wX1_pieces h_ h_wave h_wave_cells v_high v_wave_head v_wave_size u) H → va_D A (wX1_pieces h_ h_wave h_wave_cells v_high v_wave_head v_wave_size u) → va_S A s.heap H locs → some u = some u0 → v = u → decode cX1_pieces pc = .ok (.ireturn, 1) → W p l e { frames := 1, cells := 0, slots := 0, locals := 20 } s m args below meth c H locs 0 0 (QI below D [] (wX1_pieces h_ h_wave h_wave_cells v_high v_wave_head v_wave_size u0) (u0) args s A) (F0 m pc ls [.int v]) := fun u v H locs pc ls h1 h2 h3 h4 h5 h6 => rI (wf := wX1_pieces h_ h_wave h_wave_cells v_high v_wave_head v_wave_size) (rf := fun u => u) hx hb hr hlocks hK h1 h2 h3 h4 h5 h6
  unfold F_X1_pieces at hF
  refine lv_aload_n hx hb dX1_pieces_0 rfl (lv_at hl 0 rfl) ?_
  refine va_get (D := D) (ci := 1) (v := .ref h_wave) (C := RX1) (T := TX1) (N := 2) hx hb hts i_X1 hown hK hP 0 rfl rfl 0 (Nat.le_of_ble_eq_true rfl) f_14 (fun _ h9 => h9) rfl dX1_pieces_1 ?_
  obtain ⟨u1, hu1, hF⟩ := bd_el hF
  refine cVI (q0 := 1) (ci := 5) (As := []) (rest := []) (wr := [oX1 h_ h_wave v_high]) (ws' := [oX1 h_ h_wave v_high, oX5 h_wave h_wave_cells v_wave_head v_wave_size]) (rv := u1) ⟨hx, hb, hml, hown, hts⟩ (mX5_size D h_wave h_wave_cells v_wave_head v_wave_size u1 hu1) (cwV 0 hts gX1_pieces_X5_size rfl rfl rfl (by decide +kernel) ⟨Nat.le_of_ble_eq_true rfl, Nat.le_of_ble_eq_true rfl⟩) hK hP hD hS hA [] [1] [0] [0, 1] rfl rfl rfl rfl rfl rfl rfl rfl rfl hl.1 rfl (Nat.le_of_ble_eq_true rfl) rfl dX1_pieces_4 ⟨Nat.le_refl _, Nat.le_refl _⟩ (fun H locs hP hD hS => ?_)
  exact hret u1 u1 _ _ 7 _ hP hD hS hF rfl dX1_pieces_7
def F_X1_room  (v_wave_size : Int32) (v_wave_cells_n : Nat) : Option (Int32) := bd (F_X5_room v_wave_size v_wave_cells_n) (fun u1 => some u1)
def wX1_room (k_wave_cells : ClassId) (h_ : Nat) (h_wave : Nat) (h_wave_cells : Nat) (v_high : Bool) (v_wave_head : Int32) (v_wave_size : Int32) (v_wave_cells_n : Nat) (v_wave_cells_a : Nat → Int32) (_u : Int32) : va_W := [oX1 h_ h_wave v_high, oX5 h_wave h_wave_cells v_wave_head v_wave_size, aI h_wave_cells k_wave_cells v_wave_cells_n v_wave_cells_a]
set_option maxHeartbeats 4000000 in
set_option maxRecDepth 100000 in
theorem mX1_room {l : Launch} (D : va_G) (k_wave_cells : ClassId) (h_ : Nat) (h_wave : Nat) (h_wave_cells : Nat) (v_high : Bool) (v_wave_head : Int32) (v_wave_size : Int32) (v_wave_cells_n : Nat) (v_wave_cells_a : Nat → Int32) (u0 : Int32) (hF : F_X1_room v_wave_size v_wave_cells_n = some u0) : MI l yX1_room wsX1_room { frames := 1, cells := 0, slots := 0, locals := 20 } D [(k_wave_cells, .int)] [.ref h_] [oX1 h_ h_wave v_high, oX5 h_wave h_wave_cells v_wave_head v_wave_size, aI h_wave_cells k_wave_cells v_wave_cells_n v_wave_cells_a] (wX1_room k_wave_cells h_ h_wave h_wave_cells v_high v_wave_head v_wave_size v_wave_cells_n v_wave_cells_a u0) (u0) := by
  refine MI.ofW (cc := cX1_room) (maxL := 1) (ret := (some .int)) (lv := [(0, .ref h_)]) (by decide +kernel) rfl (Nat.le_of_ble_eq_true rfl) rfl ?_
  intro p e s m args below meth c A ls hx hb hr hml hts hown hlocks hA hK hP hD hS hl
  replace hown : s.vm.findClass RX1 = some m.cls := hown
  have i_X1 : ∀ w ∈ wsX10, w ∈ wsX1_room := by decide +kernel
  have f_14 := hts (.fieldLink RX1 14 "SerialPort$LineIn" "wave" "LSerialPort$Ring;") (by decide +kernel)
  have hret : ∀ (u : Int32) (v : Int32) (H : Heap) (locs : List Loc) (pc : Nat) (ls : Array Slot), va_P D vwCl (wX1_room k_wave_cells h_ h_wave h_wave_cells v_high v_wave_head v_wave_size v_wave_cells_n v_wave_cells_a u) H → va_D A (wX1_room k_wave_cells h_ h_wave h_wave_cells v_high v_wave_head v_wave_size v_wave_cells_n v_wave_cells_a u) → va_S A s.heap H locs → some u = some u0 → v = u → decode cX1_room pc = .ok (.ireturn, 1) → W p l e { frames := 1, cells := 0, slots := 0, locals := 20 } s m args below meth c H locs 0 0 (QI below D [(k_wave_cells, .int)] (wX1_room k_wave_cells h_ h_wave h_wave_cells v_high v_wave_head v_wave_size v_wave_cells_n v_wave_cells_a u0) (u0) args s A) (F0 m pc ls [.int v]) := fun u v H locs pc ls h1 h2 h3 h4 h5 h6 => rI (wf := wX1_room k_wave_cells h_ h_wave h_wave_cells v_high v_wave_head v_wave_size v_wave_cells_n v_wave_cells_a) (rf := fun u => u) hx hb hr hlocks hK h1 h2 h3 h4 h5 h6
  unfold F_X1_room at hF
  refine lv_aload_n hx hb dX1_room_0 rfl (lv_at hl 0 rfl) ?_
  refine va_get (D := D) (ci := 1) (v := .ref h_wave) (C := RX1) (T := TX1) (N := 2) hx hb hts i_X1 hown hK hP 0 rfl rfl 0 (Nat.le_of_ble_eq_true rfl) f_14 (fun _ h9 => h9) rfl dX1_room_1 ?_
  obtain ⟨u1, hu1, hF⟩ := bd_el hF
  refine cVI (q0 := 1) (ci := 5) (As := []) (rest := []) (wr := [oX1 h_ h_wave v_high]) (ws' := [oX1 h_ h_wave v_high, oX5 h_wave h_wave_cells v_wave_head v_wave_size, aI h_wave_cells k_wave_cells v_wave_cells_n v_wave_cells_a]) (rv := u1) ⟨hx, hb, hml, hown, hts⟩ (mX5_room D k_wave_cells h_wave h_wave_cells v_wave_head v_wave_size v_wave_cells_n v_wave_cells_a u1 hu1) (cwV 0 hts gX1_room_X5_room rfl rfl rfl (by decide +kernel) ⟨Nat.le_of_ble_eq_true rfl, Nat.le_of_ble_eq_true rfl⟩) hK hP hD hS hA [0] [1, 2] [0] [0, 1, 2] rfl rfl rfl rfl rfl rfl rfl rfl rfl hl.1 rfl (Nat.le_of_ble_eq_true rfl) rfl dX1_room_4 ⟨Nat.le_refl _, Nat.le_refl _⟩ (fun H locs hP hD hS => ?_)
  exact hret u1 u1 _ _ 7 _ hP hD hS hF rfl dX1_room_7
def F_X1_append_16 (v_wave_head : Int32) (v_wave_cells_n : Nat) (s1 : Int32) (s2 : Bool) (v_wave_size : Int32) (v_wave_cells_a : Nat → Int32) : Option (Int32 × (Nat → Int32)) := bd (F_X5_add (s1 + (bI s2)) v_wave_head v_wave_size v_wave_cells_n v_wave_cells_a) (fun u1 => some (u1.1, u1.2))
def F_X1_append (p1 : Bool) (p2 : Int32) (v_wave_head : Int32) (v_wave_size : Int32) (v_wave_cells_n : Nat) (v_wave_cells_a : Nat → Int32) : Option (Int32 × (Nat → Int32)) := bt p1 (F_X1_append_16 v_wave_head v_wave_cells_n (p2 * 2) true v_wave_size v_wave_cells_a) (F_X1_append_16 v_wave_head v_wave_cells_n (p2 * 2) false v_wave_size v_wave_cells_a)
def wX1_append (k_wave_cells : ClassId) (h_ : Nat) (h_wave : Nat) (h_wave_cells : Nat) (v_high : Bool) (v_wave_head : Int32) (v_wave_cells_n : Nat) (u : Int32 × (Nat → Int32)) : va_W := [oX1 h_ h_wave v_high, oX5 h_wave h_wave_cells v_wave_head u.1, aI h_wave_cells k_wave_cells v_wave_cells_n u.2]
set_option maxHeartbeats 4000000 in
set_option maxRecDepth 100000 in
theorem mX1_append {l : Launch} (D : va_G) (k_wave_cells : ClassId) (h_ : Nat) (h_wave : Nat) (h_wave_cells : Nat) (v_high : Bool) (v_wave_head : Int32) (v_wave_size : Int32) (v_wave_cells_n : Nat) (v_wave_cells_a : Nat → Int32) (p1 : Bool) (p2 : Int32) (u0 : Int32 × (Nat → Int32)) (hF : F_X1_append p1 p2 v_wave_head v_wave_size v_wave_cells_n v_wave_cells_a = some u0) : MV l yX1_append wsX1_append { frames := 3, cells := 0, slots := 0, locals := 66 } D [(k_wave_cells, .int)] [.ref h_, .int (bI p1), .int p2] [oX1 h_ h_wave v_high, oX5 h_wave h_wave_cells v_wave_head v_wave_size, aI h_wave_cells k_wave_cells v_wave_cells_n v_wave_cells_a] (wX1_append k_wave_cells h_ h_wave h_wave_cells v_high v_wave_head v_wave_cells_n u0) := by
  refine MV.ofW (cc := cX1_append) (maxL := 3) (ret := none) (lv := [(0, .ref h_), (1, .int (bI p1)), (2, .int p2)]) (by decide +kernel) rfl (Nat.le_of_ble_eq_true rfl) rfl ?_
  intro p e s m args below meth c A ls hx hb hr hml hts hown hlocks hA hK hP hD hS hl
  replace hown : s.vm.findClass RX1 = some m.cls := hown
  have i_X1 : ∀ w ∈ wsX10, w ∈ wsX1_append := by decide +kernel
  have f_14 := hts (.fieldLink RX1 14 "SerialPort$LineIn" "wave" "LSerialPort$Ring;") (by decide +kernel)
  have hret : ∀ (u : Int32 × (Nat → Int32)) (H : Heap) (locs : List Loc) (pc : Nat) (ls : Array Slot), va_P D vwCl (wX1_append k_wave_cells h_ h_wave h_wave_cells v_high v_wave_head v_wave_cells_n u) H → va_D A (wX1_append k_wave_cells h_ h_wave h_wave_cells v_high v_wave_head v_wave_cells_n u) → va_S A s.heap H locs → some u = some u0 → decode cX1_append pc = .ok (.return_, 1) → W p l e { frames := 3, cells := 0, slots := 0, locals := 66 } s m args below meth c H locs 0 0 (QV below D [(k_wave_cells, .int)] (wX1_append k_wave_cells h_ h_wave h_wave_cells v_high v_wave_head v_wave_cells_n u0) args s A) (F0 m pc ls []) := fun u H locs pc ls h1 h2 h3 h4 h5 => rV (wf := wX1_append k_wave_cells h_ h_wave h_wave_cells v_high v_wave_head v_wave_cells_n) hx hb hr hlocks hK h1 h2 h3 h4 h5
  have J16 : ∀ (s1 : Int32) (s2 : Bool) (v_wave_size : Int32) (v_wave_cells_a : Nat → Int32) (H : Heap) (locs : List Loc) (ls : Array Slot), F_X1_append_16 v_wave_head v_wave_cells_n s1 s2 v_wave_size v_wave_cells_a = some u0 → lv_has ls 3 [] → va_P D vwCl [oX1 h_ h_wave v_high, oX5 h_wave h_wave_cells v_wave_head v_wave_size, aI h_wave_cells k_wave_cells v_wave_cells_n v_wave_cells_a] H → va_D A [oX1 h_ h_wave v_high, oX5 h_wave h_wave_cells v_wave_head v_wave_size, aI h_wave_cells k_wave_cells v_wave_cells_n v_wave_cells_a] → va_S A s.heap H locs → W p l e { frames := 3, cells := 0, slots := 0, locals := 66 } s m args below meth c H locs 0 0 (QV below D [(k_wave_cells, .int)] (wX1_append k_wave_cells h_ h_wave h_wave_cells v_high v_wave_head v_wave_cells_n u0) args s A) (F0 m 16 ls [.int (bI s2), .int s1, .ref h_wave]) := by
    intro s1 s2 v_wave_size v_wave_cells_a H locs ls hF hl hP hD hS
    unfold F_X1_append_16 at hF
    refine lv_iadd hx hb dX1_append_16 ?_
    obtain ⟨u1, hu1, hF⟩ := bd_el hF
    refine cVV (q0 := 1) (ci := 5) (As := [.int (s1 + (bI s2))]) (rest := []) (wr := [oX1 h_ h_wave v_high]) (ws' := [oX1 h_ h_wave v_high, oX5 h_wave h_wave_cells v_wave_head u1.1, aI h_wave_cells k_wave_cells v_wave_cells_n u1.2]) ⟨hx, hb, hml, hown, hts⟩ (mX5_add D k_wave_cells h_wave h_wave_cells v_wave_head v_wave_size v_wave_cells_n v_wave_cells_a (s1 + (bI s2)) u1 hu1) (cwV 1 hts gX1_append_X5_add rfl rfl rfl (by decide +kernel) ⟨Nat.le_of_ble_eq_true rfl, Nat.le_of_ble_eq_true rfl⟩) hK hP hD hS hA [0] [1, 2] [0] [0, 1, 2] rfl rfl rfl rfl rfl rfl rfl rfl rfl hl.1 rfl (Nat.le_of_ble_eq_true rfl) dX1_append_17 ⟨Nat.le_refl _, Nat.le_refl _⟩ (fun H locs hP hD hS => ?_)
    exact hret (u1.1, u1.2) _ _ 20 _ hP hD hS hF dX1_append_20
  unfold F_X1_append at hF
  refine lv_aload_n hx hb dX1_append_0 rfl (lv_at hl 0 rfl) ?_
  refine va_get (D := D) (ci := 1) (v := .ref h_wave) (C := RX1) (T := TX1) (N := 2) hx hb hts i_X1 hown hK hP 0 rfl rfl 0 (Nat.le_of_ble_eq_true rfl) f_14 (fun _ h9 => h9) rfl dX1_append_1 ?_
  refine lv_iload_n hx hb dX1_append_4 rfl (lv_at hl 2 rfl) ?_
  refine lv_iconst (v := 2) hx hb dX1_append_5 (by decide) ?_
  refine lv_imul hx hb dX1_append_6 ?_
  refine lv_iload_n hx hb dX1_append_7 rfl (lv_at hl 1 rfl) ?_
  refine lv_if_eq (tgt := 15) hx hb dX1_append_8 (by decide) (fun c2 => ?_) (fun c2 => ?_)
  · replace hF := bt_f (bI_0 c2) hF
    refine lv_iconst (v := 0) hx hb dX1_append_15 (by decide) ?_
    exact J16 (p2 * 2) false v_wave_size v_wave_cells_a _ _ _ hF (lv_sub hl [] rfl) hP hD hS
  · replace hF := bt_t (bI_n0 c2) hF
    refine lv_iconst (v := 1) hx hb dX1_append_11 (by decide) ?_
    refine lv_goto (tgt := 16) hx hb dX1_append_12 (by decide) ?_
    exact J16 (p2 * 2) true v_wave_size v_wave_cells_a _ _ _ hF (lv_sub hl [] rfl) hP hD hS
def F_X1_next_30 (v_wave_cells_n : Nat) (s1 : Bool) (l1 : Int32) (v_high : Bool) (v_wave_head : Int32) (v_wave_size : Int32) (v_wave_cells_a : Nat → Int32) : Option (Bool × Bool × Int32 × Int32 × (Nat → Int32)) := if l1 < 4 then (bd (F_X5_dropFirst v_wave_head v_wave_size v_wave_cells_n) (fun u2 => some (s1, s1, u2.1, u2.2, v_wave_cells_a))) else (bd (F_X5_setFirst (l1 - 2) v_wave_head v_wave_size v_wave_cells_n v_wave_cells_a) (fun u3 => some (s1, s1, v_wave_head, v_wave_size, u3)))
def F_X1_next  (v_high : Bool) (v_wave_head : Int32) (v_wave_size : Int32) (v_wave_cells_n : Nat) (v_wave_cells_a : Nat → Int32) : Option (Bool × Bool × Int32 × Int32 × (Nat → Int32)) := bd (F_X5_isEmpty v_wave_size) (fun u4 => bt u4 (some (v_high, v_high, v_wave_head, v_wave_size, v_wave_cells_a)) (bd (F_X5_first v_wave_head v_wave_size v_wave_cells_n v_wave_cells_a) (fun u6 => if (u6 &&& 1) = 0 then (F_X1_next_30 v_wave_cells_n false u6 v_high v_wave_head v_wave_size v_wave_cells_a) else (F_X1_next_30 v_wave_cells_n true u6 v_high v_wave_head v_wave_size v_wave_cells_a))))
def wX1_next (k_wave_cells : ClassId) (h_ : Nat) (h_wave : Nat) (h_wave_cells : Nat) (v_wave_cells_n : Nat) (u : Bool × Bool × Int32 × Int32 × (Nat → Int32)) : va_W := [oX1 h_ h_wave u.2.1, oX5 h_wave h_wave_cells u.2.2.1 u.2.2.2.1, aI h_wave_cells k_wave_cells v_wave_cells_n u.2.2.2.2]
set_option maxHeartbeats 4000000 in
set_option maxRecDepth 100000 in
theorem mX1_next {l : Launch} (D : va_G) (k_wave_cells : ClassId) (h_ : Nat) (h_wave : Nat) (h_wave_cells : Nat) (v_high : Bool) (v_wave_head : Int32) (v_wave_size : Int32) (v_wave_cells_n : Nat) (v_wave_cells_a : Nat → Int32) (u0 : Bool × Bool × Int32 × Int32 × (Nat → Int32)) (hF : F_X1_next v_high v_wave_head v_wave_size v_wave_cells_n v_wave_cells_a = some u0) : MI l yX1_next wsX1_next { frames := 3, cells := 0, slots := 0, locals := 66 } D [(k_wave_cells, .int)] [.ref h_] [oX1 h_ h_wave v_high, oX5 h_wave h_wave_cells v_wave_head v_wave_size, aI h_wave_cells k_wave_cells v_wave_cells_n v_wave_cells_a] (wX1_next k_wave_cells h_ h_wave h_wave_cells v_wave_cells_n u0) (bI u0.1) := by
  refine MI.ofW (cc := cX1_next) (maxL := 2) (ret := (some .boolean)) (lv := [(0, .ref h_)]) (by decide +kernel) rfl (Nat.le_of_ble_eq_true rfl) rfl ?_
  intro p e s m args below meth c A ls hx hb hr hml hts hown hlocks hA hK hP hD hS hl
  replace hown : s.vm.findClass RX1 = some m.cls := hown
  have i_X1 : ∀ w ∈ wsX10, w ∈ wsX1_next := by decide +kernel
  have f_14 := hts (.fieldLink RX1 14 "SerialPort$LineIn" "wave" "LSerialPort$Ring;") (by decide +kernel)
  have f_23 := hts (.fieldLink RX1 23 "SerialPort$LineIn" "high" "Z") (by decide +kernel)
  have hret : ∀ (u : Bool × Bool × Int32 × Int32 × (Nat → Int32)) (v : Int32) (H : Heap) (locs : List Loc) (pc : Nat) (ls : Array Slot), va_P D vwCl (wX1_next k_wave_cells h_ h_wave h_wave_cells v_wave_cells_n u) H → va_D A (wX1_next k_wave_cells h_ h_wave h_wave_cells v_wave_cells_n u) → va_S A s.heap H locs → some u = some u0 → v = bI u.1 → decode cX1_next pc = .ok (.ireturn, 1) → W p l e { frames := 3, cells := 0, slots := 0, locals := 66 } s m args below meth c H locs 0 0 (QI below D [(k_wave_cells, .int)] (wX1_next k_wave_cells h_ h_wave h_wave_cells v_wave_cells_n u0) (bI u0.1) args s A) (F0 m pc ls [.int v]) := fun u v H locs pc ls h1 h2 h3 h4 h5 h6 => rZ (wf := wX1_next k_wave_cells h_ h_wave h_wave_cells v_wave_cells_n) (rf := fun u => u.1) hx hb hr hlocks hK h1 h2 h3 h4 h5 h6
  have J30 : ∀ (s1 : Bool) (l1 : Int32) (v_high : Bool) (v_wave_head : Int32) (v_wave_size : Int32) (v_wave_cells_a : Nat → Int32) (H : Heap) (locs : List Loc) (ls : Array Slot), F_X1_next_30 v_wave_cells_n s1 l1 v_high v_wave_head v_wave_size v_wave_cells_a = some u0 → lv_has ls 2 [(0, .ref h_), (1, .int l1)] → va_P D vwCl [oX1 h_ h_wave v_high, oX5 h_wave h_wave_cells v_wave_head v_wave_size, aI h_wave_cells k_wave_cells v_wave_cells_n v_wave_cells_a] H → va_D A [oX1 h_ h_wave v_high, oX5 h_wave h_wave_cells v_wave_head v_wave_size, aI h_wave_cells k_wave_cells v_wave_cells_n v_wave_cells_a] → va_S A s.heap H locs → W p l e { frames := 3, cells := 0, slots := 0, locals := 66 } s m args below meth c H locs 0 0 (QI below D [(k_wave_cells, .int)] (wX1_next k_wave_cells h_ h_wave h_wave_cells v_wave_cells_n u0) (bI u0.1) args s A) (F0 m 30 ls [.int (bI s1), .ref h_]) := by
    intro s1 l1 v_high v_wave_head v_wave_size v_wave_cells_a H locs ls hF hl hP hD hS
    unfold F_X1_next_30 at hF
    refine pf (ci := 1) (v := .int (bI s1)) (ty := .boolean) (C := RX1) (T := TX1) (N := 2) (ws' := [oX1 h_ h_wave s1, oX5 h_wave h_wave_cells v_wave_head v_wave_size, aI h_wave_cells k_wave_cells v_wave_cells_n v_wave_cells_a]) hx hb hts i_X1 tyX1_ok nmX1 hown hK hP hD hS 0 rfl rfl 1 (Nat.le_of_ble_eq_true rfl) f_23 rfl rfl (by decide +kernel) (nar_bI s1) (fit_bI s1) (Nat.le_of_ble_eq_true rfl) rfl dX1_next_30 (fun H locs hP hD hS => ?_)
    refine lv_iload_n hx hb dX1_next_33 rfl (lv_at hl 1 rfl) ?_
    refine lv_iconst (v := 4) hx hb dX1_next_34 (by decide) ?_
    refine lv_icmp_lt (tgt := 51) hx hb dX1_next_35 (by decide) (fun c1 => ?_) (fun c1 => ?_)
    · replace hF := it_t c1 hF
      refine lv_aload_n hx hb dX1_next_51 rfl (lv_at hl 0 rfl) ?_
      refine va_get (D := D) (ci := 1) (v := .ref h_wave) (C := RX1) (T := TX1) (N := 2) hx hb hts i_X1 hown hK hP 0 rfl rfl 0 (Nat.le_of_ble_eq_true rfl) f_14 (fun _ h9 => h9) rfl dX1_next_52 ?_
      obtain ⟨u2, hu2, hF⟩ := bd_el hF
      refine cVV (q0 := 1) (ci := 5) (As := []) (rest := []) (wr := [oX1 h_ h_wave s1]) (ws' := [oX1 h_ h_wave s1, oX5 h_wave h_wave_cells u2.1 u2.2, aI h_wave_cells k_wave_cells v_wave_cells_n v_wave_cells_a]) ⟨hx, hb, hml, hown, hts⟩ (mX5_dropFirst D k_wave_cells h_wave h_wave_cells v_wave_head v_wave_size v_wave_cells_n v_wave_cells_a u2 hu2) (cwV 0 hts gX1_next_X5_dropFirst rfl rfl rfl (by decide +kernel) ⟨Nat.le_of_ble_eq_true rfl, Nat.le_of_ble_eq_true rfl⟩) hK hP hD hS hA [0] [1, 2] [0] [0, 1, 2] rfl rfl rfl rfl rfl rfl rfl rfl rfl hl.1 rfl (Nat.le_of_ble_eq_true rfl) dX1_next_55 ⟨Nat.le_refl _, Nat.le_refl _⟩ (fun H locs hP hD hS => ?_)
      refine lv_aload_n hx hb dX1_next_58 rfl (lv_at hl 0 rfl) ?_
      refine va_get (D := D) (ci := 1) (v := .int (bI s1)) (C := RX1) (T := TX1) (N := 2) hx hb hts i_X1 hown hK hP 0 rfl rfl 1 (Nat.le_of_ble_eq_true rfl) f_23 (fun _ h9 => h9) rfl dX1_next_59 ?_
      exact hret (s1, s1, u2.1, u2.2, v_wave_cells_a) (bI s1) _ _ 62 _ hP hD hS hF rfl dX1_next_62
    · replace hF := it_f c1 hF
      refine lv_aload_n hx hb dX1_next_38 rfl (lv_at hl 0 rfl) ?_
      refine va_get (D := D) (ci := 1) (v := .ref h_wave) (C := RX1) (T := TX1) (N := 2) hx hb hts i_X1 hown hK hP 0 rfl rfl 0 (Nat.le_of_ble_eq_true rfl) f_14 (fun _ h9 => h9) rfl dX1_next_39 ?_
      refine lv_iload_n hx hb dX1_next_42 rfl (lv_at hl 1 rfl) ?_
      refine lv_iconst (v := 2) hx hb dX1_next_43 (by decide) ?_
      refine lv_isub hx hb dX1_next_44 ?_
      obtain ⟨u3, hu3, hF⟩ := bd_el hF
      refine cVV (q0 := 1) (ci := 5) (As := [.int (l1 - 2)]) (rest := []) (wr := [oX1 h_ h_wave s1]) (ws' := [oX1 h_ h_wave s1, oX5 h_wave h_wave_cells v_wave_head v_wave_size, aI h_wave_cells k_wave_cells v_wave_cells_n u3]) ⟨hx, hb, hml, hown, hts⟩ (mX5_setFirst D k_wave_cells h_wave h_wave_cells v_wave_head v_wave_size v_wave_cells_n v_wave_cells_a (l1 - 2) u3 hu3) (cwV 1 hts gX1_next_X5_setFirst rfl rfl rfl (by decide +kernel) ⟨Nat.le_of_ble_eq_true rfl, Nat.le_of_ble_eq_true rfl⟩) hK hP hD hS hA [0] [1, 2] [0] [0, 1, 2] rfl rfl rfl rfl rfl rfl rfl rfl rfl hl.1 rfl (Nat.le_of_ble_eq_true rfl) dX1_next_45 ⟨Nat.le_refl _, Nat.le_refl _⟩ (fun H locs hP hD hS => ?_)
      refine lv_goto (tgt := 58) hx hb dX1_next_48 (by decide) ?_
      refine lv_aload_n hx hb dX1_next_58 rfl (lv_at hl 0 rfl) ?_
      refine va_get (D := D) (ci := 1) (v := .int (bI s1)) (C := RX1) (T := TX1) (N := 2) hx hb hts i_X1 hown hK hP 0 rfl rfl 1 (Nat.le_of_ble_eq_true rfl) f_23 (fun _ h9 => h9) rfl dX1_next_59 ?_
      exact hret (s1, s1, v_wave_head, v_wave_size, u3) (bI s1) _ _ 62 _ hP hD hS hF rfl dX1_next_62
  unfold F_X1_next at hF
  refine lv_aload_n hx hb dX1_next_0 rfl (lv_at hl 0 rfl) ?_
  refine va_get (D := D) (ci := 1) (v := .ref h_wave) (C := RX1) (T := TX1) (N := 2) hx hb hts i_X1 hown hK hP 0 rfl rfl 0 (Nat.le_of_ble_eq_true rfl) f_14 (fun _ h9 => h9) rfl dX1_next_1 ?_
  obtain ⟨u4, hu4, hF⟩ := bd_el hF
  refine cVI (q0 := 1) (ci := 5) (As := []) (rest := []) (wr := [oX1 h_ h_wave v_high, aI h_wave_cells k_wave_cells v_wave_cells_n v_wave_cells_a]) (ws' := [oX1 h_ h_wave v_high, oX5 h_wave h_wave_cells v_wave_head v_wave_size, aI h_wave_cells k_wave_cells v_wave_cells_n v_wave_cells_a]) (rv := bI u4) ⟨hx, hb, hml, hown, hts⟩ (mX5_isEmpty D h_wave h_wave_cells v_wave_head v_wave_size u4 hu4) (cwV 0 hts gX1_next_X5_isEmpty rfl rfl rfl (by decide +kernel) ⟨Nat.le_of_ble_eq_true rfl, Nat.le_of_ble_eq_true rfl⟩) hK hP hD hS hA [] [1] [0, 2] [0, 2, 1] rfl rfl rfl rfl rfl rfl rfl rfl rfl hl.1 rfl (Nat.le_of_ble_eq_true rfl) rfl dX1_next_4 ⟨Nat.le_refl _, Nat.le_refl _⟩ (fun H locs hP hD hS => ?_)
  refine lv_if_ne (tgt := 58) hx hb dX1_next_7 (by decide) (fun c5 => ?_) (fun c5 => ?_)
  · replace hF := bt_t (bI_n0 c5) hF
    refine lv_aload_n hx hb dX1_next_58 rfl (lv_at hl 0 rfl) ?_
    refine va_get (D := D) (ci := 1) (v := .int (bI v_high)) (C := RX1) (T := TX1) (N := 2) hx hb hts i_X1 hown hK hP 0 rfl rfl 1 (Nat.le_of_ble_eq_true rfl) f_23 (fun _ h9 => h9) rfl dX1_next_59 ?_
    exact hret (v_high, v_high, v_wave_head, v_wave_size, v_wave_cells_a) (bI v_high) _ _ 62 _ hP hD hS hF rfl dX1_next_62
  · replace hF := bt_f (bI_0 c5) hF
    refine lv_aload_n hx hb dX1_next_10 rfl (lv_at hl 0 rfl) ?_
    refine va_get (D := D) (ci := 1) (v := .ref h_wave) (C := RX1) (T := TX1) (N := 2) hx hb hts i_X1 hown hK hP 0 rfl rfl 0 (Nat.le_of_ble_eq_true rfl) f_14 (fun _ h9 => h9) rfl dX1_next_11 ?_
    obtain ⟨u6, hu6, hF⟩ := bd_el hF
    refine cVI (q0 := 1) (ci := 5) (As := []) (rest := []) (wr := [oX1 h_ h_wave v_high]) (ws' := [oX1 h_ h_wave v_high, oX5 h_wave h_wave_cells v_wave_head v_wave_size, aI h_wave_cells k_wave_cells v_wave_cells_n v_wave_cells_a]) (rv := u6) ⟨hx, hb, hml, hown, hts⟩ (mX5_first D k_wave_cells h_wave h_wave_cells v_wave_head v_wave_size v_wave_cells_n v_wave_cells_a u6 hu6) (cwV 0 hts gX1_next_X5_first rfl rfl rfl (by decide +kernel) ⟨Nat.le_of_ble_eq_true rfl, Nat.le_of_ble_eq_true rfl⟩) hK hP hD hS hA [0] [1, 2] [0] [0, 1, 2] rfl rfl rfl rfl rfl rfl rfl rfl rfl hl.1 rfl (Nat.le_of_ble_eq_true rfl) rfl dX1_next_14 ⟨Nat.le_refl _, Nat.le_refl _⟩ (fun H locs hP hD hS => ?_)
    refine lv_istore_n (lv' := [(1, .int u6), (0, .ref h_)]) hx hb dX1_next_17 rfl hl (Nat.le_of_ble_eq_true rfl) rfl (fun ls hl => ?_)
    refine lv_aload_n hx hb dX1_next_18 rfl (lv_at hl 1 rfl) ?_
    refine lv_iload_n hx hb dX1_next_19 rfl (lv_at hl 0 rfl) ?_
    refine lv_iconst (v := 1) hx hb dX1_next_20 (by decide) ?_
    refine lv_iand hx hb dX1_next_21 ?_
    refine lv_if_eq (tgt := 29) hx hb dX1_next_22 (by decide) (fun c7 => ?_) (fun c7 => ?_)
    · replace hF := it_t c7 hF
      refine lv_iconst (v := 0) hx hb dX1_next_29 (by decide) ?_
      exact J30 false u6 v_high v_wave_head v_wave_size v_wave_cells_a _ _ _ hF (lv_sub hl [1, 0] rfl) hP hD hS
    · replace hF := it_f c7 hF
      refine lv_iconst (v := 1) hx hb dX1_next_25 (by decide) ?_
      refine lv_goto (tgt := 30) hx hb dX1_next_26 (by decide) ?_
      exact J30 true u6 v_high v_wave_head v_wave_size v_wave_cells_a _ _ _ hF (lv_sub hl [1, 0] rfl) hP hD hS
def F_X2_clear  (v_inAll : Int32) (v_runs_head : Int32) (v_runs_size : Int32) : Option (Int32 × Int32 × Int32) := bd (F_X5_clear v_runs_head v_runs_size) (fun u1 => some (0, u1.1, u1.2))
def wX2_clear (h_ : Nat) (h_runs : Nat) (h_runs_cells : Nat) (u : Int32 × Int32 × Int32) : va_W := [oX2 h_ h_runs u.1, oX5 h_runs h_runs_cells u.2.1 u.2.2]
set_option maxHeartbeats 4000000 in
set_option maxRecDepth 100000 in
theorem mX2_clear {l : Launch} (D : va_G) (h_ : Nat) (h_runs : Nat) (h_runs_cells : Nat) (v_inAll : Int32) (v_runs_head : Int32) (v_runs_size : Int32) (u0 : Int32 × Int32 × Int32) (hF : F_X2_clear v_inAll v_runs_head v_runs_size = some u0) : MV l yX2_clear wsX2_clear { frames := 1, cells := 0, slots := 0, locals := 20 } D [] [.ref h_] [oX2 h_ h_runs v_inAll, oX5 h_runs h_runs_cells v_runs_head v_runs_size] (wX2_clear h_ h_runs h_runs_cells u0) := by
  refine MV.ofW (cc := cX2_clear) (maxL := 1) (ret := none) (lv := [(0, .ref h_)]) (by decide +kernel) rfl (Nat.le_of_ble_eq_true rfl) rfl ?_
  intro p e s m args below meth c A ls hx hb hr hml hts hown hlocks hA hK hP hD hS hl
  replace hown : s.vm.findClass RX2 = some m.cls := hown
  have i_X2 : ∀ w ∈ wsX20, w ∈ wsX2_clear := by decide +kernel
  have f_14 := hts (.fieldLink RX2 14 "SerialPort$LineOut" "runs" "LSerialPort$Ring;") (by decide +kernel)
  have f_23 := hts (.fieldLink RX2 23 "SerialPort$LineOut" "inAll" "I") (by decide +kernel)
  have hret : ∀ (u : Int32 × Int32 × Int32) (H : Heap) (locs : List Loc) (pc : Nat) (ls : Array Slot), va_P D vwCl (wX2_clear h_ h_runs h_runs_cells u) H → va_D A (wX2_clear h_ h_runs h_runs_cells u) → va_S A s.heap H locs → some u = some u0 → decode cX2_clear pc = .ok (.return_, 1) → W p l e { frames := 1, cells := 0, slots := 0, locals := 20 } s m args below meth c H locs 0 0 (QV below D [] (wX2_clear h_ h_runs h_runs_cells u0) args s A) (F0 m pc ls []) := fun u H locs pc ls h1 h2 h3 h4 h5 => rV (wf := wX2_clear h_ h_runs h_runs_cells) hx hb hr hlocks hK h1 h2 h3 h4 h5
  unfold F_X2_clear at hF
  refine lv_aload_n hx hb dX2_clear_0 rfl (lv_at hl 0 rfl) ?_
  refine va_get (D := D) (ci := 2) (v := .ref h_runs) (C := RX2) (T := TX2) (N := 2) hx hb hts i_X2 hown hK hP 0 rfl rfl 0 (Nat.le_of_ble_eq_true rfl) f_14 (fun _ h9 => h9) rfl dX2_clear_1 ?_
  obtain ⟨u1, hu1, hF⟩ := bd_el hF
  refine cVV (q0 := 1) (ci := 5) (As := []) (rest := []) (wr := [oX2 h_ h_runs v_inAll]) (ws' := [oX2 h_ h_runs v_inAll, oX5 h_runs h_runs_cells u1.1 u1.2]) ⟨hx, hb, hml, hown, hts⟩ (mX5_clear D h_runs h_runs_cells v_runs_head v_runs_size u1 hu1) (cwV 0 hts gX2_clear_X5_clear rfl rfl rfl (by decide +kernel) ⟨Nat.le_of_ble_eq_true rfl, Nat.le_of_ble_eq_true rfl⟩) hK hP hD hS hA [] [1] [0] [0, 1] rfl rfl rfl rfl rfl rfl rfl rfl rfl hl.1 rfl (Nat.le_of_ble_eq_true rfl) dX2_clear_4 ⟨Nat.le_refl _, Nat.le_refl _⟩ (fun H locs hP hD hS => ?_)
  refine lv_aload_n hx hb dX2_clear_7 rfl (lv_at hl 0 rfl) ?_
  refine lv_iconst (v := 0) hx hb dX2_clear_8 (by decide) ?_
  refine pf (ci := 2) (v := .int 0) (ty := .int) (C := RX2) (T := TX2) (N := 2) (ws' := [oX2 h_ h_runs 0, oX5 h_runs h_runs_cells u1.1 u1.2]) hx hb hts i_X2 tyX2_ok nmX2 hown hK hP hD hS 0 rfl rfl 1 (Nat.le_of_ble_eq_true rfl) f_23 rfl rfl (by decide +kernel) rfl rfl (Nat.le_of_ble_eq_true rfl) rfl dX2_clear_9 (fun H locs hP hD hS => ?_)
  exact hret (0, u1.1, u1.2) _ _ 12 _ hP hD hS hF dX2_clear_12
def F_X2_fromEnd (p1 : Int32) (v_runs_head : Int32) (v_runs_size : Int32) (v_runs_cells_n : Nat) (v_runs_cells_a : Nat → Int32) : Option (Int32) := bd (F_X5_size v_runs_size) (fun u1 => bd (F_X5_at ((u1 - 1) - p1) v_runs_head v_runs_size v_runs_cells_n v_runs_cells_a) (fun u2 => some u2))
def wX2_fromEnd (k_runs_cells : ClassId) (h_ : Nat) (h_runs : Nat) (h_runs_cells : Nat) (v_inAll : Int32) (v_runs_head : Int32) (v_runs_size : Int32) (v_runs_cells_n : Nat) (v_runs_cells_a : Nat → Int32) (_u : Int32) : va_W := [oX2 h_ h_runs v_inAll, oX5 h_runs h_runs_cells v_runs_head v_runs_size, aI h_runs_cells k_runs_cells v_runs_cells_n v_runs_cells_a]
set_option maxHeartbeats 4000000 in
set_option maxRecDepth 100000 in
theorem mX2_fromEnd {l : Launch} (D : va_G) (k_runs_cells : ClassId) (h_ : Nat) (h_runs : Nat) (h_runs_cells : Nat) (v_inAll : Int32) (v_runs_head : Int32) (v_runs_size : Int32) (v_runs_cells_n : Nat) (v_runs_cells_a : Nat → Int32) (p1 : Int32) (u0 : Int32) (hF : F_X2_fromEnd p1 v_runs_head v_runs_size v_runs_cells_n v_runs_cells_a = some u0) : MI l yX2_fromEnd wsX2_fromEnd { frames := 2, cells := 0, slots := 0, locals := 44 } D [(k_runs_cells, .int)] [.ref h_, .int p1] [oX2 h_ h_runs v_inAll, oX5 h_runs h_runs_cells v_runs_head v_runs_size, aI h_runs_cells k_runs_cells v_runs_cells_n v_runs_cells_a] (wX2_fromEnd k_runs_cells h_ h_runs h_runs_cells v_inAll v_runs_head v_runs_size v_runs_cells_n v_runs_cells_a u0) (u0) := by
  refine MI.ofW (cc := cX2_fromEnd) (maxL := 2) (ret := (some .int)) (lv := [(0, .ref h_), (1, .int p1)]) (by decide +kernel) rfl (Nat.le_of_ble_eq_true rfl) rfl ?_
  intro p e s m args below meth c A ls hx hb hr hml hts hown hlocks hA hK hP hD hS hl
  replace hown : s.vm.findClass RX2 = some m.cls := hown
  have i_X2 : ∀ w ∈ wsX20, w ∈ wsX2_fromEnd := by decide +kernel
  have f_14 := hts (.fieldLink RX2 14 "SerialPort$LineOut" "runs" "LSerialPort$Ring;") (by decide +kernel)
  have hret : ∀ (u : Int32) (v : Int32) (H : Heap) (locs : List Loc) (pc : Nat) (ls : Array Slot), va_P D vwCl (wX2_fromEnd k_runs_cells h_ h_runs h_runs_cells v_inAll v_runs_head v_runs_size v_runs_cells_n v_runs_cells_a u) H → va_D A (wX2_fromEnd k_runs_cells h_ h_runs h_runs_cells v_inAll v_runs_head v_runs_size v_runs_cells_n v_runs_cells_a u) → va_S A s.heap H locs → some u = some u0 → v = u → decode cX2_fromEnd pc = .ok (.ireturn, 1) → W p l e { frames := 2, cells := 0, slots := 0, locals := 44 } s m args below meth c H locs 0 0 (QI below D [(k_runs_cells, .int)] (wX2_fromEnd k_runs_cells h_ h_runs h_runs_cells v_inAll v_runs_head v_runs_size v_runs_cells_n v_runs_cells_a u0) (u0) args s A) (F0 m pc ls [.int v]) := fun u v H locs pc ls h1 h2 h3 h4 h5 h6 => rI (wf := wX2_fromEnd k_runs_cells h_ h_runs h_runs_cells v_inAll v_runs_head v_runs_size v_runs_cells_n v_runs_cells_a) (rf := fun u => u) hx hb hr hlocks hK h1 h2 h3 h4 h5 h6
  unfold F_X2_fromEnd at hF
  refine lv_aload_n hx hb dX2_fromEnd_0 rfl (lv_at hl 0 rfl) ?_
  refine va_get (D := D) (ci := 2) (v := .ref h_runs) (C := RX2) (T := TX2) (N := 2) hx hb hts i_X2 hown hK hP 0 rfl rfl 0 (Nat.le_of_ble_eq_true rfl) f_14 (fun _ h9 => h9) rfl dX2_fromEnd_1 ?_
  refine lv_aload_n hx hb dX2_fromEnd_4 rfl (lv_at hl 0 rfl) ?_
  refine va_get (D := D) (ci := 2) (v := .ref h_runs) (C := RX2) (T := TX2) (N := 2) hx hb hts i_X2 hown hK hP 0 rfl rfl 0 (Nat.le_of_ble_eq_true rfl) f_14 (fun _ h9 => h9) rfl dX2_fromEnd_5 ?_
  obtain ⟨u1, hu1, hF⟩ := bd_el hF
  refine cVI (q0 := 1) (ci := 5) (As := []) (rest := [.ref h_runs]) (wr := [oX2 h_ h_runs v_inAll, aI h_runs_cells k_runs_cells v_runs_cells_n v_runs_cells_a]) (ws' := [oX2 h_ h_runs v_inAll, oX5 h_runs h_runs_cells v_runs_head v_runs_size, aI h_runs_cells k_runs_cells v_runs_cells_n v_runs_cells_a]) (rv := u1) ⟨hx, hb, hml, hown, hts⟩ (mX5_size D h_runs h_runs_cells v_runs_head v_runs_size u1 hu1) (cwV 0 hts gX2_fromEnd_X5_size rfl rfl rfl (by decide +kernel) ⟨Nat.le_of_ble_eq_true rfl, Nat.le_of_ble_eq_true rfl⟩) hK hP hD hS hA [] [1] [0, 2] [0, 2, 1] rfl rfl rfl rfl rfl rfl rfl rfl rfl hl.1 rfl (Nat.le_of_ble_eq_true rfl) rfl dX2_fromEnd_8 ⟨Nat.le_refl _, Nat.le_refl _⟩ (fun H locs hP hD hS => ?_)
  refine lv_iconst (v := 1) hx hb dX2_fromEnd_11 (by decide) ?_
  refine lv_isub hx hb dX2_fromEnd_12 ?_
  refine lv_iload_n hx hb dX2_fromEnd_13 rfl (lv_at hl 1 rfl) ?_
  refine lv_isub hx hb dX2_fromEnd_14 ?_
  obtain ⟨u2, hu2, hF⟩ := bd_el hF
  refine cVI (q0 := 1) (ci := 5) (As := [.int ((u1 - 1) - p1)]) (rest := []) (wr := [oX2 h_ h_runs v_inAll]) (ws' := [oX2 h_ h_runs v_inAll, oX5 h_runs h_runs_cells v_runs_head v_runs_size, aI h_runs_cells k_runs_cells v_runs_cells_n v_runs_cells_a]) (rv := u2) ⟨hx, hb, hml, hown, hts⟩ (mX5_at D k_runs_cells h_runs h_runs_cells v_runs_head v_runs_size v_runs_cells_n v_runs_cells_a ((u1 - 1) - p1) u2 hu2) (cwV 1 hts gX2_fromEnd_X5_at rfl rfl rfl (by decide +kernel) ⟨Nat.le_of_ble_eq_true rfl, Nat.le_of_ble_eq_true rfl⟩) hK hP hD hS hA [0] [1, 2] [0] [0, 1, 2] rfl rfl rfl rfl rfl rfl rfl rfl rfl hl.1 rfl (Nat.le_of_ble_eq_true rfl) rfl dX2_fromEnd_15 ⟨Nat.le_refl _, Nat.le_refl _⟩ (fun H locs hP hD hS => ?_)
  exact hret u2 u2 _ _ 18 _ hP hD hS hF rfl dX2_fromEnd_18
def F_X2_runIsHigh (p1 : Int32) (v_runs_head : Int32) (v_runs_size : Int32) (v_runs_cells_n : Nat) (v_runs_cells_a : Nat → Int32) : Option (Bool) := bd (F_X2_fromEnd p1 v_runs_head v_runs_size v_runs_cells_n v_runs_cells_a) (fun u1 => if (u1 &&& 1) = 0 then (some false) else (some true))
def wX2_runIsHigh (k_runs_cells : ClassId) (h_ : Nat) (h_runs : Nat) (h_runs_cells : Nat) (v_inAll : Int32) (v_runs_head : Int32) (v_runs_size : Int32) (v_runs_cells_n : Nat) (v_runs_cells_a : Nat → Int32) (_u : Bool) : va_W := [oX2 h_ h_runs v_inAll, oX5 h_runs h_runs_cells v_runs_head v_runs_size, aI h_runs_cells k_runs_cells v_runs_cells_n v_runs_cells_a]
set_option maxHeartbeats 4000000 in
set_option maxRecDepth 100000 in
theorem mX2_runIsHigh {l : Launch} (D : va_G) (k_runs_cells : ClassId) (h_ : Nat) (h_runs : Nat) (h_runs_cells : Nat) (v_inAll : Int32) (v_runs_head : Int32) (v_runs_size : Int32) (v_runs_cells_n : Nat) (v_runs_cells_a : Nat → Int32) (p1 : Int32) (u0 : Bool) (hF : F_X2_runIsHigh p1 v_runs_head v_runs_size v_runs_cells_n v_runs_cells_a = some u0) : MI l yX2_runIsHigh wsX2_runIsHigh { frames := 3, cells := 0, slots := 0, locals := 65 } D [(k_runs_cells, .int)] [.ref h_, .int p1] [oX2 h_ h_runs v_inAll, oX5 h_runs h_runs_cells v_runs_head v_runs_size, aI h_runs_cells k_runs_cells v_runs_cells_n v_runs_cells_a] (wX2_runIsHigh k_runs_cells h_ h_runs h_runs_cells v_inAll v_runs_head v_runs_size v_runs_cells_n v_runs_cells_a u0) (bI u0) := by
  refine MI.ofW (cc := cX2_runIsHigh) (maxL := 2) (ret := (some .boolean)) (lv := [(0, .ref h_), (1, .int p1)]) (by decide +kernel) rfl (Nat.le_of_ble_eq_true rfl) rfl ?_
  intro p e s m args below meth c A ls hx hb hr hml hts hown hlocks hA hK hP hD hS hl
  replace hown : s.vm.findClass RX2 = some m.cls := hown
  have hret : ∀ (u : Bool) (v : Int32) (H : Heap) (locs : List Loc) (pc : Nat) (ls : Array Slot), va_P D vwCl (wX2_runIsHigh k_runs_cells h_ h_runs h_runs_cells v_inAll v_runs_head v_runs_size v_runs_cells_n v_runs_cells_a u) H → va_D A (wX2_runIsHigh k_runs_cells h_ h_runs h_runs_cells v_inAll v_runs_head v_runs_size v_runs_cells_n v_runs_cells_a u) → va_S A s.heap H locs → some u = some u0 → v = bI u → decode cX2_runIsHigh pc = .ok (.ireturn, 1) → W p l e { frames := 3, cells := 0, slots := 0, locals := 65 } s m args below meth c H locs 0 0 (QI below D [(k_runs_cells, .int)] (wX2_runIsHigh k_runs_cells h_ h_runs h_runs_cells v_inAll v_runs_head v_runs_size v_runs_cells_n v_runs_cells_a u0) (bI u0) args s A) (F0 m pc ls [.int v]) := fun u v H locs pc ls h1 h2 h3 h4 h5 h6 => rZ (wf := wX2_runIsHigh k_runs_cells h_ h_runs h_runs_cells v_inAll v_runs_head v_runs_size v_runs_cells_n v_runs_cells_a) (rf := fun u => u) hx hb hr hlocks hK h1 h2 h3 h4 h5 h6
  unfold F_X2_runIsHigh at hF
  refine lv_aload_n hx hb dX2_runIsHigh_0 rfl (lv_at hl 0 rfl) ?_
  refine lv_iload_n hx hb dX2_runIsHigh_1 rfl (lv_at hl 1 rfl) ?_
  obtain ⟨u1, hu1, hF⟩ := bd_el hF
  refine cVI (q0 := 0) (ci := 2) (As := [.int p1]) (rest := []) (wr := []) (ws' := [oX2 h_ h_runs v_inAll, oX5 h_runs h_runs_cells v_runs_head v_runs_size, aI h_runs_cells k_runs_cells v_runs_cells_n v_runs_cells_a]) (rv := u1) ⟨hx, hb, hml, hown, hts⟩ (mX2_fromEnd D k_runs_cells h_ h_runs h_runs_cells v_inAll v_runs_head v_runs_size v_runs_cells_n v_runs_cells_a p1 u1 hu1) (cwV 1 hts gX2_runIsHigh_X2_fromEnd rfl rfl rfl (by decide +kernel) ⟨Nat.le_of_ble_eq_true rfl, Nat.le_of_ble_eq_true rfl⟩) hK hP hD hS hA [0] [0, 1, 2] [] [0, 1, 2] rfl rfl rfl rfl rfl rfl rfl rfl rfl hl.1 rfl (Nat.le_of_ble_eq_true rfl) rfl dX2_runIsHigh_2 ⟨Nat.le_refl _, Nat.le_refl _⟩ (fun H locs hP hD hS => ?_)
  refine lv_iconst (v := 1) hx hb dX2_runIsHigh_5 (by decide) ?_
  refine lv_iand hx hb dX2_runIsHigh_6 ?_
  refine lv_if_eq (tgt := 14) hx hb dX2_runIsHigh_7 (by decide) (fun c2 => ?_) (fun c2 => ?_)
  · replace hF := it_t c2 hF
    refine lv_iconst (v := 0) hx hb dX2_runIsHigh_14 (by decide) ?_
    exact hret false 0 _ _ 15 _ hP hD hS hF rfl dX2_runIsHigh_15
  · replace hF := it_f c2 hF
    refine lv_iconst (v := 1) hx hb dX2_runIsHigh_10 (by decide) ?_
    refine lv_goto (tgt := 15) hx hb dX2_runIsHigh_11 (by decide) ?_
    exact hret true 1 _ _ 15 _ hP hD hS hF rfl dX2_runIsHigh_15
def F_X2_isHigh  (v_runs_head : Int32) (v_runs_size : Int32) (v_runs_cells_n : Nat) (v_runs_cells_a : Nat → Int32) : Option (Bool) := bd (F_X5_isEmpty v_runs_size) (fun u1 => bt u1 (some true) (bd (F_X2_runIsHigh 0 v_runs_head v_runs_size v_runs_cells_n v_runs_cells_a) (fun u3 => bt u3 (some true) (some false))))
def wX2_isHigh (k_runs_cells : ClassId) (h_ : Nat) (h_runs : Nat) (h_runs_cells : Nat) (v_inAll : Int32) (v_runs_head : Int32) (v_runs_size : Int32) (v_runs_cells_n : Nat) (v_runs_cells_a : Nat → Int32) (_u : Bool) : va_W := [oX2 h_ h_runs v_inAll, oX5 h_runs h_runs_cells v_runs_head v_runs_size, aI h_runs_cells k_runs_cells v_runs_cells_n v_runs_cells_a]
set_option maxHeartbeats 4000000 in
set_option maxRecDepth 100000 in
theorem mX2_isHigh {l : Launch} (D : va_G) (k_runs_cells : ClassId) (h_ : Nat) (h_runs : Nat) (h_runs_cells : Nat) (v_inAll : Int32) (v_runs_head : Int32) (v_runs_size : Int32) (v_runs_cells_n : Nat) (v_runs_cells_a : Nat → Int32) (u0 : Bool) (hF : F_X2_isHigh v_runs_head v_runs_size v_runs_cells_n v_runs_cells_a = some u0) : MI l yX2_isHigh wsX2_isHigh { frames := 4, cells := 0, slots := 0, locals := 86 } D [(k_runs_cells, .int)] [.ref h_] [oX2 h_ h_runs v_inAll, oX5 h_runs h_runs_cells v_runs_head v_runs_size, aI h_runs_cells k_runs_cells v_runs_cells_n v_runs_cells_a] (wX2_isHigh k_runs_cells h_ h_runs h_runs_cells v_inAll v_runs_head v_runs_size v_runs_cells_n v_runs_cells_a u0) (bI u0) := by
  refine MI.ofW (cc := cX2_isHigh) (maxL := 1) (ret := (some .boolean)) (lv := [(0, .ref h_)]) (by decide +kernel) rfl (Nat.le_of_ble_eq_true rfl) rfl ?_
  intro p e s m args below meth c A ls hx hb hr hml hts hown hlocks hA hK hP hD hS hl
  replace hown : s.vm.findClass RX2 = some m.cls := hown
  have i_X2 : ∀ w ∈ wsX20, w ∈ wsX2_isHigh := by decide +kernel
  have f_14 := hts (.fieldLink RX2 14 "SerialPort$LineOut" "runs" "LSerialPort$Ring;") (by decide +kernel)
  have hret : ∀ (u : Bool) (v : Int32) (H : Heap) (locs : List Loc) (pc : Nat) (ls : Array Slot), va_P D vwCl (wX2_isHigh k_runs_cells h_ h_runs h_runs_cells v_inAll v_runs_head v_runs_size v_runs_cells_n v_runs_cells_a u) H → va_D A (wX2_isHigh k_runs_cells h_ h_runs h_runs_cells v_inAll v_runs_head v_runs_size v_runs_cells_n v_runs_cells_a u) → va_S A s.heap H locs → some u = some u0 → v = bI u → decode cX2_isHigh pc = .ok (.ireturn, 1) → W p l e { frames := 4, cells := 0, slots := 0, locals := 86 } s m args below meth c H locs 0 0 (QI below D [(k_runs_cells, .int)] (wX2_isHigh k_runs_cells h_ h_runs h_runs_cells v_inAll v_runs_head v_runs_size v_runs_cells_n v_runs_cells_a u0) (bI u0) args s A) (F0 m pc ls [.int v]) := fun u v H locs pc ls h1 h2 h3 h4 h5 h6 => rZ (wf := wX2_isHigh k_runs_cells h_ h_runs h_runs_cells v_inAll v_runs_head v_runs_size v_runs_cells_n v_runs_cells_a) (rf := fun u => u) hx hb hr hlocks hK h1 h2 h3 h4 h5 h6
  unfold F_X2_isHigh at hF
  refine lv_aload_n hx hb dX2_isHigh_0 rfl (lv_at hl 0 rfl) ?_
  refine va_get (D := D) (ci := 2) (v := .ref h_runs) (C := RX2) (T := TX2) (N := 2) hx hb hts i_X2 hown hK hP 0 rfl rfl 0 (Nat.le_of_ble_eq_true rfl) f_14 (fun _ h9 => h9) rfl dX2_isHigh_1 ?_
  obtain ⟨u1, hu1, hF⟩ := bd_el hF
  refine cVI (q0 := 1) (ci := 5) (As := []) (rest := []) (wr := [oX2 h_ h_runs v_inAll, aI h_runs_cells k_runs_cells v_runs_cells_n v_runs_cells_a]) (ws' := [oX2 h_ h_runs v_inAll, oX5 h_runs h_runs_cells v_runs_head v_runs_size, aI h_runs_cells k_runs_cells v_runs_cells_n v_runs_cells_a]) (rv := bI u1) ⟨hx, hb, hml, hown, hts⟩ (mX5_isEmpty D h_runs h_runs_cells v_runs_head v_runs_size u1 hu1) (cwV 0 hts gX2_isHigh_X5_isEmpty rfl rfl rfl (by decide +kernel) ⟨Nat.le_of_ble_eq_true rfl, Nat.le_of_ble_eq_true rfl⟩) hK hP hD hS hA [] [1] [0, 2] [0, 2, 1] rfl rfl rfl rfl rfl rfl rfl rfl rfl hl.1 rfl (Nat.le_of_ble_eq_true rfl) rfl dX2_isHigh_4 ⟨Nat.le_refl _, Nat.le_refl _⟩ (fun H locs hP hD hS => ?_)
  refine lv_if_ne (tgt := 18) hx hb dX2_isHigh_7 (by decide) (fun c2 => ?_) (fun c2 => ?_)
  · replace hF := bt_t (bI_n0 c2) hF
    refine lv_iconst (v := 1) hx hb dX2_isHigh_18 (by decide) ?_
    refine lv_goto (tgt := 23) hx hb dX2_isHigh_19 (by decide) ?_
    exact hret true 1 _ _ 23 _ hP hD hS hF rfl dX2_isHigh_23
  · replace hF := bt_f (bI_0 c2) hF
    refine lv_aload_n hx hb dX2_isHigh_10 rfl (lv_at hl 0 rfl) ?_
    refine lv_iconst (v := 0) hx hb dX2_isHigh_11 (by decide) ?_
    obtain ⟨u3, hu3, hF⟩ := bd_el hF
    refine cVI (q0 := 0) (ci := 2) (As := [.int 0]) (rest := []) (wr := []) (ws' := [oX2 h_ h_runs v_inAll, oX5 h_runs h_runs_cells v_runs_head v_runs_size, aI h_runs_cells k_runs_cells v_runs_cells_n v_runs_cells_a]) (rv := bI u3) ⟨hx, hb, hml, hown, hts⟩ (mX2_runIsHigh D k_runs_cells h_ h_runs h_runs_cells v_inAll v_runs_head v_runs_size v_runs_cells_n v_runs_cells_a 0 u3 hu3) (cwV 1 hts gX2_isHigh_X2_runIsHigh rfl rfl rfl (by decide +kernel) ⟨Nat.le_of_ble_eq_true rfl, Nat.le_of_ble_eq_true rfl⟩) hK hP hD hS hA [0] [0, 1, 2] [] [0, 1, 2] rfl rfl rfl rfl rfl rfl rfl rfl rfl hl.1 rfl (Nat.le_of_ble_eq_true rfl) rfl dX2_isHigh_12 ⟨Nat.le_refl _, Nat.le_refl _⟩ (fun H locs hP hD hS => ?_)
    refine lv_if_eq (tgt := 22) hx hb dX2_isHigh_15 (by decide) (fun c4 => ?_) (fun c4 => ?_)
    · replace hF := bt_f (bI_0 c4) hF
      refine lv_iconst (v := 0) hx hb dX2_isHigh_22 (by decide) ?_
      exact hret false 0 _ _ 23 _ hP hD hS hF rfl dX2_isHigh_23
    · replace hF := bt_t (bI_n0 c4) hF
      refine lv_iconst (v := 1) hx hb dX2_isHigh_18 (by decide) ?_
      refine lv_goto (tgt := 23) hx hb dX2_isHigh_19 (by decide) ?_
      exact hret true 1 _ _ 23 _ hP hD hS hF rfl dX2_isHigh_23
def F_X2_runsInAll  (v_inAll : Int32) : Option (Int32) := some v_inAll
def wX2_runsInAll (h_ : Nat) (h_runs : Nat) (v_inAll : Int32) (_u : Int32) : va_W := [oX2 h_ h_runs v_inAll]
set_option maxHeartbeats 4000000 in
set_option maxRecDepth 100000 in
theorem mX2_runsInAll {l : Launch} (D : va_G) (h_ : Nat) (h_runs : Nat) (v_inAll : Int32) (u0 : Int32) (hF : F_X2_runsInAll v_inAll = some u0) : MI l yX2_runsInAll wsX2_runsInAll { frames := 0, cells := 0, slots := 0, locals := 0 } D [] [.ref h_] [oX2 h_ h_runs v_inAll] (wX2_runsInAll h_ h_runs v_inAll u0) (u0) := by
  refine MI.ofW (cc := cX2_runsInAll) (maxL := 1) (ret := (some .int)) (lv := [(0, .ref h_)]) (by decide +kernel) rfl (Nat.le_of_ble_eq_true rfl) rfl ?_
  intro p e s m args below meth c A ls hx hb hr hml hts hown hlocks hA hK hP hD hS hl
  replace hown : s.vm.findClass RX2 = some m.cls := hown
  have i_X2 : ∀ w ∈ wsX20, w ∈ wsX2_runsInAll := by decide +kernel
  have f_23 := hts (.fieldLink RX2 23 "SerialPort$LineOut" "inAll" "I") (by decide +kernel)
  have hret : ∀ (u : Int32) (v : Int32) (H : Heap) (locs : List Loc) (pc : Nat) (ls : Array Slot), va_P D vwCl (wX2_runsInAll h_ h_runs v_inAll u) H → va_D A (wX2_runsInAll h_ h_runs v_inAll u) → va_S A s.heap H locs → some u = some u0 → v = u → decode cX2_runsInAll pc = .ok (.ireturn, 1) → W p l e { frames := 0, cells := 0, slots := 0, locals := 0 } s m args below meth c H locs 0 0 (QI below D [] (wX2_runsInAll h_ h_runs v_inAll u0) (u0) args s A) (F0 m pc ls [.int v]) := fun u v H locs pc ls h1 h2 h3 h4 h5 h6 => rI (wf := wX2_runsInAll h_ h_runs v_inAll) (rf := fun u => u) hx hb hr hlocks hK h1 h2 h3 h4 h5 h6
  unfold F_X2_runsInAll at hF
  refine lv_aload_n hx hb dX2_runsInAll_0 rfl (lv_at hl 0 rfl) ?_
  refine va_get (D := D) (ci := 2) (v := .int v_inAll) (C := RX2) (T := TX2) (N := 2) hx hb hts i_X2 hown hK hP 0 rfl rfl 1 (Nat.le_of_ble_eq_true rfl) f_23 (fun _ h9 => h9) rfl dX2_runsInAll_1 ?_
  exact hret v_inAll v_inAll _ _ 4 _ hP hD hS hF rfl dX2_runsInAll_4
def F_X2_runsKept  (v_runs_size : Int32) : Option (Int32) := bd (F_X5_size v_runs_size) (fun u1 => some u1)
def wX2_runsKept (h_ : Nat) (h_runs : Nat) (h_runs_cells : Nat) (v_inAll : Int32) (v_runs_head : Int32) (v_runs_size : Int32) (_u : Int32) : va_W := [oX2 h_ h_runs v_inAll, oX5 h_runs h_runs_cells v_runs_head v_runs_size]
set_option maxHeartbeats 4000000 in
set_option maxRecDepth 100000 in
theorem mX2_runsKept {l : Launch} (D : va_G) (h_ : Nat) (h_runs : Nat) (h_runs_cells : Nat) (v_inAll : Int32) (v_runs_head : Int32) (v_runs_size : Int32) (u0 : Int32) (hF : F_X2_runsKept v_runs_size = some u0) : MI l yX2_runsKept wsX2_runsKept { frames := 1, cells := 0, slots := 0, locals := 20 } D [] [.ref h_] [oX2 h_ h_runs v_inAll, oX5 h_runs h_runs_cells v_runs_head v_runs_size] (wX2_runsKept h_ h_runs h_runs_cells v_inAll v_runs_head v_runs_size u0) (u0) := by
  refine MI.ofW (cc := cX2_runsKept) (maxL := 1) (ret := (some .int)) (lv := [(0, .ref h_)]) (by decide +kernel) rfl (Nat.le_of_ble_eq_true rfl) rfl ?_
  intro p e s m args below meth c A ls hx hb hr hml hts hown hlocks hA hK hP hD hS hl
  replace hown : s.vm.findClass RX2 = some m.cls := hown
  have i_X2 : ∀ w ∈ wsX20, w ∈ wsX2_runsKept := by decide +kernel
  have f_14 := hts (.fieldLink RX2 14 "SerialPort$LineOut" "runs" "LSerialPort$Ring;") (by decide +kernel)
  have hret : ∀ (u : Int32) (v : Int32) (H : Heap) (locs : List Loc) (pc : Nat) (ls : Array Slot), va_P D vwCl (wX2_runsKept h_ h_runs h_runs_cells v_inAll v_runs_head v_runs_size u) H → va_D A (wX2_runsKept h_ h_runs h_runs_cells v_inAll v_runs_head v_runs_size u) → va_S A s.heap H locs → some u = some u0 → v = u → decode cX2_runsKept pc = .ok (.ireturn, 1) → W p l e { frames := 1, cells := 0, slots := 0, locals := 20 } s m args below meth c H locs 0 0 (QI below D [] (wX2_runsKept h_ h_runs h_runs_cells v_inAll v_runs_head v_runs_size u0) (u0) args s A) (F0 m pc ls [.int v]) := fun u v H locs pc ls h1 h2 h3 h4 h5 h6 => rI (wf := wX2_runsKept h_ h_runs h_runs_cells v_inAll v_runs_head v_runs_size) (rf := fun u => u) hx hb hr hlocks hK h1 h2 h3 h4 h5 h6
  unfold F_X2_runsKept at hF
  refine lv_aload_n hx hb dX2_runsKept_0 rfl (lv_at hl 0 rfl) ?_
  refine va_get (D := D) (ci := 2) (v := .ref h_runs) (C := RX2) (T := TX2) (N := 2) hx hb hts i_X2 hown hK hP 0 rfl rfl 0 (Nat.le_of_ble_eq_true rfl) f_14 (fun _ h9 => h9) rfl dX2_runsKept_1 ?_
  obtain ⟨u1, hu1, hF⟩ := bd_el hF
  refine cVI (q0 := 1) (ci := 5) (As := []) (rest := []) (wr := [oX2 h_ h_runs v_inAll]) (ws' := [oX2 h_ h_runs v_inAll, oX5 h_runs h_runs_cells v_runs_head v_runs_size]) (rv := u1) ⟨hx, hb, hml, hown, hts⟩ (mX5_size D h_runs h_runs_cells v_runs_head v_runs_size u1 hu1) (cwV 0 hts gX2_runsKept_X5_size rfl rfl rfl (by decide +kernel) ⟨Nat.le_of_ble_eq_true rfl, Nat.le_of_ble_eq_true rfl⟩) hK hP hD hS hA [] [1] [0] [0, 1] rfl rfl rfl rfl rfl rfl rfl rfl rfl hl.1 rfl (Nat.le_of_ble_eq_true rfl) rfl dX2_runsKept_4 ⟨Nat.le_refl _, Nat.le_refl _⟩ (fun H locs hP hD hS => ?_)
  exact hret u1 u1 _ _ 7 _ hP hD hS hF rfl dX2_runsKept_7
def F_X2_runBeats (p1 : Int32) (v_runs_head : Int32) (v_runs_size : Int32) (v_runs_cells_n : Nat) (v_runs_cells_a : Nat → Int32) : Option (Int32) := bd (F_X2_fromEnd p1 v_runs_head v_runs_size v_runs_cells_n v_runs_cells_a) (fun u1 => some (u1 >>> ((1 : Int32) &&& 31)))
def wX2_runBeats (k_runs_cells : ClassId) (h_ : Nat) (h_runs : Nat) (h_runs_cells : Nat) (v_inAll : Int32) (v_runs_head : Int32) (v_runs_size : Int32) (v_runs_cells_n : Nat) (v_runs_cells_a : Nat → Int32) (_u : Int32) : va_W := [oX2 h_ h_runs v_inAll, oX5 h_runs h_runs_cells v_runs_head v_runs_size, aI h_runs_cells k_runs_cells v_runs_cells_n v_runs_cells_a]
set_option maxHeartbeats 4000000 in
set_option maxRecDepth 100000 in
theorem mX2_runBeats {l : Launch} (D : va_G) (k_runs_cells : ClassId) (h_ : Nat) (h_runs : Nat) (h_runs_cells : Nat) (v_inAll : Int32) (v_runs_head : Int32) (v_runs_size : Int32) (v_runs_cells_n : Nat) (v_runs_cells_a : Nat → Int32) (p1 : Int32) (u0 : Int32) (hF : F_X2_runBeats p1 v_runs_head v_runs_size v_runs_cells_n v_runs_cells_a = some u0) : MI l yX2_runBeats wsX2_runBeats { frames := 3, cells := 0, slots := 0, locals := 65 } D [(k_runs_cells, .int)] [.ref h_, .int p1] [oX2 h_ h_runs v_inAll, oX5 h_runs h_runs_cells v_runs_head v_runs_size, aI h_runs_cells k_runs_cells v_runs_cells_n v_runs_cells_a] (wX2_runBeats k_runs_cells h_ h_runs h_runs_cells v_inAll v_runs_head v_runs_size v_runs_cells_n v_runs_cells_a u0) (u0) := by
  refine MI.ofW (cc := cX2_runBeats) (maxL := 2) (ret := (some .int)) (lv := [(0, .ref h_), (1, .int p1)]) (by decide +kernel) rfl (Nat.le_of_ble_eq_true rfl) rfl ?_
  intro p e s m args below meth c A ls hx hb hr hml hts hown hlocks hA hK hP hD hS hl
  replace hown : s.vm.findClass RX2 = some m.cls := hown
  have hret : ∀ (u : Int32) (v : Int32) (H : Heap) (locs : List Loc) (pc : Nat) (ls : Array Slot), va_P D vwCl (wX2_runBeats k_runs_cells h_ h_runs h_runs_cells v_inAll v_runs_head v_runs_size v_runs_cells_n v_runs_cells_a u) H → va_D A (wX2_runBeats k_runs_cells h_ h_runs h_runs_cells v_inAll v_runs_head v_runs_size v_runs_cells_n v_runs_cells_a u) → va_S A s.heap H locs → some u = some u0 → v = u → decode cX2_runBeats pc = .ok (.ireturn, 1) → W p l e { frames := 3, cells := 0, slots := 0, locals := 65 } s m args below meth c H locs 0 0 (QI below D [(k_runs_cells, .int)] (wX2_runBeats k_runs_cells h_ h_runs h_runs_cells v_inAll v_runs_head v_runs_size v_runs_cells_n v_runs_cells_a u0) (u0) args s A) (F0 m pc ls [.int v]) := fun u v H locs pc ls h1 h2 h3 h4 h5 h6 => rI (wf := wX2_runBeats k_runs_cells h_ h_runs h_runs_cells v_inAll v_runs_head v_runs_size v_runs_cells_n v_runs_cells_a) (rf := fun u => u) hx hb hr hlocks hK h1 h2 h3 h4 h5 h6
  unfold F_X2_runBeats at hF
  refine lv_aload_n hx hb dX2_runBeats_0 rfl (lv_at hl 0 rfl) ?_
  refine lv_iload_n hx hb dX2_runBeats_1 rfl (lv_at hl 1 rfl) ?_
  obtain ⟨u1, hu1, hF⟩ := bd_el hF
  refine cVI (q0 := 0) (ci := 2) (As := [.int p1]) (rest := []) (wr := []) (ws' := [oX2 h_ h_runs v_inAll, oX5 h_runs h_runs_cells v_runs_head v_runs_size, aI h_runs_cells k_runs_cells v_runs_cells_n v_runs_cells_a]) (rv := u1) ⟨hx, hb, hml, hown, hts⟩ (mX2_fromEnd D k_runs_cells h_ h_runs h_runs_cells v_inAll v_runs_head v_runs_size v_runs_cells_n v_runs_cells_a p1 u1 hu1) (cwV 1 hts gX2_runBeats_X2_fromEnd rfl rfl rfl (by decide +kernel) ⟨Nat.le_of_ble_eq_true rfl, Nat.le_of_ble_eq_true rfl⟩) hK hP hD hS hA [0] [0, 1, 2] [] [0, 1, 2] rfl rfl rfl rfl rfl rfl rfl rfl rfl hl.1 rfl (Nat.le_of_ble_eq_true rfl) rfl dX2_runBeats_2 ⟨Nat.le_refl _, Nat.le_refl _⟩ (fun H locs hP hD hS => ?_)
  refine lv_iconst (v := 1) hx hb dX2_runBeats_5 (by decide) ?_
  refine lv_ishr hx hb dX2_runBeats_6 ?_
  exact hret (u1 >>> ((1 : Int32) &&& 31)) (u1 >>> ((1 : Int32) &&& 31)) _ _ 7 _ hP hD hS hF rfl dX2_runBeats_7
def F_X2_append_73 (v_runs_cells_n : Nat) (s1 : Int32) (v_inAll : Int32) (v_runs_head : Int32) (v_runs_size : Int32) (v_runs_cells_a : Nat → Int32) : Option (Int32 × Int32 × Int32 × (Nat → Int32)) := bd (F_X5_add s1 v_runs_head v_runs_size v_runs_cells_n v_runs_cells_a) (fun u1 => lt1 (v_inAll + 1) (fun x2 => some (x2, v_runs_head, u1.1, u1.2)))
def F_X2_append_60 (v_runs_cells_n : Nat) (l1 : Bool) (v_inAll : Int32) (v_runs_head : Int32) (v_runs_size : Int32) (v_runs_cells_a : Nat → Int32) : Option (Int32 × Int32 × Int32 × (Nat → Int32)) := bt l1 (F_X2_append_73 v_runs_cells_n 3 v_inAll v_runs_head v_runs_size v_runs_cells_a) (F_X2_append_73 v_runs_cells_n 2 v_inAll v_runs_head v_runs_size v_runs_cells_a)
def F_X2_append_43 (v_runs_cells_n : Nat) (l1 : Bool) (v_inAll : Int32) (v_runs_head : Int32) (v_runs_size : Int32) (v_runs_cells_a : Nat → Int32) : Option (Int32 × Int32 × Int32 × (Nat → Int32)) := bd (F_X5_room v_runs_size v_runs_cells_n) (fun u4 => if u4 = 0 then (bd (F_X5_dropFirst v_runs_head v_runs_size v_runs_cells_n) (fun u6 => F_X2_append_60 v_runs_cells_n l1 v_inAll u6.1 u6.2 v_runs_cells_a)) else (F_X2_append_60 v_runs_cells_n l1 v_inAll v_runs_head v_runs_size v_runs_cells_a))
def F_X2_append (p1 : Bool) (v_inAll : Int32) (v_runs_head : Int32) (v_runs_size : Int32) (v_runs_cells_n : Nat) (v_runs_cells_a : Nat → Int32) : Option (Int32 × Int32 × Int32 × (Nat → Int32)) := bd (F_X5_isEmpty v_runs_size) (fun u7 => bt u7 (F_X2_append_43 v_runs_cells_n p1 v_inAll v_runs_head v_runs_size v_runs_cells_a) (bd (F_X2_runIsHigh 0 v_runs_head v_runs_size v_runs_cells_n v_runs_cells_a) (fun u9 => if (bI u9) = (bI p1) then (bd (F_X5_size v_runs_size) (fun u11 => bd (F_X2_fromEnd 0 v_runs_head v_runs_size v_runs_cells_n v_runs_cells_a) (fun u12 => bd (F_X5_setAt (u11 - 1) (u12 + 2) v_runs_head v_runs_size v_runs_cells_n v_runs_cells_a) (fun u13 => some (v_inAll, v_runs_head, v_runs_size, u13))))) else (F_X2_append_43 v_runs_cells_n p1 v_inAll v_runs_head v_runs_size v_runs_cells_a))))
def wX2_append (k_runs_cells : ClassId) (h_ : Nat) (h_runs : Nat) (h_runs_cells : Nat) (v_runs_cells_n : Nat) (u : Int32 × Int32 × Int32 × (Nat → Int32)) : va_W := [oX2 h_ h_runs u.1, oX5 h_runs h_runs_cells u.2.1 u.2.2.1, aI h_runs_cells k_runs_cells v_runs_cells_n u.2.2.2]
set_option maxHeartbeats 4000000 in
set_option maxRecDepth 100000 in
theorem mX2_append {l : Launch} (D : va_G) (k_runs_cells : ClassId) (h_ : Nat) (h_runs : Nat) (h_runs_cells : Nat) (v_inAll : Int32) (v_runs_head : Int32) (v_runs_size : Int32) (v_runs_cells_n : Nat) (v_runs_cells_a : Nat → Int32) (p1 : Bool) (u0 : Int32 × Int32 × Int32 × (Nat → Int32)) (hF : F_X2_append p1 v_inAll v_runs_head v_runs_size v_runs_cells_n v_runs_cells_a = some u0) : MV l yX2_append wsX2_append { frames := 4, cells := 0, slots := 0, locals := 86 } D [(k_runs_cells, .int)] [.ref h_, .int (bI p1)] [oX2 h_ h_runs v_inAll, oX5 h_runs h_runs_cells v_runs_head v_runs_size, aI h_runs_cells k_runs_cells v_runs_cells_n v_runs_cells_a] (wX2_append k_runs_cells h_ h_runs h_runs_cells v_runs_cells_n u0) := by
  refine MV.ofW (cc := cX2_append) (maxL := 2) (ret := none) (lv := [(0, .ref h_), (1, .int (bI p1))]) (by decide +kernel) rfl (Nat.le_of_ble_eq_true rfl) rfl ?_
  intro p e s m args below meth c A ls hx hb hr hml hts hown hlocks hA hK hP hD hS hl
  replace hown : s.vm.findClass RX2 = some m.cls := hown
  have i_X2 : ∀ w ∈ wsX20, w ∈ wsX2_append := by decide +kernel
  have f_14 := hts (.fieldLink RX2 14 "SerialPort$LineOut" "runs" "LSerialPort$Ring;") (by decide +kernel)
  have f_23 := hts (.fieldLink RX2 23 "SerialPort$LineOut" "inAll" "I") (by decide +kernel)
  have hret : ∀ (u : Int32 × Int32 × Int32 × (Nat → Int32)) (H : Heap) (locs : List Loc) (pc : Nat) (ls : Array Slot), va_P D vwCl (wX2_append k_runs_cells h_ h_runs h_runs_cells v_runs_cells_n u) H → va_D A (wX2_append k_runs_cells h_ h_runs h_runs_cells v_runs_cells_n u) → va_S A s.heap H locs → some u = some u0 → decode cX2_append pc = .ok (.return_, 1) → W p l e { frames := 4, cells := 0, slots := 0, locals := 86 } s m args below meth c H locs 0 0 (QV below D [(k_runs_cells, .int)] (wX2_append k_runs_cells h_ h_runs h_runs_cells v_runs_cells_n u0) args s A) (F0 m pc ls []) := fun u H locs pc ls h1 h2 h3 h4 h5 => rV (wf := wX2_append k_runs_cells h_ h_runs h_runs_cells v_runs_cells_n) hx hb hr hlocks hK h1 h2 h3 h4 h5
  have J73 : ∀ (s1 : Int32) (v_inAll : Int32) (v_runs_head : Int32) (v_runs_size : Int32) (v_runs_cells_a : Nat → Int32) (H : Heap) (locs : List Loc) (ls : Array Slot), F_X2_append_73 v_runs_cells_n s1 v_inAll v_runs_head v_runs_size v_runs_cells_a = some u0 → lv_has ls 2 [(0, .ref h_)] → va_P D vwCl [oX2 h_ h_runs v_inAll, oX5 h_runs h_runs_cells v_runs_head v_runs_size, aI h_runs_cells k_runs_cells v_runs_cells_n v_runs_cells_a] H → va_D A [oX2 h_ h_runs v_inAll, oX5 h_runs h_runs_cells v_runs_head v_runs_size, aI h_runs_cells k_runs_cells v_runs_cells_n v_runs_cells_a] → va_S A s.heap H locs → W p l e { frames := 4, cells := 0, slots := 0, locals := 86 } s m args below meth c H locs 0 0 (QV below D [(k_runs_cells, .int)] (wX2_append k_runs_cells h_ h_runs h_runs_cells v_runs_cells_n u0) args s A) (F0 m 73 ls [.int s1, .ref h_runs]) := by
    intro s1 v_inAll v_runs_head v_runs_size v_runs_cells_a H locs ls hF hl hP hD hS
    unfold F_X2_append_73 at hF
    obtain ⟨u1, hu1, hF⟩ := bd_el hF
    refine cVV (q0 := 1) (ci := 5) (As := [.int s1]) (rest := []) (wr := [oX2 h_ h_runs v_inAll]) (ws' := [oX2 h_ h_runs v_inAll, oX5 h_runs h_runs_cells v_runs_head u1.1, aI h_runs_cells k_runs_cells v_runs_cells_n u1.2]) ⟨hx, hb, hml, hown, hts⟩ (mX5_add D k_runs_cells h_runs h_runs_cells v_runs_head v_runs_size v_runs_cells_n v_runs_cells_a s1 u1 hu1) (cwV 1 hts gX2_append_X5_add rfl rfl rfl (by decide +kernel) ⟨Nat.le_of_ble_eq_true rfl, Nat.le_of_ble_eq_true rfl⟩) hK hP hD hS hA [0] [1, 2] [0] [0, 1, 2] rfl rfl rfl rfl rfl rfl rfl rfl rfl hl.1 rfl (Nat.le_of_ble_eq_true rfl) dX2_append_73 ⟨Nat.le_refl _, Nat.le_refl _⟩ (fun H locs hP hD hS => ?_)
    refine lv_aload_n hx hb dX2_append_76 rfl (lv_at hl 0 rfl) ?_
    refine lv_dup hx hb dX2_append_77 rfl ?_
    refine va_get (D := D) (ci := 2) (v := .int v_inAll) (C := RX2) (T := TX2) (N := 2) hx hb hts i_X2 hown hK hP 0 rfl rfl 1 (Nat.le_of_ble_eq_true rfl) f_23 (fun _ h9 => h9) rfl dX2_append_78 ?_
    refine lv_iconst (v := 1) hx hb dX2_append_81 (by decide) ?_
    refine lv_iadd hx hb dX2_append_82 ?_
    refine lv_topi (fun x2 ex2 => ?_)
    replace hF := lt1_x ex2 hF
    refine pf (ci := 2) (v := .int x2) (ty := .int) (C := RX2) (T := TX2) (N := 2) (ws' := [oX2 h_ h_runs x2, oX5 h_runs h_runs_cells v_runs_head u1.1, aI h_runs_cells k_runs_cells v_runs_cells_n u1.2]) hx hb hts i_X2 tyX2_ok nmX2 hown hK hP hD hS 0 rfl rfl 1 (Nat.le_of_ble_eq_true rfl) f_23 rfl rfl (by decide +kernel) rfl rfl (Nat.le_of_ble_eq_true rfl) rfl dX2_append_83 (fun H locs hP hD hS => ?_)
    exact hret (x2, v_runs_head, u1.1, u1.2) _ _ 86 _ hP hD hS hF dX2_append_86
  have J60 : ∀ (l1 : Bool) (v_inAll : Int32) (v_runs_head : Int32) (v_runs_size : Int32) (v_runs_cells_a : Nat → Int32) (H : Heap) (locs : List Loc) (ls : Array Slot), F_X2_append_60 v_runs_cells_n l1 v_inAll v_runs_head v_runs_size v_runs_cells_a = some u0 → lv_has ls 2 [(0, .ref h_), (1, .int (bI l1))] → va_P D vwCl [oX2 h_ h_runs v_inAll, oX5 h_runs h_runs_cells v_runs_head v_runs_size, aI h_runs_cells k_runs_cells v_runs_cells_n v_runs_cells_a] H → va_D A [oX2 h_ h_runs v_inAll, oX5 h_runs h_runs_cells v_runs_head v_runs_size, aI h_runs_cells k_runs_cells v_runs_cells_n v_runs_cells_a] → va_S A s.heap H locs → W p l e { frames := 4, cells := 0, slots := 0, locals := 86 } s m args below meth c H locs 0 0 (QV below D [(k_runs_cells, .int)] (wX2_append k_runs_cells h_ h_runs h_runs_cells v_runs_cells_n u0) args s A) (F0 m 60 ls []) := by
    intro l1 v_inAll v_runs_head v_runs_size v_runs_cells_a H locs ls hF hl hP hD hS
    unfold F_X2_append_60 at hF
    refine lv_aload_n hx hb dX2_append_60 rfl (lv_at hl 0 rfl) ?_
    refine va_get (D := D) (ci := 2) (v := .ref h_runs) (C := RX2) (T := TX2) (N := 2) hx hb hts i_X2 hown hK hP 0 rfl rfl 0 (Nat.le_of_ble_eq_true rfl) f_14 (fun _ h9 => h9) rfl dX2_append_61 ?_
    refine lv_iload_n hx hb dX2_append_64 rfl (lv_at hl 1 rfl) ?_
    refine lv_if_eq (tgt := 72) hx hb dX2_append_65 (by decide) (fun c3 => ?_) (fun c3 => ?_)
    · replace hF := bt_f (bI_0 c3) hF
      refine lv_iconst (v := 2) hx hb dX2_append_72 (by decide) ?_
      exact J73 2 v_inAll v_runs_head v_runs_size v_runs_cells_a _ _ _ hF (lv_sub hl [0] rfl) hP hD hS
    · replace hF := bt_t (bI_n0 c3) hF
      refine lv_iconst (v := 3) hx hb dX2_append_68 (by decide) ?_
      refine lv_goto (tgt := 73) hx hb dX2_append_69 (by decide) ?_
      exact J73 3 v_inAll v_runs_head v_runs_size v_runs_cells_a _ _ _ hF (lv_sub hl [0] rfl) hP hD hS
  have J43 : ∀ (l1 : Bool) (v_inAll : Int32) (v_runs_head : Int32) (v_runs_size : Int32) (v_runs_cells_a : Nat → Int32) (H : Heap) (locs : List Loc) (ls : Array Slot), F_X2_append_43 v_runs_cells_n l1 v_inAll v_runs_head v_runs_size v_runs_cells_a = some u0 → lv_has ls 2 [(0, .ref h_), (1, .int (bI l1))] → va_P D vwCl [oX2 h_ h_runs v_inAll, oX5 h_runs h_runs_cells v_runs_head v_runs_size, aI h_runs_cells k_runs_cells v_runs_cells_n v_runs_cells_a] H → va_D A [oX2 h_ h_runs v_inAll, oX5 h_runs h_runs_cells v_runs_head v_runs_size, aI h_runs_cells k_runs_cells v_runs_cells_n v_runs_cells_a] → va_S A s.heap H locs → W p l e { frames := 4, cells := 0, slots := 0, locals := 86 } s m args below meth c H locs 0 0 (QV below D [(k_runs_cells, .int)] (wX2_append k_runs_cells h_ h_runs h_runs_cells v_runs_cells_n u0) args s A) (F0 m 43 ls []) := by
    intro l1 v_inAll v_runs_head v_runs_size v_runs_cells_a H locs ls hF hl hP hD hS
    unfold F_X2_append_43 at hF
    refine lv_aload_n hx hb dX2_append_43 rfl (lv_at hl 0 rfl) ?_
    refine va_get (D := D) (ci := 2) (v := .ref h_runs) (C := RX2) (T := TX2) (N := 2) hx hb hts i_X2 hown hK hP 0 rfl rfl 0 (Nat.le_of_ble_eq_true rfl) f_14 (fun _ h9 => h9) rfl dX2_append_44 ?_
    obtain ⟨u4, hu4, hF⟩ := bd_el hF
    refine cVI (q0 := 1) (ci := 5) (As := []) (rest := []) (wr := [oX2 h_ h_runs v_inAll]) (ws' := [oX2 h_ h_runs v_inAll, oX5 h_runs h_runs_cells v_runs_head v_runs_size, aI h_runs_cells k_runs_cells v_runs_cells_n v_runs_cells_a]) (rv := u4) ⟨hx, hb, hml, hown, hts⟩ (mX5_room D k_runs_cells h_runs h_runs_cells v_runs_head v_runs_size v_runs_cells_n v_runs_cells_a u4 hu4) (cwV 0 hts gX2_append_X5_room rfl rfl rfl (by decide +kernel) ⟨Nat.le_of_ble_eq_true rfl, Nat.le_of_ble_eq_true rfl⟩) hK hP hD hS hA [0] [1, 2] [0] [0, 1, 2] rfl rfl rfl rfl rfl rfl rfl rfl rfl hl.1 rfl (Nat.le_of_ble_eq_true rfl) rfl dX2_append_47 ⟨Nat.le_refl _, Nat.le_refl _⟩ (fun H locs hP hD hS => ?_)
    refine lv_if_ne (tgt := 60) hx hb dX2_append_50 (by decide) (fun c5 => ?_) (fun c5 => ?_)
    · replace hF := it_f c5 hF
      exact J60 l1 v_inAll v_runs_head v_runs_size v_runs_cells_a _ _ _ hF hl hP hD hS
    · replace hF := it_t c5 hF
      refine lv_aload_n hx hb dX2_append_53 rfl (lv_at hl 0 rfl) ?_
      refine va_get (D := D) (ci := 2) (v := .ref h_runs) (C := RX2) (T := TX2) (N := 2) hx hb hts i_X2 hown hK hP 0 rfl rfl 0 (Nat.le_of_ble_eq_true rfl) f_14 (fun _ h9 => h9) rfl dX2_append_54 ?_
      obtain ⟨u6, hu6, hF⟩ := bd_el hF
      refine cVV (q0 := 1) (ci := 5) (As := []) (rest := []) (wr := [oX2 h_ h_runs v_inAll]) (ws' := [oX2 h_ h_runs v_inAll, oX5 h_runs h_runs_cells u6.1 u6.2, aI h_runs_cells k_runs_cells v_runs_cells_n v_runs_cells_a]) ⟨hx, hb, hml, hown, hts⟩ (mX5_dropFirst D k_runs_cells h_runs h_runs_cells v_runs_head v_runs_size v_runs_cells_n v_runs_cells_a u6 hu6) (cwV 0 hts gX2_append_X5_dropFirst rfl rfl rfl (by decide +kernel) ⟨Nat.le_of_ble_eq_true rfl, Nat.le_of_ble_eq_true rfl⟩) hK hP hD hS hA [0] [1, 2] [0] [0, 1, 2] rfl rfl rfl rfl rfl rfl rfl rfl rfl hl.1 rfl (Nat.le_of_ble_eq_true rfl) dX2_append_57 ⟨Nat.le_refl _, Nat.le_refl _⟩ (fun H locs hP hD hS => ?_)
      exact J60 l1 v_inAll u6.1 u6.2 v_runs_cells_a _ _ _ hF hl hP hD hS
  unfold F_X2_append at hF
  refine lv_aload_n hx hb dX2_append_0 rfl (lv_at hl 0 rfl) ?_
  refine va_get (D := D) (ci := 2) (v := .ref h_runs) (C := RX2) (T := TX2) (N := 2) hx hb hts i_X2 hown hK hP 0 rfl rfl 0 (Nat.le_of_ble_eq_true rfl) f_14 (fun _ h9 => h9) rfl dX2_append_1 ?_
  obtain ⟨u7, hu7, hF⟩ := bd_el hF
  refine cVI (q0 := 1) (ci := 5) (As := []) (rest := []) (wr := [oX2 h_ h_runs v_inAll, aI h_runs_cells k_runs_cells v_runs_cells_n v_runs_cells_a]) (ws' := [oX2 h_ h_runs v_inAll, oX5 h_runs h_runs_cells v_runs_head v_runs_size, aI h_runs_cells k_runs_cells v_runs_cells_n v_runs_cells_a]) (rv := bI u7) ⟨hx, hb, hml, hown, hts⟩ (mX5_isEmpty D h_runs h_runs_cells v_runs_head v_runs_size u7 hu7) (cwV 0 hts gX2_append_X5_isEmpty rfl rfl rfl (by decide +kernel) ⟨Nat.le_of_ble_eq_true rfl, Nat.le_of_ble_eq_true rfl⟩) hK hP hD hS hA [] [1] [0, 2] [0, 2, 1] rfl rfl rfl rfl rfl rfl rfl rfl rfl hl.1 rfl (Nat.le_of_ble_eq_true rfl) rfl dX2_append_4 ⟨Nat.le_refl _, Nat.le_refl _⟩ (fun H locs hP hD hS => ?_)
  refine lv_if_ne (tgt := 43) hx hb dX2_append_7 (by decide) (fun c8 => ?_) (fun c8 => ?_)
  · replace hF := bt_t (bI_n0 c8) hF
    exact J43 p1 v_inAll v_runs_head v_runs_size v_runs_cells_a _ _ _ hF hl hP hD hS
  · replace hF := bt_f (bI_0 c8) hF
    refine lv_aload_n hx hb dX2_append_10 rfl (lv_at hl 0 rfl) ?_
    refine lv_iconst (v := 0) hx hb dX2_append_11 (by decide) ?_
    obtain ⟨u9, hu9, hF⟩ := bd_el hF
    refine cVI (q0 := 0) (ci := 2) (As := [.int 0]) (rest := []) (wr := []) (ws' := [oX2 h_ h_runs v_inAll, oX5 h_runs h_runs_cells v_runs_head v_runs_size, aI h_runs_cells k_runs_cells v_runs_cells_n v_runs_cells_a]) (rv := bI u9) ⟨hx, hb, hml, hown, hts⟩ (mX2_runIsHigh D k_runs_cells h_ h_runs h_runs_cells v_inAll v_runs_head v_runs_size v_runs_cells_n v_runs_cells_a 0 u9 hu9) (cwV 1 hts gX2_append_X2_runIsHigh rfl rfl rfl (by decide +kernel) ⟨Nat.le_of_ble_eq_true rfl, Nat.le_of_ble_eq_true rfl⟩) hK hP hD hS hA [0] [0, 1, 2] [] [0, 1, 2] rfl rfl rfl rfl rfl rfl rfl rfl rfl hl.1 rfl (Nat.le_of_ble_eq_true rfl) rfl dX2_append_12 ⟨Nat.le_refl _, Nat.le_refl _⟩ (fun H locs hP hD hS => ?_)
    refine lv_iload_n hx hb dX2_append_15 rfl (lv_at hl 1 rfl) ?_
    refine lv_icmp_ne (tgt := 43) hx hb dX2_append_16 (by decide) (fun c10 => ?_) (fun c10 => ?_)
    · replace hF := it_f c10 hF
      exact J43 p1 v_inAll v_runs_head v_runs_size v_runs_cells_a _ _ _ hF hl hP hD hS
    · replace hF := it_t c10 hF
      refine lv_aload_n hx hb dX2_append_19 rfl (lv_at hl 0 rfl) ?_
      refine va_get (D := D) (ci := 2) (v := .ref h_runs) (C := RX2) (T := TX2) (N := 2) hx hb hts i_X2 hown hK hP 0 rfl rfl 0 (Nat.le_of_ble_eq_true rfl) f_14 (fun _ h9 => h9) rfl dX2_append_20 ?_
      refine lv_aload_n hx hb dX2_append_23 rfl (lv_at hl 0 rfl) ?_
      refine va_get (D := D) (ci := 2) (v := .ref h_runs) (C := RX2) (T := TX2) (N := 2) hx hb hts i_X2 hown hK hP 0 rfl rfl 0 (Nat.le_of_ble_eq_true rfl) f_14 (fun _ h9 => h9) rfl dX2_append_24 ?_
      obtain ⟨u11, hu11, hF⟩ := bd_el hF
      refine cVI (q0 := 1) (ci := 5) (As := []) (rest := [.ref h_runs]) (wr := [oX2 h_ h_runs v_inAll, aI h_runs_cells k_runs_cells v_runs_cells_n v_runs_cells_a]) (ws' := [oX2 h_ h_runs v_inAll, oX5 h_runs h_runs_cells v_runs_head v_runs_size, aI h_runs_cells k_runs_cells v_runs_cells_n v_runs_cells_a]) (rv := u11) ⟨hx, hb, hml, hown, hts⟩ (mX5_size D h_runs h_runs_cells v_runs_head v_runs_size u11 hu11) (cwV 0 hts gX2_append_X5_size rfl rfl rfl (by decide +kernel) ⟨Nat.le_of_ble_eq_true rfl, Nat.le_of_ble_eq_true rfl⟩) hK hP hD hS hA [] [1] [0, 2] [0, 2, 1] rfl rfl rfl rfl rfl rfl rfl rfl rfl hl.1 rfl (Nat.le_of_ble_eq_true rfl) rfl dX2_append_27 ⟨Nat.le_refl _, Nat.le_refl _⟩ (fun H locs hP hD hS => ?_)
      refine lv_iconst (v := 1) hx hb dX2_append_30 (by decide) ?_
      refine lv_isub hx hb dX2_append_31 ?_
      refine lv_aload_n hx hb dX2_append_32 rfl (lv_at hl 0 rfl) ?_
      refine lv_iconst (v := 0) hx hb dX2_append_33 (by decide) ?_
      obtain ⟨u12, hu12, hF⟩ := bd_el hF
      refine cVI (q0 := 0) (ci := 2) (As := [.int 0]) (rest := [.int (u11 - 1), .ref h_runs]) (wr := []) (ws' := [oX2 h_ h_runs v_inAll, oX5 h_runs h_runs_cells v_runs_head v_runs_size, aI h_runs_cells k_runs_cells v_runs_cells_n v_runs_cells_a]) (rv := u12) ⟨hx, hb, hml, hown, hts⟩ (mX2_fromEnd D k_runs_cells h_ h_runs h_runs_cells v_inAll v_runs_head v_runs_size v_runs_cells_n v_runs_cells_a 0 u12 hu12) (cwV 1 hts gX2_append_X2_fromEnd rfl rfl rfl (by decide +kernel) ⟨Nat.le_of_ble_eq_true rfl, Nat.le_of_ble_eq_true rfl⟩) hK hP hD hS hA [0] [0, 1, 2] [] [0, 1, 2] rfl rfl rfl rfl rfl rfl rfl rfl rfl hl.1 rfl (Nat.le_of_ble_eq_true rfl) rfl dX2_append_34 ⟨Nat.le_refl _, Nat.le_refl _⟩ (fun H locs hP hD hS => ?_)
      refine lv_iconst (v := 2) hx hb dX2_append_37 (by decide) ?_
      refine lv_iadd hx hb dX2_append_38 ?_
      obtain ⟨u13, hu13, hF⟩ := bd_el hF
      refine cVV (q0 := 1) (ci := 5) (As := [.int (u11 - 1), .int (u12 + 2)]) (rest := []) (wr := [oX2 h_ h_runs v_inAll]) (ws' := [oX2 h_ h_runs v_inAll, oX5 h_runs h_runs_cells v_runs_head v_runs_size, aI h_runs_cells k_runs_cells v_runs_cells_n u13]) ⟨hx, hb, hml, hown, hts⟩ (mX5_setAt D k_runs_cells h_runs h_runs_cells v_runs_head v_runs_size v_runs_cells_n v_runs_cells_a (u11 - 1) (u12 + 2) u13 hu13) (cwV 2 hts gX2_append_X5_setAt rfl rfl rfl (by decide +kernel) ⟨Nat.le_of_ble_eq_true rfl, Nat.le_of_ble_eq_true rfl⟩) hK hP hD hS hA [0] [1, 2] [0] [0, 1, 2] rfl rfl rfl rfl rfl rfl rfl rfl rfl hl.1 rfl (Nat.le_of_ble_eq_true rfl) dX2_append_39 ⟨Nat.le_refl _, Nat.le_refl _⟩ (fun H locs hP hD hS => ?_)
      exact hret (v_inAll, v_runs_head, v_runs_size, u13) _ _ 42 _ hP hD hS hF dX2_append_42
end
section
theorem dX8_stepSender_0 : decode cX8_stepSender 0 = .ok (.aload_n 0, 1) := by decide +kernel
theorem dX8_stepSender_1 : decode cX8_stepSender 1 = .ok (.getfield 31, 3) := by decide +kernel
theorem dX8_stepSender_4 : decode cX8_stepSender 4 = .ok (.invokevirtual 140, 3) := by decide +kernel
theorem dX8_stepSender_7 : decode cX8_stepSender 7 = .ok (.ifCond .ne 53, 3) := by decide +kernel
theorem dX8_stepSender_10 : decode cX8_stepSender 10 = .ok (.aload_n 0, 1) := by decide +kernel
theorem dX8_stepSender_11 : decode cX8_stepSender 11 = .ok (.getfield 25, 3) := by decide +kernel
theorem dX8_stepSender_14 : decode cX8_stepSender 14 = .ok (.invokevirtual 230, 3) := by decide +kernel
theorem dX8_stepSender_17 : decode cX8_stepSender 17 = .ok (.ifCond .ne 43, 3) := by decide +kernel
theorem dX8_stepSender_20 : decode cX8_stepSender 20 = .ok (.aload_n 0, 1) := by decide +kernel
theorem dX8_stepSender_21 : decode cX8_stepSender 21 = .ok (.getfield 31, 3) := by decide +kernel
theorem dX8_stepSender_24 : decode cX8_stepSender 24 = .ok (.aload_n 0, 1) := by decide +kernel
theorem dX8_stepSender_25 : decode cX8_stepSender 25 = .ok (.getfield 73, 3) := by decide +kernel
theorem dX8_stepSender_28 : decode cX8_stepSender 28 = .ok (.aload_n 0, 1) := by decide +kernel
theorem dX8_stepSender_29 : decode cX8_stepSender 29 = .ok (.getfield 25, 3) := by decide +kernel
theorem dX8_stepSender_32 : decode cX8_stepSender 32 = .ok (.invokevirtual 224, 3) := by decide +kernel
theorem dX8_stepSender_35 : decode cX8_stepSender 35 = .ok (.invokevirtual 273, 3) := by decide +kernel
theorem dX8_stepSender_38 : decode cX8_stepSender 38 = .ok (.aload_n 0, 1) := by decide +kernel
theorem dX8_stepSender_39 : decode cX8_stepSender 39 = .ok (.getfield 25, 3) := by decide +kernel
theorem dX8_stepSender_42 : decode cX8_stepSender 42 = .ok (.invokevirtual 227, 3) := by decide +kernel
theorem dX8_stepSender_45 : decode cX8_stepSender 45 = .ok (.aload_n 0, 1) := by decide +kernel
theorem dX8_stepSender_46 : decode cX8_stepSender 46 = .ok (.getfield 25, 3) := by decide +kernel
theorem dX8_stepSender_49 : decode cX8_stepSender 49 = .ok (.invokevirtual 230, 3) := by decide +kernel
theorem dX8_stepSender_52 : decode cX8_stepSender 52 = .ok (.ifCond .eq 8, 3) := by decide +kernel
theorem dX8_stepSender_55 : decode cX8_stepSender 55 = .ok (.aload_n 0, 1) := by decide +kernel
theorem dX8_stepSender_56 : decode cX8_stepSender 56 = .ok (.iconst 1, 1) := by decide +kernel
theorem dX8_stepSender_57 : decode cX8_stepSender 57 = .ok (.putfield 179, 3) := by decide +kernel
theorem dX8_stepSender_60 : decode cX8_stepSender 60 = .ok (.aload_n 0, 1) := by decide +kernel
theorem dX8_stepSender_61 : decode cX8_stepSender 61 = .ok (.getfield 31, 3) := by decide +kernel
theorem dX8_stepSender_64 : decode cX8_stepSender 64 = .ok (.invokevirtual 276, 3) := by decide +kernel
theorem dX8_stepSender_67 : decode cX8_stepSender 67 = .ok (.ireturn, 1) := by decide +kernel
set_option maxRecDepth 20000 in
theorem ggX8_stepSender_X6_isBusy : GoodIn wsX8_stepSender wsX6_isBusy := goodIn_r _ [9, 10, 93, 94, 95, 96] (by decide +kernel) (by decide +kernel)
set_option maxRecDepth 20000 in
theorem gX8_stepSender_X6_isBusy : GoodIn wsX8_stepSender (wsV RX8 140 RX6 yX6_isBusy wsX6_isBusy) := goodIn_app (goodIn_of _ (by decide +kernel)) ggX8_stepSender_X6_isBusy
set_option maxRecDepth 20000 in
theorem ggX8_stepSender_X5_isEmpty : GoodIn wsX8_stepSender wsX5_isEmpty := goodIn_r _ [15, 16, 97, 98, 99] (by decide +kernel) (by decide +kernel)
set_option maxRecDepth 20000 in
theorem gX8_stepSender_X5_isEmpty : GoodIn wsX8_stepSender (wsV RX8 230 RX5 yX5_isEmpty wsX5_isEmpty) := goodIn_app (goodIn_of _ (by decide +kernel)) ggX8_stepSender_X5_isEmpty
set_option maxRecDepth 20000 in
theorem ggX8_stepSender_X5_first : GoodIn wsX8_stepSender wsX5_first := goodIn_r _ [20, 21, 22, 23, 14, 24, 16, 25, 26, 27, 28, 29, 30, 97, 98, 99] (by decide +kernel) (by decide +kernel)
set_option maxRecDepth 20000 in
theorem gX8_stepSender_X5_first : GoodIn wsX8_stepSender (wsV RX8 224 RX5 yX5_first wsX5_first) := goodIn_app (goodIn_of _ (by decide +kernel)) ggX8_stepSender_X5_first
set_option maxRecDepth 20000 in
theorem ggX8_stepSender_X6_begin : GoodIn wsX8_stepSender wsX6_begin := goodIn_r _ [34, 35, 36, 37, 10, 93, 94, 95, 96] (by decide +kernel) (by decide +kernel)
set_option maxRecDepth 20000 in
theorem gX8_stepSender_X6_begin : GoodIn wsX8_stepSender (wsV RX8 273 RX6 yX6_begin wsX6_begin) := goodIn_app (goodIn_of _ (by decide +kernel)) ggX8_stepSender_X6_begin
set_option maxRecDepth 20000 in
theorem ggX8_stepSender_X5_dropFirst : GoodIn wsX8_stepSender wsX5_dropFirst := goodIn_r _ [41, 16, 30, 26, 27, 28, 14, 29, 25, 97, 98, 99] (by decide +kernel) (by decide +kernel)
set_option maxRecDepth 20000 in
theorem gX8_stepSender_X5_dropFirst : GoodIn wsX8_stepSender (wsV RX8 227 RX5 yX5_dropFirst wsX5_dropFirst) := goodIn_app (goodIn_of _ (by decide +kernel)) ggX8_stepSender_X5_dropFirst
set_option maxRecDepth 20000 in
theorem ggX8_stepSender_X6_next : GoodIn wsX8_stepSender wsX6_next := goodIn_r _ [45, 10, 35, 36, 37, 46, 47, 48, 49, 50, 51, 52, 53, 54, 55, 56, 57, 58, 59, 60, 61, 62, 63, 64, 65, 66, 67, 68, 69, 70, 71, 72, 73, 74, 93, 94, 95, 96] (by decide +kernel) (by decide +kernel)
set_option maxRecDepth 20000 in
theorem gX8_stepSender_X6_next : GoodIn wsX8_stepSender (wsV RX8 276 RX6 yX6_next wsX6_next) := goodIn_app (goodIn_of _ (by decide +kernel)) ggX8_stepSender_X6_next
theorem dX8_rowRoom_0 : decode cX8_rowRoom 0 = .ok (.aload_n 0, 1) := by decide +kernel
theorem dX8_rowRoom_1 : decode cX8_rowRoom 1 = .ok (.getfield 172, 3) := by decide +kernel
theorem dX8_rowRoom_4 : decode cX8_rowRoom 4 = .ok (.ifCond .eq 8, 3) := by decide +kernel
theorem dX8_rowRoom_7 : decode cX8_rowRoom 7 = .ok (.bipush 16, 2) := by decide +kernel
theorem dX8_rowRoom_9 : decode cX8_rowRoom 9 = .ok (.goto 4, 3) := by decide +kernel
theorem dX8_rowRoom_12 : decode cX8_rowRoom 12 = .ok (.iconst 1, 1) := by decide +kernel
theorem dX8_rowRoom_13 : decode cX8_rowRoom 13 = .ok (.ireturn, 1) := by decide +kernel
theorem dX8_addReceived_0 : decode cX8_addReceived 0 = .ok (.aload_n 0, 1) := by decide +kernel
theorem dX8_addReceived_1 : decode cX8_addReceived 1 = .ok (.getfield 21, 3) := by decide +kernel
theorem dX8_addReceived_4 : decode cX8_addReceived 4 = .ok (.invokevirtual 124, 3) := by decide +kernel
theorem dX8_addReceived_7 : decode cX8_addReceived 7 = .ok (.aload_n 0, 1) := by decide +kernel
theorem dX8_addReceived_8 : decode cX8_addReceived 8 = .ok (.invokevirtual 215, 3) := by decide +kernel
theorem dX8_addReceived_11 : decode cX8_addReceived 11 = .ok (.if_icmp .ge 14, 3) := by decide +kernel
theorem dX8_addReceived_14 : decode cX8_addReceived 14 = .ok (.aload_n 0, 1) := by decide +kernel
theorem dX8_addReceived_15 : decode cX8_addReceived 15 = .ok (.getfield 21, 3) := by decide +kernel
theorem dX8_addReceived_18 : decode cX8_addReceived 18 = .ok (.iload_n 1, 1) := by decide +kernel
theorem dX8_addReceived_19 : decode cX8_addReceived 19 = .ok (.invokevirtual 218, 3) := by decide +kernel
theorem dX8_addReceived_22 : decode cX8_addReceived 22 = .ok (.goto 23, 3) := by decide +kernel
theorem dX8_addReceived_25 : decode cX8_addReceived 25 = .ok (.aload_n 0, 1) := by decide +kernel
theorem dX8_addReceived_26 : decode cX8_addReceived 26 = .ok (.iconst 1, 1) := by decide +kernel
theorem dX8_addReceived_27 : decode cX8_addReceived 27 = .ok (.putfield 176, 3) := by decide +kernel
theorem dX8_addReceived_30 : decode cX8_addReceived 30 = .ok (.aload_n 0, 1) := by decide +kernel
theorem dX8_addReceived_31 : decode cX8_addReceived 31 = .ok (.getfield 172, 3) := by decide +kernel
theorem dX8_addReceived_34 : decode cX8_addReceived 34 = .ok (.ifCond .ne 11, 3) := by decide +kernel
theorem dX8_addReceived_37 : decode cX8_addReceived 37 = .ok (.aload_n 0, 1) := by decide +kernel
theorem dX8_addReceived_38 : decode cX8_addReceived 38 = .ok (.getfield 21, 3) := by decide +kernel
theorem dX8_addReceived_41 : decode cX8_addReceived 41 = .ok (.iload_n 1, 1) := by decide +kernel
theorem dX8_addReceived_42 : decode cX8_addReceived 42 = .ok (.invokevirtual 221, 3) := by decide +kernel
theorem dX8_addReceived_45 : decode cX8_addReceived 45 = .ok (.aload_n 0, 1) := by decide +kernel
theorem dX8_addReceived_46 : decode cX8_addReceived 46 = .ok (.aload_n 0, 1) := by decide +kernel
theorem dX8_addReceived_47 : decode cX8_addReceived 47 = .ok (.getfield 127, 3) := by decide +kernel
theorem dX8_addReceived_50 : decode cX8_addReceived 50 = .ok (.putfield 185, 3) := by decide +kernel
theorem dX8_addReceived_53 : decode cX8_addReceived 53 = .ok (.return_, 1) := by decide +kernel
set_option maxRecDepth 20000 in
theorem ggX8_addReceived_X5_size : GoodIn wsX8_addReceived wsX5_size := goodIn_r _ [10, 11, 53, 54, 55] (by decide +kernel) (by decide +kernel)
set_option maxRecDepth 20000 in
theorem gX8_addReceived_X5_size : GoodIn wsX8_addReceived (wsV RX8 124 RX5 yX5_size wsX5_size) := goodIn_app (goodIn_of _ (by decide +kernel)) ggX8_addReceived_X5_size
set_option maxRecDepth 20000 in
theorem ggX8_addReceived_X8_rowRoom : GoodIn wsX8_addReceived wsX8_rowRoom := goodIn_r _ [16, 3, 35, 36, 37, 38, 39, 40, 41, 42, 43, 44, 45, 46, 47, 48, 49, 50, 51, 52] (by decide +kernel) (by decide +kernel)
set_option maxRecDepth 20000 in
theorem gX8_addReceived_X8_rowRoom : GoodIn wsX8_addReceived (wsV RX8 215 RX8 yX8_rowRoom wsX8_rowRoom) := goodIn_app (goodIn_of _ (by decide +kernel)) ggX8_addReceived_X8_rowRoom
set_option maxRecDepth 20000 in
theorem ggX8_addReceived_X5_add : GoodIn wsX8_addReceived wsX5_add := goodIn_r _ [20, 11, 21, 22, 23, 24, 9, 25, 26, 27, 28, 29, 30, 53, 54, 55] (by decide +kernel) (by decide +kernel)
set_option maxRecDepth 20000 in
theorem gX8_addReceived_X5_add : GoodIn wsX8_addReceived (wsV RX8 218 RX5 yX5_add wsX5_add) := goodIn_app (goodIn_of _ (by decide +kernel)) ggX8_addReceived_X5_add
set_option maxRecDepth 20000 in
theorem ggX8_addReceived_X5_setFirst : GoodIn wsX8_addReceived wsX5_setFirst := goodIn_r _ [34, 22, 23, 24, 9, 25, 11, 21, 26, 27, 28, 29, 30, 53, 54, 55] (by decide +kernel) (by decide +kernel)
set_option maxRecDepth 20000 in
theorem gX8_addReceived_X5_setFirst : GoodIn wsX8_addReceived (wsV RX8 221 RX5 yX5_setFirst wsX5_setFirst) := goodIn_app (goodIn_of _ (by decide +kernel)) ggX8_addReceived_X5_setFirst
theorem dX8_stepLate_0 : decode cX8_stepLate 0 = .ok (.aload_n 0, 1) := by decide +kernel
theorem dX8_stepLate_1 : decode cX8_stepLate 1 = .ok (.getfield 172, 3) := by decide +kernel
theorem dX8_stepLate_4 : decode cX8_stepLate 4 = .ok (.ifCond .eq 13, 3) := by decide +kernel
theorem dX8_stepLate_7 : decode cX8_stepLate 7 = .ok (.aload_n 0, 1) := by decide +kernel
theorem dX8_stepLate_8 : decode cX8_stepLate 8 = .ok (.getfield 21, 3) := by decide +kernel
theorem dX8_stepLate_11 : decode cX8_stepLate 11 = .ok (.invokevirtual 230, 3) := by decide +kernel
theorem dX8_stepLate_14 : decode cX8_stepLate 14 = .ok (.ifCond .eq 4, 3) := by decide +kernel
theorem dX8_stepLate_17 : decode cX8_stepLate 17 = .ok (.return_, 1) := by decide +kernel
theorem dX8_stepLate_18 : decode cX8_stepLate 18 = .ok (.aload_n 0, 1) := by decide +kernel
theorem dX8_stepLate_19 : decode cX8_stepLate 19 = .ok (.getfield 127, 3) := by decide +kernel
theorem dX8_stepLate_22 : decode cX8_stepLate 22 = .ok (.aload_n 0, 1) := by decide +kernel
theorem dX8_stepLate_23 : decode cX8_stepLate 23 = .ok (.getfield 185, 3) := by decide +kernel
theorem dX8_stepLate_26 : decode cX8_stepLate 26 = .ok (.isub, 1) := by decide +kernel
theorem dX8_stepLate_27 : decode cX8_stepLate 27 = .ok (.iconst 4, 1) := by decide +kernel
theorem dX8_stepLate_28 : decode cX8_stepLate 28 = .ok (.aload_n 0, 1) := by decide +kernel
theorem dX8_stepLate_29 : decode cX8_stepLate 29 = .ok (.getfield 73, 3) := by decide +kernel
theorem dX8_stepLate_32 : decode cX8_stepLate 32 = .ok (.invokestatic 277, 3) := by decide +kernel
theorem dX8_stepLate_35 : decode cX8_stepLate 35 = .ok (.imul, 1) := by decide +kernel
theorem dX8_stepLate_36 : decode cX8_stepLate 36 = .ok (.if_icmp .lt 8, 3) := by decide +kernel
theorem dX8_stepLate_39 : decode cX8_stepLate 39 = .ok (.aload_n 0, 1) := by decide +kernel
theorem dX8_stepLate_40 : decode cX8_stepLate 40 = .ok (.iconst 1, 1) := by decide +kernel
theorem dX8_stepLate_41 : decode cX8_stepLate 41 = .ok (.putfield 182, 3) := by decide +kernel
theorem dX8_stepLate_44 : decode cX8_stepLate 44 = .ok (.return_, 1) := by decide +kernel
set_option maxRecDepth 20000 in
theorem ggX8_stepLate_X5_isEmpty : GoodIn wsX8_stepLate wsX5_isEmpty := goodIn_r _ [11, 12, 47, 48, 49] (by decide +kernel) (by decide +kernel)
set_option maxRecDepth 20000 in
theorem gX8_stepLate_X5_isEmpty : GoodIn wsX8_stepLate (wsV RX8 230 RX5 yX5_isEmpty wsX5_isEmpty) := goodIn_app (goodIn_of _ (by decide +kernel)) ggX8_stepLate_X5_isEmpty
set_option maxRecDepth 20000 in
theorem ggX8_stepLate_X7_beats : GoodIn wsX8_stepLate wsX7_beats := goodIn_r _ [16, 17, 18, 15, 19, 20, 21, 22, 23, 24, 25, 26, 27, 28] (by decide +kernel) (by decide +kernel)
set_option maxRecDepth 20000 in
theorem gX8_stepLate_X7_beats : GoodIn wsX8_stepLate (va_wsS RX8 277 yX7_beats wsX7_beats) := goodIn_app (goodIn_of _ (by decide +kernel)) ggX8_stepLate_X7_beats
def F_X8_stepSender_60 (v_lineControl : Int32) (v_sending_cells_n : Nat) (v_sending_cells_a : Nat → Int32) (v_emptyUp : Bool) (v_sending_head : Int32) (v_sending_size : Int32) (v_sender_control : Int32) (v_sender_character : Int32) (v_sender_beat : Int32) (v_sender_busy : Bool) : Option (Bool × Bool × Int32 × Int32 × Int32 × Int32 × Int32 × Bool) := bd (F_X6_next v_sender_control v_sender_character v_sender_beat v_sender_busy) (fun u1 => some (u1.1, v_emptyUp, v_sending_head, v_sending_size, v_sender_control, v_sender_character, u1.2.1, u1.2.2))
def F_X8_stepSender  (v_lineControl : Int32) (v_emptyUp : Bool) (v_sending_head : Int32) (v_sending_size : Int32) (v_sending_cells_n : Nat) (v_sending_cells_a : Nat → Int32) (v_sender_control : Int32) (v_sender_character : Int32) (v_sender_beat : Int32) (v_sender_busy : Bool) : Option (Bool × Bool × Int32 × Int32 × Int32 × Int32 × Int32 × Bool) := bd (F_X6_isBusy v_sender_busy) (fun u2 => bt u2 (F_X8_stepSender_60 v_lineControl v_sending_cells_n v_sending_cells_a v_emptyUp v_sending_head v_sending_size v_sender_control v_sender_character v_sender_beat v_sender_busy) (bd (F_X5_isEmpty v_sending_size) (fun u4 => bt u4 (F_X8_stepSender_60 v_lineControl v_sending_cells_n v_sending_cells_a v_emptyUp v_sending_head v_sending_size v_sender_control v_sender_character v_sender_beat v_sender_busy) (bd (F_X5_first v_sending_head v_sending_size v_sending_cells_n v_sending_cells_a) (fun u6 => bd (F_X6_begin v_lineControl u6 v_sender_control v_sender_character v_sender_beat v_sender_busy) (fun u7 => bd (F_X5_dropFirst v_sending_head v_sending_size v_sending_cells_n) (fun u8 => bd (F_X5_isEmpty u8.2) (fun u9 => bt u9 (F_X8_stepSender_60 v_lineControl v_sending_cells_n v_sending_cells_a true u8.1 u8.2 u7.1 u7.2.1 u7.2.2.1 u7.2.2.2) (F_X8_stepSender_60 v_lineControl v_sending_cells_n v_sending_cells_a v_emptyUp u8.1 u8.2 u7.1 u7.2.1 u7.2.2.1 u7.2.2.2)))))))))
def wX8_stepSender (k_sending_cells : ClassId) (h_ : Nat) (h_divider : Nat) (h_received : Nat) (h_sending : Nat) (h_sender : Nat) (h_receiver : Nat) (h_modem : Nat) (h_lineIn : Nat) (h_lineOut : Nat) (h_sending_cells : Nat) (v_wanted : Int32) (v_lineControl : Int32) (v_kept : Int32) (v_level : Int32) (v_rowsOn : Bool) (v_overrun : Bool) (v_lateUp : Bool) (v_beats : Int32) (v_quietSince : Int32) (v_sending_cells_n : Nat) (v_sending_cells_a : Nat → Int32) (u : Bool × Bool × Int32 × Int32 × Int32 × Int32 × Int32 × Bool) : va_W := [oX8 h_ h_divider h_received h_sending h_sender h_receiver h_modem h_lineIn h_lineOut v_wanted v_lineControl v_kept v_level v_rowsOn v_overrun u.2.1 v_lateUp v_beats v_quietSince, oX5 h_sending h_sending_cells u.2.2.1 u.2.2.2.1, aI h_sending_cells k_sending_cells v_sending_cells_n v_sending_cells_a, oX6 h_sender u.2.2.2.2.1 u.2.2.2.2.2.1 u.2.2.2.2.2.2.1 u.2.2.2.2.2.2.2]
set_option maxHeartbeats 4000000 in
set_option maxRecDepth 100000 in
theorem mX8_stepSender {l : Launch} (D : va_G) (k_sending_cells : ClassId) (h_ : Nat) (h_divider : Nat) (h_received : Nat) (h_sending : Nat) (h_sender : Nat) (h_receiver : Nat) (h_modem : Nat) (h_lineIn : Nat) (h_lineOut : Nat) (h_sending_cells : Nat) (v_wanted : Int32) (v_lineControl : Int32) (v_kept : Int32) (v_level : Int32) (v_rowsOn : Bool) (v_overrun : Bool) (v_emptyUp : Bool) (v_lateUp : Bool) (v_beats : Int32) (v_quietSince : Int32) (v_sending_head : Int32) (v_sending_size : Int32) (v_sending_cells_n : Nat) (v_sending_cells_a : Nat → Int32) (v_sender_control : Int32) (v_sender_character : Int32) (v_sender_beat : Int32) (v_sender_busy : Bool) (u0 : Bool × Bool × Int32 × Int32 × Int32 × Int32 × Int32 × Bool) (hF : F_X8_stepSender v_lineControl v_emptyUp v_sending_head v_sending_size v_sending_cells_n v_sending_cells_a v_sender_control v_sender_character v_sender_beat v_sender_busy = some u0) : MI l yX8_stepSender wsX8_stepSender { frames := 4, cells := 0, slots := 0, locals := 88 } D [(k_sending_cells, .int)] [.ref h_] [oX8 h_ h_divider h_received h_sending h_sender h_receiver h_modem h_lineIn h_lineOut v_wanted v_lineControl v_kept v_level v_rowsOn v_overrun v_emptyUp v_lateUp v_beats v_quietSince, oX5 h_sending h_sending_cells v_sending_head v_sending_size, aI h_sending_cells k_sending_cells v_sending_cells_n v_sending_cells_a, oX6 h_sender v_sender_control v_sender_character v_sender_beat v_sender_busy] (wX8_stepSender k_sending_cells h_ h_divider h_received h_sending h_sender h_receiver h_modem h_lineIn h_lineOut h_sending_cells v_wanted v_lineControl v_kept v_level v_rowsOn v_overrun v_lateUp v_beats v_quietSince v_sending_cells_n v_sending_cells_a u0) (bI u0.1) := by
  refine MI.ofW (cc := cX8_stepSender) (maxL := 1) (ret := (some .boolean)) (lv := [(0, .ref h_)]) (by decide +kernel) rfl (Nat.le_of_ble_eq_true rfl) rfl ?_
  intro p e s m args below meth c A ls hx hb hr hml hts hown hlocks hA hK hP hD hS hl
  replace hown : s.vm.findClass RX8 = some m.cls := hown
  have i_X8 : ∀ w ∈ wsX80, w ∈ wsX8_stepSender := by decide +kernel
  have f_25 := hts (.fieldLink RX8 25 "SerialPort" "sending" "LSerialPort$Ring;") (by decide +kernel)
  have f_31 := hts (.fieldLink RX8 31 "SerialPort" "sender" "LSerialPort$Sender;") (by decide +kernel)
  have f_73 := hts (.fieldLink RX8 73 "SerialPort" "lineControl" "I") (by decide +kernel)
  have f_179 := hts (.fieldLink RX8 179 "SerialPort" "emptyUp" "Z") (by decide +kernel)
  have hret : ∀ (u : Bool × Bool × Int32 × Int32 × Int32 × Int32 × Int32 × Bool) (v : Int32) (H : Heap) (locs : List Loc) (pc : Nat) (ls : Array Slot), va_P D vwCl (wX8_stepSender k_sending_cells h_ h_divider h_received h_sending h_sender h_receiver h_modem h_lineIn h_lineOut h_sending_cells v_wanted v_lineControl v_kept v_level v_rowsOn v_overrun v_lateUp v_beats v_quietSince v_sending_cells_n v_sending_cells_a u) H → va_D A (wX8_stepSender k_sending_cells h_ h_divider h_received h_sending h_sender h_receiver h_modem h_lineIn h_lineOut h_sending_cells v_wanted v_lineControl v_kept v_level v_rowsOn v_overrun v_lateUp v_beats v_quietSince v_sending_cells_n v_sending_cells_a u) → va_S A s.heap H locs → some u = some u0 → v = bI u.1 → decode cX8_stepSender pc = .ok (.ireturn, 1) → W p l e { frames := 4, cells := 0, slots := 0, locals := 88 } s m args below meth c H locs 0 0 (QI below D [(k_sending_cells, .int)] (wX8_stepSender k_sending_cells h_ h_divider h_received h_sending h_sender h_receiver h_modem h_lineIn h_lineOut h_sending_cells v_wanted v_lineControl v_kept v_level v_rowsOn v_overrun v_lateUp v_beats v_quietSince v_sending_cells_n v_sending_cells_a u0) (bI u0.1) args s A) (F0 m pc ls [.int v]) := fun u v H locs pc ls h1 h2 h3 h4 h5 h6 => rZ (wf := wX8_stepSender k_sending_cells h_ h_divider h_received h_sending h_sender h_receiver h_modem h_lineIn h_lineOut h_sending_cells v_wanted v_lineControl v_kept v_level v_rowsOn v_overrun v_lateUp v_beats v_quietSince v_sending_cells_n v_sending_cells_a) (rf := fun u => u.1) hx hb hr hlocks hK h1 h2 h3 h4 h5 h6
  have J60 : ∀ (v_emptyUp : Bool) (v_sending_head : Int32) (v_sending_size : Int32) (v_sender_control : Int32) (v_sender_character : Int32) (v_sender_beat : Int32) (v_sender_busy : Bool) (H : Heap) (locs : List Loc) (ls : Array Slot), F_X8_stepSender_60 v_lineControl v_sending_cells_n v_sending_cells_a v_emptyUp v_sending_head v_sending_size v_sender_control v_sender_character v_sender_beat v_sender_busy = some u0 → lv_has ls 1 [(0, .ref h_)] → va_P D vwCl [oX8 h_ h_divider h_received h_sending h_sender h_receiver h_modem h_lineIn h_lineOut v_wanted v_lineControl v_kept v_level v_rowsOn v_overrun v_emptyUp v_lateUp v_beats v_quietSince, oX5 h_sending h_sending_cells v_sending_head v_sending_size, aI h_sending_cells k_sending_cells v_sending_cells_n v_sending_cells_a, oX6 h_sender v_sender_control v_sender_character v_sender_beat v_sender_busy] H → va_D A [oX8 h_ h_divider h_received h_sending h_sender h_receiver h_modem h_lineIn h_lineOut v_wanted v_lineControl v_kept v_level v_rowsOn v_overrun v_emptyUp v_lateUp v_beats v_quietSince, oX5 h_sending h_sending_cells v_sending_head v_sending_size, aI h_sending_cells k_sending_cells v_sending_cells_n v_sending_cells_a, oX6 h_sender v_sender_control v_sender_character v_sender_beat v_sender_busy] → va_S A s.heap H locs → W p l e { frames := 4, cells := 0, slots := 0, locals := 88 } s m args below meth c H locs 0 0 (QI below D [(k_sending_cells, .int)] (wX8_stepSender k_sending_cells h_ h_divider h_received h_sending h_sender h_receiver h_modem h_lineIn h_lineOut h_sending_cells v_wanted v_lineControl v_kept v_level v_rowsOn v_overrun v_lateUp v_beats v_quietSince v_sending_cells_n v_sending_cells_a u0) (bI u0.1) args s A) (F0 m 60 ls []) := by
    intro v_emptyUp v_sending_head v_sending_size v_sender_control v_sender_character v_sender_beat v_sender_busy H locs ls hF hl hP hD hS
    unfold F_X8_stepSender_60 at hF
    refine lv_aload_n hx hb dX8_stepSender_60 rfl (lv_at hl 0 rfl) ?_
    refine va_get (D := D) (ci := 7) (v := .ref h_sender) (C := RX8) (T := TX8) (N := 18) hx hb hts i_X8 hown hK hP 0 rfl rfl 3 (Nat.le_of_ble_eq_true rfl) f_31 (fun _ h9 => h9) rfl dX8_stepSender_61 ?_
    obtain ⟨u1, hu1, hF⟩ := bd_el hF
    refine cVI (q0 := 3) (ci := 6) (As := []) (rest := []) (wr := [oX8 h_ h_divider h_received h_sending h_sender h_receiver h_modem h_lineIn h_lineOut v_wanted v_lineControl v_kept v_level v_rowsOn v_overrun v_emptyUp v_lateUp v_beats v_quietSince, oX5 h_sending h_sending_cells v_sending_head v_sending_size, aI h_sending_cells k_sending_cells v_sending_cells_n v_sending_cells_a]) (ws' := [oX8 h_ h_divider h_received h_sending h_sender h_receiver h_modem h_lineIn h_lineOut v_wanted v_lineControl v_kept v_level v_rowsOn v_overrun v_emptyUp v_lateUp v_beats v_quietSince, oX5 h_sending h_sending_cells v_sending_head v_sending_size, aI h_sending_cells k_sending_cells v_sending_cells_n v_sending_cells_a, oX6 h_sender v_sender_control v_sender_character u1.2.1 u1.2.2]) (rv := bI u1.1) ⟨hx, hb, hml, hown, hts⟩ (mX6_next D h_sender v_sender_control v_sender_character v_sender_beat v_sender_busy u1 hu1) (cwV 0 hts gX8_stepSender_X6_next rfl rfl rfl (by decide +kernel) ⟨Nat.le_of_ble_eq_true rfl, Nat.le_of_ble_eq_true rfl⟩) hK hP hD hS hA [] [3] [0, 1, 2] [0, 1, 2, 3] rfl rfl rfl rfl rfl rfl rfl rfl rfl hl.1 rfl (Nat.le_of_ble_eq_true rfl) rfl dX8_stepSender_64 ⟨Nat.le_refl _, Nat.le_refl _⟩ (fun H locs hP hD hS => ?_)
    exact hret (u1.1, v_emptyUp, v_sending_head, v_sending_size, v_sender_control, v_sender_character, u1.2.1, u1.2.2) (bI u1.1) _ _ 67 _ hP hD hS hF rfl dX8_stepSender_67
  unfold F_X8_stepSender at hF
  refine lv_aload_n hx hb dX8_stepSender_0 rfl (lv_at hl 0 rfl) ?_
  refine va_get (D := D) (ci := 7) (v := .ref h_sender) (C := RX8) (T := TX8) (N := 18) hx hb hts i_X8 hown hK hP 0 rfl rfl 3 (Nat.le_of_ble_eq_true rfl) f_31 (fun _ h9 => h9) rfl dX8_stepSender_1 ?_
  obtain ⟨u2, hu2, hF⟩ := bd_el hF
  refine cVI (q0 := 3) (ci := 6) (As := []) (rest := []) (wr := [oX8 h_ h_divider h_received h_sending h_sender h_receiver h_modem h_lineIn h_lineOut v_wanted v_lineControl v_kept v_level v_rowsOn v_overrun v_emptyUp v_lateUp v_beats v_quietSince, oX5 h_sending h_sending_cells v_sending_head v_sending_size, aI h_sending_cells k_sending_cells v_sending_cells_n v_sending_cells_a]) (ws' := [oX8 h_ h_divider h_received h_sending h_sender h_receiver h_modem h_lineIn h_lineOut v_wanted v_lineControl v_kept v_level v_rowsOn v_overrun v_emptyUp v_lateUp v_beats v_quietSince, oX5 h_sending h_sending_cells v_sending_head v_sending_size, aI h_sending_cells k_sending_cells v_sending_cells_n v_sending_cells_a, oX6 h_sender v_sender_control v_sender_character v_sender_beat v_sender_busy]) (rv := bI u2) ⟨hx, hb, hml, hown, hts⟩ (mX6_isBusy D h_sender v_sender_control v_sender_character v_sender_beat v_sender_busy u2 hu2) (cwV 0 hts gX8_stepSender_X6_isBusy rfl rfl rfl (by decide +kernel) ⟨Nat.le_of_ble_eq_true rfl, Nat.le_of_ble_eq_true rfl⟩) hK hP hD hS hA [] [3] [0, 1, 2] [0, 1, 2, 3] rfl rfl rfl rfl rfl rfl rfl rfl rfl hl.1 rfl (Nat.le_of_ble_eq_true rfl) rfl dX8_stepSender_4 ⟨Nat.le_refl _, Nat.le_refl _⟩ (fun H locs hP hD hS => ?_)
  refine lv_if_ne (tgt := 60) hx hb dX8_stepSender_7 (by decide) (fun c3 => ?_) (fun c3 => ?_)
  · replace hF := bt_t (bI_n0 c3) hF
    exact J60 v_emptyUp v_sending_head v_sending_size v_sender_control v_sender_character v_sender_beat v_sender_busy _ _ _ hF hl hP hD hS
  · replace hF := bt_f (bI_0 c3) hF
    refine lv_aload_n hx hb dX8_stepSender_10 rfl (lv_at hl 0 rfl) ?_
    refine va_get (D := D) (ci := 7) (v := .ref h_sending) (C := RX8) (T := TX8) (N := 18) hx hb hts i_X8 hown hK hP 0 rfl rfl 2 (Nat.le_of_ble_eq_true rfl) f_25 (fun _ h9 => h9) rfl dX8_stepSender_11 ?_
    obtain ⟨u4, hu4, hF⟩ := bd_el hF
    refine cVI (q0 := 1) (ci := 5) (As := []) (rest := []) (wr := [oX8 h_ h_divider h_received h_sending h_sender h_receiver h_modem h_lineIn h_lineOut v_wanted v_lineControl v_kept v_level v_rowsOn v_overrun v_emptyUp v_lateUp v_beats v_quietSince, aI h_sending_cells k_sending_cells v_sending_cells_n v_sending_cells_a, oX6 h_sender v_sender_control v_sender_character v_sender_beat v_sender_busy]) (ws' := [oX8 h_ h_divider h_received h_sending h_sender h_receiver h_modem h_lineIn h_lineOut v_wanted v_lineControl v_kept v_level v_rowsOn v_overrun v_emptyUp v_lateUp v_beats v_quietSince, oX5 h_sending h_sending_cells v_sending_head v_sending_size, aI h_sending_cells k_sending_cells v_sending_cells_n v_sending_cells_a, oX6 h_sender v_sender_control v_sender_character v_sender_beat v_sender_busy]) (rv := bI u4) ⟨hx, hb, hml, hown, hts⟩ (mX5_isEmpty D h_sending h_sending_cells v_sending_head v_sending_size u4 hu4) (cwV 0 hts gX8_stepSender_X5_isEmpty rfl rfl rfl (by decide +kernel) ⟨Nat.le_of_ble_eq_true rfl, Nat.le_of_ble_eq_true rfl⟩) hK hP hD hS hA [] [1] [0, 2, 3] [0, 3, 1, 2] rfl rfl rfl rfl rfl rfl rfl rfl rfl hl.1 rfl (Nat.le_of_ble_eq_true rfl) rfl dX8_stepSender_14 ⟨Nat.le_refl _, Nat.le_refl _⟩ (fun H locs hP hD hS => ?_)
    refine lv_if_ne (tgt := 60) hx hb dX8_stepSender_17 (by decide) (fun c5 => ?_) (fun c5 => ?_)
    · replace hF := bt_t (bI_n0 c5) hF
      exact J60 v_emptyUp v_sending_head v_sending_size v_sender_control v_sender_character v_sender_beat v_sender_busy _ _ _ hF hl hP hD hS
    · replace hF := bt_f (bI_0 c5) hF
      refine lv_aload_n hx hb dX8_stepSender_20 rfl (lv_at hl 0 rfl) ?_
      refine va_get (D := D) (ci := 7) (v := .ref h_sender) (C := RX8) (T := TX8) (N := 18) hx hb hts i_X8 hown hK hP 0 rfl rfl 3 (Nat.le_of_ble_eq_true rfl) f_31 (fun _ h9 => h9) rfl dX8_stepSender_21 ?_
      refine lv_aload_n hx hb dX8_stepSender_24 rfl (lv_at hl 0 rfl) ?_
      refine va_get (D := D) (ci := 7) (v := .int v_lineControl) (C := RX8) (T := TX8) (N := 18) hx hb hts i_X8 hown hK hP 0 rfl rfl 9 (Nat.le_of_ble_eq_true rfl) f_73 (fun _ h9 => h9) rfl dX8_stepSender_25 ?_
      refine lv_aload_n hx hb dX8_stepSender_28 rfl (lv_at hl 0 rfl) ?_
      refine va_get (D := D) (ci := 7) (v := .ref h_sending) (C := RX8) (T := TX8) (N := 18) hx hb hts i_X8 hown hK hP 0 rfl rfl 2 (Nat.le_of_ble_eq_true rfl) f_25 (fun _ h9 => h9) rfl dX8_stepSender_29 ?_
      obtain ⟨u6, hu6, hF⟩ := bd_el hF
      refine cVI (q0 := 1) (ci := 5) (As := []) (rest := [.int v_lineControl, .ref h_sender]) (wr := [oX8 h_ h_divider h_received h_sending h_sender h_receiver h_modem h_lineIn h_lineOut v_wanted v_lineControl v_kept v_level v_rowsOn v_overrun v_emptyUp v_lateUp v_beats v_quietSince, oX6 h_sender v_sender_control v_sender_character v_sender_beat v_sender_busy]) (ws' := [oX8 h_ h_divider h_received h_sending h_sender h_receiver h_modem h_lineIn h_lineOut v_wanted v_lineControl v_kept v_level v_rowsOn v_overrun v_emptyUp v_lateUp v_beats v_quietSince, oX5 h_sending h_sending_cells v_sending_head v_sending_size, aI h_sending_cells k_sending_cells v_sending_cells_n v_sending_cells_a, oX6 h_sender v_sender_control v_sender_character v_sender_beat v_sender_busy]) (rv := u6) ⟨hx, hb, hml, hown, hts⟩ (mX5_first D k_sending_cells h_sending h_sending_cells v_sending_head v_sending_size v_sending_cells_n v_sending_cells_a u6 hu6) (cwV 0 hts gX8_stepSender_X5_first rfl rfl rfl (by decide +kernel) ⟨Nat.le_of_ble_eq_true rfl, Nat.le_of_ble_eq_true rfl⟩) hK hP hD hS hA [0] [1, 2] [0, 3] [0, 2, 3, 1] rfl rfl rfl rfl rfl rfl rfl rfl rfl hl.1 rfl (Nat.le_of_ble_eq_true rfl) rfl dX8_stepSender_32 ⟨Nat.le_refl _, Nat.le_refl _⟩ (fun H locs hP hD hS => ?_)
      obtain ⟨u7, hu7, hF⟩ := bd_el hF
      refine cVV (q0 := 3) (ci := 6) (As := [.int v_lineControl, .int u6]) (rest := []) (wr := [oX8 h_ h_divider h_received h_sending h_sender h_receiver h_modem h_lineIn h_lineOut v_wanted v_lineControl v_kept v_level v_rowsOn v_overrun v_emptyUp v_lateUp v_beats v_quietSince, oX5 h_sending h_sending_cells v_sending_head v_sending_size, aI h_sending_cells k_sending_cells v_sending_cells_n v_sending_cells_a]) (ws' := [oX8 h_ h_divider h_received h_sending h_sender h_receiver h_modem h_lineIn h_lineOut v_wanted v_lineControl v_kept v_level v_rowsOn v_overrun v_emptyUp v_lateUp v_beats v_quietSince, oX5 h_sending h_sending_cells v_sending_head v_sending_size, aI h_sending_cells k_sending_cells v_sending_cells_n v_sending_cells_a, oX6 h_sender u7.1 u7.2.1 u7.2.2.1 u7.2.2.2]) ⟨hx, hb, hml, hown, hts⟩ (mX6_begin D h_sender v_sender_control v_sender_character v_sender_beat v_sender_busy v_lineControl u6 u7 hu7) (cwV 2 hts gX8_stepSender_X6_begin rfl rfl rfl (by decide +kernel) ⟨Nat.le_of_ble_eq_true rfl, Nat.le_of_ble_eq_true rfl⟩) hK hP hD hS hA [] [3] [0, 1, 2] [0, 1, 2, 3] rfl rfl rfl rfl rfl rfl rfl rfl rfl hl.1 rfl (Nat.le_of_ble_eq_true rfl) dX8_stepSender_35 ⟨Nat.le_refl _, Nat.le_refl _⟩ (fun H locs hP hD hS => ?_)
      refine lv_aload_n hx hb dX8_stepSender_38 rfl (lv_at hl 0 rfl) ?_
      refine va_get (D := D) (ci := 7) (v := .ref h_sending) (C := RX8) (T := TX8) (N := 18) hx hb hts i_X8 hown hK hP 0 rfl rfl 2 (Nat.le_of_ble_eq_true rfl) f_25 (fun _ h9 => h9) rfl dX8_stepSender_39 ?_
      obtain ⟨u8, hu8, hF⟩ := bd_el hF
      refine cVV (q0 := 1) (ci := 5) (As := []) (rest := []) (wr := [oX8 h_ h_divider h_received h_sending h_sender h_receiver h_modem h_lineIn h_lineOut v_wanted v_lineControl v_kept v_level v_rowsOn v_overrun v_emptyUp v_lateUp v_beats v_quietSince, oX6 h_sender u7.1 u7.2.1 u7.2.2.1 u7.2.2.2]) (ws' := [oX8 h_ h_divider h_received h_sending h_sender h_receiver h_modem h_lineIn h_lineOut v_wanted v_lineControl v_kept v_level v_rowsOn v_overrun v_emptyUp v_lateUp v_beats v_quietSince, oX5 h_sending h_sending_cells u8.1 u8.2, aI h_sending_cells k_sending_cells v_sending_cells_n v_sending_cells_a, oX6 h_sender u7.1 u7.2.1 u7.2.2.1 u7.2.2.2]) ⟨hx, hb, hml, hown, hts⟩ (mX5_dropFirst D k_sending_cells h_sending h_sending_cells v_sending_head v_sending_size v_sending_cells_n v_sending_cells_a u8 hu8) (cwV 0 hts gX8_stepSender_X5_dropFirst rfl rfl rfl (by decide +kernel) ⟨Nat.le_of_ble_eq_true rfl, Nat.le_of_ble_eq_true rfl⟩) hK hP hD hS hA [0] [1, 2] [0, 3] [0, 2, 3, 1] rfl rfl rfl rfl rfl rfl rfl rfl rfl hl.1 rfl (Nat.le_of_ble_eq_true rfl) dX8_stepSender_42 ⟨Nat.le_refl _, Nat.le_refl _⟩ (fun H locs hP hD hS => ?_)
      refine lv_aload_n hx hb dX8_stepSender_45 rfl (lv_at hl 0 rfl) ?_
      refine va_get (D := D) (ci := 7) (v := .ref h_sending) (C := RX8) (T := TX8) (N := 18) hx hb hts i_X8 hown hK hP 0 rfl rfl 2 (Nat.le_of_ble_eq_true rfl) f_25 (fun _ h9 => h9) rfl dX8_stepSender_46 ?_
      obtain ⟨u9, hu9, hF⟩ := bd_el hF
      refine cVI (q0 := 1) (ci := 5) (As := []) (rest := []) (wr := [oX8 h_ h_divider h_received h_sending h_sender h_receiver h_modem h_lineIn h_lineOut v_wanted v_lineControl v_kept v_level v_rowsOn v_overrun v_emptyUp v_lateUp v_beats v_quietSince, aI h_sending_cells k_sending_cells v_sending_cells_n v_sending_cells_a, oX6 h_sender u7.1 u7.2.1 u7.2.2.1 u7.2.2.2]) (ws' := [oX8 h_ h_divider h_received h_sending h_sender h_receiver h_modem h_lineIn h_lineOut v_wanted v_lineControl v_kept v_level v_rowsOn v_overrun v_emptyUp v_lateUp v_beats v_quietSince, oX5 h_sending h_sending_cells u8.1 u8.2, aI h_sending_cells k_sending_cells v_sending_cells_n v_sending_cells_a, oX6 h_sender u7.1 u7.2.1 u7.2.2.1 u7.2.2.2]) (rv := bI u9) ⟨hx, hb, hml, hown, hts⟩ (mX5_isEmpty D h_sending h_sending_cells u8.1 u8.2 u9 hu9) (cwV 0 hts gX8_stepSender_X5_isEmpty rfl rfl rfl (by decide +kernel) ⟨Nat.le_of_ble_eq_true rfl, Nat.le_of_ble_eq_true rfl⟩) hK hP hD hS hA [] [1] [0, 2, 3] [0, 3, 1, 2] rfl rfl rfl rfl rfl rfl rfl rfl rfl hl.1 rfl (Nat.le_of_ble_eq_true rfl) rfl dX8_stepSender_49 ⟨Nat.le_refl _, Nat.le_refl _⟩ (fun H locs hP hD hS => ?_)
      refine lv_if_eq (tgt := 60) hx hb dX8_stepSender_52 (by decide) (fun c10 => ?_) (fun c10 => ?_)
      · replace hF := bt_f (bI_0 c10) hF
        exact J60 v_emptyUp u8.1 u8.2 u7.1 u7.2.1 u7.2.2.1 u7.2.2.2 _ _ _ hF hl hP hD hS
      · replace hF := bt_t (bI_n0 c10) hF
        refine lv_aload_n hx hb dX8_stepSender_55 rfl (lv_at hl 0 rfl) ?_
        refine lv_iconst (v := 1) hx hb dX8_stepSender_56 (by decide) ?_
        refine pf (ci := 7) (v := .int (bI true)) (ty := .boolean) (C := RX8) (T := TX8) (N := 18) (ws' := [oX8 h_ h_divider h_received h_sending h_sender h_receiver h_modem h_lineIn h_lineOut v_wanted v_lineControl v_kept v_level v_rowsOn v_overrun true v_lateUp v_beats v_quietSince, oX5 h_sending h_sending_cells u8.1 u8.2, aI h_sending_cells k_sending_cells v_sending_cells_n v_sending_cells_a, oX6 h_sender u7.1 u7.2.1 u7.2.2.1 u7.2.2.2]) hx hb hts i_X8 tyX8_ok nmX8 hown hK hP hD hS 0 rfl rfl 14 (Nat.le_of_ble_eq_true rfl) f_179 rfl rfl (by decide +kernel) (nar_bI true) (fit_bI true) (Nat.le_of_ble_eq_true rfl) rfl dX8_stepSender_57 (fun H locs hP hD hS => ?_)
        exact J60 true u8.1 u8.2 u7.1 u7.2.1 u7.2.2.1 u7.2.2.2 _ _ _ hF hl hP hD hS
def F_X8_rowRoom  (v_rowsOn : Bool) : Option (Int32) := bt v_rowsOn (some (16 : Int32)) (some (1 : Int32))
def wX8_rowRoom (h_ : Nat) (h_divider : Nat) (h_received : Nat) (h_sending : Nat) (h_sender : Nat) (h_receiver : Nat) (h_modem : Nat) (h_lineIn : Nat) (h_lineOut : Nat) (v_wanted : Int32) (v_lineControl : Int32) (v_kept : Int32) (v_level : Int32) (v_rowsOn : Bool) (v_overrun : Bool) (v_emptyUp : Bool) (v_lateUp : Bool) (v_beats : Int32) (v_quietSince : Int32) (_u : Int32) : va_W := [oX8 h_ h_divider h_received h_sending h_sender h_receiver h_modem h_lineIn h_lineOut v_wanted v_lineControl v_kept v_level v_rowsOn v_overrun v_emptyUp v_lateUp v_beats v_quietSince]
set_option maxHeartbeats 4000000 in
set_option maxRecDepth 100000 in
theorem mX8_rowRoom {l : Launch} (D : va_G) (h_ : Nat) (h_divider : Nat) (h_received : Nat) (h_sending : Nat) (h_sender : Nat) (h_receiver : Nat) (h_modem : Nat) (h_lineIn : Nat) (h_lineOut : Nat) (v_wanted : Int32) (v_lineControl : Int32) (v_kept : Int32) (v_level : Int32) (v_rowsOn : Bool) (v_overrun : Bool) (v_emptyUp : Bool) (v_lateUp : Bool) (v_beats : Int32) (v_quietSince : Int32) (u0 : Int32) (hF : F_X8_rowRoom v_rowsOn = some u0) : MI l yX8_rowRoom wsX8_rowRoom { frames := 0, cells := 0, slots := 0, locals := 0 } D [] [.ref h_] [oX8 h_ h_divider h_received h_sending h_sender h_receiver h_modem h_lineIn h_lineOut v_wanted v_lineControl v_kept v_level v_rowsOn v_overrun v_emptyUp v_lateUp v_beats v_quietSince] (wX8_rowRoom h_ h_divider h_received h_sending h_sender h_receiver h_modem h_lineIn h_lineOut v_wanted v_lineControl v_kept v_level v_rowsOn v_overrun v_emptyUp v_lateUp v_beats v_quietSince u0) (u0) := by
  refine MI.ofW (cc := cX8_rowRoom) (maxL := 1) (ret := (some .int)) (lv := [(0, .ref h_)]) (by decide +kernel) rfl (Nat.le_of_ble_eq_true rfl) rfl ?_
  intro p e s m args below meth c A ls hx hb hr hml hts hown hlocks hA hK hP hD hS hl
  replace hown : s.vm.findClass RX8 = some m.cls := hown
  have i_X8 : ∀ w ∈ wsX80, w ∈ wsX8_rowRoom := by decide +kernel
  have f_172 := hts (.fieldLink RX8 172 "SerialPort" "rowsOn" "Z") (by decide +kernel)
  have hret : ∀ (u : Int32) (v : Int32) (H : Heap) (locs : List Loc) (pc : Nat) (ls : Array Slot), va_P D vwCl (wX8_rowRoom h_ h_divider h_received h_sending h_sender h_receiver h_modem h_lineIn h_lineOut v_wanted v_lineControl v_kept v_level v_rowsOn v_overrun v_emptyUp v_lateUp v_beats v_quietSince u) H → va_D A (wX8_rowRoom h_ h_divider h_received h_sending h_sender h_receiver h_modem h_lineIn h_lineOut v_wanted v_lineControl v_kept v_level v_rowsOn v_overrun v_emptyUp v_lateUp v_beats v_quietSince u) → va_S A s.heap H locs → some u = some u0 → v = u → decode cX8_rowRoom pc = .ok (.ireturn, 1) → W p l e { frames := 0, cells := 0, slots := 0, locals := 0 } s m args below meth c H locs 0 0 (QI below D [] (wX8_rowRoom h_ h_divider h_received h_sending h_sender h_receiver h_modem h_lineIn h_lineOut v_wanted v_lineControl v_kept v_level v_rowsOn v_overrun v_emptyUp v_lateUp v_beats v_quietSince u0) (u0) args s A) (F0 m pc ls [.int v]) := fun u v H locs pc ls h1 h2 h3 h4 h5 h6 => rI (wf := wX8_rowRoom h_ h_divider h_received h_sending h_sender h_receiver h_modem h_lineIn h_lineOut v_wanted v_lineControl v_kept v_level v_rowsOn v_overrun v_emptyUp v_lateUp v_beats v_quietSince) (rf := fun u => u) hx hb hr hlocks hK h1 h2 h3 h4 h5 h6
  unfold F_X8_rowRoom at hF
  refine lv_aload_n hx hb dX8_rowRoom_0 rfl (lv_at hl 0 rfl) ?_
  refine va_get (D := D) (ci := 7) (v := .int (bI v_rowsOn)) (C := RX8) (T := TX8) (N := 18) hx hb hts i_X8 hown hK hP 0 rfl rfl 12 (Nat.le_of_ble_eq_true rfl) f_172 (fun _ h9 => h9) rfl dX8_rowRoom_1 ?_
  refine lv_if_eq (tgt := 12) hx hb dX8_rowRoom_4 (by decide) (fun c1 => ?_) (fun c1 => ?_)
  · replace hF := bt_f (bI_0 c1) hF
    refine lv_iconst (v := 1) hx hb dX8_rowRoom_12 (by decide) ?_
    exact hret (1 : Int32) 1 _ _ 13 _ hP hD hS hF rfl dX8_rowRoom_13
  · replace hF := bt_t (bI_n0 c1) hF
    refine lv_bipush (v := 16) hx hb dX8_rowRoom_7 (by decide) ?_
    refine lv_goto (tgt := 13) hx hb dX8_rowRoom_9 (by decide) ?_
    exact hret (16 : Int32) 16 _ _ 13 _ hP hD hS hF rfl dX8_rowRoom_13
def F_X8_addReceived (p1 : Int32) (v_rowsOn : Bool) (v_overrun : Bool) (v_beats : Int32) (v_quietSince : Int32) (v_received_head : Int32) (v_received_size : Int32) (v_received_cells_n : Nat) (v_received_cells_a : Nat → Int32) : Option (Bool × Int32 × Int32 × (Nat → Int32)) := bd (F_X5_size v_received_size) (fun u1 => bd (F_X8_rowRoom v_rowsOn) (fun u2 => if u2 ≤ u1 then (bt v_rowsOn (some (true, v_beats, v_received_size, v_received_cells_a)) (bd (F_X5_setFirst p1 v_received_head v_received_size v_received_cells_n v_received_cells_a) (fun u5 => some (true, v_beats, v_received_size, u5)))) else (bd (F_X5_add p1 v_received_head v_received_size v_received_cells_n v_received_cells_a) (fun u6 => some (v_overrun, v_beats, u6.1, u6.2)))))
def wX8_addReceived (k_received_cells : ClassId) (h_ : Nat) (h_divider : Nat) (h_received : Nat) (h_sending : Nat) (h_sender : Nat) (h_receiver : Nat) (h_modem : Nat) (h_lineIn : Nat) (h_lineOut : Nat) (h_received_cells : Nat) (v_wanted : Int32) (v_lineControl : Int32) (v_kept : Int32) (v_level : Int32) (v_rowsOn : Bool) (v_emptyUp : Bool) (v_lateUp : Bool) (v_beats : Int32) (v_received_head : Int32) (v_received_cells_n : Nat) (u : Bool × Int32 × Int32 × (Nat → Int32)) : va_W := [oX8 h_ h_divider h_received h_sending h_sender h_receiver h_modem h_lineIn h_lineOut v_wanted v_lineControl v_kept v_level v_rowsOn u.1 v_emptyUp v_lateUp v_beats u.2.1, oX5 h_received h_received_cells v_received_head u.2.2.1, aI h_received_cells k_received_cells v_received_cells_n u.2.2.2]
set_option maxHeartbeats 4000000 in
set_option maxRecDepth 100000 in
theorem mX8_addReceived {l : Launch} (D : va_G) (k_received_cells : ClassId) (h_ : Nat) (h_divider : Nat) (h_received : Nat) (h_sending : Nat) (h_sender : Nat) (h_receiver : Nat) (h_modem : Nat) (h_lineIn : Nat) (h_lineOut : Nat) (h_received_cells : Nat) (v_wanted : Int32) (v_lineControl : Int32) (v_kept : Int32) (v_level : Int32) (v_rowsOn : Bool) (v_overrun : Bool) (v_emptyUp : Bool) (v_lateUp : Bool) (v_beats : Int32) (v_quietSince : Int32) (v_received_head : Int32) (v_received_size : Int32) (v_received_cells_n : Nat) (v_received_cells_a : Nat → Int32) (p1 : Int32) (u0 : Bool × Int32 × Int32 × (Nat → Int32)) (hF : F_X8_addReceived p1 v_rowsOn v_overrun v_beats v_quietSince v_received_head v_received_size v_received_cells_n v_received_cells_a = some u0) : MV l yX8_addReceived wsX8_addReceived { frames := 3, cells := 0, slots := 0, locals := 66 } D [(k_received_cells, .int)] [.ref h_, .int p1] [oX8 h_ h_divider h_received h_sending h_sender h_receiver h_modem h_lineIn h_lineOut v_wanted v_lineControl v_kept v_level v_rowsOn v_overrun v_emptyUp v_lateUp v_beats v_quietSince, oX5 h_received h_received_cells v_received_head v_received_size, aI h_received_cells k_received_cells v_received_cells_n v_received_cells_a] (wX8_addReceived k_received_cells h_ h_divider h_received h_sending h_sender h_receiver h_modem h_lineIn h_lineOut h_received_cells v_wanted v_lineControl v_kept v_level v_rowsOn v_emptyUp v_lateUp v_beats v_received_head v_received_cells_n u0) := by
  refine MV.ofW (cc := cX8_addReceived) (maxL := 2) (ret := none) (lv := [(0, .ref h_), (1, .int p1)]) (by decide +kernel) rfl (Nat.le_of_ble_eq_true rfl) rfl ?_
  intro p e s m args below meth c A ls hx hb hr hml hts hown hlocks hA hK hP hD hS hl
  replace hown : s.vm.findClass RX8 = some m.cls := hown
  have i_X8 : ∀ w ∈ wsX80, w ∈ wsX8_addReceived := by decide +kernel
  have f_21 := hts (.fieldLink RX8 21 "SerialPort" "received" "LSerialPort$Ring;") (by decide +kernel)
  have f_127 := hts (.fieldLink RX8 127 "SerialPort" "beats" "I") (by decide +kernel)
  have f_172 := hts (.fieldLink RX8 172 "SerialPort" "rowsOn" "Z") (by decide +kernel)
  have f_176 := hts (.fieldLink RX8 176 "SerialPort" "overrun" "Z") (by decide +kernel)
  have f_185 := hts (.fieldLink RX8 185 "SerialPort" "quietSince" "I") (by decide +kernel)
  have hret : ∀ (u : Bool × Int32 × Int32 × (Nat → Int32)) (H : Heap) (locs : List Loc) (pc : Nat) (ls : Array Slot), va_P D vwCl (wX8_addReceived k_received_cells h_ h_divider h_received h_sending h_sender h_receiver h_modem h_lineIn h_lineOut h_received_cells v_wanted v_lineControl v_kept v_level v_rowsOn v_emptyUp v_lateUp v_beats v_received_head v_received_cells_n u) H → va_D A (wX8_addReceived k_received_cells h_ h_divider h_received h_sending h_sender h_receiver h_modem h_lineIn h_lineOut h_received_cells v_wanted v_lineControl v_kept v_level v_rowsOn v_emptyUp v_lateUp v_beats v_received_head v_received_cells_n u) → va_S A s.heap H locs → some u = some u0 → decode cX8_addReceived pc = .ok (.return_, 1) → W p l e { frames := 3, cells := 0, slots := 0, locals := 66 } s m args below meth c H locs 0 0 (QV below D [(k_received_cells, .int)] (wX8_addReceived k_received_cells h_ h_divider h_received h_sending h_sender h_receiver h_modem h_lineIn h_lineOut h_received_cells v_wanted v_lineControl v_kept v_level v_rowsOn v_emptyUp v_lateUp v_beats v_received_head v_received_cells_n u0) args s A) (F0 m pc ls []) := fun u H locs pc ls h1 h2 h3 h4 h5 => rV (wf := wX8_addReceived k_received_cells h_ h_divider h_received h_sending h_sender h_receiver h_modem h_lineIn h_lineOut h_received_cells v_wanted v_lineControl v_kept v_level v_rowsOn v_emptyUp v_lateUp v_beats v_received_head v_received_cells_n) hx hb hr hlocks hK h1 h2 h3 h4 h5
  unfold F_X8_addReceived at hF
  refine lv_aload_n hx hb dX8_addReceived_0 rfl (lv_at hl 0 rfl) ?_
  refine va_get (D := D) (ci := 7) (v := .ref h_received) (C := RX8) (T := TX8) (N := 18) hx hb hts i_X8 hown hK hP 0 rfl rfl 1 (Nat.le_of_ble_eq_true rfl) f_21 (fun _ h9 => h9) rfl dX8_addReceived_1 ?_
  obtain ⟨u1, hu1, hF⟩ := bd_el hF
  refine cVI (q0 := 1) (ci := 5) (As := []) (rest := []) (wr := [oX8 h_ h_divider h_received h_sending h_sender h_receiver h_modem h_lineIn h_lineOut v_wanted v_lineControl v_kept v_level v_rowsOn v_overrun v_emptyUp v_lateUp v_beats v_quietSince, aI h_received_cells k_received_cells v_received_cells_n v_received_cells_a]) (ws' := [oX8 h_ h_divider h_received h_sending h_sender h_receiver h_modem h_lineIn h_lineOut v_wanted v_lineControl v_kept v_level v_rowsOn v_overrun v_emptyUp v_lateUp v_beats v_quietSince, oX5 h_received h_received_cells v_received_head v_received_size, aI h_received_cells k_received_cells v_received_cells_n v_received_cells_a]) (rv := u1) ⟨hx, hb, hml, hown, hts⟩ (mX5_size D h_received h_received_cells v_received_head v_received_size u1 hu1) (cwV 0 hts gX8_addReceived_X5_size rfl rfl rfl (by decide +kernel) ⟨Nat.le_of_ble_eq_true rfl, Nat.le_of_ble_eq_true rfl⟩) hK hP hD hS hA [] [1] [0, 2] [0, 2, 1] rfl rfl rfl rfl rfl rfl rfl rfl rfl hl.1 rfl (Nat.le_of_ble_eq_true rfl) rfl dX8_addReceived_4 ⟨Nat.le_refl _, Nat.le_refl _⟩ (fun H locs hP hD hS => ?_)
  refine lv_aload_n hx hb dX8_addReceived_7 rfl (lv_at hl 0 rfl) ?_
  obtain ⟨u2, hu2, hF⟩ := bd_el hF
  refine cVI (q0 := 0) (ci := 7) (As := []) (rest := [.int u1]) (wr := [oX5 h_received h_received_cells v_received_head v_received_size, aI h_received_cells k_received_cells v_received_cells_n v_received_cells_a]) (ws' := [oX8 h_ h_divider h_received h_sending h_sender h_receiver h_modem h_lineIn h_lineOut v_wanted v_lineControl v_kept v_level v_rowsOn v_overrun v_emptyUp v_lateUp v_beats v_quietSince, oX5 h_received h_received_cells v_received_head v_received_size, aI h_received_cells k_received_cells v_received_cells_n v_received_cells_a]) (rv := u2) ⟨hx, hb, hml, hown, hts⟩ (mX8_rowRoom D h_ h_divider h_received h_sending h_sender h_receiver h_modem h_lineIn h_lineOut v_wanted v_lineControl v_kept v_level v_rowsOn v_overrun v_emptyUp v_lateUp v_beats v_quietSince u2 hu2) (cwV 0 hts gX8_addReceived_X8_rowRoom rfl rfl rfl (by decide +kernel) ⟨Nat.le_of_ble_eq_true rfl, Nat.le_of_ble_eq_true rfl⟩) hK hP hD hS hA [] [0] [1, 2] [2, 0, 1] rfl rfl rfl rfl rfl rfl rfl rfl rfl hl.1 rfl (Nat.le_of_ble_eq_true rfl) rfl dX8_addReceived_8 ⟨Nat.le_refl _, Nat.le_refl _⟩ (fun H locs hP hD hS => ?_)
  refine lv_icmp_ge (tgt := 25) hx hb dX8_addReceived_11 (by decide) (fun c3 => ?_) (fun c3 => ?_)
  · replace hF := it_t c3 hF
    refine lv_aload_n hx hb dX8_addReceived_25 rfl (lv_at hl 0 rfl) ?_
    refine lv_iconst (v := 1) hx hb dX8_addReceived_26 (by decide) ?_
    refine pf (ci := 7) (v := .int (bI true)) (ty := .boolean) (C := RX8) (T := TX8) (N := 18) (ws' := [oX8 h_ h_divider h_received h_sending h_sender h_receiver h_modem h_lineIn h_lineOut v_wanted v_lineControl v_kept v_level v_rowsOn true v_emptyUp v_lateUp v_beats v_quietSince, oX5 h_received h_received_cells v_received_head v_received_size, aI h_received_cells k_received_cells v_received_cells_n v_received_cells_a]) hx hb hts i_X8 tyX8_ok nmX8 hown hK hP hD hS 0 rfl rfl 13 (Nat.le_of_ble_eq_true rfl) f_176 rfl rfl (by decide +kernel) (nar_bI true) (fit_bI true) (Nat.le_of_ble_eq_true rfl) rfl dX8_addReceived_27 (fun H locs hP hD hS => ?_)
    refine lv_aload_n hx hb dX8_addReceived_30 rfl (lv_at hl 0 rfl) ?_
    refine va_get (D := D) (ci := 7) (v := .int (bI v_rowsOn)) (C := RX8) (T := TX8) (N := 18) hx hb hts i_X8 hown hK hP 0 rfl rfl 12 (Nat.le_of_ble_eq_true rfl) f_172 (fun _ h9 => h9) rfl dX8_addReceived_31 ?_
    refine lv_if_ne (tgt := 45) hx hb dX8_addReceived_34 (by decide) (fun c4 => ?_) (fun c4 => ?_)
    · replace hF := bt_t (bI_n0 c4) hF
      refine lv_aload_n hx hb dX8_addReceived_45 rfl (lv_at hl 0 rfl) ?_
      refine lv_aload_n hx hb dX8_addReceived_46 rfl (lv_at hl 0 rfl) ?_
      refine va_get (D := D) (ci := 7) (v := .int v_beats) (C := RX8) (T := TX8) (N := 18) hx hb hts i_X8 hown hK hP 0 rfl rfl 16 (Nat.le_of_ble_eq_true rfl) f_127 (fun _ h9 => h9) rfl dX8_addReceived_47 ?_
      refine pf (ci := 7) (v := .int v_beats) (ty := .int) (C := RX8) (T := TX8) (N := 18) (ws' := [oX8 h_ h_divider h_received h_sending h_sender h_receiver h_modem h_lineIn h_lineOut v_wanted v_lineControl v_kept v_level v_rowsOn true v_emptyUp v_lateUp v_beats v_beats, oX5 h_received h_received_cells v_received_head v_received_size, aI h_received_cells k_received_cells v_received_cells_n v_received_cells_a]) hx hb hts i_X8 tyX8_ok nmX8 hown hK hP hD hS 0 rfl rfl 17 (Nat.le_of_ble_eq_true rfl) f_185 rfl rfl (by decide +kernel) rfl rfl (Nat.le_of_ble_eq_true rfl) rfl dX8_addReceived_50 (fun H locs hP hD hS => ?_)
      exact hret (true, v_beats, v_received_size, v_received_cells_a) _ _ 53 _ hP hD hS hF dX8_addReceived_53
    · replace hF := bt_f (bI_0 c4) hF
      refine lv_aload_n hx hb dX8_addReceived_37 rfl (lv_at hl 0 rfl) ?_
      refine va_get (D := D) (ci := 7) (v := .ref h_received) (C := RX8) (T := TX8) (N := 18) hx hb hts i_X8 hown hK hP 0 rfl rfl 1 (Nat.le_of_ble_eq_true rfl) f_21 (fun _ h9 => h9) rfl dX8_addReceived_38 ?_
      refine lv_iload_n hx hb dX8_addReceived_41 rfl (lv_at hl 1 rfl) ?_
      obtain ⟨u5, hu5, hF⟩ := bd_el hF
      refine cVV (q0 := 1) (ci := 5) (As := [.int p1]) (rest := []) (wr := [oX8 h_ h_divider h_received h_sending h_sender h_receiver h_modem h_lineIn h_lineOut v_wanted v_lineControl v_kept v_level v_rowsOn true v_emptyUp v_lateUp v_beats v_quietSince]) (ws' := [oX8 h_ h_divider h_received h_sending h_sender h_receiver h_modem h_lineIn h_lineOut v_wanted v_lineControl v_kept v_level v_rowsOn true v_emptyUp v_lateUp v_beats v_quietSince, oX5 h_received h_received_cells v_received_head v_received_size, aI h_received_cells k_received_cells v_received_cells_n u5]) ⟨hx, hb, hml, hown, hts⟩ (mX5_setFirst D k_received_cells h_received h_received_cells v_received_head v_received_size v_received_cells_n v_received_cells_a p1 u5 hu5) (cwV 1 hts gX8_addReceived_X5_setFirst rfl rfl rfl (by decide +kernel) ⟨Nat.le_of_ble_eq_true rfl, Nat.le_of_ble_eq_true rfl⟩) hK hP hD hS hA [0] [1, 2] [0] [0, 1, 2] rfl rfl rfl rfl rfl rfl rfl rfl rfl hl.1 rfl (Nat.le_of_ble_eq_true rfl) dX8_addReceived_42 ⟨Nat.le_refl _, Nat.le_refl _⟩ (fun H locs hP hD hS => ?_)
      refine lv_aload_n hx hb dX8_addReceived_45 rfl (lv_at hl 0 rfl) ?_
      refine lv_aload_n hx hb dX8_addReceived_46 rfl (lv_at hl 0 rfl) ?_
      refine va_get (D := D) (ci := 7) (v := .int v_beats) (C := RX8) (T := TX8) (N := 18) hx hb hts i_X8 hown hK hP 0 rfl rfl 16 (Nat.le_of_ble_eq_true rfl) f_127 (fun _ h9 => h9) rfl dX8_addReceived_47 ?_
      refine pf (ci := 7) (v := .int v_beats) (ty := .int) (C := RX8) (T := TX8) (N := 18) (ws' := [oX8 h_ h_divider h_received h_sending h_sender h_receiver h_modem h_lineIn h_lineOut v_wanted v_lineControl v_kept v_level v_rowsOn true v_emptyUp v_lateUp v_beats v_beats, oX5 h_received h_received_cells v_received_head v_received_size, aI h_received_cells k_received_cells v_received_cells_n u5]) hx hb hts i_X8 tyX8_ok nmX8 hown hK hP hD hS 0 rfl rfl 17 (Nat.le_of_ble_eq_true rfl) f_185 rfl rfl (by decide +kernel) rfl rfl (Nat.le_of_ble_eq_true rfl) rfl dX8_addReceived_50 (fun H locs hP hD hS => ?_)
      exact hret (true, v_beats, v_received_size, u5) _ _ 53 _ hP hD hS hF dX8_addReceived_53
  · replace hF := it_f c3 hF
    refine lv_aload_n hx hb dX8_addReceived_14 rfl (lv_at hl 0 rfl) ?_
    refine va_get (D := D) (ci := 7) (v := .ref h_received) (C := RX8) (T := TX8) (N := 18) hx hb hts i_X8 hown hK hP 0 rfl rfl 1 (Nat.le_of_ble_eq_true rfl) f_21 (fun _ h9 => h9) rfl dX8_addReceived_15 ?_
    refine lv_iload_n hx hb dX8_addReceived_18 rfl (lv_at hl 1 rfl) ?_
    obtain ⟨u6, hu6, hF⟩ := bd_el hF
    refine cVV (q0 := 1) (ci := 5) (As := [.int p1]) (rest := []) (wr := [oX8 h_ h_divider h_received h_sending h_sender h_receiver h_modem h_lineIn h_lineOut v_wanted v_lineControl v_kept v_level v_rowsOn v_overrun v_emptyUp v_lateUp v_beats v_quietSince]) (ws' := [oX8 h_ h_divider h_received h_sending h_sender h_receiver h_modem h_lineIn h_lineOut v_wanted v_lineControl v_kept v_level v_rowsOn v_overrun v_emptyUp v_lateUp v_beats v_quietSince, oX5 h_received h_received_cells v_received_head u6.1, aI h_received_cells k_received_cells v_received_cells_n u6.2]) ⟨hx, hb, hml, hown, hts⟩ (mX5_add D k_received_cells h_received h_received_cells v_received_head v_received_size v_received_cells_n v_received_cells_a p1 u6 hu6) (cwV 1 hts gX8_addReceived_X5_add rfl rfl rfl (by decide +kernel) ⟨Nat.le_of_ble_eq_true rfl, Nat.le_of_ble_eq_true rfl⟩) hK hP hD hS hA [0] [1, 2] [0] [0, 1, 2] rfl rfl rfl rfl rfl rfl rfl rfl rfl hl.1 rfl (Nat.le_of_ble_eq_true rfl) dX8_addReceived_19 ⟨Nat.le_refl _, Nat.le_refl _⟩ (fun H locs hP hD hS => ?_)
    refine lv_goto (tgt := 45) hx hb dX8_addReceived_22 (by decide) ?_
    refine lv_aload_n hx hb dX8_addReceived_45 rfl (lv_at hl 0 rfl) ?_
    refine lv_aload_n hx hb dX8_addReceived_46 rfl (lv_at hl 0 rfl) ?_
    refine va_get (D := D) (ci := 7) (v := .int v_beats) (C := RX8) (T := TX8) (N := 18) hx hb hts i_X8 hown hK hP 0 rfl rfl 16 (Nat.le_of_ble_eq_true rfl) f_127 (fun _ h9 => h9) rfl dX8_addReceived_47 ?_
    refine pf (ci := 7) (v := .int v_beats) (ty := .int) (C := RX8) (T := TX8) (N := 18) (ws' := [oX8 h_ h_divider h_received h_sending h_sender h_receiver h_modem h_lineIn h_lineOut v_wanted v_lineControl v_kept v_level v_rowsOn v_overrun v_emptyUp v_lateUp v_beats v_beats, oX5 h_received h_received_cells v_received_head u6.1, aI h_received_cells k_received_cells v_received_cells_n u6.2]) hx hb hts i_X8 tyX8_ok nmX8 hown hK hP hD hS 0 rfl rfl 17 (Nat.le_of_ble_eq_true rfl) f_185 rfl rfl (by decide +kernel) rfl rfl (Nat.le_of_ble_eq_true rfl) rfl dX8_addReceived_50 (fun H locs hP hD hS => ?_)
    exact hret (v_overrun, v_beats, u6.1, u6.2) _ _ 53 _ hP hD hS hF dX8_addReceived_53
def F_X8_stepLate  (v_lineControl : Int32) (v_rowsOn : Bool) (v_lateUp : Bool) (v_beats : Int32) (v_quietSince : Int32) (v_received_size : Int32) : Option (Bool) := bt v_rowsOn (bd (F_X5_isEmpty v_received_size) (fun u2 => bt u2 (some v_lateUp) (bd (F_X7_beats v_lineControl) (fun u4 => if (v_beats - v_quietSince) < (4 * u4) then (some v_lateUp) else (some true))))) (some v_lateUp)
def wX8_stepLate (h_ : Nat) (h_divider : Nat) (h_received : Nat) (h_sending : Nat) (h_sender : Nat) (h_receiver : Nat) (h_modem : Nat) (h_lineIn : Nat) (h_lineOut : Nat) (h_received_cells : Nat) (v_wanted : Int32) (v_lineControl : Int32) (v_kept : Int32) (v_level : Int32) (v_rowsOn : Bool) (v_overrun : Bool) (v_emptyUp : Bool) (v_beats : Int32) (v_quietSince : Int32) (v_received_head : Int32) (v_received_size : Int32) (u : Bool) : va_W := [oX8 h_ h_divider h_received h_sending h_sender h_receiver h_modem h_lineIn h_lineOut v_wanted v_lineControl v_kept v_level v_rowsOn v_overrun v_emptyUp u v_beats v_quietSince, oX5 h_received h_received_cells v_received_head v_received_size]
set_option maxHeartbeats 4000000 in
set_option maxRecDepth 100000 in
theorem mX8_stepLate {l : Launch} (D : va_G) (h_ : Nat) (h_divider : Nat) (h_received : Nat) (h_sending : Nat) (h_sender : Nat) (h_receiver : Nat) (h_modem : Nat) (h_lineIn : Nat) (h_lineOut : Nat) (h_received_cells : Nat) (v_wanted : Int32) (v_lineControl : Int32) (v_kept : Int32) (v_level : Int32) (v_rowsOn : Bool) (v_overrun : Bool) (v_emptyUp : Bool) (v_lateUp : Bool) (v_beats : Int32) (v_quietSince : Int32) (v_received_head : Int32) (v_received_size : Int32) (u0 : Bool) (hF : F_X8_stepLate v_lineControl v_rowsOn v_lateUp v_beats v_quietSince v_received_size = some u0) : MV l yX8_stepLate wsX8_stepLate { frames := 3, cells := 0, slots := 0, locals := 60 } D [] [.ref h_] [oX8 h_ h_divider h_received h_sending h_sender h_receiver h_modem h_lineIn h_lineOut v_wanted v_lineControl v_kept v_level v_rowsOn v_overrun v_emptyUp v_lateUp v_beats v_quietSince, oX5 h_received h_received_cells v_received_head v_received_size] (wX8_stepLate h_ h_divider h_received h_sending h_sender h_receiver h_modem h_lineIn h_lineOut h_received_cells v_wanted v_lineControl v_kept v_level v_rowsOn v_overrun v_emptyUp v_beats v_quietSince v_received_head v_received_size u0) := by
  refine MV.ofW (cc := cX8_stepLate) (maxL := 1) (ret := none) (lv := [(0, .ref h_)]) (by decide +kernel) rfl (Nat.le_of_ble_eq_true rfl) rfl ?_
  intro p e s m args below meth c A ls hx hb hr hml hts hown hlocks hA hK hP hD hS hl
  replace hown : s.vm.findClass RX8 = some m.cls := hown
  have i_X8 : ∀ w ∈ wsX80, w ∈ wsX8_stepLate := by decide +kernel
  have f_21 := hts (.fieldLink RX8 21 "SerialPort" "received" "LSerialPort$Ring;") (by decide +kernel)
  have f_73 := hts (.fieldLink RX8 73 "SerialPort" "lineControl" "I") (by decide +kernel)
  have f_127 := hts (.fieldLink RX8 127 "SerialPort" "beats" "I") (by decide +kernel)
  have f_172 := hts (.fieldLink RX8 172 "SerialPort" "rowsOn" "Z") (by decide +kernel)
  have f_182 := hts (.fieldLink RX8 182 "SerialPort" "lateUp" "Z") (by decide +kernel)
  have f_185 := hts (.fieldLink RX8 185 "SerialPort" "quietSince" "I") (by decide +kernel)
  have hret : ∀ (u : Bool) (H : Heap) (locs : List Loc) (pc : Nat) (ls : Array Slot), va_P D vwCl (wX8_stepLate h_ h_divider h_received h_sending h_sender h_receiver h_modem h_lineIn h_lineOut h_received_cells v_wanted v_lineControl v_kept v_level v_rowsOn v_overrun v_emptyUp v_beats v_quietSince v_received_head v_received_size u) H → va_D A (wX8_stepLate h_ h_divider h_received h_sending h_sender h_receiver h_modem h_lineIn h_lineOut h_received_cells v_wanted v_lineControl v_kept v_level v_rowsOn v_overrun v_emptyUp v_beats v_quietSince v_received_head v_received_size u) → va_S A s.heap H locs → some u = some u0 → decode cX8_stepLate pc = .ok (.return_, 1) → W p l e { frames := 3, cells := 0, slots := 0, locals := 60 } s m args below meth c H locs 0 0 (QV below D [] (wX8_stepLate h_ h_divider h_received h_sending h_sender h_receiver h_modem h_lineIn h_lineOut h_received_cells v_wanted v_lineControl v_kept v_level v_rowsOn v_overrun v_emptyUp v_beats v_quietSince v_received_head v_received_size u0) args s A) (F0 m pc ls []) := fun u H locs pc ls h1 h2 h3 h4 h5 => rV (wf := wX8_stepLate h_ h_divider h_received h_sending h_sender h_receiver h_modem h_lineIn h_lineOut h_received_cells v_wanted v_lineControl v_kept v_level v_rowsOn v_overrun v_emptyUp v_beats v_quietSince v_received_head v_received_size) hx hb hr hlocks hK h1 h2 h3 h4 h5
  unfold F_X8_stepLate at hF
  refine lv_aload_n hx hb dX8_stepLate_0 rfl (lv_at hl 0 rfl) ?_
  refine va_get (D := D) (ci := 7) (v := .int (bI v_rowsOn)) (C := RX8) (T := TX8) (N := 18) hx hb hts i_X8 hown hK hP 0 rfl rfl 12 (Nat.le_of_ble_eq_true rfl) f_172 (fun _ h9 => h9) rfl dX8_stepLate_1 ?_
  refine lv_if_eq (tgt := 17) hx hb dX8_stepLate_4 (by decide) (fun c1 => ?_) (fun c1 => ?_)
  · replace hF := bt_f (bI_0 c1) hF
    exact hret v_lateUp _ _ 17 _ hP hD hS hF dX8_stepLate_17
  · replace hF := bt_t (bI_n0 c1) hF
    refine lv_aload_n hx hb dX8_stepLate_7 rfl (lv_at hl 0 rfl) ?_
    refine va_get (D := D) (ci := 7) (v := .ref h_received) (C := RX8) (T := TX8) (N := 18) hx hb hts i_X8 hown hK hP 0 rfl rfl 1 (Nat.le_of_ble_eq_true rfl) f_21 (fun _ h9 => h9) rfl dX8_stepLate_8 ?_
    obtain ⟨u2, hu2, hF⟩ := bd_el hF
    refine cVI (q0 := 1) (ci := 5) (As := []) (rest := []) (wr := [oX8 h_ h_divider h_received h_sending h_sender h_receiver h_modem h_lineIn h_lineOut v_wanted v_lineControl v_kept v_level v_rowsOn v_overrun v_emptyUp v_lateUp v_beats v_quietSince]) (ws' := [oX8 h_ h_divider h_received h_sending h_sender h_receiver h_modem h_lineIn h_lineOut v_wanted v_lineControl v_kept v_level v_rowsOn v_overrun v_emptyUp v_lateUp v_beats v_quietSince, oX5 h_received h_received_cells v_received_head v_received_size]) (rv := bI u2) ⟨hx, hb, hml, hown, hts⟩ (mX5_isEmpty D h_received h_received_cells v_received_head v_received_size u2 hu2) (cwV 0 hts gX8_stepLate_X5_isEmpty rfl rfl rfl (by decide +kernel) ⟨Nat.le_of_ble_eq_true rfl, Nat.le_of_ble_eq_true rfl⟩) hK hP hD hS hA [] [1] [0] [0, 1] rfl rfl rfl rfl rfl rfl rfl rfl rfl hl.1 rfl (Nat.le_of_ble_eq_true rfl) rfl dX8_stepLate_11 ⟨Nat.le_refl _, Nat.le_refl _⟩ (fun H locs hP hD hS => ?_)
    refine lv_if_eq (tgt := 18) hx hb dX8_stepLate_14 (by decide) (fun c3 => ?_) (fun c3 => ?_)
    · replace hF := bt_f (bI_0 c3) hF
      refine lv_aload_n hx hb dX8_stepLate_18 rfl (lv_at hl 0 rfl) ?_
      refine va_get (D := D) (ci := 7) (v := .int v_beats) (C := RX8) (T := TX8) (N := 18) hx hb hts i_X8 hown hK hP 0 rfl rfl 16 (Nat.le_of_ble_eq_true rfl) f_127 (fun _ h9 => h9) rfl dX8_stepLate_19 ?_
      refine lv_aload_n hx hb dX8_stepLate_22 rfl (lv_at hl 0 rfl) ?_
      refine va_get (D := D) (ci := 7) (v := .int v_quietSince) (C := RX8) (T := TX8) (N := 18) hx hb hts i_X8 hown hK hP 0 rfl rfl 17 (Nat.le_of_ble_eq_true rfl) f_185 (fun _ h9 => h9) rfl dX8_stepLate_23 ?_
      refine lv_isub hx hb dX8_stepLate_26 ?_
      refine lv_iconst (v := 4) hx hb dX8_stepLate_27 (by decide) ?_
      refine lv_aload_n hx hb dX8_stepLate_28 rfl (lv_at hl 0 rfl) ?_
      refine va_get (D := D) (ci := 7) (v := .int v_lineControl) (C := RX8) (T := TX8) (N := 18) hx hb hts i_X8 hown hK hP 0 rfl rfl 9 (Nat.le_of_ble_eq_true rfl) f_73 (fun _ h9 => h9) rfl dX8_stepLate_29 ?_
      obtain ⟨u4, hu4, hF⟩ := bd_el hF
      refine cSI (As := [.int v_lineControl]) (rest := [.int 4, .int (v_beats - v_quietSince)]) (wr := [oX8 h_ h_divider h_received h_sending h_sender h_receiver h_modem h_lineIn h_lineOut v_wanted v_lineControl v_kept v_level v_rowsOn v_overrun v_emptyUp v_lateUp v_beats v_quietSince, oX5 h_received h_received_cells v_received_head v_received_size]) (ws' := [oX8 h_ h_divider h_received h_sending h_sender h_receiver h_modem h_lineIn h_lineOut v_wanted v_lineControl v_kept v_level v_rowsOn v_overrun v_emptyUp v_lateUp v_beats v_quietSince, oX5 h_received h_received_cells v_received_head v_received_size]) (rv := u4) ⟨hx, hb, hml, hown, hts⟩ (mX7_beats D v_lineControl u4 hu4) (va_cwS 1 hts gX8_stepLate_X7_beats rfl rfl rfl (by decide +kernel) ⟨Nat.le_of_ble_eq_true rfl, Nat.le_of_ble_eq_true rfl⟩) hK hP hD hS hA [] [] [0, 1] [0, 1] rfl rfl rfl rfl rfl rfl hl.1 rfl (Nat.le_of_ble_eq_true rfl) rfl dX8_stepLate_32 ⟨Nat.le_refl _, Nat.le_refl _⟩ (fun H locs hP hD hS => ?_)
      refine lv_imul hx hb dX8_stepLate_35 ?_
      refine lv_icmp_lt (tgt := 44) hx hb dX8_stepLate_36 (by decide) (fun c5 => ?_) (fun c5 => ?_)
      · replace hF := it_t c5 hF
        exact hret v_lateUp _ _ 44 _ hP hD hS hF dX8_stepLate_44
      · replace hF := it_f c5 hF
        refine lv_aload_n hx hb dX8_stepLate_39 rfl (lv_at hl 0 rfl) ?_
        refine lv_iconst (v := 1) hx hb dX8_stepLate_40 (by decide) ?_
        refine pf (ci := 7) (v := .int (bI true)) (ty := .boolean) (C := RX8) (T := TX8) (N := 18) (ws' := [oX8 h_ h_divider h_received h_sending h_sender h_receiver h_modem h_lineIn h_lineOut v_wanted v_lineControl v_kept v_level v_rowsOn v_overrun v_emptyUp true v_beats v_quietSince, oX5 h_received h_received_cells v_received_head v_received_size]) hx hb hts i_X8 tyX8_ok nmX8 hown hK hP hD hS 0 rfl rfl 15 (Nat.le_of_ble_eq_true rfl) f_182 rfl rfl (by decide +kernel) (nar_bI true) (fit_bI true) (Nat.le_of_ble_eq_true rfl) rfl dX8_stepLate_41 (fun H locs hP hD hS => ?_)
        exact hret true _ _ 44 _ hP hD hS hF dX8_stepLate_44
    · replace hF := bt_t (bI_n0 c3) hF
      exact hret v_lateUp _ _ 17 _ hP hD hS hF dX8_stepLate_17
end
