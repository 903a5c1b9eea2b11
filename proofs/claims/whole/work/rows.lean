section
-- ===== PART A: goes FIRST, ahead of the names: the tables' words, and 'selects' of the private methods out of them =====
/-- a private method of a class that the tables say can be made, by its rows of tables_1 -/
def lw_okq (q : MethodName × Nat) : Prop := (q.1.cls ≠ "java/lang/invoke/MethodHandle" ∧ q.1.cls ≠ "java/lang/invoke/VarHandle") ∧ Cond.instantiable q.1.cls q.2 ∈ tables_1 ∧ Cond.privateMethod q.1 ∈ tables_1 ∧ Cond.instanceMethod q.1 ∈ tables_1
theorem lw_p0 : lw_okq (⟨"SerialPort", "powerOn", "()V"⟩, 18) := ⟨⟨by decide +kernel, by decide +kernel⟩, List.mem_of_getElem? (i := 18) (by decide +kernel), List.mem_of_getElem? (i := 155) (by decide +kernel), List.mem_of_getElem? (i := 156) (by decide +kernel)⟩
theorem lw_p1 : lw_okq (⟨"SerialPort$Receiver", "begin", "(I)V"⟩, 7) := ⟨⟨by decide +kernel, by decide +kernel⟩, List.mem_of_getElem? (i := 78) (by decide +kernel), List.mem_of_getElem? (i := 175) (by decide +kernel), List.mem_of_getElem? (i := 176) (by decide +kernel)⟩
theorem lw_p2 : lw_okq (⟨"SerialPort", "beat", "()V"⟩, 18) := ⟨⟨by decide +kernel, by decide +kernel⟩, List.mem_of_getElem? (i := 18) (by decide +kernel), List.mem_of_getElem? (i := 257) (by decide +kernel), List.mem_of_getElem? (i := 258) (by decide +kernel)⟩
theorem lw_p3 : lw_okq (⟨"SerialPort", "stepSender", "()Z"⟩, 18) := ⟨⟨by decide +kernel, by decide +kernel⟩, List.mem_of_getElem? (i := 18) (by decide +kernel), List.mem_of_getElem? (i := 261) (by decide +kernel), List.mem_of_getElem? (i := 262) (by decide +kernel)⟩
theorem lw_p4 : lw_okq (⟨"SerialPort$Ring", "cellOf", "(I)I"⟩, 3) := ⟨⟨by decide +kernel, by decide +kernel⟩, List.mem_of_getElem? (i := 39) (by decide +kernel), List.mem_of_getElem? (i := 281) (by decide +kernel), List.mem_of_getElem? (i := 282) (by decide +kernel)⟩
theorem lw_p5 : lw_okq (⟨"SerialPort$LineOut", "fromEnd", "(I)I"⟩, 2) := ⟨⟨by decide +kernel, by decide +kernel⟩, List.mem_of_getElem? (i := 140) (by decide +kernel), List.mem_of_getElem? (i := 337) (by decide +kernel), List.mem_of_getElem? (i := 338) (by decide +kernel)⟩
theorem lw_p6 : lw_okq (⟨"SerialPort$Receiver", "listen", "(ZI)V"⟩, 7) := ⟨⟨by decide +kernel, by decide +kernel⟩, List.mem_of_getElem? (i := 78) (by decide +kernel), List.mem_of_getElem? (i := 375) (by decide +kernel), List.mem_of_getElem? (i := 376) (by decide +kernel)⟩
theorem lw_p7 : lw_okq (⟨"SerialPort$Receiver", "seeStart", "(Z)I"⟩, 7) := ⟨⟨by decide +kernel, by decide +kernel⟩, List.mem_of_getElem? (i := 78) (by decide +kernel), List.mem_of_getElem? (i := 379) (by decide +kernel), List.mem_of_getElem? (i := 380) (by decide +kernel)⟩
theorem lw_p8 : lw_okq (⟨"SerialPort$Receiver", "becomeIdle", "(Z)V"⟩, 7) := ⟨⟨by decide +kernel, by decide +kernel⟩, List.mem_of_getElem? (i := 78) (by decide +kernel), List.mem_of_getElem? (i := 383) (by decide +kernel), List.mem_of_getElem? (i := 384) (by decide +kernel)⟩
theorem lw_p9 : lw_okq (⟨"SerialPort$Receiver", "see", "(Z)I"⟩, 7) := ⟨⟨by decide +kernel, by decide +kernel⟩, List.mem_of_getElem? (i := 78) (by decide +kernel), List.mem_of_getElem? (i := 387) (by decide +kernel), List.mem_of_getElem? (i := 388) (by decide +kernel)⟩
theorem lw_p10 : lw_okq (⟨"SerialPort$Receiver", "faults", "(Z)I"⟩, 7) := ⟨⟨by decide +kernel, by decide +kernel⟩, List.mem_of_getElem? (i := 78) (by decide +kernel), List.mem_of_getElem? (i := 393) (by decide +kernel), List.mem_of_getElem? (i := 394) (by decide +kernel)⟩
theorem lw_p11 : lw_okq (⟨"SerialPort", "addReceived", "(I)V"⟩, 18) := ⟨⟨by decide +kernel, by decide +kernel⟩, List.mem_of_getElem? (i := 18) (by decide +kernel), List.mem_of_getElem? (i := 398) (by decide +kernel), List.mem_of_getElem? (i := 399) (by decide +kernel)⟩
theorem lw_p12 : lw_okq (⟨"SerialPort", "rowRoom", "()I"⟩, 18) := ⟨⟨by decide +kernel, by decide +kernel⟩, List.mem_of_getElem? (i := 18) (by decide +kernel), List.mem_of_getElem? (i := 403) (by decide +kernel), List.mem_of_getElem? (i := 404) (by decide +kernel)⟩
theorem lw_p13 : lw_okq (⟨"SerialPort", "stepLate", "()V"⟩, 18) := ⟨⟨by decide +kernel, by decide +kernel⟩, List.mem_of_getElem? (i := 18) (by decide +kernel), List.mem_of_getElem? (i := 409) (by decide +kernel), List.mem_of_getElem? (i := 410) (by decide +kernel)⟩
theorem lw_p14 : lw_okq (⟨"SerialPort$Modem", "follow", "()V"⟩, 4) := ⟨⟨by decide +kernel, by decide +kernel⟩, List.mem_of_getElem? (i := 106) (by decide +kernel), List.mem_of_getElem? (i := 450) (by decide +kernel), List.mem_of_getElem? (i := 451) (by decide +kernel)⟩
theorem lw_p15 : lw_okq (⟨"SerialPort$Modem", "looped", "()I"⟩, 4) := ⟨⟨by decide +kernel, by decide +kernel⟩, List.mem_of_getElem? (i := 106) (by decide +kernel), List.mem_of_getElem? (i := 455) (by decide +kernel), List.mem_of_getElem? (i := 456) (by decide +kernel)⟩
def lw_privs_1 : List (MethodName × Nat) := [(⟨"SerialPort", "powerOn", "()V"⟩, 18), (⟨"SerialPort$Receiver", "begin", "(I)V"⟩, 7), (⟨"SerialPort", "beat", "()V"⟩, 18), (⟨"SerialPort", "stepSender", "()Z"⟩, 18), (⟨"SerialPort$Ring", "cellOf", "(I)I"⟩, 3), (⟨"SerialPort$LineOut", "fromEnd", "(I)I"⟩, 2), (⟨"SerialPort$Receiver", "listen", "(ZI)V"⟩, 7), (⟨"SerialPort$Receiver", "seeStart", "(Z)I"⟩, 7), (⟨"SerialPort$Receiver", "becomeIdle", "(Z)V"⟩, 7), (⟨"SerialPort$Receiver", "see", "(Z)I"⟩, 7), (⟨"SerialPort$Receiver", "faults", "(Z)I"⟩, 7), (⟨"SerialPort", "addReceived", "(I)V"⟩, 18), (⟨"SerialPort", "rowRoom", "()I"⟩, 18), (⟨"SerialPort", "stepLate", "()V"⟩, 18), (⟨"SerialPort$Modem", "follow", "()V"⟩, 4), (⟨"SerialPort$Modem", "looped", "()I"⟩, 4)]
theorem lw_r1 : ∀ q ∈ lw_privs_1, lw_okq q := List.forall_mem_cons.mpr ⟨lw_p0, List.forall_mem_cons.mpr ⟨lw_p1, List.forall_mem_cons.mpr ⟨lw_p2, List.forall_mem_cons.mpr ⟨lw_p3, List.forall_mem_cons.mpr ⟨lw_p4, List.forall_mem_cons.mpr ⟨lw_p5, List.forall_mem_cons.mpr ⟨lw_p6, List.forall_mem_cons.mpr ⟨lw_p7, List.forall_mem_cons.mpr ⟨lw_p8, List.forall_mem_cons.mpr ⟨lw_p9, List.forall_mem_cons.mpr ⟨lw_p10, List.forall_mem_cons.mpr ⟨lw_p11, List.forall_mem_cons.mpr ⟨lw_p12, List.forall_mem_cons.mpr ⟨lw_p13, List.forall_mem_cons.mpr ⟨lw_p14, List.forall_mem_cons.mpr ⟨lw_p15, fun _ h => absurd h List.not_mem_nil⟩⟩⟩⟩⟩⟩⟩⟩⟩⟩⟩⟩⟩⟩⟩⟩
theorem lw_p16 : lw_okq (⟨"SerialPort", "reason", "()I"⟩, 18) := ⟨⟨by decide +kernel, by decide +kernel⟩, List.mem_of_getElem? (i := 18) (by decide +kernel), List.mem_of_getElem? (i := 467) (by decide +kernel), List.mem_of_getElem? (i := 468) (by decide +kernel)⟩
theorem lw_p17 : lw_okq (⟨"SerialPort", "wants", "(I)Z"⟩, 18) := ⟨⟨by decide +kernel, by decide +kernel⟩, List.mem_of_getElem? (i := 18) (by decide +kernel), List.mem_of_getElem? (i := 471) (by decide +kernel), List.mem_of_getElem? (i := 472) (by decide +kernel)⟩
theorem lw_p18 : lw_okq (⟨"SerialPort", "firstFaults", "()I"⟩, 18) := ⟨⟨by decide +kernel, by decide +kernel⟩, List.mem_of_getElem? (i := 18) (by decide +kernel), List.mem_of_getElem? (i := 475) (by decide +kernel), List.mem_of_getElem? (i := 476) (by decide +kernel)⟩
theorem lw_p19 : lw_okq (⟨"java/lang/Throwable", "fillInStackTrace", "(I)Ljava/lang/Throwable;"⟩, 6) := ⟨⟨by decide +kernel, by decide +kernel⟩, List.mem_of_getElem? (i := 552) (by decide +kernel), List.mem_of_getElem? (i := 550) (by decide +kernel), List.mem_of_getElem? (i := 551) (by decide +kernel)⟩
theorem lw_p20 : lw_okq (⟨"SerialPort", "putRegister", "(II)V"⟩, 18) := ⟨⟨by decide +kernel, by decide +kernel⟩, List.mem_of_getElem? (i := 18) (by decide +kernel), List.mem_of_getElem? (i := 587) (by decide +kernel), List.mem_of_getElem? (i := 588) (by decide +kernel)⟩
theorem lw_p21 : lw_okq (⟨"SerialPort", "putCharacter", "(I)V"⟩, 18) := ⟨⟨by decide +kernel, by decide +kernel⟩, List.mem_of_getElem? (i := 18) (by decide +kernel), List.mem_of_getElem? (i := 591) (by decide +kernel), List.mem_of_getElem? (i := 592) (by decide +kernel)⟩
theorem lw_p22 : lw_okq (⟨"SerialPort", "putWanted", "(I)V"⟩, 18) := ⟨⟨by decide +kernel, by decide +kernel⟩, List.mem_of_getElem? (i := 18) (by decide +kernel), List.mem_of_getElem? (i := 595) (by decide +kernel), List.mem_of_getElem? (i := 596) (by decide +kernel)⟩
theorem lw_p23 : lw_okq (⟨"SerialPort", "putRowControl", "(I)V"⟩, 18) := ⟨⟨by decide +kernel, by decide +kernel⟩, List.mem_of_getElem? (i := 18) (by decide +kernel), List.mem_of_getElem? (i := 599) (by decide +kernel), List.mem_of_getElem? (i := 600) (by decide +kernel)⟩
theorem lw_p24 : lw_okq (⟨"SerialPort", "tellRegister", "(I)I"⟩, 18) := ⟨⟨by decide +kernel, by decide +kernel⟩, List.mem_of_getElem? (i := 18) (by decide +kernel), List.mem_of_getElem? (i := 621) (by decide +kernel), List.mem_of_getElem? (i := 622) (by decide +kernel)⟩
theorem lw_p25 : lw_okq (⟨"SerialPort", "takeCharacter", "()I"⟩, 18) := ⟨⟨by decide +kernel, by decide +kernel⟩, List.mem_of_getElem? (i := 18) (by decide +kernel), List.mem_of_getElem? (i := 625) (by decide +kernel), List.mem_of_getElem? (i := 626) (by decide +kernel)⟩
theorem lw_p26 : lw_okq (⟨"SerialPort", "tellReason", "()I"⟩, 18) := ⟨⟨by decide +kernel, by decide +kernel⟩, List.mem_of_getElem? (i := 18) (by decide +kernel), List.mem_of_getElem? (i := 629) (by decide +kernel), List.mem_of_getElem? (i := 630) (by decide +kernel)⟩
theorem lw_p27 : lw_okq (⟨"SerialPort", "tellLineState", "()I"⟩, 18) := ⟨⟨by decide +kernel, by decide +kernel⟩, List.mem_of_getElem? (i := 18) (by decide +kernel), List.mem_of_getElem? (i := 637) (by decide +kernel), List.mem_of_getElem? (i := 638) (by decide +kernel)⟩
theorem lw_p28 : lw_okq (⟨"SerialPort", "someFault", "()Z"⟩, 18) := ⟨⟨by decide +kernel, by decide +kernel⟩, List.mem_of_getElem? (i := 18) (by decide +kernel), List.mem_of_getElem? (i := 641) (by decide +kernel), List.mem_of_getElem? (i := 642) (by decide +kernel)⟩
theorem lw_p29 : lw_okq (⟨"SerialPortModel", "lines", "()I"⟩, 40) := ⟨⟨by decide +kernel, by decide +kernel⟩, List.mem_of_getElem? (i := 650) (by decide +kernel), List.mem_of_getElem? (i := 791) (by decide +kernel), List.mem_of_getElem? (i := 792) (by decide +kernel)⟩
theorem lw_p30 : lw_okq (⟨"SerialPortModel", "loops", "()Z"⟩, 40) := ⟨⟨by decide +kernel, by decide +kernel⟩, List.mem_of_getElem? (i := 650) (by decide +kernel), List.mem_of_getElem? (i := 795) (by decide +kernel), List.mem_of_getElem? (i := 796) (by decide +kernel)⟩
theorem lw_p31 : lw_okq (⟨"SerialPortModel", "notice", "(I)V"⟩, 40) := ⟨⟨by decide +kernel, by decide +kernel⟩, List.mem_of_getElem? (i := 650) (by decide +kernel), List.mem_of_getElem? (i := 799) (by decide +kernel), List.mem_of_getElem? (i := 800) (by decide +kernel)⟩
def lw_privs_2 : List (MethodName × Nat) := [(⟨"SerialPort", "reason", "()I"⟩, 18), (⟨"SerialPort", "wants", "(I)Z"⟩, 18), (⟨"SerialPort", "firstFaults", "()I"⟩, 18), (⟨"java/lang/Throwable", "fillInStackTrace", "(I)Ljava/lang/Throwable;"⟩, 6), (⟨"SerialPort", "putRegister", "(II)V"⟩, 18), (⟨"SerialPort", "putCharacter", "(I)V"⟩, 18), (⟨"SerialPort", "putWanted", "(I)V"⟩, 18), (⟨"SerialPort", "putRowControl", "(I)V"⟩, 18), (⟨"SerialPort", "tellRegister", "(I)I"⟩, 18), (⟨"SerialPort", "takeCharacter", "()I"⟩, 18), (⟨"SerialPort", "tellReason", "()I"⟩, 18), (⟨"SerialPort", "tellLineState", "()I"⟩, 18), (⟨"SerialPort", "someFault", "()Z"⟩, 18), (⟨"SerialPortModel", "lines", "()I"⟩, 40), (⟨"SerialPortModel", "loops", "()Z"⟩, 40), (⟨"SerialPortModel", "notice", "(I)V"⟩, 40)]
theorem lw_r2 : ∀ q ∈ lw_privs_2, lw_okq q := List.forall_mem_cons.mpr ⟨lw_p16, List.forall_mem_cons.mpr ⟨lw_p17, List.forall_mem_cons.mpr ⟨lw_p18, List.forall_mem_cons.mpr ⟨lw_p19, List.forall_mem_cons.mpr ⟨lw_p20, List.forall_mem_cons.mpr ⟨lw_p21, List.forall_mem_cons.mpr ⟨lw_p22, List.forall_mem_cons.mpr ⟨lw_p23, List.forall_mem_cons.mpr ⟨lw_p24, List.forall_mem_cons.mpr ⟨lw_p25, List.forall_mem_cons.mpr ⟨lw_p26, List.forall_mem_cons.mpr ⟨lw_p27, List.forall_mem_cons.mpr ⟨lw_p28, List.forall_mem_cons.mpr ⟨lw_p29, List.forall_mem_cons.mpr ⟨lw_p30, List.forall_mem_cons.mpr ⟨lw_p31, fun _ h => absurd h List.not_mem_nil⟩⟩⟩⟩⟩⟩⟩⟩⟩⟩⟩⟩⟩⟩⟩⟩
theorem lw_p32 : lw_okq (⟨"SerialPortModel", "dlab", "()Z"⟩, 40) := ⟨⟨by decide +kernel, by decide +kernel⟩, List.mem_of_getElem? (i := 650) (by decide +kernel), List.mem_of_getElem? (i := 807) (by decide +kernel), List.mem_of_getElem? (i := 808) (by decide +kernel)⟩
theorem lw_p33 : lw_okq (⟨"SerialPortModel", "room", "()I"⟩, 40) := ⟨⟨by decide +kernel, by decide +kernel⟩, List.mem_of_getElem? (i := 650) (by decide +kernel), List.mem_of_getElem? (i := 812) (by decide +kernel), List.mem_of_getElem? (i := 813) (by decide +kernel)⟩
theorem lw_p34 : lw_okq (⟨"SerialPortModel", "clearReceived", "()V"⟩, 40) := ⟨⟨by decide +kernel, by decide +kernel⟩, List.mem_of_getElem? (i := 650) (by decide +kernel), List.mem_of_getElem? (i := 816) (by decide +kernel), List.mem_of_getElem? (i := 817) (by decide +kernel)⟩
theorem lw_p35 : lw_okq (⟨"SerialPortModel", "take", "()I"⟩, 40) := ⟨⟨by decide +kernel, by decide +kernel⟩, List.mem_of_getElem? (i := 650) (by decide +kernel), List.mem_of_getElem? (i := 824) (by decide +kernel), List.mem_of_getElem? (i := 825) (by decide +kernel)⟩
theorem lw_p36 : lw_okq (⟨"SerialPortModel", "reason", "()I"⟩, 40) := ⟨⟨by decide +kernel, by decide +kernel⟩, List.mem_of_getElem? (i := 650) (by decide +kernel), List.mem_of_getElem? (i := 828) (by decide +kernel), List.mem_of_getElem? (i := 829) (by decide +kernel)⟩
theorem lw_p37 : lw_okq (⟨"SerialPortModel", "isMarked", "()Z"⟩, 40) := ⟨⟨by decide +kernel, by decide +kernel⟩, List.mem_of_getElem? (i := 650) (by decide +kernel), List.mem_of_getElem? (i := 832) (by decide +kernel), List.mem_of_getElem? (i := 833) (by decide +kernel)⟩
theorem lw_p38 : lw_okq (⟨"SerialPortModel", "line", "()I"⟩, 40) := ⟨⟨by decide +kernel, by decide +kernel⟩, List.mem_of_getElem? (i := 650) (by decide +kernel), List.mem_of_getElem? (i := 836) (by decide +kernel), List.mem_of_getElem? (i := 837) (by decide +kernel)⟩
theorem lw_p39 : lw_okq (⟨"SerialPortModel", "beat", "()V"⟩, 40) := ⟨⟨by decide +kernel, by decide +kernel⟩, List.mem_of_getElem? (i := 650) (by decide +kernel), List.mem_of_getElem? (i := 845) (by decide +kernel), List.mem_of_getElem? (i := 846) (by decide +kernel)⟩
theorem lw_p40 : lw_okq (⟨"SerialPortModel", "send", "()V"⟩, 40) := ⟨⟨by decide +kernel, by decide +kernel⟩, List.mem_of_getElem? (i := 650) (by decide +kernel), List.mem_of_getElem? (i := 849) (by decide +kernel), List.mem_of_getElem? (i := 850) (by decide +kernel)⟩
theorem lw_p41 : lw_okq (⟨"SerialPortModel", "say", "(Z)V"⟩, 40) := ⟨⟨by decide +kernel, by decide +kernel⟩, List.mem_of_getElem? (i := 650) (by decide +kernel), List.mem_of_getElem? (i := 872) (by decide +kernel), List.mem_of_getElem? (i := 873) (by decide +kernel)⟩
theorem lw_p42 : lw_okq (⟨"SerialPortModel", "come", "()V"⟩, 40) := ⟨⟨by decide +kernel, by decide +kernel⟩, List.mem_of_getElem? (i := 650) (by decide +kernel), List.mem_of_getElem? (i := 876) (by decide +kernel), List.mem_of_getElem? (i := 877) (by decide +kernel)⟩
theorem lw_p43 : lw_okq (⟨"SerialPortModel", "receive", "()V"⟩, 40) := ⟨⟨by decide +kernel, by decide +kernel⟩, List.mem_of_getElem? (i := 650) (by decide +kernel), List.mem_of_getElem? (i := 880) (by decide +kernel), List.mem_of_getElem? (i := 881) (by decide +kernel)⟩
theorem lw_p44 : lw_okq (⟨"SerialPortModel", "put", "(II)V"⟩, 40) := ⟨⟨by decide +kernel, by decide +kernel⟩, List.mem_of_getElem? (i := 650) (by decide +kernel), List.mem_of_getElem? (i := 884) (by decide +kernel), List.mem_of_getElem? (i := 885) (by decide +kernel)⟩
def lw_privs_3 : List (MethodName × Nat) := [(⟨"SerialPortModel", "dlab", "()Z"⟩, 40), (⟨"SerialPortModel", "room", "()I"⟩, 40), (⟨"SerialPortModel", "clearReceived", "()V"⟩, 40), (⟨"SerialPortModel", "take", "()I"⟩, 40), (⟨"SerialPortModel", "reason", "()I"⟩, 40), (⟨"SerialPortModel", "isMarked", "()Z"⟩, 40), (⟨"SerialPortModel", "line", "()I"⟩, 40), (⟨"SerialPortModel", "beat", "()V"⟩, 40), (⟨"SerialPortModel", "send", "()V"⟩, 40), (⟨"SerialPortModel", "say", "(Z)V"⟩, 40), (⟨"SerialPortModel", "come", "()V"⟩, 40), (⟨"SerialPortModel", "receive", "()V"⟩, 40), (⟨"SerialPortModel", "put", "(II)V"⟩, 40)]
theorem lw_r3 : ∀ q ∈ lw_privs_3, lw_okq q := List.forall_mem_cons.mpr ⟨lw_p32, List.forall_mem_cons.mpr ⟨lw_p33, List.forall_mem_cons.mpr ⟨lw_p34, List.forall_mem_cons.mpr ⟨lw_p35, List.forall_mem_cons.mpr ⟨lw_p36, List.forall_mem_cons.mpr ⟨lw_p37, List.forall_mem_cons.mpr ⟨lw_p38, List.forall_mem_cons.mpr ⟨lw_p39, List.forall_mem_cons.mpr ⟨lw_p40, List.forall_mem_cons.mpr ⟨lw_p41, List.forall_mem_cons.mpr ⟨lw_p42, List.forall_mem_cons.mpr ⟨lw_p43, List.forall_mem_cons.mpr ⟨lw_p44, fun _ h => absurd h List.not_mem_nil⟩⟩⟩⟩⟩⟩⟩⟩⟩⟩⟩⟩⟩
def lw_privs : List (MethodName × Nat) := lw_privs_1 ++ (lw_privs_2 ++ (lw_privs_3))
def lw_tbl : List Cond := k2_sels lw_privs ++ tables_1
theorem lw_privs_ok : ∀ q ∈ lw_privs, lw_okq q := by
  show ∀ q ∈ lw_privs_1 ++ (lw_privs_2 ++ (lw_privs_3)), lw_okq q
  exact List.forall_mem_append.mpr ⟨lw_r1, List.forall_mem_append.mpr ⟨lw_r2, lw_r3⟩⟩
-- ===== end of PART A; then your names; then what follows =====
/-! ===== BEGIN words of one list among another's, by their places ===== -/
theorem goodIn_r {big : List Cond} (ws : List Cond) (ps : List Nat) (hp : ws = ps.filterMap (fun i => big[i]?)) (h : ws.all goodWord = true) : GoodIn big ws := by
  intro w hw
  have h1 := List.all_eq_true.mp h w hw
  rw [hp] at hw
  obtain ⟨i, -, hi⟩ := List.mem_filterMap.mp hw
  have hm : w ∈ big := by first | exact List.mem_of_getElem? hi | exact List.getElem?_mem hi
  exact ⟨hm, good_of_word h1⟩
theorem goodIn_app {big a b : List Cond} (ha : GoodIn big a) (hb : GoodIn big b) : GoodIn big (a ++ b) := fun w h => (List.mem_append.mp h).elim (ha w) (hb w)
theorem goodIn_ca {big a b : List Cond} {c : Cond} (ha : GoodIn big (c :: a)) (hb : GoodIn big b) : GoodIn big (c :: (a ++ b)) := fun w h => (List.mem_cons.mp h).elim (fun e => ha w (List.mem_cons.mpr (Or.inl e))) (fun h => (List.mem_append.mp h).elim (fun h => ha w (List.mem_cons.mpr (Or.inr h))) (hb w))
theorem goodIn_sub {big ws : List Cond} (hm : ∀ w ∈ ws, w ∈ big) (h : ws.all goodWord = true) : GoodIn big ws := fun w hw => ⟨hm w hw, good_of_word (List.all_eq_true.mp h w hw)⟩
/-! ===== END ===== -/

def RX0 : String := "SerialPort$Divider"
def TX0 : u_T := fun k => match k with
  | 0 => ("SerialPort$Divider", "divisor", "I", false)
  | _ => ("SerialPort$Divider", "passed", "I", false)
def tyX0 : Nat → FieldType := fun k => match k with
  | 0 => .int
  | _ => .int
abbrev wsX00 : List Cond := u_ws RX0 TX0 2
theorem nmX0 : ∀ a, a < 2 → ∀ b, b < 2 → a ≠ b → (TX0 a).2.1 ≠ (TX0 b).2.1 := by decide +kernel
theorem tyX0_ok : ∀ k, k < 2 → parseFieldDescriptor (TX0 k).2.2.1 = some (tyX0 k) := by decide +kernel
abbrev cX0_init : ByteArray := prog_2_method_1_code
def yX0_init : MethodName := ⟨RX0, "<init>", "()V"⟩
abbrev cX0_clear : ByteArray := prog_2_method_2_code
def yX0_clear : MethodName := ⟨RX0, "clear", "()V"⟩
abbrev cX0_putByte : ByteArray := prog_2_method_3_code
def yX0_putByte : MethodName := ⟨RX0, "putByte", "(II)V"⟩
abbrev cX0_tellByte : ByteArray := prog_2_method_4_code
def yX0_tellByte : MethodName := ⟨RX0, "tellByte", "(I)I"⟩
abbrev cX0_pass : ByteArray := prog_2_method_5_code
def yX0_pass : MethodName := ⟨RX0, "pass", "(I)I"⟩
def RX1 : String := "SerialPort$LineIn"
def TX1 : u_T := fun k => match k with
  | 0 => ("SerialPort$LineIn", "wave", "LSerialPort$Ring;", true)
  | _ => ("SerialPort$LineIn", "high", "Z", false)
def tyX1 : Nat → FieldType := fun k => match k with
  | 0 => .object "SerialPort$Ring"
  | _ => .boolean
abbrev wsX10 : List Cond := u_ws RX1 TX1 2
theorem nmX1 : ∀ a, a < 2 → ∀ b, b < 2 → a ≠ b → (TX1 a).2.1 ≠ (TX1 b).2.1 := by decide +kernel
theorem tyX1_ok : ∀ k, k < 2 → parseFieldDescriptor (TX1 k).2.2.1 = some (tyX1 k) := by decide +kernel
abbrev cX1_init : ByteArray := prog_3_method_1_code
def yX1_init : MethodName := ⟨RX1, "<init>", "()V"⟩
abbrev cX1_clear : ByteArray := prog_3_method_2_code
def yX1_clear : MethodName := ⟨RX1, "clear", "()V"⟩
abbrev cX1_pieces : ByteArray := prog_3_method_3_code
def yX1_pieces : MethodName := ⟨RX1, "pieces", "()I"⟩
abbrev cX1_room : ByteArray := prog_3_method_4_code
def yX1_room : MethodName := ⟨RX1, "room", "()I"⟩
abbrev cX1_append : ByteArray := prog_3_method_5_code
def yX1_append : MethodName := ⟨RX1, "append", "(ZI)V"⟩
abbrev cX1_next : ByteArray := prog_3_method_6_code
def yX1_next : MethodName := ⟨RX1, "next", "()Z"⟩
def RX2 : String := "SerialPort$LineOut"
def TX2 : u_T := fun k => match k with
  | 0 => ("SerialPort$LineOut", "runs", "LSerialPort$Ring;", true)
  | _ => ("SerialPort$LineOut", "inAll", "I", false)
def tyX2 : Nat → FieldType := fun k => match k with
  | 0 => .object "SerialPort$Ring"
  | _ => .int
abbrev wsX20 : List Cond := u_ws RX2 TX2 2
theorem nmX2 : ∀ a, a < 2 → ∀ b, b < 2 → a ≠ b → (TX2 a).2.1 ≠ (TX2 b).2.1 := by decide +kernel
theorem tyX2_ok : ∀ k, k < 2 → parseFieldDescriptor (TX2 k).2.2.1 = some (tyX2 k) := by decide +kernel
abbrev cX2_init : ByteArray := prog_4_method_1_code
def yX2_init : MethodName := ⟨RX2, "<init>", "()V"⟩
abbrev cX2_clear : ByteArray := prog_4_method_2_code
def yX2_clear : MethodName := ⟨RX2, "clear", "()V"⟩
abbrev cX2_isHigh : ByteArray := prog_4_method_3_code
def yX2_isHigh : MethodName := ⟨RX2, "isHigh", "()Z"⟩
abbrev cX2_runsInAll : ByteArray := prog_4_method_4_code
def yX2_runsInAll : MethodName := ⟨RX2, "runsInAll", "()I"⟩
abbrev cX2_runsKept : ByteArray := prog_4_method_5_code
def yX2_runsKept : MethodName := ⟨RX2, "runsKept", "()I"⟩
abbrev cX2_runIsHigh : ByteArray := prog_4_method_6_code
def yX2_runIsHigh : MethodName := ⟨RX2, "runIsHigh", "(I)Z"⟩
abbrev cX2_runBeats : ByteArray := prog_4_method_7_code
def yX2_runBeats : MethodName := ⟨RX2, "runBeats", "(I)I"⟩
abbrev cX2_append : ByteArray := prog_4_method_8_code
def yX2_append : MethodName := ⟨RX2, "append", "(Z)V"⟩
abbrev cX2_fromEnd : ByteArray := prog_4_method_9_code
def yX2_fromEnd : MethodName := ⟨RX2, "fromEnd", "(I)I"⟩
def RX3 : String := "SerialPort$Modem"
def TX3 : u_T := fun k => match k with
  | 0 => ("SerialPort$Modem", "outputs", "I", false)
  | 1 => ("SerialPort$Modem", "pins", "I", false)
  | 2 => ("SerialPort$Modem", "state", "I", false)
  | _ => ("SerialPort$Modem", "changes", "I", false)
def tyX3 : Nat → FieldType := fun k => match k with
  | 0 => .int
  | 1 => .int
  | 2 => .int
  | _ => .int
abbrev wsX30 : List Cond := u_ws RX3 TX3 4
theorem nmX3 : ∀ a, a < 4 → ∀ b, b < 4 → a ≠ b → (TX3 a).2.1 ≠ (TX3 b).2.1 := by decide +kernel
theorem tyX3_ok : ∀ k, k < 4 → parseFieldDescriptor (TX3 k).2.2.1 = some (tyX3 k) := by decide +kernel
abbrev cX3_init : ByteArray := prog_5_method_1_code
def yX3_init : MethodName := ⟨RX3, "<init>", "()V"⟩
abbrev cX3_clear : ByteArray := prog_5_method_2_code
def yX3_clear : MethodName := ⟨RX3, "clear", "()V"⟩
abbrev cX3_outputs : ByteArray := prog_5_method_3_code
def yX3_outputs : MethodName := ⟨RX3, "outputs", "()I"⟩
abbrev cX3_loops : ByteArray := prog_5_method_4_code
def yX3_loops : MethodName := ⟨RX3, "loops", "()Z"⟩
abbrev cX3_hasChanged : ByteArray := prog_5_method_5_code
def yX3_hasChanged : MethodName := ⟨RX3, "hasChanged", "()Z"⟩
abbrev cX3_putOutputs : ByteArray := prog_5_method_6_code
def yX3_putOutputs : MethodName := ⟨RX3, "putOutputs", "(I)V"⟩
abbrev cX3_putPins : ByteArray := prog_5_method_7_code
def yX3_putPins : MethodName := ⟨RX3, "putPins", "(I)V"⟩
abbrev cX3_tellState : ByteArray := prog_5_method_8_code
def yX3_tellState : MethodName := ⟨RX3, "tellState", "()I"⟩
abbrev cX3_follow : ByteArray := prog_5_method_9_code
def yX3_follow : MethodName := ⟨RX3, "follow", "()V"⟩
abbrev cX3_looped : ByteArray := prog_5_method_10_code
def yX3_looped : MethodName := ⟨RX3, "looped", "()I"⟩
def RX4 : String := "SerialPort$Receiver"
def TX4 : u_T := fun k => match k with
  | 0 => ("SerialPort$Receiver", "control", "I", false)
  | 1 => ("SerialPort$Receiver", "character", "I", false)
  | 2 => ("SerialPort$Receiver", "beat", "I", false)
  | 3 => ("SerialPort$Receiver", "busy", "Z", false)
  | 4 => ("SerialPort$Receiver", "wasHigh", "Z", false)
  | 5 => ("SerialPort$Receiver", "parityHigh", "Z", false)
  | _ => ("SerialPort$Receiver", "someHigh", "Z", false)
def tyX4 : Nat → FieldType := fun k => match k with
  | 0 => .int
  | 1 => .int
  | 2 => .int
  | 3 => .boolean
  | 4 => .boolean
  | 5 => .boolean
  | _ => .boolean
abbrev wsX40 : List Cond := u_ws RX4 TX4 7
theorem nmX4 : ∀ a, a < 7 → ∀ b, b < 7 → a ≠ b → (TX4 a).2.1 ≠ (TX4 b).2.1 := by decide +kernel
theorem tyX4_ok : ∀ k, k < 7 → parseFieldDescriptor (TX4 k).2.2.1 = some (tyX4 k) := by decide +kernel
abbrev cX4_init : ByteArray := prog_6_method_1_code
def yX4_init : MethodName := ⟨RX4, "<init>", "()V"⟩
abbrev cX4_clear : ByteArray := prog_6_method_2_code
def yX4_clear : MethodName := ⟨RX4, "clear", "()V"⟩
abbrev cX4_isBusy : ByteArray := prog_6_method_3_code
def yX4_isBusy : MethodName := ⟨RX4, "isBusy", "()Z"⟩
abbrev cX4_step : ByteArray := prog_6_method_4_code
def yX4_step : MethodName := ⟨RX4, "step", "(ZI)I"⟩
abbrev cX4_listen : ByteArray := prog_6_method_5_code
def yX4_listen : MethodName := ⟨RX4, "listen", "(ZI)V"⟩
abbrev cX4_begin : ByteArray := prog_6_method_6_code
def yX4_begin : MethodName := ⟨RX4, "begin", "(I)V"⟩
abbrev cX4_seeStart : ByteArray := prog_6_method_7_code
def yX4_seeStart : MethodName := ⟨RX4, "seeStart", "(Z)I"⟩
abbrev cX4_becomeIdle : ByteArray := prog_6_method_8_code
def yX4_becomeIdle : MethodName := ⟨RX4, "becomeIdle", "(Z)V"⟩
abbrev cX4_see : ByteArray := prog_6_method_9_code
def yX4_see : MethodName := ⟨RX4, "see", "(Z)I"⟩
abbrev cX4_faults : ByteArray := prog_6_method_10_code
def yX4_faults : MethodName := ⟨RX4, "faults", "(Z)I"⟩
def RX5 : String := "SerialPort$Ring"
def TX5 : u_T := fun k => match k with
  | 0 => ("SerialPort$Ring", "cells", "[I", true)
  | 1 => ("SerialPort$Ring", "head", "I", false)
  | _ => ("SerialPort$Ring", "size", "I", false)
def tyX5 : Nat → FieldType := fun k => match k with
  | 0 => .array .int
  | 1 => .int
  | _ => .int
abbrev wsX50 : List Cond := u_ws RX5 TX5 3
theorem nmX5 : ∀ a, a < 3 → ∀ b, b < 3 → a ≠ b → (TX5 a).2.1 ≠ (TX5 b).2.1 := by decide +kernel
theorem tyX5_ok : ∀ k, k < 3 → parseFieldDescriptor (TX5 k).2.2.1 = some (tyX5 k) := by decide +kernel
abbrev cX5_init : ByteArray := prog_7_method_1_code
def yX5_init : MethodName := ⟨RX5, "<init>", "(I)V"⟩
abbrev cX5_size : ByteArray := prog_7_method_2_code
def yX5_size : MethodName := ⟨RX5, "size", "()I"⟩
abbrev cX5_isEmpty : ByteArray := prog_7_method_3_code
def yX5_isEmpty : MethodName := ⟨RX5, "isEmpty", "()Z"⟩
abbrev cX5_room : ByteArray := prog_7_method_4_code
def yX5_room : MethodName := ⟨RX5, "room", "()I"⟩
abbrev cX5_clear : ByteArray := prog_7_method_5_code
def yX5_clear : MethodName := ⟨RX5, "clear", "()V"⟩
abbrev cX5_at : ByteArray := prog_7_method_6_code
def yX5_at : MethodName := ⟨RX5, "at", "(I)I"⟩
abbrev cX5_first : ByteArray := prog_7_method_7_code
def yX5_first : MethodName := ⟨RX5, "first", "()I"⟩
abbrev cX5_setFirst : ByteArray := prog_7_method_8_code
def yX5_setFirst : MethodName := ⟨RX5, "setFirst", "(I)V"⟩
abbrev cX5_setAt : ByteArray := prog_7_method_9_code
def yX5_setAt : MethodName := ⟨RX5, "setAt", "(II)V"⟩
abbrev cX5_add : ByteArray := prog_7_method_10_code
def yX5_add : MethodName := ⟨RX5, "add", "(I)V"⟩
abbrev cX5_dropFirst : ByteArray := prog_7_method_11_code
def yX5_dropFirst : MethodName := ⟨RX5, "dropFirst", "()V"⟩
abbrev cX5_cellOf : ByteArray := prog_7_method_12_code
def yX5_cellOf : MethodName := ⟨RX5, "cellOf", "(I)I"⟩
def RX6 : String := "SerialPort$Sender"
def TX6 : u_T := fun k => match k with
  | 0 => ("SerialPort$Sender", "control", "I", false)
  | 1 => ("SerialPort$Sender", "character", "I", false)
  | 2 => ("SerialPort$Sender", "beat", "I", false)
  | _ => ("SerialPort$Sender", "busy", "Z", false)
def tyX6 : Nat → FieldType := fun k => match k with
  | 0 => .int
  | 1 => .int
  | 2 => .int
  | _ => .boolean
abbrev wsX60 : List Cond := u_ws RX6 TX6 4
theorem nmX6 : ∀ a, a < 4 → ∀ b, b < 4 → a ≠ b → (TX6 a).2.1 ≠ (TX6 b).2.1 := by decide +kernel
theorem tyX6_ok : ∀ k, k < 4 → parseFieldDescriptor (TX6 k).2.2.1 = some (tyX6 k) := by decide +kernel
abbrev cX6_init : ByteArray := prog_8_method_1_code
def yX6_init : MethodName := ⟨RX6, "<init>", "()V"⟩
abbrev cX6_clear : ByteArray := prog_8_method_2_code
def yX6_clear : MethodName := ⟨RX6, "clear", "()V"⟩
abbrev cX6_isBusy : ByteArray := prog_8_method_3_code
def yX6_isBusy : MethodName := ⟨RX6, "isBusy", "()Z"⟩
abbrev cX6_begin : ByteArray := prog_8_method_4_code
def yX6_begin : MethodName := ⟨RX6, "begin", "(II)V"⟩
abbrev cX6_next : ByteArray := prog_8_method_5_code
def yX6_next : MethodName := ⟨RX6, "next", "()Z"⟩
def RX7 : String := "SerialPort$Shape"
def TX7 : u_T := fun k => match k with
  | _ => ("", "", "", false)
def tyX7 : Nat → FieldType := fun k => match k with
  | _ => .int
abbrev wsX70 : List Cond := u_ws RX7 TX7 0
theorem nmX7 : ∀ a, a < 0 → ∀ b, b < 0 → a ≠ b → (TX7 a).2.1 ≠ (TX7 b).2.1 := by decide +kernel
theorem tyX7_ok : ∀ k, k < 0 → parseFieldDescriptor (TX7 k).2.2.1 = some (tyX7 k) := by decide +kernel
abbrev cX7_dataBits : ByteArray := prog_9_method_2_code
def yX7_dataBits : MethodName := ⟨RX7, "dataBits", "(I)I"⟩
abbrev cX7_hasParity : ByteArray := prog_9_method_3_code
def yX7_hasParity : MethodName := ⟨RX7, "hasParity", "(I)Z"⟩
abbrev cX7_pieces : ByteArray := prog_9_method_4_code
def yX7_pieces : MethodName := ⟨RX7, "pieces", "(I)I"⟩
abbrev cX7_stopBeats : ByteArray := prog_9_method_5_code
def yX7_stopBeats : MethodName := ⟨RX7, "stopBeats", "(I)I"⟩
abbrev cX7_pieceBeats : ByteArray := prog_9_method_6_code
def yX7_pieceBeats : MethodName := ⟨RX7, "pieceBeats", "(II)I"⟩
abbrev cX7_beats : ByteArray := prog_9_method_7_code
def yX7_beats : MethodName := ⟨RX7, "beats", "(I)I"⟩
abbrev cX7_parityIsHigh : ByteArray := prog_9_method_8_code
def yX7_parityIsHigh : MethodName := ⟨RX7, "parityIsHigh", "(II)Z"⟩
abbrev cX7_pieceIsHigh : ByteArray := prog_9_method_9_code
def yX7_pieceIsHigh : MethodName := ⟨RX7, "pieceIsHigh", "(III)Z"⟩
def RX8 : String := "SerialPort"
def TX8 : u_T := fun k => match k with
  | 0 => ("SerialPort", "divider", "LSerialPort$Divider;", true)
  | 1 => ("SerialPort", "received", "LSerialPort$Ring;", true)
  | 2 => ("SerialPort", "sending", "LSerialPort$Ring;", true)
  | 3 => ("SerialPort", "sender", "LSerialPort$Sender;", true)
  | 4 => ("SerialPort", "receiver", "LSerialPort$Receiver;", true)
  | 5 => ("SerialPort", "modem", "LSerialPort$Modem;", true)
  | 6 => ("SerialPort", "lineIn", "LSerialPort$LineIn;", true)
  | 7 => ("SerialPort", "lineOut", "LSerialPort$LineOut;", true)
  | 8 => ("SerialPort", "wanted", "I", false)
  | 9 => ("SerialPort", "lineControl", "I", false)
  | 10 => ("SerialPort", "kept", "I", false)
  | 11 => ("SerialPort", "level", "I", false)
  | 12 => ("SerialPort", "rowsOn", "Z", false)
  | 13 => ("SerialPort", "overrun", "Z", false)
  | 14 => ("SerialPort", "emptyUp", "Z", false)
  | 15 => ("SerialPort", "lateUp", "Z", false)
  | 16 => ("SerialPort", "beats", "I", false)
  | _ => ("SerialPort", "quietSince", "I", false)
def tyX8 : Nat → FieldType := fun k => match k with
  | 0 => .object "SerialPort$Divider"
  | 1 => .object "SerialPort$Ring"
  | 2 => .object "SerialPort$Ring"
  | 3 => .object "SerialPort$Sender"
  | 4 => .object "SerialPort$Receiver"
  | 5 => .object "SerialPort$Modem"
  | 6 => .object "SerialPort$LineIn"
  | 7 => .object "SerialPort$LineOut"
  | 8 => .int
  | 9 => .int
  | 10 => .int
  | 11 => .int
  | 12 => .boolean
  | 13 => .boolean
  | 14 => .boolean
  | 15 => .boolean
  | 16 => .int
  | _ => .int
abbrev wsX80 : List Cond := u_ws RX8 TX8 18
theorem nmX8 : ∀ a, a < 18 → ∀ b, b < 18 → a ≠ b → (TX8 a).2.1 ≠ (TX8 b).2.1 := by decide +kernel
theorem tyX8_ok : ∀ k, k < 18 → parseFieldDescriptor (TX8 k).2.2.1 = some (tyX8 k) := by decide +kernel
abbrev cX8_init : ByteArray := prog_1_method_1_code
def yX8_init : MethodName := ⟨RX8, "<init>", "()V"⟩
abbrev cX8_write : ByteArray := prog_1_method_2_code
def yX8_write : MethodName := ⟨RX8, "write", "(II)V"⟩
abbrev cX8_read : ByteArray := prog_1_method_3_code
def yX8_read : MethodName := ⟨RX8, "read", "(I)I"⟩
abbrev cX8_clock : ByteArray := prog_1_method_4_code
def yX8_clock : MethodName := ⟨RX8, "clock", "(I)I"⟩
abbrev cX8_wave : ByteArray := prog_1_method_5_code
def yX8_wave : MethodName := ⟨RX8, "wave", "(ZI)I"⟩
abbrev cX8_frame : ByteArray := prog_1_method_6_code
def yX8_frame : MethodName := ⟨RX8, "frame", "(II)I"⟩
abbrev cX8_inputs : ByteArray := prog_1_method_7_code
def yX8_inputs : MethodName := ⟨RX8, "inputs", "(I)Z"⟩
abbrev cX8_reset : ByteArray := prog_1_method_8_code
def yX8_reset : MethodName := ⟨RX8, "reset", "()V"⟩
abbrev cX8_count : ByteArray := prog_1_method_9_code
def yX8_count : MethodName := ⟨RX8, "count", "(I)I"⟩
abbrev cX8_run : ByteArray := prog_1_method_10_code
def yX8_run : MethodName := ⟨RX8, "run", "(II)I"⟩
abbrev cX8_powerOn : ByteArray := prog_1_method_11_code
def yX8_powerOn : MethodName := ⟨RX8, "powerOn", "()V"⟩
abbrev cX8_putRegister : ByteArray := prog_1_method_12_code
def yX8_putRegister : MethodName := ⟨RX8, "putRegister", "(II)V"⟩
abbrev cX8_tellRegister : ByteArray := prog_1_method_13_code
def yX8_tellRegister : MethodName := ⟨RX8, "tellRegister", "(I)I"⟩
abbrev cX8_rowRoom : ByteArray := prog_1_method_14_code
def yX8_rowRoom : MethodName := ⟨RX8, "rowRoom", "()I"⟩
abbrev cX8_putCharacter : ByteArray := prog_1_method_15_code
def yX8_putCharacter : MethodName := ⟨RX8, "putCharacter", "(I)V"⟩
abbrev cX8_takeCharacter : ByteArray := prog_1_method_16_code
def yX8_takeCharacter : MethodName := ⟨RX8, "takeCharacter", "()I"⟩
abbrev cX8_putWanted : ByteArray := prog_1_method_17_code
def yX8_putWanted : MethodName := ⟨RX8, "putWanted", "(I)V"⟩
abbrev cX8_putRowControl : ByteArray := prog_1_method_18_code
def yX8_putRowControl : MethodName := ⟨RX8, "putRowControl", "(I)V"⟩
abbrev cX8_levelOf : ByteArray := prog_1_method_19_code
def yX8_levelOf : MethodName := ⟨RX8, "levelOf", "(I)I"⟩
abbrev cX8_firstFaults : ByteArray := prog_1_method_20_code
def yX8_firstFaults : MethodName := ⟨RX8, "firstFaults", "()I"⟩
abbrev cX8_someFault : ByteArray := prog_1_method_21_code
def yX8_someFault : MethodName := ⟨RX8, "someFault", "()Z"⟩
abbrev cX8_tellLineState : ByteArray := prog_1_method_22_code
def yX8_tellLineState : MethodName := ⟨RX8, "tellLineState", "()I"⟩
abbrev cX8_reason : ByteArray := prog_1_method_23_code
def yX8_reason : MethodName := ⟨RX8, "reason", "()I"⟩
abbrev cX8_wants : ByteArray := prog_1_method_24_code
def yX8_wants : MethodName := ⟨RX8, "wants", "(I)Z"⟩
abbrev cX8_tellReason : ByteArray := prog_1_method_25_code
def yX8_tellReason : MethodName := ⟨RX8, "tellReason", "()I"⟩
abbrev cX8_beat : ByteArray := prog_1_method_26_code
def yX8_beat : MethodName := ⟨RX8, "beat", "()V"⟩
abbrev cX8_stepSender : ByteArray := prog_1_method_27_code
def yX8_stepSender : MethodName := ⟨RX8, "stepSender", "()Z"⟩
abbrev cX8_addReceived : ByteArray := prog_1_method_28_code
def yX8_addReceived : MethodName := ⟨RX8, "addReceived", "(I)V"⟩
abbrev cX8_stepLate : ByteArray := prog_1_method_29_code
def yX8_stepLate : MethodName := ⟨RX8, "stepLate", "()V"⟩
def RX9 : String := "SerialPortModel"
def TX9 : u_T := fun k => match k with
  | 0 => ("SerialPortModel", "divisor", "I", false)
  | 1 => ("SerialPortModel", "clocks", "I", false)
  | 2 => ("SerialPortModel", "wanted", "I", false)
  | 3 => ("SerialPortModel", "rowsOn", "Z", false)
  | 4 => ("SerialPortModel", "level", "I", false)
  | 5 => ("SerialPortModel", "form", "I", false)
  | 6 => ("SerialPortModel", "outputs", "I", false)
  | 7 => ("SerialPortModel", "byteKept", "I", false)
  | 8 => ("SerialPortModel", "ins", "I", false)
  | 9 => ("SerialPortModel", "changed", "I", false)
  | 10 => ("SerialPortModel", "received", "[I", true)
  | 11 => ("SerialPortModel", "marks", "[I", true)
  | 12 => ("SerialPortModel", "receivedMany", "I", false)
  | 13 => ("SerialPortModel", "overrun", "Z", false)
  | 14 => ("SerialPortModel", "sending", "[I", true)
  | 15 => ("SerialPortModel", "sendingMany", "I", false)
  | 16 => ("SerialPortModel", "emptyUp", "Z", false)
  | 17 => ("SerialPortModel", "lateUp", "Z", false)
  | 18 => ("SerialPortModel", "lateCount", "I", false)
  | 19 => ("SerialPortModel", "waveHigh", "[Z", true)
  | 20 => ("SerialPortModel", "waveBeats", "[I", true)
  | 21 => ("SerialPortModel", "waveMany", "I", false)
  | 22 => ("SerialPortModel", "lineIn", "Z", false)
  | 23 => ("SerialPortModel", "sends", "Z", false)
  | 24 => ("SerialPortModel", "sentCharacter", "I", false)
  | 25 => ("SerialPortModel", "sentForm", "I", false)
  | 26 => ("SerialPortModel", "sentBeat", "I", false)
  | 27 => ("SerialPortModel", "senderHigh", "Z", false)
  | 28 => ("SerialPortModel", "takes", "Z", false)
  | 29 => ("SerialPortModel", "sawHigh", "Z", false)
  | 30 => ("SerialPortModel", "takenForm", "I", false)
  | 31 => ("SerialPortModel", "takenBeat", "I", false)
  | 32 => ("SerialPortModel", "takenBits", "I", false)
  | 33 => ("SerialPortModel", "takenParity", "I", false)
  | 34 => ("SerialPortModel", "beats", "I", false)
  | 35 => ("SerialPortModel", "out", "Z", false)
  | 36 => ("SerialPortModel", "runHigh", "[Z", true)
  | 37 => ("SerialPortModel", "runBeats", "[I", true)
  | 38 => ("SerialPortModel", "runs", "I", false)
  | _ => ("SerialPortModel", "thrown", "I", false)
def tyX9 : Nat → FieldType := fun k => match k with
  | 0 => .int
  | 1 => .int
  | 2 => .int
  | 3 => .boolean
  | 4 => .int
  | 5 => .int
  | 6 => .int
  | 7 => .int
  | 8 => .int
  | 9 => .int
  | 10 => .array .int
  | 11 => .array .int
  | 12 => .int
  | 13 => .boolean
  | 14 => .array .int
  | 15 => .int
  | 16 => .boolean
  | 17 => .boolean
  | 18 => .int
  | 19 => .array .boolean
  | 20 => .array .int
  | 21 => .int
  | 22 => .boolean
  | 23 => .boolean
  | 24 => .int
  | 25 => .int
  | 26 => .int
  | 27 => .boolean
  | 28 => .boolean
  | 29 => .boolean
  | 30 => .int
  | 31 => .int
  | 32 => .int
  | 33 => .int
  | 34 => .int
  | 35 => .boolean
  | 36 => .array .boolean
  | 37 => .array .int
  | 38 => .int
  | _ => .int
abbrev wsX90 : List Cond := u_ws RX9 TX9 40
theorem nmX9 : ∀ a, a < 40 → ∀ b, b < 40 → a ≠ b → (TX9 a).2.1 ≠ (TX9 b).2.1 := by decide +kernel
theorem tyX9_ok : ∀ k, k < 40 → parseFieldDescriptor (TX9 k).2.2.1 = some (tyX9 k) := by decide +kernel
abbrev cX9_init : ByteArray := prog_11_method_1_code
def yX9_init : MethodName := ⟨RX9, "<init>", "()V"⟩
abbrev cX9_thrown : ByteArray := prog_11_method_2_code
def yX9_thrown : MethodName := ⟨RX9, "thrown", "()I"⟩
abbrev cX9_reset : ByteArray := prog_11_method_3_code
def yX9_reset : MethodName := ⟨RX9, "reset", "()V"⟩
abbrev cX9_dlab : ByteArray := prog_11_method_4_code
def yX9_dlab : MethodName := ⟨RX9, "dlab", "()Z"⟩
abbrev cX9_loops : ByteArray := prog_11_method_5_code
def yX9_loops : MethodName := ⟨RX9, "loops", "()Z"⟩
abbrev cX9_room : ByteArray := prog_11_method_6_code
def yX9_room : MethodName := ⟨RX9, "room", "()I"⟩
abbrev cX9_bitsOf : ByteArray := prog_11_method_7_code
def yX9_bitsOf : MethodName := ⟨RX9, "bitsOf", "(I)I"⟩
abbrev cX9_hasParity : ByteArray := prog_11_method_8_code
def yX9_hasParity : MethodName := ⟨RX9, "hasParity", "(I)Z"⟩
abbrev cX9_parityOf : ByteArray := prog_11_method_9_code
def yX9_parityOf : MethodName := ⟨RX9, "parityOf", "(II)I"⟩
abbrev cX9_stopOf : ByteArray := prog_11_method_10_code
def yX9_stopOf : MethodName := ⟨RX9, "stopOf", "(I)I"⟩
abbrev cX9_frameOf : ByteArray := prog_11_method_11_code
def yX9_frameOf : MethodName := ⟨RX9, "frameOf", "(I)I"⟩
abbrev cX9_partOf : ByteArray := prog_11_method_12_code
def yX9_partOf : MethodName := ⟨RX9, "partOf", "(III)Z"⟩
abbrev cX9_lines : ByteArray := prog_11_method_13_code
def yX9_lines : MethodName := ⟨RX9, "lines", "()I"⟩
abbrev cX9_notice : ByteArray := prog_11_method_14_code
def yX9_notice : MethodName := ⟨RX9, "notice", "(I)V"⟩
abbrev cX9_inputs : ByteArray := prog_11_method_15_code
def yX9_inputs : MethodName := ⟨RX9, "inputs", "(I)Z"⟩
abbrev cX9_clearReceived : ByteArray := prog_11_method_16_code
def yX9_clearReceived : MethodName := ⟨RX9, "clearReceived", "()V"⟩
abbrev cX9_write : ByteArray := prog_11_method_17_code
def yX9_write : MethodName := ⟨RX9, "write", "(II)V"⟩
abbrev cX9_isMarked : ByteArray := prog_11_method_18_code
def yX9_isMarked : MethodName := ⟨RX9, "isMarked", "()Z"⟩
abbrev cX9_reason : ByteArray := prog_11_method_19_code
def yX9_reason : MethodName := ⟨RX9, "reason", "()I"⟩
abbrev cX9_line : ByteArray := prog_11_method_20_code
def yX9_line : MethodName := ⟨RX9, "line", "()I"⟩
abbrev cX9_take : ByteArray := prog_11_method_21_code
def yX9_take : MethodName := ⟨RX9, "take", "()I"⟩
abbrev cX9_read : ByteArray := prog_11_method_22_code
def yX9_read : MethodName := ⟨RX9, "read", "(I)I"⟩
abbrev cX9_send : ByteArray := prog_11_method_23_code
def yX9_send : MethodName := ⟨RX9, "send", "()V"⟩
abbrev cX9_say : ByteArray := prog_11_method_24_code
def yX9_say : MethodName := ⟨RX9, "say", "(Z)V"⟩
abbrev cX9_come : ByteArray := prog_11_method_25_code
def yX9_come : MethodName := ⟨RX9, "come", "()V"⟩
abbrev cX9_put : ByteArray := prog_11_method_26_code
def yX9_put : MethodName := ⟨RX9, "put", "(II)V"⟩
abbrev cX9_receive : ByteArray := prog_11_method_27_code
def yX9_receive : MethodName := ⟨RX9, "receive", "()V"⟩
abbrev cX9_beat : ByteArray := prog_11_method_28_code
def yX9_beat : MethodName := ⟨RX9, "beat", "()V"⟩
abbrev cX9_clock : ByteArray := prog_11_method_29_code
def yX9_clock : MethodName := ⟨RX9, "clock", "(I)I"⟩
abbrev cX9_wave : ByteArray := prog_11_method_30_code
def yX9_wave : MethodName := ⟨RX9, "wave", "(ZI)I"⟩
abbrev cX9_frame : ByteArray := prog_11_method_31_code
def yX9_frame : MethodName := ⟨RX9, "frame", "(II)I"⟩
abbrev cX9_count : ByteArray := prog_11_method_32_code
def yX9_count : MethodName := ⟨RX9, "count", "(I)I"⟩
abbrev cX9_run : ByteArray := prog_11_method_33_code
def yX9_run : MethodName := ⟨RX9, "run", "(II)I"⟩
def RJ6 : String := "java/lang/Integer"
def TJ6 : u_T := fun k => match k with
  | _ => ("", "", "", false)
def tyJ6 : Nat → FieldType := fun k => match k with
  | _ => .int
abbrev wsJ60 : List Cond := u_ws RJ6 TJ6 0
theorem nmJ6 : ∀ a, a < 0 → ∀ b, b < 0 → a ≠ b → (TJ6 a).2.1 ≠ (TJ6 b).2.1 := by decide +kernel
theorem tyJ6_ok : ∀ k, k < 0 → parseFieldDescriptor (TJ6 k).2.2.1 = some (tyJ6 k) := by decide +kernel
abbrev cJ6_bitCount_0f7a4 : ByteArray := prog_13_method_49_code
def yJ6_bitCount_0f7a4 : MethodName := ⟨RJ6, "bitCount", "(I)I"⟩
def RJ9 : String := "java/lang/Math"
def TJ9 : u_T := fun k => match k with
  | _ => ("", "", "", false)
def tyJ9 : Nat → FieldType := fun k => match k with
  | _ => .int
abbrev wsJ90 : List Cond := u_ws RJ9 TJ9 0
theorem nmJ9 : ∀ a, a < 0 → ∀ b, b < 0 → a ≠ b → (TJ9 a).2.1 ≠ (TJ9 b).2.1 := by decide +kernel
theorem tyJ9_ok : ∀ k, k < 0 → parseFieldDescriptor (TJ9 k).2.2.1 = some (tyJ9 k) := by decide +kernel
abbrev cJ9_max_7cf53 : ByteArray := prog_14_method_65_code
def yJ9_max_7cf53 : MethodName := ⟨RJ9, "max", "(II)I"⟩
def RJ0 : String := "java/lang/String"
def TJ0 : u_T := fun k => match k with
  | _ => ("", "", "", false)
def tyJ0 : Nat → FieldType := fun k => match k with
  | _ => .int
abbrev wsJ00 : List Cond := u_ws RJ0 TJ0 0
theorem nmJ0 : ∀ a, a < 0 → ∀ b, b < 0 → a ≠ b → (TJ0 a).2.1 ≠ (TJ0 b).2.1 := by decide +kernel
theorem tyJ0_ok : ∀ k, k < 0 → parseFieldDescriptor (TJ0 k).2.2.1 = some (tyJ0 k) := by decide +kernel
def RL : String := "SerialPortLaw"
abbrev cL_write : ByteArray := method_3_code
def yL_write : MethodName := ⟨RL, "write", "(LSerialPort;II)I"⟩
abbrev cL_read : ByteArray := method_4_code
def yL_read : MethodName := ⟨RL, "read", "(LSerialPort;I[J)I"⟩
abbrev cL_law : ByteArray := code
def yL_law : MethodName := ⟨RL, "law", "([I)Z"⟩
def wsX0_init : List Cond := .code yX0_init cX0_init 1 none :: ([.methodLink RX0 3 objectInit, .instanceMethod objectInit, .code objectInit ⟨#[0xb1]⟩ 1 none])
def wsX0_clear : List Cond := .code yX0_clear cX0_clear 1 none :: ([.fieldLink RX0 9 "SerialPort$Divider" "divisor" "I", .fieldLink RX0 15 "SerialPort$Divider" "passed" "I"] ++ wsX00)
def wsX0_putByte : List Cond := .code yX0_putByte cX0_putByte 3 none :: ([.fieldLink RX0 9 "SerialPort$Divider" "divisor" "I", .constant RX0 18 (65280), .fieldLink RX0 15 "SerialPort$Divider" "passed" "I"] ++ wsX00)
def wsX0_tellByte : List Cond := .code yX0_tellByte cX0_tellByte 2 (some .int) :: ([.fieldLink RX0 9 "SerialPort$Divider" "divisor" "I"] ++ wsX00)
def wsX0_pass : List Cond := .code yX0_pass cX0_pass 3 (some .int) :: ([.fieldLink RX0 9 "SerialPort$Divider" "divisor" "I", .fieldLink RX0 15 "SerialPort$Divider" "passed" "I"] ++ wsX00)
def wsX5_init : List Cond := .code yX5_init cX5_init 2 none :: ([.methodLink RX5 1 objectInit, .instanceMethod objectInit, .code objectInit ⟨#[0xb1]⟩ 1 none, .methodLink RX5 7 Lib.Math.max.name, .static Lib.Math.max.name, .initialized "java/lang/Math", .code Lib.Math.max.name Lib.Math.max.code 2 (some .int), .arrayClass .int, .fieldLink RX5 13 "SerialPort$Ring" "cells" "[I", .fieldLink RX5 19 "SerialPort$Ring" "head" "I", .fieldLink RX5 23 "SerialPort$Ring" "size" "I"] ++ wsX50)
def wsX1_init : List Cond := .code yX1_init cX1_init 1 none :: ([.methodLink RX1 3 objectInit, .instanceMethod objectInit, .code objectInit ⟨#[0xb1]⟩ 1 none, .classLink RX1 9 RX5, .instantiable RX5 3, .initialized RX5, .fieldLink RX1 14 "SerialPort$LineIn" "wave" "LSerialPort$Ring;", .methodLink RX1 11 yX5_init, .instanceMethod yX5_init, .code yX5_init cX5_init 2 none, .methodLink RX5 1 objectInit, .methodLink RX5 7 Lib.Math.max.name, .static Lib.Math.max.name, .initialized "java/lang/Math", .code Lib.Math.max.name Lib.Math.max.code 2 (some .int), .arrayClass .int, .fieldLink RX5 13 "SerialPort$Ring" "cells" "[I", .fieldLink RX5 19 "SerialPort$Ring" "head" "I", .fieldLink RX5 23 "SerialPort$Ring" "size" "I"] ++ wsX50 ++ wsX10)
def wsX5_clear : List Cond := .code yX5_clear cX5_clear 1 none :: ([.fieldLink RX5 19 "SerialPort$Ring" "head" "I", .fieldLink RX5 23 "SerialPort$Ring" "size" "I"] ++ wsX50)
def wsX1_clear : List Cond := .code yX1_clear cX1_clear 1 none :: ([.fieldLink RX1 14 "SerialPort$LineIn" "wave" "LSerialPort$Ring;", .fieldLink RX1 23 "SerialPort$LineIn" "high" "Z", .methodLink RX1 20 yX5_clear, .instanceMethod yX5_clear, .selects RX5 yX5_clear yX5_clear, .initialized RX5, .code yX5_clear cX5_clear 1 none, .fieldLink RX5 19 "SerialPort$Ring" "head" "I", .fieldLink RX5 23 "SerialPort$Ring" "size" "I"] ++ wsX10 ++ wsX50)
def wsX5_size : List Cond := .code yX5_size cX5_size 1 (some .int) :: ([.fieldLink RX5 23 "SerialPort$Ring" "size" "I"] ++ wsX50)
def wsX1_pieces : List Cond := .code yX1_pieces cX1_pieces 1 (some .int) :: ([.fieldLink RX1 14 "SerialPort$LineIn" "wave" "LSerialPort$Ring;", .methodLink RX1 27 yX5_size, .instanceMethod yX5_size, .selects RX5 yX5_size yX5_size, .initialized RX5, .code yX5_size cX5_size 1 (some .int), .fieldLink RX5 23 "SerialPort$Ring" "size" "I"] ++ wsX10 ++ wsX50)
def wsX5_room : List Cond := .code yX5_room cX5_room 1 (some .int) :: ([.fieldLink RX5 13 "SerialPort$Ring" "cells" "[I", .fieldLink RX5 23 "SerialPort$Ring" "size" "I"] ++ wsX50)
def wsX1_room : List Cond := .code yX1_room cX1_room 1 (some .int) :: ([.fieldLink RX1 14 "SerialPort$LineIn" "wave" "LSerialPort$Ring;", .methodLink RX1 31 yX5_room, .instanceMethod yX5_room, .selects RX5 yX5_room yX5_room, .initialized RX5, .code yX5_room cX5_room 1 (some .int), .fieldLink RX5 13 "SerialPort$Ring" "cells" "[I", .fieldLink RX5 23 "SerialPort$Ring" "size" "I"] ++ wsX10 ++ wsX50)
def wsX5_cellOf : List Cond := .code yX5_cellOf cX5_cellOf 3 (some .int) :: ([.fieldLink RX5 19 "SerialPort$Ring" "head" "I", .fieldLink RX5 13 "SerialPort$Ring" "cells" "[I"] ++ wsX50)
def wsX5_setAt : List Cond := .code yX5_setAt cX5_setAt 4 none :: ([.fieldLink RX5 23 "SerialPort$Ring" "size" "I", .fieldLink RX5 13 "SerialPort$Ring" "cells" "[I", .methodLink RX5 26 yX5_cellOf, .instanceMethod yX5_cellOf, .selects RX5 yX5_cellOf yX5_cellOf, .initialized RX5, .code yX5_cellOf cX5_cellOf 3 (some .int), .fieldLink RX5 19 "SerialPort$Ring" "head" "I"] ++ wsX50)
def wsX5_add : List Cond := .code yX5_add cX5_add 2 none :: ([.fieldLink RX5 23 "SerialPort$Ring" "size" "I", .fieldLink RX5 13 "SerialPort$Ring" "cells" "[I", .methodLink RX5 33 yX5_setAt, .instanceMethod yX5_setAt, .selects RX5 yX5_setAt yX5_setAt, .initialized RX5, .code yX5_setAt cX5_setAt 4 none, .methodLink RX5 26 yX5_cellOf, .instanceMethod yX5_cellOf, .selects RX5 yX5_cellOf yX5_cellOf, .code yX5_cellOf cX5_cellOf 3 (some .int), .fieldLink RX5 19 "SerialPort$Ring" "head" "I"] ++ wsX50)
def wsX1_append : List Cond := .code yX1_append cX1_append 3 none :: ([.fieldLink RX1 14 "SerialPort$LineIn" "wave" "LSerialPort$Ring;", .methodLink RX1 34 yX5_add, .instanceMethod yX5_add, .selects RX5 yX5_add yX5_add, .initialized RX5, .code yX5_add cX5_add 2 none, .fieldLink RX5 23 "SerialPort$Ring" "size" "I", .fieldLink RX5 13 "SerialPort$Ring" "cells" "[I", .methodLink RX5 33 yX5_setAt, .instanceMethod yX5_setAt, .selects RX5 yX5_setAt yX5_setAt, .code yX5_setAt cX5_setAt 4 none, .methodLink RX5 26 yX5_cellOf, .instanceMethod yX5_cellOf, .selects RX5 yX5_cellOf yX5_cellOf, .code yX5_cellOf cX5_cellOf 3 (some .int), .fieldLink RX5 19 "SerialPort$Ring" "head" "I"] ++ wsX10 ++ wsX50)
def wsX5_isEmpty : List Cond := .code yX5_isEmpty cX5_isEmpty 1 (some .boolean) :: ([.fieldLink RX5 23 "SerialPort$Ring" "size" "I"] ++ wsX50)
def wsX5_at : List Cond := .code yX5_at cX5_at 3 (some .int) :: ([.fieldLink RX5 23 "SerialPort$Ring" "size" "I", .fieldLink RX5 13 "SerialPort$Ring" "cells" "[I", .methodLink RX5 26 yX5_cellOf, .instanceMethod yX5_cellOf, .selects RX5 yX5_cellOf yX5_cellOf, .initialized RX5, .code yX5_cellOf cX5_cellOf 3 (some .int), .fieldLink RX5 19 "SerialPort$Ring" "head" "I"] ++ wsX50)
def wsX5_first : List Cond := .code yX5_first cX5_first 1 (some .int) :: ([.methodLink RX5 30 yX5_at, .instanceMethod yX5_at, .selects RX5 yX5_at yX5_at, .initialized RX5, .code yX5_at cX5_at 3 (some .int), .fieldLink RX5 23 "SerialPort$Ring" "size" "I", .fieldLink RX5 13 "SerialPort$Ring" "cells" "[I", .methodLink RX5 26 yX5_cellOf, .instanceMethod yX5_cellOf, .selects RX5 yX5_cellOf yX5_cellOf, .code yX5_cellOf cX5_cellOf 3 (some .int), .fieldLink RX5 19 "SerialPort$Ring" "head" "I"] ++ wsX50)
def wsX5_setFirst : List Cond := .code yX5_setFirst cX5_setFirst 2 none :: ([.methodLink RX5 33 yX5_setAt, .instanceMethod yX5_setAt, .selects RX5 yX5_setAt yX5_setAt, .initialized RX5, .code yX5_setAt cX5_setAt 4 none, .fieldLink RX5 23 "SerialPort$Ring" "size" "I", .fieldLink RX5 13 "SerialPort$Ring" "cells" "[I", .methodLink RX5 26 yX5_cellOf, .instanceMethod yX5_cellOf, .selects RX5 yX5_cellOf yX5_cellOf, .code yX5_cellOf cX5_cellOf 3 (some .int), .fieldLink RX5 19 "SerialPort$Ring" "head" "I"] ++ wsX50)
def wsX5_dropFirst : List Cond := .code yX5_dropFirst cX5_dropFirst 1 none :: ([.fieldLink RX5 23 "SerialPort$Ring" "size" "I", .fieldLink RX5 19 "SerialPort$Ring" "head" "I", .methodLink RX5 26 yX5_cellOf, .instanceMethod yX5_cellOf, .selects RX5 yX5_cellOf yX5_cellOf, .initialized RX5, .code yX5_cellOf cX5_cellOf 3 (some .int), .fieldLink RX5 13 "SerialPort$Ring" "cells" "[I"] ++ wsX50)
def wsX1_next_r1 : List Cond := [Cond.fieldLink RX1 14 "SerialPort$LineIn" "wave" "LSerialPort$Ring;", Cond.fieldLink RX1 23 "SerialPort$LineIn" "high" "Z", Cond.methodLink RX1 37 yX5_isEmpty, Cond.instanceMethod yX5_isEmpty, Cond.selects RX5 yX5_isEmpty yX5_isEmpty, Cond.initialized RX5, Cond.code yX5_isEmpty cX5_isEmpty 1 (some .boolean), Cond.fieldLink RX5 23 "SerialPort$Ring" "size" "I", Cond.methodLink RX1 41 yX5_first, Cond.instanceMethod yX5_first, Cond.selects RX5 yX5_first yX5_first, Cond.code yX5_first cX5_first 1 (some .int), Cond.methodLink RX5 30 yX5_at, Cond.instanceMethod yX5_at, Cond.selects RX5 yX5_at yX5_at, Cond.code yX5_at cX5_at 3 (some .int), Cond.fieldLink RX5 13 "SerialPort$Ring" "cells" "[I", Cond.methodLink RX5 26 yX5_cellOf, Cond.instanceMethod yX5_cellOf, Cond.selects RX5 yX5_cellOf yX5_cellOf, Cond.code yX5_cellOf cX5_cellOf 3 (some .int), Cond.fieldLink RX5 19 "SerialPort$Ring" "head" "I", Cond.methodLink RX1 44 yX5_setFirst, Cond.instanceMethod yX5_setFirst]
def wsX1_next_r2 : List Cond := [Cond.selects RX5 yX5_setFirst yX5_setFirst, Cond.code yX5_setFirst cX5_setFirst 2 none, Cond.methodLink RX5 33 yX5_setAt, Cond.instanceMethod yX5_setAt, Cond.selects RX5 yX5_setAt yX5_setAt, Cond.code yX5_setAt cX5_setAt 4 none, Cond.methodLink RX1 47 yX5_dropFirst, Cond.instanceMethod yX5_dropFirst, Cond.selects RX5 yX5_dropFirst yX5_dropFirst, Cond.code yX5_dropFirst cX5_dropFirst 1 none]
def wsX1_next : List Cond := .code yX1_next cX1_next 2 (some .boolean) :: ((wsX1_next_r1 ++ wsX1_next_r2) ++ wsX10 ++ wsX50)
def wsX2_init : List Cond := .code yX2_init cX2_init 1 none :: ([.methodLink RX2 3 objectInit, .instanceMethod objectInit, .code objectInit ⟨#[0xb1]⟩ 1 none, .classLink RX2 9 RX5, .instantiable RX5 3, .initialized RX5, .fieldLink RX2 14 "SerialPort$LineOut" "runs" "LSerialPort$Ring;", .methodLink RX2 11 yX5_init, .instanceMethod yX5_init, .code yX5_init cX5_init 2 none, .methodLink RX5 1 objectInit, .methodLink RX5 7 Lib.Math.max.name, .static Lib.Math.max.name, .initialized "java/lang/Math", .code Lib.Math.max.name Lib.Math.max.code 2 (some .int), .arrayClass .int, .fieldLink RX5 13 "SerialPort$Ring" "cells" "[I", .fieldLink RX5 19 "SerialPort$Ring" "head" "I", .fieldLink RX5 23 "SerialPort$Ring" "size" "I"] ++ wsX50 ++ wsX20)
def wsX2_clear : List Cond := .code yX2_clear cX2_clear 1 none :: ([.fieldLink RX2 14 "SerialPort$LineOut" "runs" "LSerialPort$Ring;", .fieldLink RX2 23 "SerialPort$LineOut" "inAll" "I", .methodLink RX2 20 yX5_clear, .instanceMethod yX5_clear, .selects RX5 yX5_clear yX5_clear, .initialized RX5, .code yX5_clear cX5_clear 1 none, .fieldLink RX5 19 "SerialPort$Ring" "head" "I", .fieldLink RX5 23 "SerialPort$Ring" "size" "I"] ++ wsX20 ++ wsX50)
def wsX2_fromEnd : List Cond := .code yX2_fromEnd cX2_fromEnd 2 (some .int) :: ([.fieldLink RX2 14 "SerialPort$LineOut" "runs" "LSerialPort$Ring;", .methodLink RX2 35 yX5_size, .instanceMethod yX5_size, .selects RX5 yX5_size yX5_size, .initialized RX5, .code yX5_size cX5_size 1 (some .int), .fieldLink RX5 23 "SerialPort$Ring" "size" "I", .methodLink RX2 56 yX5_at, .instanceMethod yX5_at, .selects RX5 yX5_at yX5_at, .code yX5_at cX5_at 3 (some .int), .fieldLink RX5 13 "SerialPort$Ring" "cells" "[I", .methodLink RX5 26 yX5_cellOf, .instanceMethod yX5_cellOf, .selects RX5 yX5_cellOf yX5_cellOf, .code yX5_cellOf cX5_cellOf 3 (some .int), .fieldLink RX5 19 "SerialPort$Ring" "head" "I"] ++ wsX20 ++ wsX50)
def wsX2_runIsHigh : List Cond := .code yX2_runIsHigh cX2_runIsHigh 2 (some .boolean) :: ([.methodLink RX2 39 yX2_fromEnd, .instanceMethod yX2_fromEnd, .selects RX2 yX2_fromEnd yX2_fromEnd, .initialized RX2, .code yX2_fromEnd cX2_fromEnd 2 (some .int), .fieldLink RX2 14 "SerialPort$LineOut" "runs" "LSerialPort$Ring;", .methodLink RX2 35 yX5_size, .instanceMethod yX5_size, .selects RX5 yX5_size yX5_size, .initialized RX5, .code yX5_size cX5_size 1 (some .int), .fieldLink RX5 23 "SerialPort$Ring" "size" "I", .methodLink RX2 56 yX5_at, .instanceMethod yX5_at, .selects RX5 yX5_at yX5_at, .code yX5_at cX5_at 3 (some .int), .fieldLink RX5 13 "SerialPort$Ring" "cells" "[I", .methodLink RX5 26 yX5_cellOf, .instanceMethod yX5_cellOf, .selects RX5 yX5_cellOf yX5_cellOf, .code yX5_cellOf cX5_cellOf 3 (some .int), .fieldLink RX5 19 "SerialPort$Ring" "head" "I"] ++ wsX20 ++ wsX50)
def wsX2_isHigh_r1 : List Cond := [Cond.fieldLink RX2 14 "SerialPort$LineOut" "runs" "LSerialPort$Ring;", Cond.methodLink RX2 27 yX5_isEmpty, Cond.instanceMethod yX5_isEmpty, Cond.selects RX5 yX5_isEmpty yX5_isEmpty, Cond.initialized RX5, Cond.code yX5_isEmpty cX5_isEmpty 1 (some .boolean), Cond.fieldLink RX5 23 "SerialPort$Ring" "size" "I", Cond.methodLink RX2 31 yX2_runIsHigh, Cond.instanceMethod yX2_runIsHigh, Cond.selects RX2 yX2_runIsHigh yX2_runIsHigh, Cond.initialized RX2, Cond.code yX2_runIsHigh cX2_runIsHigh 2 (some .boolean), Cond.methodLink RX2 39 yX2_fromEnd, Cond.instanceMethod yX2_fromEnd, Cond.selects RX2 yX2_fromEnd yX2_fromEnd, Cond.code yX2_fromEnd cX2_fromEnd 2 (some .int), Cond.methodLink RX2 35 yX5_size, Cond.instanceMethod yX5_size, Cond.selects RX5 yX5_size yX5_size, Cond.code yX5_size cX5_size 1 (some .int), Cond.methodLink RX2 56 yX5_at, Cond.instanceMethod yX5_at, Cond.selects RX5 yX5_at yX5_at, Cond.code yX5_at cX5_at 3 (some .int)]
def wsX2_isHigh_r2 : List Cond := [Cond.fieldLink RX5 13 "SerialPort$Ring" "cells" "[I", Cond.methodLink RX5 26 yX5_cellOf, Cond.instanceMethod yX5_cellOf, Cond.selects RX5 yX5_cellOf yX5_cellOf, Cond.code yX5_cellOf cX5_cellOf 3 (some .int), Cond.fieldLink RX5 19 "SerialPort$Ring" "head" "I"]
def wsX2_isHigh : List Cond := .code yX2_isHigh cX2_isHigh 1 (some .boolean) :: ((wsX2_isHigh_r1 ++ wsX2_isHigh_r2) ++ wsX20 ++ wsX50)
def wsX2_runsInAll : List Cond := .code yX2_runsInAll cX2_runsInAll 1 (some .int) :: ([.fieldLink RX2 23 "SerialPort$LineOut" "inAll" "I"] ++ wsX20)
def wsX2_runsKept : List Cond := .code yX2_runsKept cX2_runsKept 1 (some .int) :: ([.fieldLink RX2 14 "SerialPort$LineOut" "runs" "LSerialPort$Ring;", .methodLink RX2 35 yX5_size, .instanceMethod yX5_size, .selects RX5 yX5_size yX5_size, .initialized RX5, .code yX5_size cX5_size 1 (some .int), .fieldLink RX5 23 "SerialPort$Ring" "size" "I"] ++ wsX20 ++ wsX50)
def wsX2_runBeats : List Cond := .code yX2_runBeats cX2_runBeats 2 (some .int) :: ([.methodLink RX2 39 yX2_fromEnd, .instanceMethod yX2_fromEnd, .selects RX2 yX2_fromEnd yX2_fromEnd, .initialized RX2, .code yX2_fromEnd cX2_fromEnd 2 (some .int), .fieldLink RX2 14 "SerialPort$LineOut" "runs" "LSerialPort$Ring;", .methodLink RX2 35 yX5_size, .instanceMethod yX5_size, .selects RX5 yX5_size yX5_size, .initialized RX5, .code yX5_size cX5_size 1 (some .int), .fieldLink RX5 23 "SerialPort$Ring" "size" "I", .methodLink RX2 56 yX5_at, .instanceMethod yX5_at, .selects RX5 yX5_at yX5_at, .code yX5_at cX5_at 3 (some .int), .fieldLink RX5 13 "SerialPort$Ring" "cells" "[I", .methodLink RX5 26 yX5_cellOf, .instanceMethod yX5_cellOf, .selects RX5 yX5_cellOf yX5_cellOf, .code yX5_cellOf cX5_cellOf 3 (some .int), .fieldLink RX5 19 "SerialPort$Ring" "head" "I"] ++ wsX20 ++ wsX50)
def wsX2_append_r1 : List Cond := [Cond.fieldLink RX2 14 "SerialPort$LineOut" "runs" "LSerialPort$Ring;", Cond.fieldLink RX2 23 "SerialPort$LineOut" "inAll" "I", Cond.methodLink RX2 27 yX5_isEmpty, Cond.instanceMethod yX5_isEmpty, Cond.selects RX5 yX5_isEmpty yX5_isEmpty, Cond.initialized RX5, Cond.code yX5_isEmpty cX5_isEmpty 1 (some .boolean), Cond.fieldLink RX5 23 "SerialPort$Ring" "size" "I", Cond.methodLink RX2 31 yX2_runIsHigh, Cond.instanceMethod yX2_runIsHigh, Cond.selects RX2 yX2_runIsHigh yX2_runIsHigh, Cond.initialized RX2, Cond.code yX2_runIsHigh cX2_runIsHigh 2 (some .boolean), Cond.methodLink RX2 39 yX2_fromEnd, Cond.instanceMethod yX2_fromEnd, Cond.selects RX2 yX2_fromEnd yX2_fromEnd, Cond.code yX2_fromEnd cX2_fromEnd 2 (some .int), Cond.methodLink RX2 35 yX5_size, Cond.instanceMethod yX5_size, Cond.selects RX5 yX5_size yX5_size, Cond.code yX5_size cX5_size 1 (some .int), Cond.methodLink RX2 56 yX5_at, Cond.instanceMethod yX5_at, Cond.selects RX5 yX5_at yX5_at]
def wsX2_append_r2 : List Cond := [Cond.code yX5_at cX5_at 3 (some .int), Cond.fieldLink RX5 13 "SerialPort$Ring" "cells" "[I", Cond.methodLink RX5 26 yX5_cellOf, Cond.instanceMethod yX5_cellOf, Cond.selects RX5 yX5_cellOf yX5_cellOf, Cond.code yX5_cellOf cX5_cellOf 3 (some .int), Cond.fieldLink RX5 19 "SerialPort$Ring" "head" "I", Cond.methodLink RX2 43 yX5_setAt, Cond.instanceMethod yX5_setAt, Cond.selects RX5 yX5_setAt yX5_setAt, Cond.code yX5_setAt cX5_setAt 4 none, Cond.methodLink RX2 47 yX5_room, Cond.instanceMethod yX5_room, Cond.selects RX5 yX5_room yX5_room, Cond.code yX5_room cX5_room 1 (some .int), Cond.methodLink RX2 50 yX5_dropFirst, Cond.instanceMethod yX5_dropFirst, Cond.selects RX5 yX5_dropFirst yX5_dropFirst, Cond.code yX5_dropFirst cX5_dropFirst 1 none, Cond.methodLink RX2 53 yX5_add, Cond.instanceMethod yX5_add, Cond.selects RX5 yX5_add yX5_add, Cond.code yX5_add cX5_add 2 none, Cond.methodLink RX5 33 yX5_setAt]
def wsX2_append : List Cond := .code yX2_append cX2_append 2 none :: ((wsX2_append_r1 ++ wsX2_append_r2) ++ wsX20 ++ wsX50)
def wsX3_init : List Cond := .code yX3_init cX3_init 1 none :: ([.methodLink RX3 1 objectInit, .instanceMethod objectInit, .code objectInit ⟨#[0xb1]⟩ 1 none])
def wsX3_clear : List Cond := .code yX3_clear cX3_clear 1 none :: ([.fieldLink RX3 7 "SerialPort$Modem" "outputs" "I", .fieldLink RX3 13 "SerialPort$Modem" "pins" "I", .fieldLink RX3 16 "SerialPort$Modem" "state" "I", .fieldLink RX3 19 "SerialPort$Modem" "changes" "I"] ++ wsX30)
def wsX3_outputs : List Cond := .code yX3_outputs cX3_outputs 1 (some .int) :: ([.fieldLink RX3 7 "SerialPort$Modem" "outputs" "I"] ++ wsX30)
def wsX3_loops : List Cond := .code yX3_loops cX3_loops 1 (some .boolean) :: ([.fieldLink RX3 7 "SerialPort$Modem" "outputs" "I"] ++ wsX30)
def wsX3_hasChanged : List Cond := .code yX3_hasChanged cX3_hasChanged 1 (some .boolean) :: ([.fieldLink RX3 19 "SerialPort$Modem" "changes" "I"] ++ wsX30)
def wsX3_looped : List Cond := .code yX3_looped cX3_looped 1 (some .int) :: ([.fieldLink RX3 7 "SerialPort$Modem" "outputs" "I"] ++ wsX30)
def wsX3_follow : List Cond := .code yX3_follow cX3_follow 3 none :: ([.fieldLink RX3 13 "SerialPort$Modem" "pins" "I", .fieldLink RX3 16 "SerialPort$Modem" "state" "I", .fieldLink RX3 19 "SerialPort$Modem" "changes" "I", .methodLink RX3 25 yX3_loops, .instanceMethod yX3_loops, .selects RX3 yX3_loops yX3_loops, .initialized RX3, .code yX3_loops cX3_loops 1 (some .boolean), .fieldLink RX3 7 "SerialPort$Modem" "outputs" "I", .methodLink RX3 29 yX3_looped, .instanceMethod yX3_looped, .selects RX3 yX3_looped yX3_looped, .code yX3_looped cX3_looped 1 (some .int)] ++ wsX30)
def wsX3_putOutputs : List Cond := .code yX3_putOutputs cX3_putOutputs 2 none :: ([.fieldLink RX3 7 "SerialPort$Modem" "outputs" "I", .methodLink RX3 22 yX3_follow, .instanceMethod yX3_follow, .selects RX3 yX3_follow yX3_follow, .initialized RX3, .code yX3_follow cX3_follow 3 none, .fieldLink RX3 13 "SerialPort$Modem" "pins" "I", .fieldLink RX3 16 "SerialPort$Modem" "state" "I", .fieldLink RX3 19 "SerialPort$Modem" "changes" "I", .methodLink RX3 25 yX3_loops, .instanceMethod yX3_loops, .selects RX3 yX3_loops yX3_loops, .code yX3_loops cX3_loops 1 (some .boolean), .methodLink RX3 29 yX3_looped, .instanceMethod yX3_looped, .selects RX3 yX3_looped yX3_looped, .code yX3_looped cX3_looped 1 (some .int)] ++ wsX30)
def wsX3_putPins : List Cond := .code yX3_putPins cX3_putPins 2 none :: ([.fieldLink RX3 13 "SerialPort$Modem" "pins" "I", .methodLink RX3 22 yX3_follow, .instanceMethod yX3_follow, .selects RX3 yX3_follow yX3_follow, .initialized RX3, .code yX3_follow cX3_follow 3 none, .fieldLink RX3 16 "SerialPort$Modem" "state" "I", .fieldLink RX3 19 "SerialPort$Modem" "changes" "I", .methodLink RX3 25 yX3_loops, .instanceMethod yX3_loops, .selects RX3 yX3_loops yX3_loops, .code yX3_loops cX3_loops 1 (some .boolean), .fieldLink RX3 7 "SerialPort$Modem" "outputs" "I", .methodLink RX3 29 yX3_looped, .instanceMethod yX3_looped, .selects RX3 yX3_looped yX3_looped, .code yX3_looped cX3_looped 1 (some .int)] ++ wsX30)
def wsX3_tellState : List Cond := .code yX3_tellState cX3_tellState 2 (some .int) :: ([.fieldLink RX3 16 "SerialPort$Modem" "state" "I", .fieldLink RX3 19 "SerialPort$Modem" "changes" "I"] ++ wsX30)
def wsX4_init : List Cond := .code yX4_init cX4_init 1 none :: ([.methodLink RX4 3 objectInit, .instanceMethod objectInit, .code objectInit ⟨#[0xb1]⟩ 1 none])
def wsX4_begin : List Cond := .code yX4_begin cX4_begin 2 none :: ([.fieldLink RX4 37 "SerialPort$Receiver" "control" "I", .fieldLink RX4 40 "SerialPort$Receiver" "character" "I", .fieldLink RX4 26 "SerialPort$Receiver" "beat" "I", .fieldLink RX4 15 "SerialPort$Receiver" "busy" "Z", .fieldLink RX4 19 "SerialPort$Receiver" "wasHigh" "Z", .fieldLink RX4 43 "SerialPort$Receiver" "parityHigh" "Z", .fieldLink RX4 46 "SerialPort$Receiver" "someHigh" "Z"] ++ wsX40)
def wsX4_clear : List Cond := .code yX4_clear cX4_clear 1 none :: ([.fieldLink RX4 15 "SerialPort$Receiver" "busy" "Z", .fieldLink RX4 19 "SerialPort$Receiver" "wasHigh" "Z", .methodLink RX4 9 yX4_begin, .instanceMethod yX4_begin, .selects RX4 yX4_begin yX4_begin, .initialized RX4, .code yX4_begin cX4_begin 2 none, .fieldLink RX4 37 "SerialPort$Receiver" "control" "I", .fieldLink RX4 40 "SerialPort$Receiver" "character" "I", .fieldLink RX4 26 "SerialPort$Receiver" "beat" "I", .fieldLink RX4 43 "SerialPort$Receiver" "parityHigh" "Z", .fieldLink RX4 46 "SerialPort$Receiver" "someHigh" "Z"] ++ wsX40)
def wsX4_isBusy : List Cond := .code yX4_isBusy cX4_isBusy 1 (some .boolean) :: ([.fieldLink RX4 15 "SerialPort$Receiver" "busy" "Z"] ++ wsX40)
def wsX4_listen : List Cond := .code yX4_listen cX4_listen 3 none :: ([.fieldLink RX4 19 "SerialPort$Receiver" "wasHigh" "Z", .methodLink RX4 9 yX4_begin, .instanceMethod yX4_begin, .selects RX4 yX4_begin yX4_begin, .initialized RX4, .code yX4_begin cX4_begin 2 none, .fieldLink RX4 37 "SerialPort$Receiver" "control" "I", .fieldLink RX4 40 "SerialPort$Receiver" "character" "I", .fieldLink RX4 26 "SerialPort$Receiver" "beat" "I", .fieldLink RX4 15 "SerialPort$Receiver" "busy" "Z", .fieldLink RX4 43 "SerialPort$Receiver" "parityHigh" "Z", .fieldLink RX4 46 "SerialPort$Receiver" "someHigh" "Z"] ++ wsX40)
def wsX4_becomeIdle : List Cond := .code yX4_becomeIdle cX4_becomeIdle 2 none :: ([.fieldLink RX4 15 "SerialPort$Receiver" "busy" "Z", .fieldLink RX4 19 "SerialPort$Receiver" "wasHigh" "Z"] ++ wsX40)
def wsX4_seeStart : List Cond := .code yX4_seeStart cX4_seeStart 2 (some .int) :: ([.methodLink RX4 49 yX4_becomeIdle, .instanceMethod yX4_becomeIdle, .selects RX4 yX4_becomeIdle yX4_becomeIdle, .initialized RX4, .code yX4_becomeIdle cX4_becomeIdle 2 none, .fieldLink RX4 15 "SerialPort$Receiver" "busy" "Z", .fieldLink RX4 19 "SerialPort$Receiver" "wasHigh" "Z"] ++ wsX40)
def wsX7_dataBits : List Cond := .code yX7_dataBits cX7_dataBits 1 (some .int) :: ([])
def wsX7_hasParity : List Cond := .code yX7_hasParity cX7_hasParity 1 (some .boolean) :: ([])
def wsJ6_bitCount_0f7a4 : List Cond := .code yJ6_bitCount_0f7a4 cJ6_bitCount_0f7a4 1 (some .int) :: ([.constant RJ6 265 (1431655765), .constant RJ6 266 (858993459), .constant RJ6 267 (252645135)])
def wsX7_parityIsHigh : List Cond := .code yX7_parityIsHigh cX7_parityIsHigh 5 (some .boolean) :: ([.methodLink RX7 11 yX7_dataBits, .static yX7_dataBits, .initialized RX7, .code yX7_dataBits cX7_dataBits 1 (some .int), .methodLink RX7 25 yJ6_bitCount_0f7a4, .static yJ6_bitCount_0f7a4, .initialized RJ6, .code yJ6_bitCount_0f7a4 cJ6_bitCount_0f7a4 1 (some .int), .constant RJ6 265 (1431655765), .constant RJ6 266 (858993459), .constant RJ6 267 (252645135)])
def wsX4_faults : List Cond := .code yX4_faults cX4_faults 3 (some .int) :: ([.fieldLink RX4 46 "SerialPort$Receiver" "someHigh" "Z", .fieldLink RX4 37 "SerialPort$Receiver" "control" "I", .fieldLink RX4 43 "SerialPort$Receiver" "parityHigh" "Z", .fieldLink RX4 40 "SerialPort$Receiver" "character" "I", .methodLink RX4 59 yX7_hasParity, .static yX7_hasParity, .initialized RX7, .code yX7_hasParity cX7_hasParity 1 (some .boolean), .methodLink RX4 66 yX7_parityIsHigh, .static yX7_parityIsHigh, .code yX7_parityIsHigh cX7_parityIsHigh 5 (some .boolean), .methodLink RX7 11 yX7_dataBits, .static yX7_dataBits, .code yX7_dataBits cX7_dataBits 1 (some .int), .methodLink RX7 25 yJ6_bitCount_0f7a4, .static yJ6_bitCount_0f7a4, .initialized RJ6, .code yJ6_bitCount_0f7a4 cJ6_bitCount_0f7a4 1 (some .int), .constant RJ6 265 (1431655765), .constant RJ6 266 (858993459), .constant RJ6 267 (252645135)] ++ wsX40)
def wsX4_see_r1 : List Cond := [Cond.fieldLink RX4 26 "SerialPort$Receiver" "beat" "I", Cond.fieldLink RX4 37 "SerialPort$Receiver" "control" "I", Cond.fieldLink RX4 46 "SerialPort$Receiver" "someHigh" "Z", Cond.fieldLink RX4 40 "SerialPort$Receiver" "character" "I", Cond.fieldLink RX4 43 "SerialPort$Receiver" "parityHigh" "Z", Cond.methodLink RX4 53 yX7_dataBits, Cond.static yX7_dataBits, Cond.initialized RX7, Cond.code yX7_dataBits cX7_dataBits 1 (some .int), Cond.methodLink RX4 59 yX7_hasParity, Cond.static yX7_hasParity, Cond.code yX7_hasParity cX7_hasParity 1 (some .boolean), Cond.methodLink RX4 49 yX4_becomeIdle, Cond.instanceMethod yX4_becomeIdle, Cond.selects RX4 yX4_becomeIdle yX4_becomeIdle, Cond.initialized RX4, Cond.code yX4_becomeIdle cX4_becomeIdle 2 none, Cond.fieldLink RX4 15 "SerialPort$Receiver" "busy" "Z", Cond.fieldLink RX4 19 "SerialPort$Receiver" "wasHigh" "Z", Cond.methodLink RX4 63 yX4_faults, Cond.instanceMethod yX4_faults, Cond.selects RX4 yX4_faults yX4_faults, Cond.code yX4_faults cX4_faults 3 (some .int), Cond.methodLink RX4 66 yX7_parityIsHigh]
def wsX4_see_r2 : List Cond := [Cond.static yX7_parityIsHigh, Cond.code yX7_parityIsHigh cX7_parityIsHigh 5 (some .boolean), Cond.methodLink RX7 11 yX7_dataBits, Cond.methodLink RX7 25 yJ6_bitCount_0f7a4, Cond.static yJ6_bitCount_0f7a4, Cond.initialized RJ6, Cond.code yJ6_bitCount_0f7a4 cJ6_bitCount_0f7a4 1 (some .int), Cond.constant RJ6 265 (1431655765), Cond.constant RJ6 266 (858993459), Cond.constant RJ6 267 (252645135)]
def wsX4_see : List Cond := .code yX4_see cX4_see 4 (some .int) :: ((wsX4_see_r1 ++ wsX4_see_r2) ++ wsX40)
def wsX4_step_r1 : List Cond := [Cond.fieldLink RX4 15 "SerialPort$Receiver" "busy" "Z", Cond.fieldLink RX4 26 "SerialPort$Receiver" "beat" "I", Cond.methodLink RX4 22 yX4_listen, Cond.instanceMethod yX4_listen, Cond.selects RX4 yX4_listen yX4_listen, Cond.initialized RX4, Cond.code yX4_listen cX4_listen 3 none, Cond.fieldLink RX4 19 "SerialPort$Receiver" "wasHigh" "Z", Cond.methodLink RX4 9 yX4_begin, Cond.instanceMethod yX4_begin, Cond.selects RX4 yX4_begin yX4_begin, Cond.code yX4_begin cX4_begin 2 none, Cond.fieldLink RX4 37 "SerialPort$Receiver" "control" "I", Cond.fieldLink RX4 40 "SerialPort$Receiver" "character" "I", Cond.fieldLink RX4 43 "SerialPort$Receiver" "parityHigh" "Z", Cond.fieldLink RX4 46 "SerialPort$Receiver" "someHigh" "Z", Cond.methodLink RX4 30 yX4_seeStart, Cond.instanceMethod yX4_seeStart, Cond.selects RX4 yX4_seeStart yX4_seeStart, Cond.code yX4_seeStart cX4_seeStart 2 (some .int), Cond.methodLink RX4 49 yX4_becomeIdle, Cond.instanceMethod yX4_becomeIdle, Cond.selects RX4 yX4_becomeIdle yX4_becomeIdle, Cond.code yX4_becomeIdle cX4_becomeIdle 2 none]
def wsX4_step_r2 : List Cond := [Cond.methodLink RX4 34 yX4_see, Cond.instanceMethod yX4_see, Cond.selects RX4 yX4_see yX4_see, Cond.code yX4_see cX4_see 4 (some .int), Cond.methodLink RX4 53 yX7_dataBits, Cond.static yX7_dataBits, Cond.initialized RX7, Cond.code yX7_dataBits cX7_dataBits 1 (some .int), Cond.methodLink RX4 59 yX7_hasParity, Cond.static yX7_hasParity, Cond.code yX7_hasParity cX7_hasParity 1 (some .boolean), Cond.methodLink RX4 63 yX4_faults, Cond.instanceMethod yX4_faults, Cond.selects RX4 yX4_faults yX4_faults, Cond.code yX4_faults cX4_faults 3 (some .int), Cond.methodLink RX4 66 yX7_parityIsHigh, Cond.static yX7_parityIsHigh, Cond.code yX7_parityIsHigh cX7_parityIsHigh 5 (some .boolean), Cond.methodLink RX7 11 yX7_dataBits, Cond.methodLink RX7 25 yJ6_bitCount_0f7a4, Cond.static yJ6_bitCount_0f7a4, Cond.initialized RJ6, Cond.code yJ6_bitCount_0f7a4 cJ6_bitCount_0f7a4 1 (some .int), Cond.constant RJ6 265 (1431655765)]
def wsX4_step_r3 : List Cond := [Cond.constant RJ6 266 (858993459), Cond.constant RJ6 267 (252645135)]
def wsX4_step : List Cond := .code yX4_step cX4_step 3 (some .int) :: ((wsX4_step_r1 ++ (wsX4_step_r2 ++ wsX4_step_r3)) ++ wsX40)
def wsX6_init : List Cond := .code yX6_init cX6_init 1 none :: ([.methodLink RX6 3 objectInit, .instanceMethod objectInit, .code objectInit ⟨#[0xb1]⟩ 1 none])
def wsX6_clear : List Cond := .code yX6_clear cX6_clear 1 none :: ([.fieldLink RX6 9 "SerialPort$Sender" "control" "I", .fieldLink RX6 15 "SerialPort$Sender" "character" "I", .fieldLink RX6 18 "SerialPort$Sender" "beat" "I", .fieldLink RX6 21 "SerialPort$Sender" "busy" "Z"] ++ wsX60)
def wsX6_isBusy : List Cond := .code yX6_isBusy cX6_isBusy 1 (some .boolean) :: ([.fieldLink RX6 21 "SerialPort$Sender" "busy" "Z"] ++ wsX60)
def wsX6_begin : List Cond := .code yX6_begin cX6_begin 3 none :: ([.fieldLink RX6 9 "SerialPort$Sender" "control" "I", .fieldLink RX6 15 "SerialPort$Sender" "character" "I", .fieldLink RX6 18 "SerialPort$Sender" "beat" "I", .fieldLink RX6 21 "SerialPort$Sender" "busy" "Z"] ++ wsX60)
def wsX7_pieceIsHigh : List Cond := .code yX7_pieceIsHigh cX7_pieceIsHigh 4 (some .boolean) :: ([.methodLink RX7 11 yX7_dataBits, .static yX7_dataBits, .initialized RX7, .code yX7_dataBits cX7_dataBits 1 (some .int), .methodLink RX7 15 yX7_hasParity, .static yX7_hasParity, .code yX7_hasParity cX7_hasParity 1 (some .boolean), .methodLink RX7 30 yX7_parityIsHigh, .static yX7_parityIsHigh, .code yX7_parityIsHigh cX7_parityIsHigh 5 (some .boolean), .methodLink RX7 25 yJ6_bitCount_0f7a4, .static yJ6_bitCount_0f7a4, .initialized RJ6, .code yJ6_bitCount_0f7a4 cJ6_bitCount_0f7a4 1 (some .int), .constant RJ6 265 (1431655765), .constant RJ6 266 (858993459), .constant RJ6 267 (252645135)])
def wsX7_pieces : List Cond := .code yX7_pieces cX7_pieces 1 (some .int) :: ([.methodLink RX7 11 yX7_dataBits, .static yX7_dataBits, .initialized RX7, .code yX7_dataBits cX7_dataBits 1 (some .int), .methodLink RX7 15 yX7_hasParity, .static yX7_hasParity, .code yX7_hasParity cX7_hasParity 1 (some .boolean)])
def wsX7_stopBeats : List Cond := .code yX7_stopBeats cX7_stopBeats 1 (some .int) :: ([.methodLink RX7 11 yX7_dataBits, .static yX7_dataBits, .initialized RX7, .code yX7_dataBits cX7_dataBits 1 (some .int)])
def wsX7_beats : List Cond := .code yX7_beats cX7_beats 1 (some .int) :: ([.methodLink RX7 19 yX7_pieces, .static yX7_pieces, .initialized RX7, .code yX7_pieces cX7_pieces 1 (some .int), .methodLink RX7 11 yX7_dataBits, .static yX7_dataBits, .code yX7_dataBits cX7_dataBits 1 (some .int), .methodLink RX7 15 yX7_hasParity, .static yX7_hasParity, .code yX7_hasParity cX7_hasParity 1 (some .boolean), .methodLink RX7 22 yX7_stopBeats, .static yX7_stopBeats, .code yX7_stopBeats cX7_stopBeats 1 (some .int)])
def wsX6_next_r1 : List Cond := [Cond.fieldLink RX6 21 "SerialPort$Sender" "busy" "Z", Cond.fieldLink RX6 9 "SerialPort$Sender" "control" "I", Cond.fieldLink RX6 15 "SerialPort$Sender" "character" "I", Cond.fieldLink RX6 18 "SerialPort$Sender" "beat" "I", Cond.methodLink RX6 25 yX7_pieceIsHigh, Cond.static yX7_pieceIsHigh, Cond.initialized RX7, Cond.code yX7_pieceIsHigh cX7_pieceIsHigh 4 (some .boolean), Cond.methodLink RX7 11 yX7_dataBits, Cond.static yX7_dataBits, Cond.code yX7_dataBits cX7_dataBits 1 (some .int), Cond.methodLink RX7 15 yX7_hasParity, Cond.static yX7_hasParity, Cond.code yX7_hasParity cX7_hasParity 1 (some .boolean), Cond.methodLink RX7 30 yX7_parityIsHigh, Cond.static yX7_parityIsHigh, Cond.code yX7_parityIsHigh cX7_parityIsHigh 5 (some .boolean), Cond.methodLink RX7 25 yJ6_bitCount_0f7a4, Cond.static yJ6_bitCount_0f7a4, Cond.initialized RJ6, Cond.code yJ6_bitCount_0f7a4 cJ6_bitCount_0f7a4 1 (some .int), Cond.constant RJ6 265 (1431655765), Cond.constant RJ6 266 (858993459), Cond.constant RJ6 267 (252645135)]
def wsX6_next_r2 : List Cond := [Cond.methodLink RX6 31 yX7_beats, Cond.static yX7_beats, Cond.code yX7_beats cX7_beats 1 (some .int), Cond.methodLink RX7 19 yX7_pieces, Cond.static yX7_pieces, Cond.code yX7_pieces cX7_pieces 1 (some .int), Cond.methodLink RX7 22 yX7_stopBeats, Cond.static yX7_stopBeats, Cond.code yX7_stopBeats cX7_stopBeats 1 (some .int)]
def wsX6_next : List Cond := .code yX6_next cX6_next 2 (some .boolean) :: ((wsX6_next_r1 ++ wsX6_next_r2) ++ wsX60)
def wsX7_pieceBeats : List Cond := .code yX7_pieceBeats cX7_pieceBeats 2 (some .int) :: ([.methodLink RX7 19 yX7_pieces, .static yX7_pieces, .initialized RX7, .code yX7_pieces cX7_pieces 1 (some .int), .methodLink RX7 11 yX7_dataBits, .static yX7_dataBits, .code yX7_dataBits cX7_dataBits 1 (some .int), .methodLink RX7 15 yX7_hasParity, .static yX7_hasParity, .code yX7_hasParity cX7_hasParity 1 (some .boolean), .methodLink RX7 22 yX7_stopBeats, .static yX7_stopBeats, .code yX7_stopBeats cX7_stopBeats 1 (some .int)])
def wsX8_powerOn_r1 : List Cond := [Cond.fieldLink RX8 12 "SerialPort" "divider" "LSerialPort$Divider;", Cond.fieldLink RX8 21 "SerialPort" "received" "LSerialPort$Ring;", Cond.fieldLink RX8 25 "SerialPort" "sending" "LSerialPort$Ring;", Cond.fieldLink RX8 31 "SerialPort" "sender" "LSerialPort$Sender;", Cond.fieldLink RX8 38 "SerialPort" "receiver" "LSerialPort$Receiver;", Cond.fieldLink RX8 45 "SerialPort" "modem" "LSerialPort$Modem;", Cond.fieldLink RX8 52 "SerialPort" "lineIn" "LSerialPort$LineIn;", Cond.fieldLink RX8 59 "SerialPort" "lineOut" "LSerialPort$LineOut;", Cond.fieldLink RX8 163 "SerialPort" "wanted" "I", Cond.fieldLink RX8 73 "SerialPort" "lineControl" "I", Cond.fieldLink RX8 166 "SerialPort" "kept" "I", Cond.fieldLink RX8 169 "SerialPort" "level" "I", Cond.fieldLink RX8 172 "SerialPort" "rowsOn" "Z", Cond.fieldLink RX8 176 "SerialPort" "overrun" "Z", Cond.fieldLink RX8 179 "SerialPort" "emptyUp" "Z", Cond.fieldLink RX8 182 "SerialPort" "lateUp" "Z", Cond.fieldLink RX8 127 "SerialPort" "beats" "I", Cond.fieldLink RX8 185 "SerialPort" "quietSince" "I", Cond.methodLink RX8 154 yX0_clear, Cond.instanceMethod yX0_clear, Cond.selects RX0 yX0_clear yX0_clear, Cond.initialized RX0, Cond.code yX0_clear cX0_clear 1 none, Cond.fieldLink RX0 9 "SerialPort$Divider" "divisor" "I"]
def wsX8_powerOn_r2 : List Cond := [Cond.fieldLink RX0 15 "SerialPort$Divider" "passed" "I", Cond.methodLink RX8 157 yX5_clear, Cond.instanceMethod yX5_clear, Cond.selects RX5 yX5_clear yX5_clear, Cond.initialized RX5, Cond.code yX5_clear cX5_clear 1 none, Cond.fieldLink RX5 19 "SerialPort$Ring" "head" "I", Cond.fieldLink RX5 23 "SerialPort$Ring" "size" "I", Cond.methodLink RX8 158 yX6_clear, Cond.instanceMethod yX6_clear, Cond.selects RX6 yX6_clear yX6_clear, Cond.initialized RX6, Cond.code yX6_clear cX6_clear 1 none, Cond.fieldLink RX6 9 "SerialPort$Sender" "control" "I", Cond.fieldLink RX6 15 "SerialPort$Sender" "character" "I", Cond.fieldLink RX6 18 "SerialPort$Sender" "beat" "I", Cond.fieldLink RX6 21 "SerialPort$Sender" "busy" "Z", Cond.methodLink RX8 159 yX4_clear, Cond.instanceMethod yX4_clear, Cond.selects RX4 yX4_clear yX4_clear, Cond.initialized RX4, Cond.code yX4_clear cX4_clear 1 none, Cond.fieldLink RX4 15 "SerialPort$Receiver" "busy" "Z", Cond.fieldLink RX4 19 "SerialPort$Receiver" "wasHigh" "Z"]
def wsX8_powerOn_r3 : List Cond := [Cond.methodLink RX4 9 yX4_begin, Cond.instanceMethod yX4_begin, Cond.selects RX4 yX4_begin yX4_begin, Cond.code yX4_begin cX4_begin 2 none, Cond.fieldLink RX4 37 "SerialPort$Receiver" "control" "I", Cond.fieldLink RX4 40 "SerialPort$Receiver" "character" "I", Cond.fieldLink RX4 26 "SerialPort$Receiver" "beat" "I", Cond.fieldLink RX4 43 "SerialPort$Receiver" "parityHigh" "Z", Cond.fieldLink RX4 46 "SerialPort$Receiver" "someHigh" "Z", Cond.methodLink RX8 160 yX3_clear, Cond.instanceMethod yX3_clear, Cond.selects RX3 yX3_clear yX3_clear, Cond.initialized RX3, Cond.code yX3_clear cX3_clear 1 none, Cond.fieldLink RX3 7 "SerialPort$Modem" "outputs" "I", Cond.fieldLink RX3 13 "SerialPort$Modem" "pins" "I", Cond.fieldLink RX3 16 "SerialPort$Modem" "state" "I", Cond.fieldLink RX3 19 "SerialPort$Modem" "changes" "I", Cond.methodLink RX8 161 yX1_clear, Cond.instanceMethod yX1_clear, Cond.selects RX1 yX1_clear yX1_clear, Cond.initialized RX1, Cond.code yX1_clear cX1_clear 1 none, Cond.fieldLink RX1 14 "SerialPort$LineIn" "wave" "LSerialPort$Ring;"]
def wsX8_powerOn_r4 : List Cond := [Cond.fieldLink RX1 23 "SerialPort$LineIn" "high" "Z", Cond.methodLink RX1 20 yX5_clear, Cond.methodLink RX8 162 yX2_clear, Cond.instanceMethod yX2_clear, Cond.selects RX2 yX2_clear yX2_clear, Cond.initialized RX2, Cond.code yX2_clear cX2_clear 1 none, Cond.fieldLink RX2 14 "SerialPort$LineOut" "runs" "LSerialPort$Ring;", Cond.fieldLink RX2 23 "SerialPort$LineOut" "inAll" "I", Cond.methodLink RX2 20 yX5_clear]
def wsX8_powerOn : List Cond := .code yX8_powerOn cX8_powerOn 1 none :: ((wsX8_powerOn_r1 ++ (wsX8_powerOn_r2 ++ (wsX8_powerOn_r3 ++ wsX8_powerOn_r4))) ++ wsX80 ++ wsX00 ++ wsX50 ++ wsX60 ++ wsX40 ++ wsX30 ++ wsX10 ++ wsX20)
def wsX8_init_r1 : List Cond := [Cond.methodLink RX8 3 objectInit, Cond.instanceMethod objectInit, Cond.code objectInit ⟨#[0xb1]⟩ 1 none, Cond.classLink RX8 9 RX0, Cond.instantiable RX0 2, Cond.initialized RX0, Cond.fieldLink RX8 12 "SerialPort" "divider" "LSerialPort$Divider;", Cond.classLink RX8 16 RX5, Cond.instantiable RX5 3, Cond.initialized RX5, Cond.fieldLink RX8 21 "SerialPort" "received" "LSerialPort$Ring;", Cond.fieldLink RX8 25 "SerialPort" "sending" "LSerialPort$Ring;", Cond.classLink RX8 28 RX6, Cond.instantiable RX6 4, Cond.initialized RX6, Cond.fieldLink RX8 31 "SerialPort" "sender" "LSerialPort$Sender;", Cond.classLink RX8 35 RX4, Cond.instantiable RX4 7, Cond.initialized RX4, Cond.fieldLink RX8 38 "SerialPort" "receiver" "LSerialPort$Receiver;", Cond.classLink RX8 42 RX3, Cond.instantiable RX3 4, Cond.initialized RX3, Cond.fieldLink RX8 45 "SerialPort" "modem" "LSerialPort$Modem;"]
def wsX8_init_r2 : List Cond := [Cond.classLink RX8 49 RX1, Cond.instantiable RX1 2, Cond.initialized RX1, Cond.fieldLink RX8 52 "SerialPort" "lineIn" "LSerialPort$LineIn;", Cond.classLink RX8 56 RX2, Cond.instantiable RX2 2, Cond.initialized RX2, Cond.fieldLink RX8 59 "SerialPort" "lineOut" "LSerialPort$LineOut;", Cond.instanceMethod yX0_init, Cond.code yX0_init cX0_init 1 none, Cond.methodLink RX0 3 objectInit, Cond.methodLink RX8 18 yX5_init, Cond.instanceMethod yX5_init, Cond.code yX5_init cX5_init 2 none, Cond.methodLink RX5 1 objectInit, Cond.methodLink RX5 7 Lib.Math.max.name, Cond.static Lib.Math.max.name, Cond.initialized "java/lang/Math", Cond.code Lib.Math.max.name Lib.Math.max.code 2 (some .int), Cond.arrayClass .int, Cond.fieldLink RX5 13 "SerialPort$Ring" "cells" "[I", Cond.fieldLink RX5 19 "SerialPort$Ring" "head" "I", Cond.fieldLink RX5 23 "SerialPort$Ring" "size" "I", Cond.instanceMethod yX6_init]
def wsX8_init_r3 : List Cond := [Cond.code yX6_init cX6_init 1 none, Cond.methodLink RX6 3 objectInit, Cond.instanceMethod yX4_init, Cond.code yX4_init cX4_init 1 none, Cond.methodLink RX4 3 objectInit, Cond.instanceMethod yX3_init, Cond.code yX3_init cX3_init 1 none, Cond.methodLink RX3 1 objectInit, Cond.instanceMethod yX1_init, Cond.code yX1_init cX1_init 1 none, Cond.methodLink RX1 3 objectInit, Cond.classLink RX1 9 RX5, Cond.fieldLink RX1 14 "SerialPort$LineIn" "wave" "LSerialPort$Ring;", Cond.methodLink RX1 11 yX5_init, Cond.instanceMethod yX2_init, Cond.code yX2_init cX2_init 1 none, Cond.methodLink RX2 3 objectInit, Cond.classLink RX2 9 RX5, Cond.fieldLink RX2 14 "SerialPort$LineOut" "runs" "LSerialPort$Ring;", Cond.methodLink RX2 11 yX5_init, Cond.methodLink RX8 63 yX8_powerOn, Cond.instanceMethod yX8_powerOn, Cond.selects RX8 yX8_powerOn yX8_powerOn, Cond.initialized RX8]
def wsX8_init_r4 : List Cond := [Cond.code yX8_powerOn cX8_powerOn 1 none, Cond.fieldLink RX8 163 "SerialPort" "wanted" "I", Cond.fieldLink RX8 73 "SerialPort" "lineControl" "I", Cond.fieldLink RX8 166 "SerialPort" "kept" "I", Cond.fieldLink RX8 169 "SerialPort" "level" "I", Cond.fieldLink RX8 172 "SerialPort" "rowsOn" "Z", Cond.fieldLink RX8 176 "SerialPort" "overrun" "Z", Cond.fieldLink RX8 179 "SerialPort" "emptyUp" "Z", Cond.fieldLink RX8 182 "SerialPort" "lateUp" "Z", Cond.fieldLink RX8 127 "SerialPort" "beats" "I", Cond.fieldLink RX8 185 "SerialPort" "quietSince" "I", Cond.methodLink RX8 154 yX0_clear, Cond.instanceMethod yX0_clear, Cond.selects RX0 yX0_clear yX0_clear, Cond.code yX0_clear cX0_clear 1 none, Cond.fieldLink RX0 9 "SerialPort$Divider" "divisor" "I", Cond.fieldLink RX0 15 "SerialPort$Divider" "passed" "I", Cond.methodLink RX8 157 yX5_clear, Cond.instanceMethod yX5_clear, Cond.selects RX5 yX5_clear yX5_clear, Cond.code yX5_clear cX5_clear 1 none, Cond.methodLink RX8 158 yX6_clear, Cond.instanceMethod yX6_clear, Cond.selects RX6 yX6_clear yX6_clear]
def wsX8_init_r5 : List Cond := [Cond.code yX6_clear cX6_clear 1 none, Cond.fieldLink RX6 9 "SerialPort$Sender" "control" "I", Cond.fieldLink RX6 15 "SerialPort$Sender" "character" "I", Cond.fieldLink RX6 18 "SerialPort$Sender" "beat" "I", Cond.fieldLink RX6 21 "SerialPort$Sender" "busy" "Z", Cond.methodLink RX8 159 yX4_clear, Cond.instanceMethod yX4_clear, Cond.selects RX4 yX4_clear yX4_clear, Cond.code yX4_clear cX4_clear 1 none, Cond.fieldLink RX4 15 "SerialPort$Receiver" "busy" "Z", Cond.fieldLink RX4 19 "SerialPort$Receiver" "wasHigh" "Z", Cond.methodLink RX4 9 yX4_begin, Cond.instanceMethod yX4_begin, Cond.selects RX4 yX4_begin yX4_begin, Cond.code yX4_begin cX4_begin 2 none, Cond.fieldLink RX4 37 "SerialPort$Receiver" "control" "I", Cond.fieldLink RX4 40 "SerialPort$Receiver" "character" "I", Cond.fieldLink RX4 26 "SerialPort$Receiver" "beat" "I", Cond.fieldLink RX4 43 "SerialPort$Receiver" "parityHigh" "Z", Cond.fieldLink RX4 46 "SerialPort$Receiver" "someHigh" "Z", Cond.methodLink RX8 160 yX3_clear, Cond.instanceMethod yX3_clear, Cond.selects RX3 yX3_clear yX3_clear, Cond.code yX3_clear cX3_clear 1 none]
def wsX8_init_r6 : List Cond := [Cond.fieldLink RX3 7 "SerialPort$Modem" "outputs" "I", Cond.fieldLink RX3 13 "SerialPort$Modem" "pins" "I", Cond.fieldLink RX3 16 "SerialPort$Modem" "state" "I", Cond.fieldLink RX3 19 "SerialPort$Modem" "changes" "I", Cond.methodLink RX8 161 yX1_clear, Cond.instanceMethod yX1_clear, Cond.selects RX1 yX1_clear yX1_clear, Cond.code yX1_clear cX1_clear 1 none, Cond.fieldLink RX1 23 "SerialPort$LineIn" "high" "Z", Cond.methodLink RX1 20 yX5_clear, Cond.methodLink RX8 162 yX2_clear, Cond.instanceMethod yX2_clear, Cond.selects RX2 yX2_clear yX2_clear, Cond.code yX2_clear cX2_clear 1 none, Cond.fieldLink RX2 23 "SerialPort$LineOut" "inAll" "I", Cond.methodLink RX2 20 yX5_clear]
def wsX8_init : List Cond := .code yX8_init cX8_init 1 none :: ((wsX8_init_r1 ++ (wsX8_init_r2 ++ (wsX8_init_r3 ++ (wsX8_init_r4 ++ (wsX8_init_r5 ++ wsX8_init_r6))))) ++ wsX00 ++ wsX80 ++ wsX50 ++ wsX60 ++ wsX40 ++ wsX30 ++ wsX10 ++ wsX20)
def wsX8_rowRoom : List Cond := .code yX8_rowRoom cX8_rowRoom 1 (some .int) :: ([.fieldLink RX8 172 "SerialPort" "rowsOn" "Z"] ++ wsX80)
def wsX8_putCharacter_r1 : List Cond := [Cond.fieldLink RX8 25 "SerialPort" "sending" "LSerialPort$Ring;", Cond.fieldLink RX8 172 "SerialPort" "rowsOn" "Z", Cond.fieldLink RX8 179 "SerialPort" "emptyUp" "Z", Cond.methodLink RX8 124 yX5_size, Cond.instanceMethod yX5_size, Cond.selects RX5 yX5_size yX5_size, Cond.initialized RX5, Cond.code yX5_size cX5_size 1 (some .int), Cond.fieldLink RX5 23 "SerialPort$Ring" "size" "I", Cond.methodLink RX8 215 yX8_rowRoom, Cond.instanceMethod yX8_rowRoom, Cond.selects RX8 yX8_rowRoom yX8_rowRoom, Cond.initialized RX8, Cond.code yX8_rowRoom cX8_rowRoom 1 (some .int), Cond.methodLink RX8 218 yX5_add, Cond.instanceMethod yX5_add, Cond.selects RX5 yX5_add yX5_add, Cond.code yX5_add cX5_add 2 none, Cond.fieldLink RX5 13 "SerialPort$Ring" "cells" "[I", Cond.methodLink RX5 33 yX5_setAt, Cond.instanceMethod yX5_setAt, Cond.selects RX5 yX5_setAt yX5_setAt, Cond.code yX5_setAt cX5_setAt 4 none, Cond.methodLink RX5 26 yX5_cellOf]
def wsX8_putCharacter_r2 : List Cond := [Cond.instanceMethod yX5_cellOf, Cond.selects RX5 yX5_cellOf yX5_cellOf, Cond.code yX5_cellOf cX5_cellOf 3 (some .int), Cond.fieldLink RX5 19 "SerialPort$Ring" "head" "I", Cond.methodLink RX8 221 yX5_setFirst, Cond.instanceMethod yX5_setFirst, Cond.selects RX5 yX5_setFirst yX5_setFirst, Cond.code yX5_setFirst cX5_setFirst 2 none]
def wsX8_putCharacter : List Cond := .code yX8_putCharacter cX8_putCharacter 2 none :: ((wsX8_putCharacter_r1 ++ wsX8_putCharacter_r2) ++ wsX80 ++ wsX50)
def wsX8_putWanted : List Cond := .code yX8_putWanted cX8_putWanted 3 none :: ([.fieldLink RX8 163 "SerialPort" "wanted" "I", .fieldLink RX8 25 "SerialPort" "sending" "LSerialPort$Ring;", .fieldLink RX8 179 "SerialPort" "emptyUp" "Z", .methodLink RX8 230 yX5_isEmpty, .instanceMethod yX5_isEmpty, .selects RX5 yX5_isEmpty yX5_isEmpty, .initialized RX5, .code yX5_isEmpty cX5_isEmpty 1 (some .boolean), .fieldLink RX5 23 "SerialPort$Ring" "size" "I"] ++ wsX80 ++ wsX50)
def wsX8_levelOf : List Cond := .code yX8_levelOf cX8_levelOf 1 (some .int) :: ([])
def wsX8_putRowControl : List Cond := .code yX8_putRowControl cX8_putRowControl 4 none :: ([.fieldLink RX8 172 "SerialPort" "rowsOn" "Z", .fieldLink RX8 21 "SerialPort" "received" "LSerialPort$Ring;", .fieldLink RX8 182 "SerialPort" "lateUp" "Z", .fieldLink RX8 25 "SerialPort" "sending" "LSerialPort$Ring;", .fieldLink RX8 169 "SerialPort" "level" "I", .methodLink RX8 157 yX5_clear, .instanceMethod yX5_clear, .selects RX5 yX5_clear yX5_clear, .initialized RX5, .code yX5_clear cX5_clear 1 none, .fieldLink RX5 19 "SerialPort$Ring" "head" "I", .fieldLink RX5 23 "SerialPort$Ring" "size" "I", .methodLink RX8 233 yX8_levelOf, .static yX8_levelOf, .initialized RX8, .code yX8_levelOf cX8_levelOf 1 (some .int)] ++ wsX80 ++ wsX50)
def wsX8_putRegister_r1 : List Cond := [Cond.fieldLink RX8 73 "SerialPort" "lineControl" "I", Cond.fieldLink RX8 45 "SerialPort" "modem" "LSerialPort$Modem;", Cond.fieldLink RX8 166 "SerialPort" "kept" "I", Cond.methodLink RX8 188 yX8_putCharacter, Cond.instanceMethod yX8_putCharacter, Cond.selects RX8 yX8_putCharacter yX8_putCharacter, Cond.initialized RX8, Cond.code yX8_putCharacter cX8_putCharacter 2 none, Cond.fieldLink RX8 25 "SerialPort" "sending" "LSerialPort$Ring;", Cond.fieldLink RX8 172 "SerialPort" "rowsOn" "Z", Cond.fieldLink RX8 179 "SerialPort" "emptyUp" "Z", Cond.methodLink RX8 124 yX5_size, Cond.instanceMethod yX5_size, Cond.selects RX5 yX5_size yX5_size, Cond.initialized RX5, Cond.code yX5_size cX5_size 1 (some .int), Cond.fieldLink RX5 23 "SerialPort$Ring" "size" "I", Cond.methodLink RX8 215 yX8_rowRoom, Cond.instanceMethod yX8_rowRoom, Cond.selects RX8 yX8_rowRoom yX8_rowRoom, Cond.code yX8_rowRoom cX8_rowRoom 1 (some .int), Cond.methodLink RX8 218 yX5_add, Cond.instanceMethod yX5_add, Cond.selects RX5 yX5_add yX5_add]
def wsX8_putRegister_r2 : List Cond := [Cond.code yX5_add cX5_add 2 none, Cond.fieldLink RX5 13 "SerialPort$Ring" "cells" "[I", Cond.methodLink RX5 33 yX5_setAt, Cond.instanceMethod yX5_setAt, Cond.selects RX5 yX5_setAt yX5_setAt, Cond.code yX5_setAt cX5_setAt 4 none, Cond.methodLink RX5 26 yX5_cellOf, Cond.instanceMethod yX5_cellOf, Cond.selects RX5 yX5_cellOf yX5_cellOf, Cond.code yX5_cellOf cX5_cellOf 3 (some .int), Cond.fieldLink RX5 19 "SerialPort$Ring" "head" "I", Cond.methodLink RX8 221 yX5_setFirst, Cond.instanceMethod yX5_setFirst, Cond.selects RX5 yX5_setFirst yX5_setFirst, Cond.code yX5_setFirst cX5_setFirst 2 none, Cond.methodLink RX8 191 yX8_putWanted, Cond.instanceMethod yX8_putWanted, Cond.selects RX8 yX8_putWanted yX8_putWanted, Cond.code yX8_putWanted cX8_putWanted 3 none, Cond.fieldLink RX8 163 "SerialPort" "wanted" "I", Cond.methodLink RX8 230 yX5_isEmpty, Cond.instanceMethod yX5_isEmpty, Cond.selects RX5 yX5_isEmpty yX5_isEmpty, Cond.code yX5_isEmpty cX5_isEmpty 1 (some .boolean)]
def wsX8_putRegister_r3 : List Cond := [Cond.methodLink RX8 194 yX8_putRowControl, Cond.instanceMethod yX8_putRowControl, Cond.selects RX8 yX8_putRowControl yX8_putRowControl, Cond.code yX8_putRowControl cX8_putRowControl 4 none, Cond.fieldLink RX8 21 "SerialPort" "received" "LSerialPort$Ring;", Cond.fieldLink RX8 182 "SerialPort" "lateUp" "Z", Cond.fieldLink RX8 169 "SerialPort" "level" "I", Cond.methodLink RX8 157 yX5_clear, Cond.instanceMethod yX5_clear, Cond.selects RX5 yX5_clear yX5_clear, Cond.code yX5_clear cX5_clear 1 none, Cond.methodLink RX8 233 yX8_levelOf, Cond.static yX8_levelOf, Cond.code yX8_levelOf cX8_levelOf 1 (some .int), Cond.methodLink RX8 197 yX3_putOutputs, Cond.instanceMethod yX3_putOutputs, Cond.selects RX3 yX3_putOutputs yX3_putOutputs, Cond.initialized RX3, Cond.code yX3_putOutputs cX3_putOutputs 2 none, Cond.fieldLink RX3 7 "SerialPort$Modem" "outputs" "I", Cond.methodLink RX3 22 yX3_follow, Cond.instanceMethod yX3_follow, Cond.selects RX3 yX3_follow yX3_follow, Cond.code yX3_follow cX3_follow 3 none]
def wsX8_putRegister_r4 : List Cond := [Cond.fieldLink RX3 13 "SerialPort$Modem" "pins" "I", Cond.fieldLink RX3 16 "SerialPort$Modem" "state" "I", Cond.fieldLink RX3 19 "SerialPort$Modem" "changes" "I", Cond.methodLink RX3 25 yX3_loops, Cond.instanceMethod yX3_loops, Cond.selects RX3 yX3_loops yX3_loops, Cond.code yX3_loops cX3_loops 1 (some .boolean), Cond.methodLink RX3 29 yX3_looped, Cond.instanceMethod yX3_looped, Cond.selects RX3 yX3_looped yX3_looped, Cond.code yX3_looped cX3_looped 1 (some .int)]
def wsX8_putRegister : List Cond := .code yX8_putRegister cX8_putRegister 3 none :: ((wsX8_putRegister_r1 ++ (wsX8_putRegister_r2 ++ (wsX8_putRegister_r3 ++ wsX8_putRegister_r4))) ++ wsX80 ++ wsX50 ++ wsX30)
def wsX8_write_r1 : List Cond := [Cond.classLink RX8 66 "java/util/NoSuchElementException", Cond.initialized "java/util/NoSuchElementException", Cond.fieldLink RX8 73 "SerialPort" "lineControl" "I", Cond.fieldLink RX8 12 "SerialPort" "divider" "LSerialPort$Divider;", Cond.methodLink RX8 77 yX0_putByte, Cond.instanceMethod yX0_putByte, Cond.selects RX0 yX0_putByte yX0_putByte, Cond.initialized RX0, Cond.code yX0_putByte cX0_putByte 3 none, Cond.fieldLink RX0 9 "SerialPort$Divider" "divisor" "I", Cond.constant RX0 18 (65280), Cond.fieldLink RX0 15 "SerialPort$Divider" "passed" "I", Cond.methodLink RX8 81 yX8_putRegister, Cond.instanceMethod yX8_putRegister, Cond.selects RX8 yX8_putRegister yX8_putRegister, Cond.initialized RX8, Cond.code yX8_putRegister cX8_putRegister 3 none, Cond.fieldLink RX8 45 "SerialPort" "modem" "LSerialPort$Modem;", Cond.fieldLink RX8 166 "SerialPort" "kept" "I", Cond.methodLink RX8 188 yX8_putCharacter, Cond.instanceMethod yX8_putCharacter, Cond.selects RX8 yX8_putCharacter yX8_putCharacter, Cond.code yX8_putCharacter cX8_putCharacter 2 none, Cond.fieldLink RX8 25 "SerialPort" "sending" "LSerialPort$Ring;"]
def wsX8_write_r2 : List Cond := [Cond.fieldLink RX8 172 "SerialPort" "rowsOn" "Z", Cond.fieldLink RX8 179 "SerialPort" "emptyUp" "Z", Cond.methodLink RX8 124 yX5_size, Cond.instanceMethod yX5_size, Cond.selects RX5 yX5_size yX5_size, Cond.initialized RX5, Cond.code yX5_size cX5_size 1 (some .int), Cond.fieldLink RX5 23 "SerialPort$Ring" "size" "I", Cond.methodLink RX8 215 yX8_rowRoom, Cond.instanceMethod yX8_rowRoom, Cond.selects RX8 yX8_rowRoom yX8_rowRoom, Cond.code yX8_rowRoom cX8_rowRoom 1 (some .int), Cond.methodLink RX8 218 yX5_add, Cond.instanceMethod yX5_add, Cond.selects RX5 yX5_add yX5_add, Cond.code yX5_add cX5_add 2 none, Cond.fieldLink RX5 13 "SerialPort$Ring" "cells" "[I", Cond.methodLink RX5 33 yX5_setAt, Cond.instanceMethod yX5_setAt, Cond.selects RX5 yX5_setAt yX5_setAt, Cond.code yX5_setAt cX5_setAt 4 none, Cond.methodLink RX5 26 yX5_cellOf, Cond.instanceMethod yX5_cellOf, Cond.selects RX5 yX5_cellOf yX5_cellOf]
def wsX8_write_r3 : List Cond := [Cond.code yX5_cellOf cX5_cellOf 3 (some .int), Cond.fieldLink RX5 19 "SerialPort$Ring" "head" "I", Cond.methodLink RX8 221 yX5_setFirst, Cond.instanceMethod yX5_setFirst, Cond.selects RX5 yX5_setFirst yX5_setFirst, Cond.code yX5_setFirst cX5_setFirst 2 none, Cond.methodLink RX8 191 yX8_putWanted, Cond.instanceMethod yX8_putWanted, Cond.selects RX8 yX8_putWanted yX8_putWanted, Cond.code yX8_putWanted cX8_putWanted 3 none, Cond.fieldLink RX8 163 "SerialPort" "wanted" "I", Cond.methodLink RX8 230 yX5_isEmpty, Cond.instanceMethod yX5_isEmpty, Cond.selects RX5 yX5_isEmpty yX5_isEmpty, Cond.code yX5_isEmpty cX5_isEmpty 1 (some .boolean), Cond.methodLink RX8 194 yX8_putRowControl, Cond.instanceMethod yX8_putRowControl, Cond.selects RX8 yX8_putRowControl yX8_putRowControl, Cond.code yX8_putRowControl cX8_putRowControl 4 none, Cond.fieldLink RX8 21 "SerialPort" "received" "LSerialPort$Ring;", Cond.fieldLink RX8 182 "SerialPort" "lateUp" "Z", Cond.fieldLink RX8 169 "SerialPort" "level" "I", Cond.methodLink RX8 157 yX5_clear, Cond.instanceMethod yX5_clear]
def wsX8_write_r4 : List Cond := [Cond.selects RX5 yX5_clear yX5_clear, Cond.code yX5_clear cX5_clear 1 none, Cond.methodLink RX8 233 yX8_levelOf, Cond.static yX8_levelOf, Cond.code yX8_levelOf cX8_levelOf 1 (some .int), Cond.methodLink RX8 197 yX3_putOutputs, Cond.instanceMethod yX3_putOutputs, Cond.selects RX3 yX3_putOutputs yX3_putOutputs, Cond.initialized RX3, Cond.code yX3_putOutputs cX3_putOutputs 2 none, Cond.fieldLink RX3 7 "SerialPort$Modem" "outputs" "I", Cond.methodLink RX3 22 yX3_follow, Cond.instanceMethod yX3_follow, Cond.selects RX3 yX3_follow yX3_follow, Cond.code yX3_follow cX3_follow 3 none, Cond.fieldLink RX3 13 "SerialPort$Modem" "pins" "I", Cond.fieldLink RX3 16 "SerialPort$Modem" "state" "I", Cond.fieldLink RX3 19 "SerialPort$Modem" "changes" "I", Cond.methodLink RX3 25 yX3_loops, Cond.instanceMethod yX3_loops, Cond.selects RX3 yX3_loops yX3_loops, Cond.code yX3_loops cX3_loops 1 (some .boolean), Cond.methodLink RX3 29 yX3_looped, Cond.instanceMethod yX3_looped]
def wsX8_write_r5 : List Cond := [Cond.selects RX3 yX3_looped yX3_looped, Cond.code yX3_looped cX3_looped 1 (some .int)]
def wsX8_takeCharacter : List Cond := .code yX8_takeCharacter cX8_takeCharacter 2 (some .int) :: ([.fieldLink RX8 21 "SerialPort" "received" "LSerialPort$Ring;", .fieldLink RX8 182 "SerialPort" "lateUp" "Z", .fieldLink RX8 127 "SerialPort" "beats" "I", .fieldLink RX8 185 "SerialPort" "quietSince" "I", .methodLink RX8 224 yX5_first, .instanceMethod yX5_first, .selects RX5 yX5_first yX5_first, .initialized RX5, .code yX5_first cX5_first 1 (some .int), .methodLink RX5 30 yX5_at, .instanceMethod yX5_at, .selects RX5 yX5_at yX5_at, .code yX5_at cX5_at 3 (some .int), .fieldLink RX5 23 "SerialPort$Ring" "size" "I", .fieldLink RX5 13 "SerialPort$Ring" "cells" "[I", .methodLink RX5 26 yX5_cellOf, .instanceMethod yX5_cellOf, .selects RX5 yX5_cellOf yX5_cellOf, .code yX5_cellOf cX5_cellOf 3 (some .int), .fieldLink RX5 19 "SerialPort$Ring" "head" "I", .methodLink RX8 227 yX5_dropFirst, .instanceMethod yX5_dropFirst, .selects RX5 yX5_dropFirst yX5_dropFirst, .code yX5_dropFirst cX5_dropFirst 1 none] ++ wsX80 ++ wsX50)
def wsX8_wants : List Cond := .code yX8_wants cX8_wants 2 (some .boolean) :: ([.fieldLink RX8 163 "SerialPort" "wanted" "I"] ++ wsX80)
def wsX8_firstFaults : List Cond := .code yX8_firstFaults cX8_firstFaults 1 (some .int) :: ([.fieldLink RX8 21 "SerialPort" "received" "LSerialPort$Ring;", .methodLink RX8 224 yX5_first, .instanceMethod yX5_first, .selects RX5 yX5_first yX5_first, .initialized RX5, .code yX5_first cX5_first 1 (some .int), .methodLink RX5 30 yX5_at, .instanceMethod yX5_at, .selects RX5 yX5_at yX5_at, .code yX5_at cX5_at 3 (some .int), .fieldLink RX5 23 "SerialPort$Ring" "size" "I", .fieldLink RX5 13 "SerialPort$Ring" "cells" "[I", .methodLink RX5 26 yX5_cellOf, .instanceMethod yX5_cellOf, .selects RX5 yX5_cellOf yX5_cellOf, .code yX5_cellOf cX5_cellOf 3 (some .int), .fieldLink RX5 19 "SerialPort$Ring" "head" "I"] ++ wsX80 ++ wsX50)
def wsX8_reason_r1 : List Cond := [Cond.fieldLink RX8 176 "SerialPort" "overrun" "Z", Cond.fieldLink RX8 21 "SerialPort" "received" "LSerialPort$Ring;", Cond.fieldLink RX8 172 "SerialPort" "rowsOn" "Z", Cond.fieldLink RX8 169 "SerialPort" "level" "I", Cond.fieldLink RX8 182 "SerialPort" "lateUp" "Z", Cond.fieldLink RX8 179 "SerialPort" "emptyUp" "Z", Cond.fieldLink RX8 45 "SerialPort" "modem" "LSerialPort$Modem;", Cond.methodLink RX8 245 yX8_wants, Cond.instanceMethod yX8_wants, Cond.selects RX8 yX8_wants yX8_wants, Cond.initialized RX8, Cond.code yX8_wants cX8_wants 2 (some .boolean), Cond.fieldLink RX8 163 "SerialPort" "wanted" "I", Cond.methodLink RX8 239 yX8_firstFaults, Cond.instanceMethod yX8_firstFaults, Cond.selects RX8 yX8_firstFaults yX8_firstFaults, Cond.code yX8_firstFaults cX8_firstFaults 1 (some .int), Cond.methodLink RX8 224 yX5_first, Cond.instanceMethod yX5_first, Cond.selects RX5 yX5_first yX5_first, Cond.initialized RX5, Cond.code yX5_first cX5_first 1 (some .int), Cond.methodLink RX5 30 yX5_at, Cond.instanceMethod yX5_at]
def wsX8_reason_r2 : List Cond := [Cond.selects RX5 yX5_at yX5_at, Cond.code yX5_at cX5_at 3 (some .int), Cond.fieldLink RX5 23 "SerialPort$Ring" "size" "I", Cond.fieldLink RX5 13 "SerialPort$Ring" "cells" "[I", Cond.methodLink RX5 26 yX5_cellOf, Cond.instanceMethod yX5_cellOf, Cond.selects RX5 yX5_cellOf yX5_cellOf, Cond.code yX5_cellOf cX5_cellOf 3 (some .int), Cond.fieldLink RX5 19 "SerialPort$Ring" "head" "I", Cond.methodLink RX8 124 yX5_size, Cond.instanceMethod yX5_size, Cond.selects RX5 yX5_size yX5_size, Cond.code yX5_size cX5_size 1 (some .int), Cond.methodLink RX8 248 yX3_hasChanged, Cond.instanceMethod yX3_hasChanged, Cond.selects RX3 yX3_hasChanged yX3_hasChanged, Cond.initialized RX3, Cond.code yX3_hasChanged cX3_hasChanged 1 (some .boolean), Cond.fieldLink RX3 19 "SerialPort$Modem" "changes" "I"]
def wsX8_reason : List Cond := .code yX8_reason cX8_reason 1 (some .int) :: ((wsX8_reason_r1 ++ wsX8_reason_r2) ++ wsX80 ++ wsX50 ++ wsX30)
def wsX8_tellReason_r1 : List Cond := [Cond.fieldLink RX8 179 "SerialPort" "emptyUp" "Z", Cond.fieldLink RX8 172 "SerialPort" "rowsOn" "Z", Cond.methodLink RX8 130 yX8_reason, Cond.instanceMethod yX8_reason, Cond.selects RX8 yX8_reason yX8_reason, Cond.initialized RX8, Cond.code yX8_reason cX8_reason 1 (some .int), Cond.fieldLink RX8 176 "SerialPort" "overrun" "Z", Cond.fieldLink RX8 21 "SerialPort" "received" "LSerialPort$Ring;", Cond.fieldLink RX8 169 "SerialPort" "level" "I", Cond.fieldLink RX8 182 "SerialPort" "lateUp" "Z", Cond.fieldLink RX8 45 "SerialPort" "modem" "LSerialPort$Modem;", Cond.methodLink RX8 245 yX8_wants, Cond.instanceMethod yX8_wants, Cond.selects RX8 yX8_wants yX8_wants, Cond.code yX8_wants cX8_wants 2 (some .boolean), Cond.fieldLink RX8 163 "SerialPort" "wanted" "I", Cond.methodLink RX8 239 yX8_firstFaults, Cond.instanceMethod yX8_firstFaults, Cond.selects RX8 yX8_firstFaults yX8_firstFaults, Cond.code yX8_firstFaults cX8_firstFaults 1 (some .int), Cond.methodLink RX8 224 yX5_first, Cond.instanceMethod yX5_first, Cond.selects RX5 yX5_first yX5_first]
def wsX8_tellReason_r2 : List Cond := [Cond.initialized RX5, Cond.code yX5_first cX5_first 1 (some .int), Cond.methodLink RX5 30 yX5_at, Cond.instanceMethod yX5_at, Cond.selects RX5 yX5_at yX5_at, Cond.code yX5_at cX5_at 3 (some .int), Cond.fieldLink RX5 23 "SerialPort$Ring" "size" "I", Cond.fieldLink RX5 13 "SerialPort$Ring" "cells" "[I", Cond.methodLink RX5 26 yX5_cellOf, Cond.instanceMethod yX5_cellOf, Cond.selects RX5 yX5_cellOf yX5_cellOf, Cond.code yX5_cellOf cX5_cellOf 3 (some .int), Cond.fieldLink RX5 19 "SerialPort$Ring" "head" "I", Cond.methodLink RX8 124 yX5_size, Cond.instanceMethod yX5_size, Cond.selects RX5 yX5_size yX5_size, Cond.code yX5_size cX5_size 1 (some .int), Cond.methodLink RX8 248 yX3_hasChanged, Cond.instanceMethod yX3_hasChanged, Cond.selects RX3 yX3_hasChanged yX3_hasChanged, Cond.initialized RX3, Cond.code yX3_hasChanged cX3_hasChanged 1 (some .boolean), Cond.fieldLink RX3 19 "SerialPort$Modem" "changes" "I"]
def wsX8_tellReason : List Cond := .code yX8_tellReason cX8_tellReason 2 (some .int) :: ((wsX8_tellReason_r1 ++ wsX8_tellReason_r2) ++ wsX80 ++ wsX50 ++ wsX30)
def wsX8_someFault : List Cond := .code yX8_someFault cX8_someFault 2 (some .boolean) :: ([.fieldLink RX8 21 "SerialPort" "received" "LSerialPort$Ring;", .methodLink RX8 124 yX5_size, .instanceMethod yX5_size, .selects RX5 yX5_size yX5_size, .initialized RX5, .code yX5_size cX5_size 1 (some .int), .fieldLink RX5 23 "SerialPort$Ring" "size" "I", .methodLink RX8 236 yX5_at, .instanceMethod yX5_at, .selects RX5 yX5_at yX5_at, .code yX5_at cX5_at 3 (some .int), .fieldLink RX5 13 "SerialPort$Ring" "cells" "[I", .methodLink RX5 26 yX5_cellOf, .instanceMethod yX5_cellOf, .selects RX5 yX5_cellOf yX5_cellOf, .code yX5_cellOf cX5_cellOf 3 (some .int), .fieldLink RX5 19 "SerialPort$Ring" "head" "I"] ++ wsX80 ++ wsX50)
def wsX8_tellLineState_r1 : List Cond := [Cond.fieldLink RX8 21 "SerialPort" "received" "LSerialPort$Ring;", Cond.fieldLink RX8 176 "SerialPort" "overrun" "Z", Cond.fieldLink RX8 25 "SerialPort" "sending" "LSerialPort$Ring;", Cond.fieldLink RX8 31 "SerialPort" "sender" "LSerialPort$Sender;", Cond.fieldLink RX8 172 "SerialPort" "rowsOn" "Z", Cond.methodLink RX8 239 yX8_firstFaults, Cond.instanceMethod yX8_firstFaults, Cond.selects RX8 yX8_firstFaults yX8_firstFaults, Cond.initialized RX8, Cond.code yX8_firstFaults cX8_firstFaults 1 (some .int), Cond.methodLink RX8 224 yX5_first, Cond.instanceMethod yX5_first, Cond.selects RX5 yX5_first yX5_first, Cond.initialized RX5, Cond.code yX5_first cX5_first 1 (some .int), Cond.methodLink RX5 30 yX5_at, Cond.instanceMethod yX5_at, Cond.selects RX5 yX5_at yX5_at, Cond.code yX5_at cX5_at 3 (some .int), Cond.fieldLink RX5 23 "SerialPort$Ring" "size" "I", Cond.fieldLink RX5 13 "SerialPort$Ring" "cells" "[I", Cond.methodLink RX5 26 yX5_cellOf, Cond.instanceMethod yX5_cellOf, Cond.selects RX5 yX5_cellOf yX5_cellOf]
def wsX8_tellLineState_r2 : List Cond := [Cond.code yX5_cellOf cX5_cellOf 3 (some .int), Cond.fieldLink RX5 19 "SerialPort$Ring" "head" "I", Cond.methodLink RX8 230 yX5_isEmpty, Cond.instanceMethod yX5_isEmpty, Cond.selects RX5 yX5_isEmpty yX5_isEmpty, Cond.code yX5_isEmpty cX5_isEmpty 1 (some .boolean), Cond.methodLink RX8 140 yX6_isBusy, Cond.instanceMethod yX6_isBusy, Cond.selects RX6 yX6_isBusy yX6_isBusy, Cond.initialized RX6, Cond.code yX6_isBusy cX6_isBusy 1 (some .boolean), Cond.fieldLink RX6 21 "SerialPort$Sender" "busy" "Z", Cond.methodLink RX8 242 yX8_someFault, Cond.instanceMethod yX8_someFault, Cond.selects RX8 yX8_someFault yX8_someFault, Cond.code yX8_someFault cX8_someFault 2 (some .boolean), Cond.methodLink RX8 124 yX5_size, Cond.instanceMethod yX5_size, Cond.selects RX5 yX5_size yX5_size, Cond.code yX5_size cX5_size 1 (some .int), Cond.methodLink RX8 236 yX5_at, Cond.methodLink RX8 221 yX5_setFirst, Cond.instanceMethod yX5_setFirst, Cond.selects RX5 yX5_setFirst yX5_setFirst]
def wsX8_tellLineState_r3 : List Cond := [Cond.code yX5_setFirst cX5_setFirst 2 none, Cond.methodLink RX5 33 yX5_setAt, Cond.instanceMethod yX5_setAt, Cond.selects RX5 yX5_setAt yX5_setAt, Cond.code yX5_setAt cX5_setAt 4 none]
def wsX8_tellLineState : List Cond := .code yX8_tellLineState cX8_tellLineState 2 (some .int) :: ((wsX8_tellLineState_r1 ++ (wsX8_tellLineState_r2 ++ wsX8_tellLineState_r3)) ++ wsX80 ++ wsX50 ++ wsX60)
def wsX8_tellRegister_r1 : List Cond := [Cond.fieldLink RX8 163 "SerialPort" "wanted" "I", Cond.fieldLink RX8 73 "SerialPort" "lineControl" "I", Cond.fieldLink RX8 45 "SerialPort" "modem" "LSerialPort$Modem;", Cond.fieldLink RX8 166 "SerialPort" "kept" "I", Cond.methodLink RX8 200 yX8_takeCharacter, Cond.instanceMethod yX8_takeCharacter, Cond.selects RX8 yX8_takeCharacter yX8_takeCharacter, Cond.initialized RX8, Cond.code yX8_takeCharacter cX8_takeCharacter 2 (some .int), Cond.fieldLink RX8 21 "SerialPort" "received" "LSerialPort$Ring;", Cond.fieldLink RX8 182 "SerialPort" "lateUp" "Z", Cond.fieldLink RX8 127 "SerialPort" "beats" "I", Cond.fieldLink RX8 185 "SerialPort" "quietSince" "I", Cond.methodLink RX8 224 yX5_first, Cond.instanceMethod yX5_first, Cond.selects RX5 yX5_first yX5_first, Cond.initialized RX5, Cond.code yX5_first cX5_first 1 (some .int), Cond.methodLink RX5 30 yX5_at, Cond.instanceMethod yX5_at, Cond.selects RX5 yX5_at yX5_at, Cond.code yX5_at cX5_at 3 (some .int), Cond.fieldLink RX5 23 "SerialPort$Ring" "size" "I", Cond.fieldLink RX5 13 "SerialPort$Ring" "cells" "[I"]
def wsX8_tellRegister_r2 : List Cond := [Cond.methodLink RX5 26 yX5_cellOf, Cond.instanceMethod yX5_cellOf, Cond.selects RX5 yX5_cellOf yX5_cellOf, Cond.code yX5_cellOf cX5_cellOf 3 (some .int), Cond.fieldLink RX5 19 "SerialPort$Ring" "head" "I", Cond.methodLink RX8 227 yX5_dropFirst, Cond.instanceMethod yX5_dropFirst, Cond.selects RX5 yX5_dropFirst yX5_dropFirst, Cond.code yX5_dropFirst cX5_dropFirst 1 none, Cond.methodLink RX8 203 yX8_tellReason, Cond.instanceMethod yX8_tellReason, Cond.selects RX8 yX8_tellReason yX8_tellReason, Cond.code yX8_tellReason cX8_tellReason 2 (some .int), Cond.fieldLink RX8 179 "SerialPort" "emptyUp" "Z", Cond.fieldLink RX8 172 "SerialPort" "rowsOn" "Z", Cond.methodLink RX8 130 yX8_reason, Cond.instanceMethod yX8_reason, Cond.selects RX8 yX8_reason yX8_reason, Cond.code yX8_reason cX8_reason 1 (some .int), Cond.fieldLink RX8 176 "SerialPort" "overrun" "Z", Cond.fieldLink RX8 169 "SerialPort" "level" "I", Cond.methodLink RX8 245 yX8_wants, Cond.instanceMethod yX8_wants, Cond.selects RX8 yX8_wants yX8_wants]
def wsX8_tellRegister_r3 : List Cond := [Cond.code yX8_wants cX8_wants 2 (some .boolean), Cond.methodLink RX8 239 yX8_firstFaults, Cond.instanceMethod yX8_firstFaults, Cond.selects RX8 yX8_firstFaults yX8_firstFaults, Cond.code yX8_firstFaults cX8_firstFaults 1 (some .int), Cond.methodLink RX8 124 yX5_size, Cond.instanceMethod yX5_size, Cond.selects RX5 yX5_size yX5_size, Cond.code yX5_size cX5_size 1 (some .int), Cond.methodLink RX8 248 yX3_hasChanged, Cond.instanceMethod yX3_hasChanged, Cond.selects RX3 yX3_hasChanged yX3_hasChanged, Cond.initialized RX3, Cond.code yX3_hasChanged cX3_hasChanged 1 (some .boolean), Cond.fieldLink RX3 19 "SerialPort$Modem" "changes" "I", Cond.methodLink RX8 206 yX3_outputs, Cond.instanceMethod yX3_outputs, Cond.selects RX3 yX3_outputs yX3_outputs, Cond.code yX3_outputs cX3_outputs 1 (some .int), Cond.fieldLink RX3 7 "SerialPort$Modem" "outputs" "I", Cond.methodLink RX8 209 yX8_tellLineState, Cond.instanceMethod yX8_tellLineState, Cond.selects RX8 yX8_tellLineState yX8_tellLineState, Cond.code yX8_tellLineState cX8_tellLineState 2 (some .int)]
def wsX8_tellRegister_r4 : List Cond := [Cond.fieldLink RX8 25 "SerialPort" "sending" "LSerialPort$Ring;", Cond.fieldLink RX8 31 "SerialPort" "sender" "LSerialPort$Sender;", Cond.methodLink RX8 230 yX5_isEmpty, Cond.instanceMethod yX5_isEmpty, Cond.selects RX5 yX5_isEmpty yX5_isEmpty, Cond.code yX5_isEmpty cX5_isEmpty 1 (some .boolean), Cond.methodLink RX8 140 yX6_isBusy, Cond.instanceMethod yX6_isBusy, Cond.selects RX6 yX6_isBusy yX6_isBusy, Cond.initialized RX6, Cond.code yX6_isBusy cX6_isBusy 1 (some .boolean), Cond.fieldLink RX6 21 "SerialPort$Sender" "busy" "Z", Cond.methodLink RX8 242 yX8_someFault, Cond.instanceMethod yX8_someFault, Cond.selects RX8 yX8_someFault yX8_someFault, Cond.code yX8_someFault cX8_someFault 2 (some .boolean), Cond.methodLink RX8 236 yX5_at, Cond.methodLink RX8 221 yX5_setFirst, Cond.instanceMethod yX5_setFirst, Cond.selects RX5 yX5_setFirst yX5_setFirst, Cond.code yX5_setFirst cX5_setFirst 2 none, Cond.methodLink RX5 33 yX5_setAt, Cond.instanceMethod yX5_setAt, Cond.selects RX5 yX5_setAt yX5_setAt]
def wsX8_tellRegister_r5 : List Cond := [Cond.code yX5_setAt cX5_setAt 4 none, Cond.methodLink RX8 212 yX3_tellState, Cond.instanceMethod yX3_tellState, Cond.selects RX3 yX3_tellState yX3_tellState, Cond.code yX3_tellState cX3_tellState 2 (some .int), Cond.fieldLink RX3 16 "SerialPort$Modem" "state" "I"]
def wsX8_tellRegister : List Cond := .code yX8_tellRegister cX8_tellRegister 2 (some .int) :: ((wsX8_tellRegister_r1 ++ (wsX8_tellRegister_r2 ++ (wsX8_tellRegister_r3 ++ (wsX8_tellRegister_r4 ++ wsX8_tellRegister_r5)))) ++ wsX80 ++ wsX50 ++ wsX30 ++ wsX60)
def wsX8_read_r1 : List Cond := [Cond.classLink RX8 66 "java/util/NoSuchElementException", Cond.initialized "java/util/NoSuchElementException", Cond.fieldLink RX8 73 "SerialPort" "lineControl" "I", Cond.fieldLink RX8 12 "SerialPort" "divider" "LSerialPort$Divider;", Cond.methodLink RX8 84 yX0_tellByte, Cond.instanceMethod yX0_tellByte, Cond.selects RX0 yX0_tellByte yX0_tellByte, Cond.initialized RX0, Cond.code yX0_tellByte cX0_tellByte 2 (some .int), Cond.fieldLink RX0 9 "SerialPort$Divider" "divisor" "I", Cond.methodLink RX8 88 yX8_tellRegister, Cond.instanceMethod yX8_tellRegister, Cond.selects RX8 yX8_tellRegister yX8_tellRegister, Cond.initialized RX8, Cond.code yX8_tellRegister cX8_tellRegister 2 (some .int), Cond.fieldLink RX8 163 "SerialPort" "wanted" "I", Cond.fieldLink RX8 45 "SerialPort" "modem" "LSerialPort$Modem;", Cond.fieldLink RX8 166 "SerialPort" "kept" "I", Cond.methodLink RX8 200 yX8_takeCharacter, Cond.instanceMethod yX8_takeCharacter, Cond.selects RX8 yX8_takeCharacter yX8_takeCharacter, Cond.code yX8_takeCharacter cX8_takeCharacter 2 (some .int), Cond.fieldLink RX8 21 "SerialPort" "received" "LSerialPort$Ring;", Cond.fieldLink RX8 182 "SerialPort" "lateUp" "Z"]
def wsX8_read_r2 : List Cond := [Cond.fieldLink RX8 127 "SerialPort" "beats" "I", Cond.fieldLink RX8 185 "SerialPort" "quietSince" "I", Cond.methodLink RX8 224 yX5_first, Cond.instanceMethod yX5_first, Cond.selects RX5 yX5_first yX5_first, Cond.initialized RX5, Cond.code yX5_first cX5_first 1 (some .int), Cond.methodLink RX5 30 yX5_at, Cond.instanceMethod yX5_at, Cond.selects RX5 yX5_at yX5_at, Cond.code yX5_at cX5_at 3 (some .int), Cond.fieldLink RX5 23 "SerialPort$Ring" "size" "I", Cond.fieldLink RX5 13 "SerialPort$Ring" "cells" "[I", Cond.methodLink RX5 26 yX5_cellOf, Cond.instanceMethod yX5_cellOf, Cond.selects RX5 yX5_cellOf yX5_cellOf, Cond.code yX5_cellOf cX5_cellOf 3 (some .int), Cond.fieldLink RX5 19 "SerialPort$Ring" "head" "I", Cond.methodLink RX8 227 yX5_dropFirst, Cond.instanceMethod yX5_dropFirst, Cond.selects RX5 yX5_dropFirst yX5_dropFirst, Cond.code yX5_dropFirst cX5_dropFirst 1 none, Cond.methodLink RX8 203 yX8_tellReason, Cond.instanceMethod yX8_tellReason]
def wsX8_read_r3 : List Cond := [Cond.selects RX8 yX8_tellReason yX8_tellReason, Cond.code yX8_tellReason cX8_tellReason 2 (some .int), Cond.fieldLink RX8 179 "SerialPort" "emptyUp" "Z", Cond.fieldLink RX8 172 "SerialPort" "rowsOn" "Z", Cond.methodLink RX8 130 yX8_reason, Cond.instanceMethod yX8_reason, Cond.selects RX8 yX8_reason yX8_reason, Cond.code yX8_reason cX8_reason 1 (some .int), Cond.fieldLink RX8 176 "SerialPort" "overrun" "Z", Cond.fieldLink RX8 169 "SerialPort" "level" "I", Cond.methodLink RX8 245 yX8_wants, Cond.instanceMethod yX8_wants, Cond.selects RX8 yX8_wants yX8_wants, Cond.code yX8_wants cX8_wants 2 (some .boolean), Cond.methodLink RX8 239 yX8_firstFaults, Cond.instanceMethod yX8_firstFaults, Cond.selects RX8 yX8_firstFaults yX8_firstFaults, Cond.code yX8_firstFaults cX8_firstFaults 1 (some .int), Cond.methodLink RX8 124 yX5_size, Cond.instanceMethod yX5_size, Cond.selects RX5 yX5_size yX5_size, Cond.code yX5_size cX5_size 1 (some .int), Cond.methodLink RX8 248 yX3_hasChanged, Cond.instanceMethod yX3_hasChanged]
def wsX8_read_r4 : List Cond := [Cond.selects RX3 yX3_hasChanged yX3_hasChanged, Cond.initialized RX3, Cond.code yX3_hasChanged cX3_hasChanged 1 (some .boolean), Cond.fieldLink RX3 19 "SerialPort$Modem" "changes" "I", Cond.methodLink RX8 206 yX3_outputs, Cond.instanceMethod yX3_outputs, Cond.selects RX3 yX3_outputs yX3_outputs, Cond.code yX3_outputs cX3_outputs 1 (some .int), Cond.fieldLink RX3 7 "SerialPort$Modem" "outputs" "I", Cond.methodLink RX8 209 yX8_tellLineState, Cond.instanceMethod yX8_tellLineState, Cond.selects RX8 yX8_tellLineState yX8_tellLineState, Cond.code yX8_tellLineState cX8_tellLineState 2 (some .int), Cond.fieldLink RX8 25 "SerialPort" "sending" "LSerialPort$Ring;", Cond.fieldLink RX8 31 "SerialPort" "sender" "LSerialPort$Sender;", Cond.methodLink RX8 230 yX5_isEmpty, Cond.instanceMethod yX5_isEmpty, Cond.selects RX5 yX5_isEmpty yX5_isEmpty, Cond.code yX5_isEmpty cX5_isEmpty 1 (some .boolean), Cond.methodLink RX8 140 yX6_isBusy, Cond.instanceMethod yX6_isBusy, Cond.selects RX6 yX6_isBusy yX6_isBusy, Cond.initialized RX6, Cond.code yX6_isBusy cX6_isBusy 1 (some .boolean)]
def wsX8_read_r5 : List Cond := [Cond.fieldLink RX6 21 "SerialPort$Sender" "busy" "Z", Cond.methodLink RX8 242 yX8_someFault, Cond.instanceMethod yX8_someFault, Cond.selects RX8 yX8_someFault yX8_someFault, Cond.code yX8_someFault cX8_someFault 2 (some .boolean), Cond.methodLink RX8 236 yX5_at, Cond.methodLink RX8 221 yX5_setFirst, Cond.instanceMethod yX5_setFirst, Cond.selects RX5 yX5_setFirst yX5_setFirst, Cond.code yX5_setFirst cX5_setFirst 2 none, Cond.methodLink RX5 33 yX5_setAt, Cond.instanceMethod yX5_setAt, Cond.selects RX5 yX5_setAt yX5_setAt, Cond.code yX5_setAt cX5_setAt 4 none, Cond.methodLink RX8 212 yX3_tellState, Cond.instanceMethod yX3_tellState, Cond.selects RX3 yX3_tellState yX3_tellState, Cond.code yX3_tellState cX3_tellState 2 (some .int), Cond.fieldLink RX3 16 "SerialPort$Modem" "state" "I"]
def wsX8_stepSender_r1 : List Cond := [Cond.fieldLink RX8 31 "SerialPort" "sender" "LSerialPort$Sender;", Cond.fieldLink RX8 25 "SerialPort" "sending" "LSerialPort$Ring;", Cond.fieldLink RX8 73 "SerialPort" "lineControl" "I", Cond.fieldLink RX8 179 "SerialPort" "emptyUp" "Z", Cond.methodLink RX8 140 yX6_isBusy, Cond.instanceMethod yX6_isBusy, Cond.selects RX6 yX6_isBusy yX6_isBusy, Cond.initialized RX6, Cond.code yX6_isBusy cX6_isBusy 1 (some .boolean), Cond.fieldLink RX6 21 "SerialPort$Sender" "busy" "Z", Cond.methodLink RX8 230 yX5_isEmpty, Cond.instanceMethod yX5_isEmpty, Cond.selects RX5 yX5_isEmpty yX5_isEmpty, Cond.initialized RX5, Cond.code yX5_isEmpty cX5_isEmpty 1 (some .boolean), Cond.fieldLink RX5 23 "SerialPort$Ring" "size" "I", Cond.methodLink RX8 224 yX5_first, Cond.instanceMethod yX5_first, Cond.selects RX5 yX5_first yX5_first, Cond.code yX5_first cX5_first 1 (some .int), Cond.methodLink RX5 30 yX5_at, Cond.instanceMethod yX5_at, Cond.selects RX5 yX5_at yX5_at, Cond.code yX5_at cX5_at 3 (some .int)]
def wsX8_stepSender_r2 : List Cond := [Cond.fieldLink RX5 13 "SerialPort$Ring" "cells" "[I", Cond.methodLink RX5 26 yX5_cellOf, Cond.instanceMethod yX5_cellOf, Cond.selects RX5 yX5_cellOf yX5_cellOf, Cond.code yX5_cellOf cX5_cellOf 3 (some .int), Cond.fieldLink RX5 19 "SerialPort$Ring" "head" "I", Cond.methodLink RX8 273 yX6_begin, Cond.instanceMethod yX6_begin, Cond.selects RX6 yX6_begin yX6_begin, Cond.code yX6_begin cX6_begin 3 none, Cond.fieldLink RX6 9 "SerialPort$Sender" "control" "I", Cond.fieldLink RX6 15 "SerialPort$Sender" "character" "I", Cond.fieldLink RX6 18 "SerialPort$Sender" "beat" "I", Cond.methodLink RX8 227 yX5_dropFirst, Cond.instanceMethod yX5_dropFirst, Cond.selects RX5 yX5_dropFirst yX5_dropFirst, Cond.code yX5_dropFirst cX5_dropFirst 1 none, Cond.methodLink RX8 276 yX6_next, Cond.instanceMethod yX6_next, Cond.selects RX6 yX6_next yX6_next, Cond.code yX6_next cX6_next 2 (some .boolean), Cond.methodLink RX6 25 yX7_pieceIsHigh, Cond.static yX7_pieceIsHigh, Cond.initialized RX7]
def wsX8_stepSender_r3 : List Cond := [Cond.code yX7_pieceIsHigh cX7_pieceIsHigh 4 (some .boolean), Cond.methodLink RX7 11 yX7_dataBits, Cond.static yX7_dataBits, Cond.code yX7_dataBits cX7_dataBits 1 (some .int), Cond.methodLink RX7 15 yX7_hasParity, Cond.static yX7_hasParity, Cond.code yX7_hasParity cX7_hasParity 1 (some .boolean), Cond.methodLink RX7 30 yX7_parityIsHigh, Cond.static yX7_parityIsHigh, Cond.code yX7_parityIsHigh cX7_parityIsHigh 5 (some .boolean), Cond.methodLink RX7 25 yJ6_bitCount_0f7a4, Cond.static yJ6_bitCount_0f7a4, Cond.initialized RJ6, Cond.code yJ6_bitCount_0f7a4 cJ6_bitCount_0f7a4 1 (some .int), Cond.constant RJ6 265 (1431655765), Cond.constant RJ6 266 (858993459), Cond.constant RJ6 267 (252645135), Cond.methodLink RX6 31 yX7_beats, Cond.static yX7_beats, Cond.code yX7_beats cX7_beats 1 (some .int), Cond.methodLink RX7 19 yX7_pieces, Cond.static yX7_pieces, Cond.code yX7_pieces cX7_pieces 1 (some .int), Cond.methodLink RX7 22 yX7_stopBeats]
def wsX8_stepSender_r4 : List Cond := [Cond.static yX7_stopBeats, Cond.code yX7_stopBeats cX7_stopBeats 1 (some .int)]
def wsX8_stepSender : List Cond := .code yX8_stepSender cX8_stepSender 1 (some .boolean) :: ((wsX8_stepSender_r1 ++ (wsX8_stepSender_r2 ++ (wsX8_stepSender_r3 ++ wsX8_stepSender_r4))) ++ wsX80 ++ wsX60 ++ wsX50)
def wsX8_addReceived_r1 : List Cond := [Cond.fieldLink RX8 21 "SerialPort" "received" "LSerialPort$Ring;", Cond.fieldLink RX8 176 "SerialPort" "overrun" "Z", Cond.fieldLink RX8 172 "SerialPort" "rowsOn" "Z", Cond.fieldLink RX8 127 "SerialPort" "beats" "I", Cond.fieldLink RX8 185 "SerialPort" "quietSince" "I", Cond.methodLink RX8 124 yX5_size, Cond.instanceMethod yX5_size, Cond.selects RX5 yX5_size yX5_size, Cond.initialized RX5, Cond.code yX5_size cX5_size 1 (some .int), Cond.fieldLink RX5 23 "SerialPort$Ring" "size" "I", Cond.methodLink RX8 215 yX8_rowRoom, Cond.instanceMethod yX8_rowRoom, Cond.selects RX8 yX8_rowRoom yX8_rowRoom, Cond.initialized RX8, Cond.code yX8_rowRoom cX8_rowRoom 1 (some .int), Cond.methodLink RX8 218 yX5_add, Cond.instanceMethod yX5_add, Cond.selects RX5 yX5_add yX5_add, Cond.code yX5_add cX5_add 2 none, Cond.fieldLink RX5 13 "SerialPort$Ring" "cells" "[I", Cond.methodLink RX5 33 yX5_setAt, Cond.instanceMethod yX5_setAt, Cond.selects RX5 yX5_setAt yX5_setAt]
def wsX8_addReceived_r2 : List Cond := [Cond.code yX5_setAt cX5_setAt 4 none, Cond.methodLink RX5 26 yX5_cellOf, Cond.instanceMethod yX5_cellOf, Cond.selects RX5 yX5_cellOf yX5_cellOf, Cond.code yX5_cellOf cX5_cellOf 3 (some .int), Cond.fieldLink RX5 19 "SerialPort$Ring" "head" "I", Cond.methodLink RX8 221 yX5_setFirst, Cond.instanceMethod yX5_setFirst, Cond.selects RX5 yX5_setFirst yX5_setFirst, Cond.code yX5_setFirst cX5_setFirst 2 none]
def wsX8_addReceived : List Cond := .code yX8_addReceived cX8_addReceived 2 none :: ((wsX8_addReceived_r1 ++ wsX8_addReceived_r2) ++ wsX80 ++ wsX50)
def wsX8_stepLate_r1 : List Cond := [Cond.fieldLink RX8 172 "SerialPort" "rowsOn" "Z", Cond.fieldLink RX8 21 "SerialPort" "received" "LSerialPort$Ring;", Cond.fieldLink RX8 127 "SerialPort" "beats" "I", Cond.fieldLink RX8 185 "SerialPort" "quietSince" "I", Cond.fieldLink RX8 73 "SerialPort" "lineControl" "I", Cond.fieldLink RX8 182 "SerialPort" "lateUp" "Z", Cond.methodLink RX8 230 yX5_isEmpty, Cond.instanceMethod yX5_isEmpty, Cond.selects RX5 yX5_isEmpty yX5_isEmpty, Cond.initialized RX5, Cond.code yX5_isEmpty cX5_isEmpty 1 (some .boolean), Cond.fieldLink RX5 23 "SerialPort$Ring" "size" "I", Cond.methodLink RX8 277 yX7_beats, Cond.static yX7_beats, Cond.initialized RX7, Cond.code yX7_beats cX7_beats 1 (some .int), Cond.methodLink RX7 19 yX7_pieces, Cond.static yX7_pieces, Cond.code yX7_pieces cX7_pieces 1 (some .int), Cond.methodLink RX7 11 yX7_dataBits, Cond.static yX7_dataBits, Cond.code yX7_dataBits cX7_dataBits 1 (some .int), Cond.methodLink RX7 15 yX7_hasParity, Cond.static yX7_hasParity]
def wsX8_stepLate_r2 : List Cond := [Cond.code yX7_hasParity cX7_hasParity 1 (some .boolean), Cond.methodLink RX7 22 yX7_stopBeats, Cond.static yX7_stopBeats, Cond.code yX7_stopBeats cX7_stopBeats 1 (some .int)]
def wsX8_stepLate : List Cond := .code yX8_stepLate cX8_stepLate 1 none :: ((wsX8_stepLate_r1 ++ wsX8_stepLate_r2) ++ wsX80 ++ wsX50)
def wsX8_beat_r1 : List Cond := [Cond.fieldLink RX8 127 "SerialPort" "beats" "I", Cond.fieldLink RX8 45 "SerialPort" "modem" "LSerialPort$Modem;", Cond.fieldLink RX8 59 "SerialPort" "lineOut" "LSerialPort$LineOut;", Cond.fieldLink RX8 73 "SerialPort" "lineControl" "I", Cond.fieldLink RX8 52 "SerialPort" "lineIn" "LSerialPort$LineIn;", Cond.fieldLink RX8 38 "SerialPort" "receiver" "LSerialPort$Receiver;", Cond.methodLink RX8 251 yX8_stepSender, Cond.instanceMethod yX8_stepSender, Cond.selects RX8 yX8_stepSender yX8_stepSender, Cond.initialized RX8, Cond.code yX8_stepSender cX8_stepSender 1 (some .boolean), Cond.fieldLink RX8 31 "SerialPort" "sender" "LSerialPort$Sender;", Cond.fieldLink RX8 25 "SerialPort" "sending" "LSerialPort$Ring;", Cond.fieldLink RX8 179 "SerialPort" "emptyUp" "Z", Cond.methodLink RX8 140 yX6_isBusy, Cond.instanceMethod yX6_isBusy, Cond.selects RX6 yX6_isBusy yX6_isBusy, Cond.initialized RX6, Cond.code yX6_isBusy cX6_isBusy 1 (some .boolean), Cond.fieldLink RX6 21 "SerialPort$Sender" "busy" "Z", Cond.methodLink RX8 230 yX5_isEmpty, Cond.instanceMethod yX5_isEmpty, Cond.selects RX5 yX5_isEmpty yX5_isEmpty, Cond.initialized RX5]
def wsX8_beat_r2 : List Cond := [Cond.code yX5_isEmpty cX5_isEmpty 1 (some .boolean), Cond.fieldLink RX5 23 "SerialPort$Ring" "size" "I", Cond.methodLink RX8 224 yX5_first, Cond.instanceMethod yX5_first, Cond.selects RX5 yX5_first yX5_first, Cond.code yX5_first cX5_first 1 (some .int), Cond.methodLink RX5 30 yX5_at, Cond.instanceMethod yX5_at, Cond.selects RX5 yX5_at yX5_at, Cond.code yX5_at cX5_at 3 (some .int), Cond.fieldLink RX5 13 "SerialPort$Ring" "cells" "[I", Cond.methodLink RX5 26 yX5_cellOf, Cond.instanceMethod yX5_cellOf, Cond.selects RX5 yX5_cellOf yX5_cellOf, Cond.code yX5_cellOf cX5_cellOf 3 (some .int), Cond.fieldLink RX5 19 "SerialPort$Ring" "head" "I", Cond.methodLink RX8 273 yX6_begin, Cond.instanceMethod yX6_begin, Cond.selects RX6 yX6_begin yX6_begin, Cond.code yX6_begin cX6_begin 3 none, Cond.fieldLink RX6 9 "SerialPort$Sender" "control" "I", Cond.fieldLink RX6 15 "SerialPort$Sender" "character" "I", Cond.fieldLink RX6 18 "SerialPort$Sender" "beat" "I", Cond.methodLink RX8 227 yX5_dropFirst]
def wsX8_beat_r3 : List Cond := [Cond.instanceMethod yX5_dropFirst, Cond.selects RX5 yX5_dropFirst yX5_dropFirst, Cond.code yX5_dropFirst cX5_dropFirst 1 none, Cond.methodLink RX8 276 yX6_next, Cond.instanceMethod yX6_next, Cond.selects RX6 yX6_next yX6_next, Cond.code yX6_next cX6_next 2 (some .boolean), Cond.methodLink RX6 25 yX7_pieceIsHigh, Cond.static yX7_pieceIsHigh, Cond.initialized RX7, Cond.code yX7_pieceIsHigh cX7_pieceIsHigh 4 (some .boolean), Cond.methodLink RX7 11 yX7_dataBits, Cond.static yX7_dataBits, Cond.code yX7_dataBits cX7_dataBits 1 (some .int), Cond.methodLink RX7 15 yX7_hasParity, Cond.static yX7_hasParity, Cond.code yX7_hasParity cX7_hasParity 1 (some .boolean), Cond.methodLink RX7 30 yX7_parityIsHigh, Cond.static yX7_parityIsHigh, Cond.code yX7_parityIsHigh cX7_parityIsHigh 5 (some .boolean), Cond.methodLink RX7 25 yJ6_bitCount_0f7a4, Cond.static yJ6_bitCount_0f7a4, Cond.initialized RJ6, Cond.code yJ6_bitCount_0f7a4 cJ6_bitCount_0f7a4 1 (some .int)]
def wsX8_beat_r4 : List Cond := [Cond.constant RJ6 265 (1431655765), Cond.constant RJ6 266 (858993459), Cond.constant RJ6 267 (252645135), Cond.methodLink RX6 31 yX7_beats, Cond.static yX7_beats, Cond.code yX7_beats cX7_beats 1 (some .int), Cond.methodLink RX7 19 yX7_pieces, Cond.static yX7_pieces, Cond.code yX7_pieces cX7_pieces 1 (some .int), Cond.methodLink RX7 22 yX7_stopBeats, Cond.static yX7_stopBeats, Cond.code yX7_stopBeats cX7_stopBeats 1 (some .int), Cond.methodLink RX8 254 yX3_loops, Cond.instanceMethod yX3_loops, Cond.selects RX3 yX3_loops yX3_loops, Cond.initialized RX3, Cond.code yX3_loops cX3_loops 1 (some .boolean), Cond.fieldLink RX3 7 "SerialPort$Modem" "outputs" "I", Cond.methodLink RX8 257 yX2_append, Cond.instanceMethod yX2_append, Cond.selects RX2 yX2_append yX2_append, Cond.initialized RX2, Cond.code yX2_append cX2_append 2 none, Cond.fieldLink RX2 14 "SerialPort$LineOut" "runs" "LSerialPort$Ring;"]
def wsX8_beat_r5 : List Cond := [Cond.fieldLink RX2 23 "SerialPort$LineOut" "inAll" "I", Cond.methodLink RX2 27 yX5_isEmpty, Cond.methodLink RX2 31 yX2_runIsHigh, Cond.instanceMethod yX2_runIsHigh, Cond.selects RX2 yX2_runIsHigh yX2_runIsHigh, Cond.code yX2_runIsHigh cX2_runIsHigh 2 (some .boolean), Cond.methodLink RX2 39 yX2_fromEnd, Cond.instanceMethod yX2_fromEnd, Cond.selects RX2 yX2_fromEnd yX2_fromEnd, Cond.code yX2_fromEnd cX2_fromEnd 2 (some .int), Cond.methodLink RX2 35 yX5_size, Cond.instanceMethod yX5_size, Cond.selects RX5 yX5_size yX5_size, Cond.code yX5_size cX5_size 1 (some .int), Cond.methodLink RX2 56 yX5_at, Cond.methodLink RX2 43 yX5_setAt, Cond.instanceMethod yX5_setAt, Cond.selects RX5 yX5_setAt yX5_setAt, Cond.code yX5_setAt cX5_setAt 4 none, Cond.methodLink RX2 47 yX5_room, Cond.instanceMethod yX5_room, Cond.selects RX5 yX5_room yX5_room, Cond.code yX5_room cX5_room 1 (some .int), Cond.methodLink RX2 50 yX5_dropFirst]
def wsX8_beat_r6 : List Cond := [Cond.methodLink RX2 53 yX5_add, Cond.instanceMethod yX5_add, Cond.selects RX5 yX5_add yX5_add, Cond.code yX5_add cX5_add 2 none, Cond.methodLink RX5 33 yX5_setAt, Cond.methodLink RX8 260 yX1_next, Cond.instanceMethod yX1_next, Cond.selects RX1 yX1_next yX1_next, Cond.initialized RX1, Cond.code yX1_next cX1_next 2 (some .boolean), Cond.fieldLink RX1 14 "SerialPort$LineIn" "wave" "LSerialPort$Ring;", Cond.fieldLink RX1 23 "SerialPort$LineIn" "high" "Z", Cond.methodLink RX1 37 yX5_isEmpty, Cond.methodLink RX1 41 yX5_first, Cond.methodLink RX1 44 yX5_setFirst, Cond.instanceMethod yX5_setFirst, Cond.selects RX5 yX5_setFirst yX5_setFirst, Cond.code yX5_setFirst cX5_setFirst 2 none, Cond.methodLink RX1 47 yX5_dropFirst, Cond.methodLink RX8 263 yX4_step, Cond.instanceMethod yX4_step, Cond.selects RX4 yX4_step yX4_step, Cond.initialized RX4, Cond.code yX4_step cX4_step 3 (some .int)]
def wsX8_beat_r7 : List Cond := [Cond.fieldLink RX4 15 "SerialPort$Receiver" "busy" "Z", Cond.fieldLink RX4 26 "SerialPort$Receiver" "beat" "I", Cond.methodLink RX4 22 yX4_listen, Cond.instanceMethod yX4_listen, Cond.selects RX4 yX4_listen yX4_listen, Cond.code yX4_listen cX4_listen 3 none, Cond.fieldLink RX4 19 "SerialPort$Receiver" "wasHigh" "Z", Cond.methodLink RX4 9 yX4_begin, Cond.instanceMethod yX4_begin, Cond.selects RX4 yX4_begin yX4_begin, Cond.code yX4_begin cX4_begin 2 none, Cond.fieldLink RX4 37 "SerialPort$Receiver" "control" "I", Cond.fieldLink RX4 40 "SerialPort$Receiver" "character" "I", Cond.fieldLink RX4 43 "SerialPort$Receiver" "parityHigh" "Z", Cond.fieldLink RX4 46 "SerialPort$Receiver" "someHigh" "Z", Cond.methodLink RX4 30 yX4_seeStart, Cond.instanceMethod yX4_seeStart, Cond.selects RX4 yX4_seeStart yX4_seeStart, Cond.code yX4_seeStart cX4_seeStart 2 (some .int), Cond.methodLink RX4 49 yX4_becomeIdle, Cond.instanceMethod yX4_becomeIdle, Cond.selects RX4 yX4_becomeIdle yX4_becomeIdle, Cond.code yX4_becomeIdle cX4_becomeIdle 2 none, Cond.methodLink RX4 34 yX4_see]
def wsX8_beat_r8 : List Cond := [Cond.instanceMethod yX4_see, Cond.selects RX4 yX4_see yX4_see, Cond.code yX4_see cX4_see 4 (some .int), Cond.methodLink RX4 53 yX7_dataBits, Cond.methodLink RX4 59 yX7_hasParity, Cond.methodLink RX4 63 yX4_faults, Cond.instanceMethod yX4_faults, Cond.selects RX4 yX4_faults yX4_faults, Cond.code yX4_faults cX4_faults 3 (some .int), Cond.methodLink RX4 66 yX7_parityIsHigh, Cond.methodLink RX8 267 yX8_addReceived, Cond.instanceMethod yX8_addReceived, Cond.selects RX8 yX8_addReceived yX8_addReceived, Cond.code yX8_addReceived cX8_addReceived 2 none, Cond.fieldLink RX8 21 "SerialPort" "received" "LSerialPort$Ring;", Cond.fieldLink RX8 176 "SerialPort" "overrun" "Z", Cond.fieldLink RX8 172 "SerialPort" "rowsOn" "Z", Cond.fieldLink RX8 185 "SerialPort" "quietSince" "I", Cond.methodLink RX8 124 yX5_size, Cond.methodLink RX8 215 yX8_rowRoom, Cond.instanceMethod yX8_rowRoom, Cond.selects RX8 yX8_rowRoom yX8_rowRoom, Cond.code yX8_rowRoom cX8_rowRoom 1 (some .int), Cond.methodLink RX8 218 yX5_add]
def wsX8_beat_r9 : List Cond := [Cond.methodLink RX8 221 yX5_setFirst, Cond.methodLink RX8 270 yX8_stepLate, Cond.instanceMethod yX8_stepLate, Cond.selects RX8 yX8_stepLate yX8_stepLate, Cond.code yX8_stepLate cX8_stepLate 1 none, Cond.fieldLink RX8 182 "SerialPort" "lateUp" "Z", Cond.methodLink RX8 277 yX7_beats]
def wsX8_beat : List Cond := .code yX8_beat cX8_beat 5 none :: ((wsX8_beat_r1 ++ (wsX8_beat_r2 ++ (wsX8_beat_r3 ++ (wsX8_beat_r4 ++ (wsX8_beat_r5 ++ (wsX8_beat_r6 ++ (wsX8_beat_r7 ++ (wsX8_beat_r8 ++ wsX8_beat_r9)))))))) ++ wsX80 ++ wsX60 ++ wsX50 ++ wsX30 ++ wsX20 ++ wsX10 ++ wsX40)
def wsX8_clock_r1 : List Cond := [Cond.constant RX8 91 (60000), Cond.fieldLink RX8 12 "SerialPort" "divider" "LSerialPort$Divider;", Cond.methodLink RX8 92 yX0_pass, Cond.instanceMethod yX0_pass, Cond.selects RX0 yX0_pass yX0_pass, Cond.initialized RX0, Cond.code yX0_pass cX0_pass 3 (some .int), Cond.fieldLink RX0 9 "SerialPort$Divider" "divisor" "I", Cond.fieldLink RX0 15 "SerialPort$Divider" "passed" "I", Cond.methodLink RX8 95 yX8_beat, Cond.instanceMethod yX8_beat, Cond.selects RX8 yX8_beat yX8_beat, Cond.initialized RX8, Cond.code yX8_beat cX8_beat 5 none, Cond.fieldLink RX8 127 "SerialPort" "beats" "I", Cond.fieldLink RX8 45 "SerialPort" "modem" "LSerialPort$Modem;", Cond.fieldLink RX8 59 "SerialPort" "lineOut" "LSerialPort$LineOut;", Cond.fieldLink RX8 73 "SerialPort" "lineControl" "I", Cond.fieldLink RX8 52 "SerialPort" "lineIn" "LSerialPort$LineIn;", Cond.fieldLink RX8 38 "SerialPort" "receiver" "LSerialPort$Receiver;", Cond.methodLink RX8 251 yX8_stepSender, Cond.instanceMethod yX8_stepSender, Cond.selects RX8 yX8_stepSender yX8_stepSender, Cond.code yX8_stepSender cX8_stepSender 1 (some .boolean)]
def wsX8_clock_r2 : List Cond := [Cond.fieldLink RX8 31 "SerialPort" "sender" "LSerialPort$Sender;", Cond.fieldLink RX8 25 "SerialPort" "sending" "LSerialPort$Ring;", Cond.fieldLink RX8 179 "SerialPort" "emptyUp" "Z", Cond.methodLink RX8 140 yX6_isBusy, Cond.instanceMethod yX6_isBusy, Cond.selects RX6 yX6_isBusy yX6_isBusy, Cond.initialized RX6, Cond.code yX6_isBusy cX6_isBusy 1 (some .boolean), Cond.fieldLink RX6 21 "SerialPort$Sender" "busy" "Z", Cond.methodLink RX8 230 yX5_isEmpty, Cond.instanceMethod yX5_isEmpty, Cond.selects RX5 yX5_isEmpty yX5_isEmpty, Cond.initialized RX5, Cond.code yX5_isEmpty cX5_isEmpty 1 (some .boolean), Cond.fieldLink RX5 23 "SerialPort$Ring" "size" "I", Cond.methodLink RX8 224 yX5_first, Cond.instanceMethod yX5_first, Cond.selects RX5 yX5_first yX5_first, Cond.code yX5_first cX5_first 1 (some .int), Cond.methodLink RX5 30 yX5_at, Cond.instanceMethod yX5_at, Cond.selects RX5 yX5_at yX5_at, Cond.code yX5_at cX5_at 3 (some .int), Cond.fieldLink RX5 13 "SerialPort$Ring" "cells" "[I"]
def wsX8_clock_r3 : List Cond := [Cond.methodLink RX5 26 yX5_cellOf, Cond.instanceMethod yX5_cellOf, Cond.selects RX5 yX5_cellOf yX5_cellOf, Cond.code yX5_cellOf cX5_cellOf 3 (some .int), Cond.fieldLink RX5 19 "SerialPort$Ring" "head" "I", Cond.methodLink RX8 273 yX6_begin, Cond.instanceMethod yX6_begin, Cond.selects RX6 yX6_begin yX6_begin, Cond.code yX6_begin cX6_begin 3 none, Cond.fieldLink RX6 9 "SerialPort$Sender" "control" "I", Cond.fieldLink RX6 15 "SerialPort$Sender" "character" "I", Cond.fieldLink RX6 18 "SerialPort$Sender" "beat" "I", Cond.methodLink RX8 227 yX5_dropFirst, Cond.instanceMethod yX5_dropFirst, Cond.selects RX5 yX5_dropFirst yX5_dropFirst, Cond.code yX5_dropFirst cX5_dropFirst 1 none, Cond.methodLink RX8 276 yX6_next, Cond.instanceMethod yX6_next, Cond.selects RX6 yX6_next yX6_next, Cond.code yX6_next cX6_next 2 (some .boolean), Cond.methodLink RX6 25 yX7_pieceIsHigh, Cond.static yX7_pieceIsHigh, Cond.initialized RX7, Cond.code yX7_pieceIsHigh cX7_pieceIsHigh 4 (some .boolean)]
def wsX8_clock_r4 : List Cond := [Cond.methodLink RX7 11 yX7_dataBits, Cond.static yX7_dataBits, Cond.code yX7_dataBits cX7_dataBits 1 (some .int), Cond.methodLink RX7 15 yX7_hasParity, Cond.static yX7_hasParity, Cond.code yX7_hasParity cX7_hasParity 1 (some .boolean), Cond.methodLink RX7 30 yX7_parityIsHigh, Cond.static yX7_parityIsHigh, Cond.code yX7_parityIsHigh cX7_parityIsHigh 5 (some .boolean), Cond.methodLink RX7 25 yJ6_bitCount_0f7a4, Cond.static yJ6_bitCount_0f7a4, Cond.initialized RJ6, Cond.code yJ6_bitCount_0f7a4 cJ6_bitCount_0f7a4 1 (some .int), Cond.constant RJ6 265 (1431655765), Cond.constant RJ6 266 (858993459), Cond.constant RJ6 267 (252645135), Cond.methodLink RX6 31 yX7_beats, Cond.static yX7_beats, Cond.code yX7_beats cX7_beats 1 (some .int), Cond.methodLink RX7 19 yX7_pieces, Cond.static yX7_pieces, Cond.code yX7_pieces cX7_pieces 1 (some .int), Cond.methodLink RX7 22 yX7_stopBeats, Cond.static yX7_stopBeats]
def wsX8_clock_r5 : List Cond := [Cond.code yX7_stopBeats cX7_stopBeats 1 (some .int), Cond.methodLink RX8 254 yX3_loops, Cond.instanceMethod yX3_loops, Cond.selects RX3 yX3_loops yX3_loops, Cond.initialized RX3, Cond.code yX3_loops cX3_loops 1 (some .boolean), Cond.fieldLink RX3 7 "SerialPort$Modem" "outputs" "I", Cond.methodLink RX8 257 yX2_append, Cond.instanceMethod yX2_append, Cond.selects RX2 yX2_append yX2_append, Cond.initialized RX2, Cond.code yX2_append cX2_append 2 none, Cond.fieldLink RX2 14 "SerialPort$LineOut" "runs" "LSerialPort$Ring;", Cond.fieldLink RX2 23 "SerialPort$LineOut" "inAll" "I", Cond.methodLink RX2 27 yX5_isEmpty, Cond.methodLink RX2 31 yX2_runIsHigh, Cond.instanceMethod yX2_runIsHigh, Cond.selects RX2 yX2_runIsHigh yX2_runIsHigh, Cond.code yX2_runIsHigh cX2_runIsHigh 2 (some .boolean), Cond.methodLink RX2 39 yX2_fromEnd, Cond.instanceMethod yX2_fromEnd, Cond.selects RX2 yX2_fromEnd yX2_fromEnd, Cond.code yX2_fromEnd cX2_fromEnd 2 (some .int), Cond.methodLink RX2 35 yX5_size]
def wsX8_clock_r6 : List Cond := [Cond.instanceMethod yX5_size, Cond.selects RX5 yX5_size yX5_size, Cond.code yX5_size cX5_size 1 (some .int), Cond.methodLink RX2 56 yX5_at, Cond.methodLink RX2 43 yX5_setAt, Cond.instanceMethod yX5_setAt, Cond.selects RX5 yX5_setAt yX5_setAt, Cond.code yX5_setAt cX5_setAt 4 none, Cond.methodLink RX2 47 yX5_room, Cond.instanceMethod yX5_room, Cond.selects RX5 yX5_room yX5_room, Cond.code yX5_room cX5_room 1 (some .int), Cond.methodLink RX2 50 yX5_dropFirst, Cond.methodLink RX2 53 yX5_add, Cond.instanceMethod yX5_add, Cond.selects RX5 yX5_add yX5_add, Cond.code yX5_add cX5_add 2 none, Cond.methodLink RX5 33 yX5_setAt, Cond.methodLink RX8 260 yX1_next, Cond.instanceMethod yX1_next, Cond.selects RX1 yX1_next yX1_next, Cond.initialized RX1, Cond.code yX1_next cX1_next 2 (some .boolean), Cond.fieldLink RX1 14 "SerialPort$LineIn" "wave" "LSerialPort$Ring;"]
def wsX8_clock_r7 : List Cond := [Cond.fieldLink RX1 23 "SerialPort$LineIn" "high" "Z", Cond.methodLink RX1 37 yX5_isEmpty, Cond.methodLink RX1 41 yX5_first, Cond.methodLink RX1 44 yX5_setFirst, Cond.instanceMethod yX5_setFirst, Cond.selects RX5 yX5_setFirst yX5_setFirst, Cond.code yX5_setFirst cX5_setFirst 2 none, Cond.methodLink RX1 47 yX5_dropFirst, Cond.methodLink RX8 263 yX4_step, Cond.instanceMethod yX4_step, Cond.selects RX4 yX4_step yX4_step, Cond.initialized RX4, Cond.code yX4_step cX4_step 3 (some .int), Cond.fieldLink RX4 15 "SerialPort$Receiver" "busy" "Z", Cond.fieldLink RX4 26 "SerialPort$Receiver" "beat" "I", Cond.methodLink RX4 22 yX4_listen, Cond.instanceMethod yX4_listen, Cond.selects RX4 yX4_listen yX4_listen, Cond.code yX4_listen cX4_listen 3 none, Cond.fieldLink RX4 19 "SerialPort$Receiver" "wasHigh" "Z", Cond.methodLink RX4 9 yX4_begin, Cond.instanceMethod yX4_begin, Cond.selects RX4 yX4_begin yX4_begin, Cond.code yX4_begin cX4_begin 2 none]
def wsX8_clock_r8 : List Cond := [Cond.fieldLink RX4 37 "SerialPort$Receiver" "control" "I", Cond.fieldLink RX4 40 "SerialPort$Receiver" "character" "I", Cond.fieldLink RX4 43 "SerialPort$Receiver" "parityHigh" "Z", Cond.fieldLink RX4 46 "SerialPort$Receiver" "someHigh" "Z", Cond.methodLink RX4 30 yX4_seeStart, Cond.instanceMethod yX4_seeStart, Cond.selects RX4 yX4_seeStart yX4_seeStart, Cond.code yX4_seeStart cX4_seeStart 2 (some .int), Cond.methodLink RX4 49 yX4_becomeIdle, Cond.instanceMethod yX4_becomeIdle, Cond.selects RX4 yX4_becomeIdle yX4_becomeIdle, Cond.code yX4_becomeIdle cX4_becomeIdle 2 none, Cond.methodLink RX4 34 yX4_see, Cond.instanceMethod yX4_see, Cond.selects RX4 yX4_see yX4_see, Cond.code yX4_see cX4_see 4 (some .int), Cond.methodLink RX4 53 yX7_dataBits, Cond.methodLink RX4 59 yX7_hasParity, Cond.methodLink RX4 63 yX4_faults, Cond.instanceMethod yX4_faults, Cond.selects RX4 yX4_faults yX4_faults, Cond.code yX4_faults cX4_faults 3 (some .int), Cond.methodLink RX4 66 yX7_parityIsHigh, Cond.methodLink RX8 267 yX8_addReceived]
def wsX8_clock_r9 : List Cond := [Cond.instanceMethod yX8_addReceived, Cond.selects RX8 yX8_addReceived yX8_addReceived, Cond.code yX8_addReceived cX8_addReceived 2 none, Cond.fieldLink RX8 21 "SerialPort" "received" "LSerialPort$Ring;", Cond.fieldLink RX8 176 "SerialPort" "overrun" "Z", Cond.fieldLink RX8 172 "SerialPort" "rowsOn" "Z", Cond.fieldLink RX8 185 "SerialPort" "quietSince" "I", Cond.methodLink RX8 124 yX5_size, Cond.methodLink RX8 215 yX8_rowRoom, Cond.instanceMethod yX8_rowRoom, Cond.selects RX8 yX8_rowRoom yX8_rowRoom, Cond.code yX8_rowRoom cX8_rowRoom 1 (some .int), Cond.methodLink RX8 218 yX5_add, Cond.methodLink RX8 221 yX5_setFirst, Cond.methodLink RX8 270 yX8_stepLate, Cond.instanceMethod yX8_stepLate, Cond.selects RX8 yX8_stepLate yX8_stepLate, Cond.code yX8_stepLate cX8_stepLate 1 none, Cond.fieldLink RX8 182 "SerialPort" "lateUp" "Z", Cond.methodLink RX8 277 yX7_beats]
def wsX8_clock : List Cond := .code yX8_clock cX8_clock 4 (some .int) :: ((wsX8_clock_r1 ++ (wsX8_clock_r2 ++ (wsX8_clock_r3 ++ (wsX8_clock_r4 ++ (wsX8_clock_r5 ++ (wsX8_clock_r6 ++ (wsX8_clock_r7 ++ (wsX8_clock_r8 ++ wsX8_clock_r9)))))))) ++ wsX80 ++ wsX00 ++ wsX60 ++ wsX50 ++ wsX30 ++ wsX20 ++ wsX10 ++ wsX40)
def wsX8_wave_r1 : List Cond := [Cond.fieldLink RX8 52 "SerialPort" "lineIn" "LSerialPort$LineIn;", Cond.methodLink RX8 98 yX1_room, Cond.instanceMethod yX1_room, Cond.selects RX1 yX1_room yX1_room, Cond.initialized RX1, Cond.code yX1_room cX1_room 1 (some .int), Cond.fieldLink RX1 14 "SerialPort$LineIn" "wave" "LSerialPort$Ring;", Cond.methodLink RX1 31 yX5_room, Cond.instanceMethod yX5_room, Cond.selects RX5 yX5_room yX5_room, Cond.initialized RX5, Cond.code yX5_room cX5_room 1 (some .int), Cond.fieldLink RX5 13 "SerialPort$Ring" "cells" "[I", Cond.fieldLink RX5 23 "SerialPort$Ring" "size" "I", Cond.methodLink RX8 102 yX1_append, Cond.instanceMethod yX1_append, Cond.selects RX1 yX1_append yX1_append, Cond.code yX1_append cX1_append 3 none, Cond.methodLink RX1 34 yX5_add, Cond.instanceMethod yX5_add, Cond.selects RX5 yX5_add yX5_add, Cond.code yX5_add cX5_add 2 none, Cond.methodLink RX5 33 yX5_setAt, Cond.instanceMethod yX5_setAt]
def wsX8_wave_r2 : List Cond := [Cond.selects RX5 yX5_setAt yX5_setAt, Cond.code yX5_setAt cX5_setAt 4 none, Cond.methodLink RX5 26 yX5_cellOf, Cond.instanceMethod yX5_cellOf, Cond.selects RX5 yX5_cellOf yX5_cellOf, Cond.code yX5_cellOf cX5_cellOf 3 (some .int), Cond.fieldLink RX5 19 "SerialPort$Ring" "head" "I", Cond.methodLink RX8 106 yX1_pieces, Cond.instanceMethod yX1_pieces, Cond.selects RX1 yX1_pieces yX1_pieces, Cond.code yX1_pieces cX1_pieces 1 (some .int), Cond.methodLink RX1 27 yX5_size, Cond.instanceMethod yX5_size, Cond.selects RX5 yX5_size yX5_size, Cond.code yX5_size cX5_size 1 (some .int)]
def wsX8_wave : List Cond := .code yX8_wave cX8_wave 3 (some .int) :: ((wsX8_wave_r1 ++ wsX8_wave_r2) ++ wsX80 ++ wsX10 ++ wsX50)
def wsX8_frame_r1 : List Cond := [Cond.fieldLink RX8 73 "SerialPort" "lineControl" "I", Cond.fieldLink RX8 52 "SerialPort" "lineIn" "LSerialPort$LineIn;", Cond.methodLink RX8 109 yX7_pieces, Cond.static yX7_pieces, Cond.initialized RX7, Cond.code yX7_pieces cX7_pieces 1 (some .int), Cond.methodLink RX7 11 yX7_dataBits, Cond.static yX7_dataBits, Cond.code yX7_dataBits cX7_dataBits 1 (some .int), Cond.methodLink RX7 15 yX7_hasParity, Cond.static yX7_hasParity, Cond.code yX7_hasParity cX7_hasParity 1 (some .boolean), Cond.methodLink RX8 98 yX1_room, Cond.instanceMethod yX1_room, Cond.selects RX1 yX1_room yX1_room, Cond.initialized RX1, Cond.code yX1_room cX1_room 1 (some .int), Cond.fieldLink RX1 14 "SerialPort$LineIn" "wave" "LSerialPort$Ring;", Cond.methodLink RX1 31 yX5_room, Cond.instanceMethod yX5_room, Cond.selects RX5 yX5_room yX5_room, Cond.initialized RX5, Cond.code yX5_room cX5_room 1 (some .int), Cond.fieldLink RX5 13 "SerialPort$Ring" "cells" "[I"]
def wsX8_frame_r2 : List Cond := [Cond.fieldLink RX5 23 "SerialPort$Ring" "size" "I", Cond.methodLink RX8 113 yX7_pieceIsHigh, Cond.static yX7_pieceIsHigh, Cond.code yX7_pieceIsHigh cX7_pieceIsHigh 4 (some .boolean), Cond.methodLink RX7 30 yX7_parityIsHigh, Cond.static yX7_parityIsHigh, Cond.code yX7_parityIsHigh cX7_parityIsHigh 5 (some .boolean), Cond.methodLink RX7 25 yJ6_bitCount_0f7a4, Cond.static yJ6_bitCount_0f7a4, Cond.initialized RJ6, Cond.code yJ6_bitCount_0f7a4 cJ6_bitCount_0f7a4 1 (some .int), Cond.constant RJ6 265 (1431655765), Cond.constant RJ6 266 (858993459), Cond.constant RJ6 267 (252645135), Cond.methodLink RX8 117 yX7_pieceBeats, Cond.static yX7_pieceBeats, Cond.code yX7_pieceBeats cX7_pieceBeats 2 (some .int), Cond.methodLink RX7 19 yX7_pieces, Cond.methodLink RX7 22 yX7_stopBeats, Cond.static yX7_stopBeats, Cond.code yX7_stopBeats cX7_stopBeats 1 (some .int), Cond.methodLink RX8 102 yX1_append, Cond.instanceMethod yX1_append, Cond.selects RX1 yX1_append yX1_append]
def wsX8_frame_r3 : List Cond := [Cond.code yX1_append cX1_append 3 none, Cond.methodLink RX1 34 yX5_add, Cond.instanceMethod yX5_add, Cond.selects RX5 yX5_add yX5_add, Cond.code yX5_add cX5_add 2 none, Cond.methodLink RX5 33 yX5_setAt, Cond.instanceMethod yX5_setAt, Cond.selects RX5 yX5_setAt yX5_setAt, Cond.code yX5_setAt cX5_setAt 4 none, Cond.methodLink RX5 26 yX5_cellOf, Cond.instanceMethod yX5_cellOf, Cond.selects RX5 yX5_cellOf yX5_cellOf, Cond.code yX5_cellOf cX5_cellOf 3 (some .int), Cond.fieldLink RX5 19 "SerialPort$Ring" "head" "I"]
def wsX8_frame : List Cond := .code yX8_frame cX8_frame 6 (some .int) :: ((wsX8_frame_r1 ++ (wsX8_frame_r2 ++ wsX8_frame_r3)) ++ wsX80 ++ wsX10 ++ wsX50)
def wsX8_inputs : List Cond := .code yX8_inputs cX8_inputs 2 (some .boolean) :: ([.fieldLink RX8 45 "SerialPort" "modem" "LSerialPort$Modem;", .methodLink RX8 121 yX3_putPins, .instanceMethod yX3_putPins, .selects RX3 yX3_putPins yX3_putPins, .initialized RX3, .code yX3_putPins cX3_putPins 2 none, .fieldLink RX3 13 "SerialPort$Modem" "pins" "I", .methodLink RX3 22 yX3_follow, .instanceMethod yX3_follow, .selects RX3 yX3_follow yX3_follow, .code yX3_follow cX3_follow 3 none, .fieldLink RX3 16 "SerialPort$Modem" "state" "I", .fieldLink RX3 19 "SerialPort$Modem" "changes" "I", .methodLink RX3 25 yX3_loops, .instanceMethod yX3_loops, .selects RX3 yX3_loops yX3_loops, .code yX3_loops cX3_loops 1 (some .boolean), .fieldLink RX3 7 "SerialPort$Modem" "outputs" "I", .methodLink RX3 29 yX3_looped, .instanceMethod yX3_looped, .selects RX3 yX3_looped yX3_looped, .code yX3_looped cX3_looped 1 (some .int)] ++ wsX80 ++ wsX30)
def wsX8_reset_r1 : List Cond := [Cond.methodLink RX8 63 yX8_powerOn, Cond.instanceMethod yX8_powerOn, Cond.selects RX8 yX8_powerOn yX8_powerOn, Cond.initialized RX8, Cond.code yX8_powerOn cX8_powerOn 1 none, Cond.fieldLink RX8 12 "SerialPort" "divider" "LSerialPort$Divider;", Cond.fieldLink RX8 21 "SerialPort" "received" "LSerialPort$Ring;", Cond.fieldLink RX8 25 "SerialPort" "sending" "LSerialPort$Ring;", Cond.fieldLink RX8 31 "SerialPort" "sender" "LSerialPort$Sender;", Cond.fieldLink RX8 38 "SerialPort" "receiver" "LSerialPort$Receiver;", Cond.fieldLink RX8 45 "SerialPort" "modem" "LSerialPort$Modem;", Cond.fieldLink RX8 52 "SerialPort" "lineIn" "LSerialPort$LineIn;", Cond.fieldLink RX8 59 "SerialPort" "lineOut" "LSerialPort$LineOut;", Cond.fieldLink RX8 163 "SerialPort" "wanted" "I", Cond.fieldLink RX8 73 "SerialPort" "lineControl" "I", Cond.fieldLink RX8 166 "SerialPort" "kept" "I", Cond.fieldLink RX8 169 "SerialPort" "level" "I", Cond.fieldLink RX8 172 "SerialPort" "rowsOn" "Z", Cond.fieldLink RX8 176 "SerialPort" "overrun" "Z", Cond.fieldLink RX8 179 "SerialPort" "emptyUp" "Z", Cond.fieldLink RX8 182 "SerialPort" "lateUp" "Z", Cond.fieldLink RX8 127 "SerialPort" "beats" "I", Cond.fieldLink RX8 185 "SerialPort" "quietSince" "I", Cond.methodLink RX8 154 yX0_clear]
def wsX8_reset_r2 : List Cond := [Cond.instanceMethod yX0_clear, Cond.selects RX0 yX0_clear yX0_clear, Cond.initialized RX0, Cond.code yX0_clear cX0_clear 1 none, Cond.fieldLink RX0 9 "SerialPort$Divider" "divisor" "I", Cond.fieldLink RX0 15 "SerialPort$Divider" "passed" "I", Cond.methodLink RX8 157 yX5_clear, Cond.instanceMethod yX5_clear, Cond.selects RX5 yX5_clear yX5_clear, Cond.initialized RX5, Cond.code yX5_clear cX5_clear 1 none, Cond.fieldLink RX5 19 "SerialPort$Ring" "head" "I", Cond.fieldLink RX5 23 "SerialPort$Ring" "size" "I", Cond.methodLink RX8 158 yX6_clear, Cond.instanceMethod yX6_clear, Cond.selects RX6 yX6_clear yX6_clear, Cond.initialized RX6, Cond.code yX6_clear cX6_clear 1 none, Cond.fieldLink RX6 9 "SerialPort$Sender" "control" "I", Cond.fieldLink RX6 15 "SerialPort$Sender" "character" "I", Cond.fieldLink RX6 18 "SerialPort$Sender" "beat" "I", Cond.fieldLink RX6 21 "SerialPort$Sender" "busy" "Z", Cond.methodLink RX8 159 yX4_clear, Cond.instanceMethod yX4_clear]
def wsX8_reset_r3 : List Cond := [Cond.selects RX4 yX4_clear yX4_clear, Cond.initialized RX4, Cond.code yX4_clear cX4_clear 1 none, Cond.fieldLink RX4 15 "SerialPort$Receiver" "busy" "Z", Cond.fieldLink RX4 19 "SerialPort$Receiver" "wasHigh" "Z", Cond.methodLink RX4 9 yX4_begin, Cond.instanceMethod yX4_begin, Cond.selects RX4 yX4_begin yX4_begin, Cond.code yX4_begin cX4_begin 2 none, Cond.fieldLink RX4 37 "SerialPort$Receiver" "control" "I", Cond.fieldLink RX4 40 "SerialPort$Receiver" "character" "I", Cond.fieldLink RX4 26 "SerialPort$Receiver" "beat" "I", Cond.fieldLink RX4 43 "SerialPort$Receiver" "parityHigh" "Z", Cond.fieldLink RX4 46 "SerialPort$Receiver" "someHigh" "Z", Cond.methodLink RX8 160 yX3_clear, Cond.instanceMethod yX3_clear, Cond.selects RX3 yX3_clear yX3_clear, Cond.initialized RX3, Cond.code yX3_clear cX3_clear 1 none, Cond.fieldLink RX3 7 "SerialPort$Modem" "outputs" "I", Cond.fieldLink RX3 13 "SerialPort$Modem" "pins" "I", Cond.fieldLink RX3 16 "SerialPort$Modem" "state" "I", Cond.fieldLink RX3 19 "SerialPort$Modem" "changes" "I", Cond.methodLink RX8 161 yX1_clear]
def wsX8_reset_r4 : List Cond := [Cond.instanceMethod yX1_clear, Cond.selects RX1 yX1_clear yX1_clear, Cond.initialized RX1, Cond.code yX1_clear cX1_clear 1 none, Cond.fieldLink RX1 14 "SerialPort$LineIn" "wave" "LSerialPort$Ring;", Cond.fieldLink RX1 23 "SerialPort$LineIn" "high" "Z", Cond.methodLink RX1 20 yX5_clear, Cond.methodLink RX8 162 yX2_clear, Cond.instanceMethod yX2_clear, Cond.selects RX2 yX2_clear yX2_clear, Cond.initialized RX2, Cond.code yX2_clear cX2_clear 1 none, Cond.fieldLink RX2 14 "SerialPort$LineOut" "runs" "LSerialPort$Ring;", Cond.fieldLink RX2 23 "SerialPort$LineOut" "inAll" "I", Cond.methodLink RX2 20 yX5_clear]
def wsX8_reset : List Cond := .code yX8_reset cX8_reset 1 none :: ((wsX8_reset_r1 ++ (wsX8_reset_r2 ++ (wsX8_reset_r3 ++ wsX8_reset_r4))) ++ wsX80 ++ wsX00 ++ wsX50 ++ wsX60 ++ wsX40 ++ wsX30 ++ wsX10 ++ wsX20)
def wsX8_count_r1 : List Cond := [Cond.fieldLink RX8 21 "SerialPort" "received" "LSerialPort$Ring;", Cond.fieldLink RX8 25 "SerialPort" "sending" "LSerialPort$Ring;", Cond.fieldLink RX8 127 "SerialPort" "beats" "I", Cond.fieldLink RX8 59 "SerialPort" "lineOut" "LSerialPort$LineOut;", Cond.fieldLink RX8 52 "SerialPort" "lineIn" "LSerialPort$LineIn;", Cond.fieldLink RX8 31 "SerialPort" "sender" "LSerialPort$Sender;", Cond.fieldLink RX8 38 "SerialPort" "receiver" "LSerialPort$Receiver;", Cond.methodLink RX8 124 yX5_size, Cond.instanceMethod yX5_size, Cond.selects RX5 yX5_size yX5_size, Cond.initialized RX5, Cond.code yX5_size cX5_size 1 (some .int), Cond.fieldLink RX5 23 "SerialPort$Ring" "size" "I", Cond.methodLink RX8 130 yX8_reason, Cond.instanceMethod yX8_reason, Cond.selects RX8 yX8_reason yX8_reason, Cond.initialized RX8, Cond.code yX8_reason cX8_reason 1 (some .int), Cond.fieldLink RX8 176 "SerialPort" "overrun" "Z", Cond.fieldLink RX8 172 "SerialPort" "rowsOn" "Z", Cond.fieldLink RX8 169 "SerialPort" "level" "I", Cond.fieldLink RX8 182 "SerialPort" "lateUp" "Z", Cond.fieldLink RX8 179 "SerialPort" "emptyUp" "Z", Cond.fieldLink RX8 45 "SerialPort" "modem" "LSerialPort$Modem;"]
def wsX8_count_r2 : List Cond := [Cond.methodLink RX8 245 yX8_wants, Cond.instanceMethod yX8_wants, Cond.selects RX8 yX8_wants yX8_wants, Cond.code yX8_wants cX8_wants 2 (some .boolean), Cond.fieldLink RX8 163 "SerialPort" "wanted" "I", Cond.methodLink RX8 239 yX8_firstFaults, Cond.instanceMethod yX8_firstFaults, Cond.selects RX8 yX8_firstFaults yX8_firstFaults, Cond.code yX8_firstFaults cX8_firstFaults 1 (some .int), Cond.methodLink RX8 224 yX5_first, Cond.instanceMethod yX5_first, Cond.selects RX5 yX5_first yX5_first, Cond.code yX5_first cX5_first 1 (some .int), Cond.methodLink RX5 30 yX5_at, Cond.instanceMethod yX5_at, Cond.selects RX5 yX5_at yX5_at, Cond.code yX5_at cX5_at 3 (some .int), Cond.fieldLink RX5 13 "SerialPort$Ring" "cells" "[I", Cond.methodLink RX5 26 yX5_cellOf, Cond.instanceMethod yX5_cellOf, Cond.selects RX5 yX5_cellOf yX5_cellOf, Cond.code yX5_cellOf cX5_cellOf 3 (some .int), Cond.fieldLink RX5 19 "SerialPort$Ring" "head" "I", Cond.methodLink RX8 248 yX3_hasChanged]
def wsX8_count_r3 : List Cond := [Cond.instanceMethod yX3_hasChanged, Cond.selects RX3 yX3_hasChanged yX3_hasChanged, Cond.initialized RX3, Cond.code yX3_hasChanged cX3_hasChanged 1 (some .boolean), Cond.fieldLink RX3 19 "SerialPort$Modem" "changes" "I", Cond.methodLink RX8 133 yX2_isHigh, Cond.instanceMethod yX2_isHigh, Cond.selects RX2 yX2_isHigh yX2_isHigh, Cond.initialized RX2, Cond.code yX2_isHigh cX2_isHigh 1 (some .boolean), Cond.fieldLink RX2 14 "SerialPort$LineOut" "runs" "LSerialPort$Ring;", Cond.methodLink RX2 27 yX5_isEmpty, Cond.instanceMethod yX5_isEmpty, Cond.selects RX5 yX5_isEmpty yX5_isEmpty, Cond.code yX5_isEmpty cX5_isEmpty 1 (some .boolean), Cond.methodLink RX2 31 yX2_runIsHigh, Cond.instanceMethod yX2_runIsHigh, Cond.selects RX2 yX2_runIsHigh yX2_runIsHigh, Cond.code yX2_runIsHigh cX2_runIsHigh 2 (some .boolean), Cond.methodLink RX2 39 yX2_fromEnd, Cond.instanceMethod yX2_fromEnd, Cond.selects RX2 yX2_fromEnd yX2_fromEnd, Cond.code yX2_fromEnd cX2_fromEnd 2 (some .int), Cond.methodLink RX2 35 yX5_size]
def wsX8_count_r4 : List Cond := [Cond.methodLink RX2 56 yX5_at, Cond.methodLink RX8 106 yX1_pieces, Cond.instanceMethod yX1_pieces, Cond.selects RX1 yX1_pieces yX1_pieces, Cond.initialized RX1, Cond.code yX1_pieces cX1_pieces 1 (some .int), Cond.fieldLink RX1 14 "SerialPort$LineIn" "wave" "LSerialPort$Ring;", Cond.methodLink RX1 27 yX5_size, Cond.methodLink RX8 137 yX2_runsInAll, Cond.instanceMethod yX2_runsInAll, Cond.selects RX2 yX2_runsInAll yX2_runsInAll, Cond.code yX2_runsInAll cX2_runsInAll 1 (some .int), Cond.fieldLink RX2 23 "SerialPort$LineOut" "inAll" "I", Cond.methodLink RX8 140 yX6_isBusy, Cond.instanceMethod yX6_isBusy, Cond.selects RX6 yX6_isBusy yX6_isBusy, Cond.initialized RX6, Cond.code yX6_isBusy cX6_isBusy 1 (some .boolean), Cond.fieldLink RX6 21 "SerialPort$Sender" "busy" "Z", Cond.methodLink RX8 143 yX4_isBusy, Cond.instanceMethod yX4_isBusy, Cond.selects RX4 yX4_isBusy yX4_isBusy, Cond.initialized RX4, Cond.code yX4_isBusy cX4_isBusy 1 (some .boolean)]
def wsX8_count_r5 : List Cond := [Cond.fieldLink RX4 15 "SerialPort$Receiver" "busy" "Z"]
def wsX8_count : List Cond := .code yX8_count cX8_count 2 (some .int) :: ((wsX8_count_r1 ++ (wsX8_count_r2 ++ (wsX8_count_r3 ++ (wsX8_count_r4 ++ wsX8_count_r5)))) ++ wsX80 ++ wsX50 ++ wsX30 ++ wsX20 ++ wsX10 ++ wsX60 ++ wsX40)
def wsX8_run_r1 : List Cond := [Cond.fieldLink RX8 59 "SerialPort" "lineOut" "LSerialPort$LineOut;", Cond.methodLink RX8 144 yX2_runsKept, Cond.instanceMethod yX2_runsKept, Cond.selects RX2 yX2_runsKept yX2_runsKept, Cond.initialized RX2, Cond.code yX2_runsKept cX2_runsKept 1 (some .int), Cond.fieldLink RX2 14 "SerialPort$LineOut" "runs" "LSerialPort$Ring;", Cond.methodLink RX2 35 yX5_size, Cond.instanceMethod yX5_size, Cond.selects RX5 yX5_size yX5_size, Cond.initialized RX5, Cond.code yX5_size cX5_size 1 (some .int), Cond.fieldLink RX5 23 "SerialPort$Ring" "size" "I", Cond.methodLink RX8 147 yX2_runIsHigh, Cond.instanceMethod yX2_runIsHigh, Cond.selects RX2 yX2_runIsHigh yX2_runIsHigh, Cond.code yX2_runIsHigh cX2_runIsHigh 2 (some .boolean), Cond.methodLink RX2 39 yX2_fromEnd, Cond.instanceMethod yX2_fromEnd, Cond.selects RX2 yX2_fromEnd yX2_fromEnd, Cond.code yX2_fromEnd cX2_fromEnd 2 (some .int), Cond.methodLink RX2 56 yX5_at, Cond.instanceMethod yX5_at, Cond.selects RX5 yX5_at yX5_at]
def wsX8_run_r2 : List Cond := [Cond.code yX5_at cX5_at 3 (some .int), Cond.fieldLink RX5 13 "SerialPort$Ring" "cells" "[I", Cond.methodLink RX5 26 yX5_cellOf, Cond.instanceMethod yX5_cellOf, Cond.selects RX5 yX5_cellOf yX5_cellOf, Cond.code yX5_cellOf cX5_cellOf 3 (some .int), Cond.fieldLink RX5 19 "SerialPort$Ring" "head" "I", Cond.methodLink RX8 151 yX2_runBeats, Cond.instanceMethod yX2_runBeats, Cond.selects RX2 yX2_runBeats yX2_runBeats, Cond.code yX2_runBeats cX2_runBeats 2 (some .int)]
def wsX8_run : List Cond := .code yX8_run cX8_run 3 (some .int) :: ((wsX8_run_r1 ++ wsX8_run_r2) ++ wsX80 ++ wsX20 ++ wsX50)
def wsX9_reset_r1 : List Cond := [Cond.fieldLink RX9 35 "SerialPortModel" "thrown" "I", Cond.fieldLink RX9 39 "SerialPortModel" "divisor" "I", Cond.fieldLink RX9 42 "SerialPortModel" "clocks" "I", Cond.fieldLink RX9 45 "SerialPortModel" "wanted" "I", Cond.fieldLink RX9 48 "SerialPortModel" "rowsOn" "Z", Cond.fieldLink RX9 52 "SerialPortModel" "level" "I", Cond.fieldLink RX9 55 "SerialPortModel" "form" "I", Cond.fieldLink RX9 58 "SerialPortModel" "outputs" "I", Cond.fieldLink RX9 61 "SerialPortModel" "byteKept" "I", Cond.fieldLink RX9 64 "SerialPortModel" "ins" "I", Cond.fieldLink RX9 67 "SerialPortModel" "changed" "I", Cond.fieldLink RX9 70 "SerialPortModel" "receivedMany" "I", Cond.fieldLink RX9 73 "SerialPortModel" "overrun" "Z", Cond.fieldLink RX9 76 "SerialPortModel" "sendingMany" "I", Cond.fieldLink RX9 79 "SerialPortModel" "emptyUp" "Z", Cond.fieldLink RX9 82 "SerialPortModel" "lateUp" "Z", Cond.fieldLink RX9 85 "SerialPortModel" "lateCount" "I", Cond.fieldLink RX9 88 "SerialPortModel" "waveMany" "I", Cond.fieldLink RX9 91 "SerialPortModel" "lineIn" "Z", Cond.fieldLink RX9 94 "SerialPortModel" "sends" "Z", Cond.fieldLink RX9 97 "SerialPortModel" "senderHigh" "Z", Cond.fieldLink RX9 100 "SerialPortModel" "takes" "Z", Cond.fieldLink RX9 103 "SerialPortModel" "sawHigh" "Z", Cond.fieldLink RX9 106 "SerialPortModel" "beats" "I"]
def wsX9_reset_r2 : List Cond := [Cond.fieldLink RX9 109 "SerialPortModel" "out" "Z", Cond.fieldLink RX9 112 "SerialPortModel" "runs" "I"]
def wsX9_reset : List Cond := .code yX9_reset cX9_reset 1 none :: ((wsX9_reset_r1 ++ wsX9_reset_r2) ++ wsX90)
def wsX9_init_r1 : List Cond := [Cond.methodLink RX9 1 objectInit, Cond.instanceMethod objectInit, Cond.code objectInit ⟨#[0xb1]⟩ 1 none, Cond.arrayClass .int, Cond.fieldLink RX9 9 "SerialPortModel" "received" "[I", Cond.fieldLink RX9 13 "SerialPortModel" "marks" "[I", Cond.fieldLink RX9 16 "SerialPortModel" "sending" "[I", Cond.arrayClass .boolean, Cond.fieldLink RX9 19 "SerialPortModel" "waveHigh" "[Z", Cond.fieldLink RX9 23 "SerialPortModel" "waveBeats" "[I", Cond.fieldLink RX9 26 "SerialPortModel" "runHigh" "[Z", Cond.fieldLink RX9 29 "SerialPortModel" "runBeats" "[I", Cond.methodLink RX9 32 yX9_reset, Cond.instanceMethod yX9_reset, Cond.selects RX9 yX9_reset yX9_reset, Cond.initialized RX9, Cond.code yX9_reset cX9_reset 1 none, Cond.fieldLink RX9 35 "SerialPortModel" "thrown" "I", Cond.fieldLink RX9 39 "SerialPortModel" "divisor" "I", Cond.fieldLink RX9 42 "SerialPortModel" "clocks" "I", Cond.fieldLink RX9 45 "SerialPortModel" "wanted" "I", Cond.fieldLink RX9 48 "SerialPortModel" "rowsOn" "Z", Cond.fieldLink RX9 52 "SerialPortModel" "level" "I", Cond.fieldLink RX9 55 "SerialPortModel" "form" "I"]
def wsX9_init_r2 : List Cond := [Cond.fieldLink RX9 58 "SerialPortModel" "outputs" "I", Cond.fieldLink RX9 61 "SerialPortModel" "byteKept" "I", Cond.fieldLink RX9 64 "SerialPortModel" "ins" "I", Cond.fieldLink RX9 67 "SerialPortModel" "changed" "I", Cond.fieldLink RX9 70 "SerialPortModel" "receivedMany" "I", Cond.fieldLink RX9 73 "SerialPortModel" "overrun" "Z", Cond.fieldLink RX9 76 "SerialPortModel" "sendingMany" "I", Cond.fieldLink RX9 79 "SerialPortModel" "emptyUp" "Z", Cond.fieldLink RX9 82 "SerialPortModel" "lateUp" "Z", Cond.fieldLink RX9 85 "SerialPortModel" "lateCount" "I", Cond.fieldLink RX9 88 "SerialPortModel" "waveMany" "I", Cond.fieldLink RX9 91 "SerialPortModel" "lineIn" "Z", Cond.fieldLink RX9 94 "SerialPortModel" "sends" "Z", Cond.fieldLink RX9 97 "SerialPortModel" "senderHigh" "Z", Cond.fieldLink RX9 100 "SerialPortModel" "takes" "Z", Cond.fieldLink RX9 103 "SerialPortModel" "sawHigh" "Z", Cond.fieldLink RX9 106 "SerialPortModel" "beats" "I", Cond.fieldLink RX9 109 "SerialPortModel" "out" "Z", Cond.fieldLink RX9 112 "SerialPortModel" "runs" "I"]
def wsX9_init : List Cond := .code yX9_init cX9_init 1 none :: ((wsX9_init_r1 ++ wsX9_init_r2) ++ wsX90)
def wsX9_thrown : List Cond := .code yX9_thrown cX9_thrown 1 (some .int) :: ([.fieldLink RX9 35 "SerialPortModel" "thrown" "I"] ++ wsX90)
def wsX9_dlab : List Cond := .code yX9_dlab cX9_dlab 1 (some .boolean) :: ([.fieldLink RX9 55 "SerialPortModel" "form" "I"] ++ wsX90)
def wsX9_loops : List Cond := .code yX9_loops cX9_loops 1 (some .boolean) :: ([.fieldLink RX9 58 "SerialPortModel" "outputs" "I"] ++ wsX90)
def wsX9_room : List Cond := .code yX9_room cX9_room 1 (some .int) :: ([.fieldLink RX9 48 "SerialPortModel" "rowsOn" "Z"] ++ wsX90)
def wsX9_bitsOf : List Cond := .code yX9_bitsOf cX9_bitsOf 1 (some .int) :: ([])
def wsX9_hasParity : List Cond := .code yX9_hasParity cX9_hasParity 1 (some .boolean) :: ([])
def wsX9_parityOf : List Cond := .code yX9_parityOf cX9_parityOf 3 (some .int) :: ([.methodLink RX9 115 yX9_bitsOf, .static yX9_bitsOf, .initialized RX9, .code yX9_bitsOf cX9_bitsOf 1 (some .int), .methodLink RX9 119 yJ6_bitCount_0f7a4, .static yJ6_bitCount_0f7a4, .initialized RJ6, .code yJ6_bitCount_0f7a4 cJ6_bitCount_0f7a4 1 (some .int), .constant RJ6 265 (1431655765), .constant RJ6 266 (858993459), .constant RJ6 267 (252645135)])
def wsX9_stopOf : List Cond := .code yX9_stopOf cX9_stopOf 1 (some .int) :: ([.methodLink RX9 115 yX9_bitsOf, .static yX9_bitsOf, .initialized RX9, .code yX9_bitsOf cX9_bitsOf 1 (some .int)])
def wsX9_frameOf : List Cond := .code yX9_frameOf cX9_frameOf 1 (some .int) :: ([.methodLink RX9 115 yX9_bitsOf, .static yX9_bitsOf, .initialized RX9, .code yX9_bitsOf cX9_bitsOf 1 (some .int), .methodLink RX9 124 yX9_hasParity, .static yX9_hasParity, .code yX9_hasParity cX9_hasParity 1 (some .boolean), .methodLink RX9 128 yX9_stopOf, .static yX9_stopOf, .code yX9_stopOf cX9_stopOf 1 (some .int)])
def wsX9_partOf : List Cond := .code yX9_partOf cX9_partOf 4 (some .boolean) :: ([.methodLink RX9 115 yX9_bitsOf, .static yX9_bitsOf, .initialized RX9, .code yX9_bitsOf cX9_bitsOf 1 (some .int), .methodLink RX9 124 yX9_hasParity, .static yX9_hasParity, .code yX9_hasParity cX9_hasParity 1 (some .boolean), .methodLink RX9 131 yX9_parityOf, .static yX9_parityOf, .code yX9_parityOf cX9_parityOf 3 (some .int), .methodLink RX9 119 yJ6_bitCount_0f7a4, .static yJ6_bitCount_0f7a4, .initialized RJ6, .code yJ6_bitCount_0f7a4 cJ6_bitCount_0f7a4 1 (some .int), .constant RJ6 265 (1431655765), .constant RJ6 266 (858993459), .constant RJ6 267 (252645135)])
def wsX9_lines : List Cond := .code yX9_lines cX9_lines 1 (some .int) :: ([.fieldLink RX9 64 "SerialPortModel" "ins" "I", .fieldLink RX9 58 "SerialPortModel" "outputs" "I", .methodLink RX9 135 yX9_loops, .instanceMethod yX9_loops, .selects RX9 yX9_loops yX9_loops, .initialized RX9, .code yX9_loops cX9_loops 1 (some .boolean)] ++ wsX90)
def wsX9_notice : List Cond := .code yX9_notice cX9_notice 4 none :: ([.fieldLink RX9 67 "SerialPortModel" "changed" "I", .methodLink RX9 139 yX9_lines, .instanceMethod yX9_lines, .selects RX9 yX9_lines yX9_lines, .initialized RX9, .code yX9_lines cX9_lines 1 (some .int), .fieldLink RX9 64 "SerialPortModel" "ins" "I", .fieldLink RX9 58 "SerialPortModel" "outputs" "I", .methodLink RX9 135 yX9_loops, .instanceMethod yX9_loops, .selects RX9 yX9_loops yX9_loops, .code yX9_loops cX9_loops 1 (some .boolean)] ++ wsX90)
def wsX9_inputs : List Cond := .code yX9_inputs cX9_inputs 3 (some .boolean) :: ([.fieldLink RX9 35 "SerialPortModel" "thrown" "I", .fieldLink RX9 64 "SerialPortModel" "ins" "I", .methodLink RX9 139 yX9_lines, .instanceMethod yX9_lines, .selects RX9 yX9_lines yX9_lines, .initialized RX9, .code yX9_lines cX9_lines 1 (some .int), .fieldLink RX9 58 "SerialPortModel" "outputs" "I", .methodLink RX9 135 yX9_loops, .instanceMethod yX9_loops, .selects RX9 yX9_loops yX9_loops, .code yX9_loops cX9_loops 1 (some .boolean), .methodLink RX9 143 yX9_notice, .instanceMethod yX9_notice, .selects RX9 yX9_notice yX9_notice, .code yX9_notice cX9_notice 4 none, .fieldLink RX9 67 "SerialPortModel" "changed" "I"] ++ wsX90)
def wsX9_clearReceived : List Cond := .code yX9_clearReceived cX9_clearReceived 1 none :: ([.fieldLink RX9 70 "SerialPortModel" "receivedMany" "I", .fieldLink RX9 82 "SerialPortModel" "lateUp" "Z", .fieldLink RX9 85 "SerialPortModel" "lateCount" "I"] ++ wsX90)
def wsX9_write_r1 : List Cond := [Cond.fieldLink RX9 35 "SerialPortModel" "thrown" "I", Cond.fieldLink RX9 39 "SerialPortModel" "divisor" "I", Cond.constant RX9 150 (65280), Cond.fieldLink RX9 42 "SerialPortModel" "clocks" "I", Cond.fieldLink RX9 79 "SerialPortModel" "emptyUp" "Z", Cond.fieldLink RX9 76 "SerialPortModel" "sendingMany" "I", Cond.fieldLink RX9 16 "SerialPortModel" "sending" "[I", Cond.fieldLink RX9 48 "SerialPortModel" "rowsOn" "Z", Cond.fieldLink RX9 45 "SerialPortModel" "wanted" "I", Cond.fieldLink RX9 52 "SerialPortModel" "level" "I", Cond.fieldLink RX9 55 "SerialPortModel" "form" "I", Cond.fieldLink RX9 58 "SerialPortModel" "outputs" "I", Cond.fieldLink RX9 61 "SerialPortModel" "byteKept" "I", Cond.methodLink RX9 139 yX9_lines, Cond.instanceMethod yX9_lines, Cond.selects RX9 yX9_lines yX9_lines, Cond.initialized RX9, Cond.code yX9_lines cX9_lines 1 (some .int), Cond.fieldLink RX9 64 "SerialPortModel" "ins" "I", Cond.methodLink RX9 135 yX9_loops, Cond.instanceMethod yX9_loops, Cond.selects RX9 yX9_loops yX9_loops, Cond.code yX9_loops cX9_loops 1 (some .boolean), Cond.methodLink RX9 147 yX9_dlab]
def wsX9_write_r2 : List Cond := [Cond.instanceMethod yX9_dlab, Cond.selects RX9 yX9_dlab yX9_dlab, Cond.code yX9_dlab cX9_dlab 1 (some .boolean), Cond.methodLink RX9 151 yX9_room, Cond.instanceMethod yX9_room, Cond.selects RX9 yX9_room yX9_room, Cond.code yX9_room cX9_room 1 (some .int), Cond.methodLink RX9 154 yX9_clearReceived, Cond.instanceMethod yX9_clearReceived, Cond.selects RX9 yX9_clearReceived yX9_clearReceived, Cond.code yX9_clearReceived cX9_clearReceived 1 none, Cond.fieldLink RX9 70 "SerialPortModel" "receivedMany" "I", Cond.fieldLink RX9 82 "SerialPortModel" "lateUp" "Z", Cond.fieldLink RX9 85 "SerialPortModel" "lateCount" "I", Cond.methodLink RX9 143 yX9_notice, Cond.instanceMethod yX9_notice, Cond.selects RX9 yX9_notice yX9_notice, Cond.code yX9_notice cX9_notice 4 none, Cond.fieldLink RX9 67 "SerialPortModel" "changed" "I"]
def wsX9_write : List Cond := .code yX9_write cX9_write 7 none :: ((wsX9_write_r1 ++ wsX9_write_r2) ++ wsX90)
def wsX9_isMarked : List Cond := .code yX9_isMarked cX9_isMarked 1 (some .boolean) :: ([.fieldLink RX9 70 "SerialPortModel" "receivedMany" "I", .fieldLink RX9 13 "SerialPortModel" "marks" "[I"] ++ wsX90)
def wsX9_reason : List Cond := .code yX9_reason cX9_reason 1 (some .int) :: ([.fieldLink RX9 45 "SerialPortModel" "wanted" "I", .fieldLink RX9 73 "SerialPortModel" "overrun" "Z", .fieldLink RX9 70 "SerialPortModel" "receivedMany" "I", .fieldLink RX9 48 "SerialPortModel" "rowsOn" "Z", .fieldLink RX9 52 "SerialPortModel" "level" "I", .fieldLink RX9 82 "SerialPortModel" "lateUp" "Z", .fieldLink RX9 79 "SerialPortModel" "emptyUp" "Z", .fieldLink RX9 67 "SerialPortModel" "changed" "I", .methodLink RX9 157 yX9_isMarked, .instanceMethod yX9_isMarked, .selects RX9 yX9_isMarked yX9_isMarked, .initialized RX9, .code yX9_isMarked cX9_isMarked 1 (some .boolean), .fieldLink RX9 13 "SerialPortModel" "marks" "[I"] ++ wsX90)
def wsX9_line : List Cond := .code yX9_line cX9_line 4 (some .int) :: ([.fieldLink RX9 70 "SerialPortModel" "receivedMany" "I", .fieldLink RX9 73 "SerialPortModel" "overrun" "Z", .fieldLink RX9 13 "SerialPortModel" "marks" "[I", .fieldLink RX9 76 "SerialPortModel" "sendingMany" "I", .fieldLink RX9 94 "SerialPortModel" "sends" "Z", .fieldLink RX9 48 "SerialPortModel" "rowsOn" "Z"] ++ wsX90)
def wsX9_take : List Cond := .code yX9_take cX9_take 3 (some .int) :: ([.fieldLink RX9 82 "SerialPortModel" "lateUp" "Z", .fieldLink RX9 85 "SerialPortModel" "lateCount" "I", .fieldLink RX9 70 "SerialPortModel" "receivedMany" "I", .fieldLink RX9 9 "SerialPortModel" "received" "[I", .fieldLink RX9 13 "SerialPortModel" "marks" "[I"] ++ wsX90)
def wsX9_read_r1 : List Cond := [Cond.fieldLink RX9 35 "SerialPortModel" "thrown" "I", Cond.fieldLink RX9 39 "SerialPortModel" "divisor" "I", Cond.fieldLink RX9 45 "SerialPortModel" "wanted" "I", Cond.fieldLink RX9 79 "SerialPortModel" "emptyUp" "Z", Cond.fieldLink RX9 48 "SerialPortModel" "rowsOn" "Z", Cond.fieldLink RX9 55 "SerialPortModel" "form" "I", Cond.fieldLink RX9 58 "SerialPortModel" "outputs" "I", Cond.fieldLink RX9 67 "SerialPortModel" "changed" "I", Cond.fieldLink RX9 61 "SerialPortModel" "byteKept" "I", Cond.methodLink RX9 147 yX9_dlab, Cond.instanceMethod yX9_dlab, Cond.selects RX9 yX9_dlab yX9_dlab, Cond.initialized RX9, Cond.code yX9_dlab cX9_dlab 1 (some .boolean), Cond.methodLink RX9 160 yX9_take, Cond.instanceMethod yX9_take, Cond.selects RX9 yX9_take yX9_take, Cond.code yX9_take cX9_take 3 (some .int), Cond.fieldLink RX9 82 "SerialPortModel" "lateUp" "Z", Cond.fieldLink RX9 85 "SerialPortModel" "lateCount" "I", Cond.fieldLink RX9 70 "SerialPortModel" "receivedMany" "I", Cond.fieldLink RX9 9 "SerialPortModel" "received" "[I", Cond.fieldLink RX9 13 "SerialPortModel" "marks" "[I", Cond.methodLink RX9 163 yX9_reason]
def wsX9_read_r2 : List Cond := [Cond.instanceMethod yX9_reason, Cond.selects RX9 yX9_reason yX9_reason, Cond.code yX9_reason cX9_reason 1 (some .int), Cond.fieldLink RX9 73 "SerialPortModel" "overrun" "Z", Cond.fieldLink RX9 52 "SerialPortModel" "level" "I", Cond.methodLink RX9 157 yX9_isMarked, Cond.instanceMethod yX9_isMarked, Cond.selects RX9 yX9_isMarked yX9_isMarked, Cond.code yX9_isMarked cX9_isMarked 1 (some .boolean), Cond.methodLink RX9 166 yX9_line, Cond.instanceMethod yX9_line, Cond.selects RX9 yX9_line yX9_line, Cond.code yX9_line cX9_line 4 (some .int), Cond.fieldLink RX9 76 "SerialPortModel" "sendingMany" "I", Cond.fieldLink RX9 94 "SerialPortModel" "sends" "Z", Cond.methodLink RX9 139 yX9_lines, Cond.instanceMethod yX9_lines, Cond.selects RX9 yX9_lines yX9_lines, Cond.code yX9_lines cX9_lines 1 (some .int), Cond.fieldLink RX9 64 "SerialPortModel" "ins" "I", Cond.methodLink RX9 135 yX9_loops, Cond.instanceMethod yX9_loops, Cond.selects RX9 yX9_loops yX9_loops, Cond.code yX9_loops cX9_loops 1 (some .boolean)]
def wsX9_read : List Cond := .code yX9_read cX9_read 3 (some .int) :: ((wsX9_read_r1 ++ wsX9_read_r2) ++ wsX90)
def wsX9_send_r1 : List Cond := [Cond.fieldLink RX9 94 "SerialPortModel" "sends" "Z", Cond.fieldLink RX9 76 "SerialPortModel" "sendingMany" "I", Cond.fieldLink RX9 16 "SerialPortModel" "sending" "[I", Cond.fieldLink RX9 169 "SerialPortModel" "sentCharacter" "I", Cond.fieldLink RX9 79 "SerialPortModel" "emptyUp" "Z", Cond.fieldLink RX9 55 "SerialPortModel" "form" "I", Cond.fieldLink RX9 172 "SerialPortModel" "sentForm" "I", Cond.fieldLink RX9 175 "SerialPortModel" "sentBeat" "I", Cond.fieldLink RX9 97 "SerialPortModel" "senderHigh" "Z", Cond.methodLink RX9 178 yX9_partOf, Cond.static yX9_partOf, Cond.initialized RX9, Cond.code yX9_partOf cX9_partOf 4 (some .boolean), Cond.methodLink RX9 115 yX9_bitsOf, Cond.static yX9_bitsOf, Cond.code yX9_bitsOf cX9_bitsOf 1 (some .int), Cond.methodLink RX9 124 yX9_hasParity, Cond.static yX9_hasParity, Cond.code yX9_hasParity cX9_hasParity 1 (some .boolean), Cond.methodLink RX9 131 yX9_parityOf, Cond.static yX9_parityOf, Cond.code yX9_parityOf cX9_parityOf 3 (some .int), Cond.methodLink RX9 119 yJ6_bitCount_0f7a4, Cond.static yJ6_bitCount_0f7a4]
def wsX9_send_r2 : List Cond := [Cond.initialized RJ6, Cond.code yJ6_bitCount_0f7a4 cJ6_bitCount_0f7a4 1 (some .int), Cond.constant RJ6 265 (1431655765), Cond.constant RJ6 266 (858993459), Cond.constant RJ6 267 (252645135), Cond.methodLink RX9 182 yX9_frameOf, Cond.static yX9_frameOf, Cond.code yX9_frameOf cX9_frameOf 1 (some .int), Cond.methodLink RX9 128 yX9_stopOf, Cond.static yX9_stopOf, Cond.code yX9_stopOf cX9_stopOf 1 (some .int)]
def wsX9_send : List Cond := .code yX9_send cX9_send 2 none :: ((wsX9_send_r1 ++ wsX9_send_r2) ++ wsX90)
def wsX9_say : List Cond := .code yX9_say cX9_say 2 none :: ([.fieldLink RX9 109 "SerialPortModel" "out" "Z", .fieldLink RX9 112 "SerialPortModel" "runs" "I", .fieldLink RX9 26 "SerialPortModel" "runHigh" "[Z", .fieldLink RX9 29 "SerialPortModel" "runBeats" "[I"] ++ wsX90)
def wsX9_come : List Cond := .code yX9_come cX9_come 2 none :: ([.fieldLink RX9 88 "SerialPortModel" "waveMany" "I", .fieldLink RX9 19 "SerialPortModel" "waveHigh" "[Z", .fieldLink RX9 91 "SerialPortModel" "lineIn" "Z", .fieldLink RX9 23 "SerialPortModel" "waveBeats" "[I"] ++ wsX90)
def wsX9_put : List Cond := .code yX9_put cX9_put 3 none :: ([.fieldLink RX9 70 "SerialPortModel" "receivedMany" "I", .fieldLink RX9 73 "SerialPortModel" "overrun" "Z", .fieldLink RX9 48 "SerialPortModel" "rowsOn" "Z", .fieldLink RX9 9 "SerialPortModel" "received" "[I", .fieldLink RX9 13 "SerialPortModel" "marks" "[I", .fieldLink RX9 85 "SerialPortModel" "lateCount" "I", .methodLink RX9 151 yX9_room, .instanceMethod yX9_room, .selects RX9 yX9_room yX9_room, .initialized RX9, .code yX9_room cX9_room 1 (some .int)] ++ wsX90)
def wsX9_receive_r1 : List Cond := [Cond.fieldLink RX9 97 "SerialPortModel" "senderHigh" "Z", Cond.fieldLink RX9 91 "SerialPortModel" "lineIn" "Z", Cond.fieldLink RX9 100 "SerialPortModel" "takes" "Z", Cond.fieldLink RX9 103 "SerialPortModel" "sawHigh" "Z", Cond.fieldLink RX9 55 "SerialPortModel" "form" "I", Cond.fieldLink RX9 185 "SerialPortModel" "takenForm" "I", Cond.fieldLink RX9 188 "SerialPortModel" "takenBeat" "I", Cond.fieldLink RX9 191 "SerialPortModel" "takenBits" "I", Cond.fieldLink RX9 194 "SerialPortModel" "takenParity" "I", Cond.methodLink RX9 135 yX9_loops, Cond.instanceMethod yX9_loops, Cond.selects RX9 yX9_loops yX9_loops, Cond.initialized RX9, Cond.code yX9_loops cX9_loops 1 (some .boolean), Cond.fieldLink RX9 58 "SerialPortModel" "outputs" "I", Cond.methodLink RX9 115 yX9_bitsOf, Cond.static yX9_bitsOf, Cond.code yX9_bitsOf cX9_bitsOf 1 (some .int), Cond.methodLink RX9 124 yX9_hasParity, Cond.static yX9_hasParity, Cond.code yX9_hasParity cX9_hasParity 1 (some .boolean), Cond.methodLink RX9 131 yX9_parityOf, Cond.static yX9_parityOf, Cond.code yX9_parityOf cX9_parityOf 3 (some .int)]
def wsX9_receive_r2 : List Cond := [Cond.methodLink RX9 119 yJ6_bitCount_0f7a4, Cond.static yJ6_bitCount_0f7a4, Cond.initialized RJ6, Cond.code yJ6_bitCount_0f7a4 cJ6_bitCount_0f7a4 1 (some .int), Cond.constant RJ6 265 (1431655765), Cond.constant RJ6 266 (858993459), Cond.constant RJ6 267 (252645135), Cond.methodLink RX9 197 yX9_put, Cond.instanceMethod yX9_put, Cond.selects RX9 yX9_put yX9_put, Cond.code yX9_put cX9_put 3 none, Cond.fieldLink RX9 70 "SerialPortModel" "receivedMany" "I", Cond.fieldLink RX9 73 "SerialPortModel" "overrun" "Z", Cond.fieldLink RX9 48 "SerialPortModel" "rowsOn" "Z", Cond.fieldLink RX9 9 "SerialPortModel" "received" "[I", Cond.fieldLink RX9 13 "SerialPortModel" "marks" "[I", Cond.fieldLink RX9 85 "SerialPortModel" "lateCount" "I", Cond.methodLink RX9 151 yX9_room, Cond.instanceMethod yX9_room, Cond.selects RX9 yX9_room yX9_room, Cond.code yX9_room cX9_room 1 (some .int)]
def wsX9_receive : List Cond := .code yX9_receive cX9_receive 5 none :: ((wsX9_receive_r1 ++ wsX9_receive_r2) ++ wsX90)
def wsX9_beat_r1 : List Cond := [Cond.fieldLink RX9 106 "SerialPortModel" "beats" "I", Cond.fieldLink RX9 97 "SerialPortModel" "senderHigh" "Z", Cond.fieldLink RX9 55 "SerialPortModel" "form" "I", Cond.fieldLink RX9 70 "SerialPortModel" "receivedMany" "I", Cond.fieldLink RX9 85 "SerialPortModel" "lateCount" "I", Cond.fieldLink RX9 82 "SerialPortModel" "lateUp" "Z", Cond.methodLink RX9 201 yX9_send, Cond.instanceMethod yX9_send, Cond.selects RX9 yX9_send yX9_send, Cond.initialized RX9, Cond.code yX9_send cX9_send 2 none, Cond.fieldLink RX9 94 "SerialPortModel" "sends" "Z", Cond.fieldLink RX9 76 "SerialPortModel" "sendingMany" "I", Cond.fieldLink RX9 16 "SerialPortModel" "sending" "[I", Cond.fieldLink RX9 169 "SerialPortModel" "sentCharacter" "I", Cond.fieldLink RX9 79 "SerialPortModel" "emptyUp" "Z", Cond.fieldLink RX9 172 "SerialPortModel" "sentForm" "I", Cond.fieldLink RX9 175 "SerialPortModel" "sentBeat" "I", Cond.methodLink RX9 178 yX9_partOf, Cond.static yX9_partOf, Cond.code yX9_partOf cX9_partOf 4 (some .boolean), Cond.methodLink RX9 115 yX9_bitsOf, Cond.static yX9_bitsOf, Cond.code yX9_bitsOf cX9_bitsOf 1 (some .int)]
def wsX9_beat_r2 : List Cond := [Cond.methodLink RX9 124 yX9_hasParity, Cond.static yX9_hasParity, Cond.code yX9_hasParity cX9_hasParity 1 (some .boolean), Cond.methodLink RX9 131 yX9_parityOf, Cond.static yX9_parityOf, Cond.code yX9_parityOf cX9_parityOf 3 (some .int), Cond.methodLink RX9 119 yJ6_bitCount_0f7a4, Cond.static yJ6_bitCount_0f7a4, Cond.initialized RJ6, Cond.code yJ6_bitCount_0f7a4 cJ6_bitCount_0f7a4 1 (some .int), Cond.constant RJ6 265 (1431655765), Cond.constant RJ6 266 (858993459), Cond.constant RJ6 267 (252645135), Cond.methodLink RX9 182 yX9_frameOf, Cond.static yX9_frameOf, Cond.code yX9_frameOf cX9_frameOf 1 (some .int), Cond.methodLink RX9 128 yX9_stopOf, Cond.static yX9_stopOf, Cond.code yX9_stopOf cX9_stopOf 1 (some .int), Cond.methodLink RX9 135 yX9_loops, Cond.instanceMethod yX9_loops, Cond.selects RX9 yX9_loops yX9_loops, Cond.code yX9_loops cX9_loops 1 (some .boolean), Cond.fieldLink RX9 58 "SerialPortModel" "outputs" "I"]
def wsX9_beat_r3 : List Cond := [Cond.methodLink RX9 204 yX9_say, Cond.instanceMethod yX9_say, Cond.selects RX9 yX9_say yX9_say, Cond.code yX9_say cX9_say 2 none, Cond.fieldLink RX9 109 "SerialPortModel" "out" "Z", Cond.fieldLink RX9 112 "SerialPortModel" "runs" "I", Cond.fieldLink RX9 26 "SerialPortModel" "runHigh" "[Z", Cond.fieldLink RX9 29 "SerialPortModel" "runBeats" "[I", Cond.methodLink RX9 208 yX9_come, Cond.instanceMethod yX9_come, Cond.selects RX9 yX9_come yX9_come, Cond.code yX9_come cX9_come 2 none, Cond.fieldLink RX9 88 "SerialPortModel" "waveMany" "I", Cond.fieldLink RX9 19 "SerialPortModel" "waveHigh" "[Z", Cond.fieldLink RX9 91 "SerialPortModel" "lineIn" "Z", Cond.fieldLink RX9 23 "SerialPortModel" "waveBeats" "[I", Cond.methodLink RX9 211 yX9_receive, Cond.instanceMethod yX9_receive, Cond.selects RX9 yX9_receive yX9_receive, Cond.code yX9_receive cX9_receive 5 none, Cond.fieldLink RX9 100 "SerialPortModel" "takes" "Z", Cond.fieldLink RX9 103 "SerialPortModel" "sawHigh" "Z", Cond.fieldLink RX9 185 "SerialPortModel" "takenForm" "I", Cond.fieldLink RX9 188 "SerialPortModel" "takenBeat" "I"]
def wsX9_beat_r4 : List Cond := [Cond.fieldLink RX9 191 "SerialPortModel" "takenBits" "I", Cond.fieldLink RX9 194 "SerialPortModel" "takenParity" "I", Cond.methodLink RX9 197 yX9_put, Cond.instanceMethod yX9_put, Cond.selects RX9 yX9_put yX9_put, Cond.code yX9_put cX9_put 3 none, Cond.fieldLink RX9 73 "SerialPortModel" "overrun" "Z", Cond.fieldLink RX9 48 "SerialPortModel" "rowsOn" "Z", Cond.fieldLink RX9 9 "SerialPortModel" "received" "[I", Cond.fieldLink RX9 13 "SerialPortModel" "marks" "[I", Cond.methodLink RX9 151 yX9_room, Cond.instanceMethod yX9_room, Cond.selects RX9 yX9_room yX9_room, Cond.code yX9_room cX9_room 1 (some .int)]
def wsX9_beat : List Cond := .code yX9_beat cX9_beat 1 none :: ((wsX9_beat_r1 ++ (wsX9_beat_r2 ++ (wsX9_beat_r3 ++ wsX9_beat_r4))) ++ wsX90)
def wsX9_clock_r1 : List Cond := [Cond.fieldLink RX9 35 "SerialPortModel" "thrown" "I", Cond.constant RX9 214 (60000), Cond.fieldLink RX9 42 "SerialPortModel" "clocks" "I", Cond.fieldLink RX9 39 "SerialPortModel" "divisor" "I", Cond.methodLink RX9 215 yX9_beat, Cond.instanceMethod yX9_beat, Cond.selects RX9 yX9_beat yX9_beat, Cond.initialized RX9, Cond.code yX9_beat cX9_beat 1 none, Cond.fieldLink RX9 106 "SerialPortModel" "beats" "I", Cond.fieldLink RX9 97 "SerialPortModel" "senderHigh" "Z", Cond.fieldLink RX9 55 "SerialPortModel" "form" "I", Cond.fieldLink RX9 70 "SerialPortModel" "receivedMany" "I", Cond.fieldLink RX9 85 "SerialPortModel" "lateCount" "I", Cond.fieldLink RX9 82 "SerialPortModel" "lateUp" "Z", Cond.methodLink RX9 201 yX9_send, Cond.instanceMethod yX9_send, Cond.selects RX9 yX9_send yX9_send, Cond.code yX9_send cX9_send 2 none, Cond.fieldLink RX9 94 "SerialPortModel" "sends" "Z", Cond.fieldLink RX9 76 "SerialPortModel" "sendingMany" "I", Cond.fieldLink RX9 16 "SerialPortModel" "sending" "[I", Cond.fieldLink RX9 169 "SerialPortModel" "sentCharacter" "I", Cond.fieldLink RX9 79 "SerialPortModel" "emptyUp" "Z"]
def wsX9_clock_r2 : List Cond := [Cond.fieldLink RX9 172 "SerialPortModel" "sentForm" "I", Cond.fieldLink RX9 175 "SerialPortModel" "sentBeat" "I", Cond.methodLink RX9 178 yX9_partOf, Cond.static yX9_partOf, Cond.code yX9_partOf cX9_partOf 4 (some .boolean), Cond.methodLink RX9 115 yX9_bitsOf, Cond.static yX9_bitsOf, Cond.code yX9_bitsOf cX9_bitsOf 1 (some .int), Cond.methodLink RX9 124 yX9_hasParity, Cond.static yX9_hasParity, Cond.code yX9_hasParity cX9_hasParity 1 (some .boolean), Cond.methodLink RX9 131 yX9_parityOf, Cond.static yX9_parityOf, Cond.code yX9_parityOf cX9_parityOf 3 (some .int), Cond.methodLink RX9 119 yJ6_bitCount_0f7a4, Cond.static yJ6_bitCount_0f7a4, Cond.initialized RJ6, Cond.code yJ6_bitCount_0f7a4 cJ6_bitCount_0f7a4 1 (some .int), Cond.constant RJ6 265 (1431655765), Cond.constant RJ6 266 (858993459), Cond.constant RJ6 267 (252645135), Cond.methodLink RX9 182 yX9_frameOf, Cond.static yX9_frameOf, Cond.code yX9_frameOf cX9_frameOf 1 (some .int)]
def wsX9_clock_r3 : List Cond := [Cond.methodLink RX9 128 yX9_stopOf, Cond.static yX9_stopOf, Cond.code yX9_stopOf cX9_stopOf 1 (some .int), Cond.methodLink RX9 135 yX9_loops, Cond.instanceMethod yX9_loops, Cond.selects RX9 yX9_loops yX9_loops, Cond.code yX9_loops cX9_loops 1 (some .boolean), Cond.fieldLink RX9 58 "SerialPortModel" "outputs" "I", Cond.methodLink RX9 204 yX9_say, Cond.instanceMethod yX9_say, Cond.selects RX9 yX9_say yX9_say, Cond.code yX9_say cX9_say 2 none, Cond.fieldLink RX9 109 "SerialPortModel" "out" "Z", Cond.fieldLink RX9 112 "SerialPortModel" "runs" "I", Cond.fieldLink RX9 26 "SerialPortModel" "runHigh" "[Z", Cond.fieldLink RX9 29 "SerialPortModel" "runBeats" "[I", Cond.methodLink RX9 208 yX9_come, Cond.instanceMethod yX9_come, Cond.selects RX9 yX9_come yX9_come, Cond.code yX9_come cX9_come 2 none, Cond.fieldLink RX9 88 "SerialPortModel" "waveMany" "I", Cond.fieldLink RX9 19 "SerialPortModel" "waveHigh" "[Z", Cond.fieldLink RX9 91 "SerialPortModel" "lineIn" "Z", Cond.fieldLink RX9 23 "SerialPortModel" "waveBeats" "[I"]
def wsX9_clock_r4 : List Cond := [Cond.methodLink RX9 211 yX9_receive, Cond.instanceMethod yX9_receive, Cond.selects RX9 yX9_receive yX9_receive, Cond.code yX9_receive cX9_receive 5 none, Cond.fieldLink RX9 100 "SerialPortModel" "takes" "Z", Cond.fieldLink RX9 103 "SerialPortModel" "sawHigh" "Z", Cond.fieldLink RX9 185 "SerialPortModel" "takenForm" "I", Cond.fieldLink RX9 188 "SerialPortModel" "takenBeat" "I", Cond.fieldLink RX9 191 "SerialPortModel" "takenBits" "I", Cond.fieldLink RX9 194 "SerialPortModel" "takenParity" "I", Cond.methodLink RX9 197 yX9_put, Cond.instanceMethod yX9_put, Cond.selects RX9 yX9_put yX9_put, Cond.code yX9_put cX9_put 3 none, Cond.fieldLink RX9 73 "SerialPortModel" "overrun" "Z", Cond.fieldLink RX9 48 "SerialPortModel" "rowsOn" "Z", Cond.fieldLink RX9 9 "SerialPortModel" "received" "[I", Cond.fieldLink RX9 13 "SerialPortModel" "marks" "[I", Cond.methodLink RX9 151 yX9_room, Cond.instanceMethod yX9_room, Cond.selects RX9 yX9_room yX9_room, Cond.code yX9_room cX9_room 1 (some .int)]
def wsX9_clock : List Cond := .code yX9_clock cX9_clock 4 (some .int) :: ((wsX9_clock_r1 ++ (wsX9_clock_r2 ++ (wsX9_clock_r3 ++ wsX9_clock_r4))) ++ wsX90)
def wsX9_wave : List Cond := .code yX9_wave cX9_wave 3 (some .int) :: ([.fieldLink RX9 35 "SerialPortModel" "thrown" "I", .fieldLink RX9 88 "SerialPortModel" "waveMany" "I", .fieldLink RX9 19 "SerialPortModel" "waveHigh" "[Z", .fieldLink RX9 23 "SerialPortModel" "waveBeats" "[I"] ++ wsX90)
def wsX9_frame_r1 : List Cond := [Cond.fieldLink RX9 35 "SerialPortModel" "thrown" "I", Cond.fieldLink RX9 55 "SerialPortModel" "form" "I", Cond.fieldLink RX9 88 "SerialPortModel" "waveMany" "I", Cond.fieldLink RX9 19 "SerialPortModel" "waveHigh" "[Z", Cond.fieldLink RX9 23 "SerialPortModel" "waveBeats" "[I", Cond.methodLink RX9 115 yX9_bitsOf, Cond.static yX9_bitsOf, Cond.initialized RX9, Cond.code yX9_bitsOf cX9_bitsOf 1 (some .int), Cond.methodLink RX9 124 yX9_hasParity, Cond.static yX9_hasParity, Cond.code yX9_hasParity cX9_hasParity 1 (some .boolean), Cond.methodLink RX9 178 yX9_partOf, Cond.static yX9_partOf, Cond.code yX9_partOf cX9_partOf 4 (some .boolean), Cond.methodLink RX9 131 yX9_parityOf, Cond.static yX9_parityOf, Cond.code yX9_parityOf cX9_parityOf 3 (some .int), Cond.methodLink RX9 119 yJ6_bitCount_0f7a4, Cond.static yJ6_bitCount_0f7a4, Cond.initialized RJ6, Cond.code yJ6_bitCount_0f7a4 cJ6_bitCount_0f7a4 1 (some .int), Cond.constant RJ6 265 (1431655765), Cond.constant RJ6 266 (858993459)]
def wsX9_frame_r2 : List Cond := [Cond.constant RJ6 267 (252645135), Cond.methodLink RX9 128 yX9_stopOf, Cond.static yX9_stopOf, Cond.code yX9_stopOf cX9_stopOf 1 (some .int)]
def wsX9_frame : List Cond := .code yX9_frame cX9_frame 6 (some .int) :: ((wsX9_frame_r1 ++ wsX9_frame_r2) ++ wsX90)
def wsX9_count_r1 : List Cond := [Cond.fieldLink RX9 35 "SerialPortModel" "thrown" "I", Cond.fieldLink RX9 70 "SerialPortModel" "receivedMany" "I", Cond.fieldLink RX9 76 "SerialPortModel" "sendingMany" "I", Cond.fieldLink RX9 106 "SerialPortModel" "beats" "I", Cond.fieldLink RX9 109 "SerialPortModel" "out" "Z", Cond.fieldLink RX9 88 "SerialPortModel" "waveMany" "I", Cond.fieldLink RX9 112 "SerialPortModel" "runs" "I", Cond.fieldLink RX9 94 "SerialPortModel" "sends" "Z", Cond.fieldLink RX9 100 "SerialPortModel" "takes" "Z", Cond.methodLink RX9 163 yX9_reason, Cond.instanceMethod yX9_reason, Cond.selects RX9 yX9_reason yX9_reason, Cond.initialized RX9, Cond.code yX9_reason cX9_reason 1 (some .int), Cond.fieldLink RX9 45 "SerialPortModel" "wanted" "I", Cond.fieldLink RX9 73 "SerialPortModel" "overrun" "Z", Cond.fieldLink RX9 48 "SerialPortModel" "rowsOn" "Z", Cond.fieldLink RX9 52 "SerialPortModel" "level" "I", Cond.fieldLink RX9 82 "SerialPortModel" "lateUp" "Z", Cond.fieldLink RX9 79 "SerialPortModel" "emptyUp" "Z", Cond.fieldLink RX9 67 "SerialPortModel" "changed" "I", Cond.methodLink RX9 157 yX9_isMarked, Cond.instanceMethod yX9_isMarked, Cond.selects RX9 yX9_isMarked yX9_isMarked]
def wsX9_count_r2 : List Cond := [Cond.code yX9_isMarked cX9_isMarked 1 (some .boolean), Cond.fieldLink RX9 13 "SerialPortModel" "marks" "[I"]
def wsX9_count : List Cond := .code yX9_count cX9_count 2 (some .int) :: ((wsX9_count_r1 ++ wsX9_count_r2) ++ wsX90)
def wsX9_run : List Cond := .code yX9_run cX9_run 4 (some .int) :: ([.fieldLink RX9 35 "SerialPortModel" "thrown" "I", .fieldLink RX9 112 "SerialPortModel" "runs" "I", .fieldLink RX9 29 "SerialPortModel" "runBeats" "[I", .fieldLink RX9 26 "SerialPortModel" "runHigh" "[Z"] ++ wsX90)
def wsJ9_max_7cf53 : List Cond := .code yJ9_max_7cf53 cJ9_max_7cf53 2 (some .int) :: ([])
abbrev vwCl : List vw_C := [(RX0, TX0, 2), (RX1, TX1, 2), (RX2, TX2, 2), (RX3, TX3, 4), (RX4, TX4, 7), (RX5, TX5, 3), (RX6, TX6, 4), (RX8, TX8, 18), (RX9, TX9, 40)]
end
section
/-! The general rows: booleans, the words of the functions, contracts, calls. -/
def bI (b : Bool) : Int32 := match b with
  | true => 1
  | false => 0
theorem bI_t : bI true = 1 := rfl
theorem bI_f : bI false = 0 := rfl
theorem bI_0 {b : Bool} (h : bI b = 0) : b = false := by
  cases b with
  | false => rfl
  | true => exact absurd h (by decide)
theorem bI_n0 {b : Bool} (h : ¬ bI b = 0) : b = true := by
  cases b with
  | true => rfl
  | false => exact absurd rfl h
theorem nar_bI (b : Bool) : narrow .boolean (.int (bI b)) = .int (bI b) := by cases b <;> rfl
theorem vnar_bI (b : Bool) : vp_nar .boolean (bI b) = bI b := by cases b <;> rfl
theorem fit_bI (b : Bool) : fits .boolean (.int (bI b)) = true := by cases b <;> rfl
/-- a value under a name -/
def lt1 {α β : Type} (t : α) (f : α → Option β) : Option β := f t
theorem lt1_el {α β : Type} {t : α} {f : α → Option β} {v : Option β} (h : lt1 t f = v) : ∃ x, x = t ∧ f x = v := ⟨t, rfl, h⟩
/-- behind a call -/
def bd {α β : Type} (x : Option α) (f : α → Option β) : Option β := match x with
  | none => none
  | some u => f u
theorem bd_el {α β : Type} {x : Option α} {f : α → Option β} {v : β} (h : bd x f = some v) : ∃ u, x = some u ∧ f u = some v := by
  cases x with
  | none => cases h
  | some u => exact ⟨u, rfl, h⟩
theorem bd_some {α β : Type} {u : α} {f : α → Option β} : bd (some u) f = f u := rfl
/-- what must hold -/
def gd {β : Type} (c : Prop) [Decidable c] (x : Option β) : Option β := if c then x else none
theorem gd_el {β : Type} {c : Prop} [Decidable c] {x : Option β} {v : β} (h : gd c x = some v) : c ∧ x = some v := by
  unfold gd at h
  by_cases hc : c
  · rw [if_pos hc] at h; exact ⟨hc, h⟩
  · rw [if_neg hc] at h; cases h
theorem gd_t {β : Type} {c : Prop} [Decidable c] {x : Option β} (hc : c) : gd c x = x := if_pos hc
theorem it_t {β : Type} {c : Prop} [Decidable c] {x y v : β} (hc : c) (h : (if c then x else y) = v) : x = v := by rw [if_pos hc] at h; exact h
theorem it_f {β : Type} {c : Prop} [Decidable c] {x y v : β} (hc : ¬ c) (h : (if c then x else y) = v) : y = v := by rw [if_neg hc] at h; exact h
def bt {β : Type} (b : Bool) (x y : β) : β := match b with
  | true => x
  | false => y
theorem bt_t {β : Type} {b : Bool} {x y v : β} (hb : b = true) (h : bt b x y = v) : x = v := by subst hb; exact h
theorem bt_f {β : Type} {b : Bool} {x y v : β} (hb : b = false) (h : bt b x y = v) : y = v := by subst hb; exact h
/-- in range, as a test -/
def inR (i : Int32) (n : Nat) : Bool := !(decide (i < 0) || decide (n ≤ i.toNatClampNeg))
theorem inR_in {i : Int32} {n : Nat} (h : inR i n = true) : vp_in i n := by
  unfold inR at h
  unfold vp_in
  intro hc
  rcases hc with hc | hc <;> simp [hc] at h
theorem inR_of {i : Int32} {n : Nat} (h : vp_in i n) : inR i n = true := by
  unfold vp_in at h
  unfold inR
  have h1 : ¬ i < 0 := fun q => h (Or.inl q)
  have h2 : ¬ n ≤ i.toNatClampNeg := fun q => h (Or.inr q)
  simp only [h1, h2, decide_false, Bool.or_false, Bool.not_false]
theorem i32_of_toInt {x : Int32} {k : Int32} (h : x.toInt = k.toInt) : x = k := Int32.toInt_inj.mp h
/-- cells -/
abbrev cPre (D : va_G) (tys : List (ClassId × FieldType)) (ws : va_W) (sz : Nat) : State → Prop := fun U => U.heap.size = sz ∧ va_P D vwCl ws U.heap ∧ va_K D vwCl tys U ∧ va_D (fun _ => True) ws
abbrev cB (D : va_G) (tys : List (ClassId × FieldType)) (ws : va_W) (A : Nat → Prop) : Unit → State → Prop := fun _ t => va_P D vwCl ws t.heap ∧ va_K D vwCl tys t ∧ va_D A ws
/-- contracts: an int (or a boolean) comes back -/
def MI (l : Launch) (y : MethodName) (w : List Cond) (rm : Room) (D : va_G) (tys : List (ClassId × FieldType)) (av : List Value) (ws ws' : va_W) (r : Int32) : Prop :=
  ∀ sz : Nat, Met l y w rm (va_Pc av (cPre D tys ws sz)) (va_Qi (fun r' (_ : Unit) => r' = r) (cB D tys ws' (va_A ws sz)) (va_A ws sz)) 0 0 (va_A ws sz)
/-- contracts: nothing comes back -/
def MV (l : Launch) (y : MethodName) (w : List Cond) (rm : Room) (D : va_G) (tys : List (ClassId × FieldType)) (av : List Value) (ws ws' : va_W) : Prop :=
  ∀ sz : Nat, Met l y w rm (va_Pc av (cPre D tys ws sz)) (va_Qv (fun _ : Unit => True) (cB D tys ws' (va_A ws sz)) (va_A ws sz)) 0 0 (va_A ws sz)
def QI (below : List Frame) (D : va_G) (tys : List (ClassId × FieldType)) (ws' : va_W) (r : Int32) (args : Array Value) (s : State) (A : Nat → Prop) : State → Prop :=
  MQ below (va_Qi (fun r' (_ : Unit) => r' = r) (cB D tys ws' A) A) args s 0 0 A
def QV (below : List Frame) (D : va_G) (tys : List (ClassId × FieldType)) (ws' : va_W) (args : Array Value) (s : State) (A : Nat → Prop) : State → Prop :=
  MQ below (va_Qv (fun _ : Unit => True) (cB D tys ws' A) A) args s 0 0 A
theorem c_blind {D : va_G} {tys : List (ClassId × FieldType)} {ws : va_W} {sz : Nat} {av : List Value} : FrameBlind (va_Pc av (cPre D tys ws sz)) := fun a U g mk q => by
  obtain ⟨q0, q1, qP, qK, qD⟩ := q
  exact ⟨q0, q1, qP, va_K.moved (u := U) (U := U.calling g mk a) (Vm.Alike.refl U.vm) qK, qD⟩
theorem MI.ofW {l : Launch} {y : MethodName} {w w' : List Cond} {rm : Room} {D : va_G} {tys : List (ClassId × FieldType)} {av : List Value} {ws ws' : va_W} {r : Int32} {cc : ByteArray} {maxL : Nat} {ret : Option FieldType} {lv : List (Nat × Value)}
    (hy : plainName y.cls = true) (hw : w = Cond.code y cc maxL ret :: w') (hav : (lg_sl av).length ≤ maxL) (hlv : lv_args 0 av = lv)
    (body : ∀ (p : Program) (e : Env) (s : State) (m : MethodId) (args : Array Value) (below : List Frame) (meth : Method) (c : Code) (A : Nat → Prop) (ls : Array Slot), p.tables.exec = Jvm.exec → c.code = cc → meth.sig.returnType = ret → c.maxLocals = maxL → (∀ q ∈ w, q.before args s = true) → s.vm.findClass y.cls = some m.cls → meth.locks = false → (∀ q : Nat, s.heap.size ≤ q → A q) → va_K D vwCl tys s → va_P D vwCl ws s.heap → va_D A ws → va_S A s.heap s.heap [] → lv_has ls maxL lv → W p l e rm s m args below meth c s.heap [] 0 0 (QI below D tys ws' r args s A) (F0 m 0 ls [])) : MI l y w rm D tys av ws ws' r := by
  intro sz
  refine Met.ofW (cc := cc) (maxL := maxL) (ret := ret) hy hw ?_
  intro p e s m args below meth c s₁ B hml hv
  obtain ⟨rfl, hsz, hP, hK, hD0⟩ := hv
  have hts := atoms_spec (ws := w) B.pre
  have hown : s.vm.findClass y.cls = some m.cls := findClass_of_methodNamed B.named
  subst hsz
  have hl := lv_entry av (n := maxL) hav
  rw [lg_entry_eq]
  rw [hlv] at hl
  exact body p e s m av.toArray below meth c (va_A ws s.heap.size) _ B.exec B.bytes B.returns hml hts hown B.notSynchronized (fun q h => Or.inr h) hK hP (hD0.self (sz := s.heap.size)) va_S.rf hl
theorem MV.ofW {l : Launch} {y : MethodName} {w w' : List Cond} {rm : Room} {D : va_G} {tys : List (ClassId × FieldType)} {av : List Value} {ws ws' : va_W} {cc : ByteArray} {maxL : Nat} {ret : Option FieldType} {lv : List (Nat × Value)}
    (hy : plainName y.cls = true) (hw : w = Cond.code y cc maxL ret :: w') (hav : (lg_sl av).length ≤ maxL) (hlv : lv_args 0 av = lv)
    (body : ∀ (p : Program) (e : Env) (s : State) (m : MethodId) (args : Array Value) (below : List Frame) (meth : Method) (c : Code) (A : Nat → Prop) (ls : Array Slot), p.tables.exec = Jvm.exec → c.code = cc → meth.sig.returnType = ret → c.maxLocals = maxL → (∀ q ∈ w, q.before args s = true) → s.vm.findClass y.cls = some m.cls → meth.locks = false → (∀ q : Nat, s.heap.size ≤ q → A q) → va_K D vwCl tys s → va_P D vwCl ws s.heap → va_D A ws → va_S A s.heap s.heap [] → lv_has ls maxL lv → W p l e rm s m args below meth c s.heap [] 0 0 (QV below D tys ws' args s A) (F0 m 0 ls [])) : MV l y w rm D tys av ws ws' := by
  intro sz
  refine Met.ofW (cc := cc) (maxL := maxL) (ret := ret) hy hw ?_
  intro p e s m args below meth c s₁ B hml hv
  obtain ⟨rfl, hsz, hP, hK, hD0⟩ := hv
  have hts := atoms_spec (ws := w) B.pre
  have hown : s.vm.findClass y.cls = some m.cls := findClass_of_methodNamed B.named
  subst hsz
  have hl := lv_entry av (n := maxL) hav
  rw [lg_entry_eq]
  rw [hlv] at hl
  exact body p e s m av.toArray below meth c (va_A ws s.heap.size) _ B.exec B.bytes B.returns hml hts hown B.notSynchronized (fun q h => Or.inr h) hK hP (hD0.self (sz := s.heap.size)) va_S.rf hl
theorem fm_of {α β : Type} {f : α → Option β} : ∀ {is : List α} {wc : List β}, is.map f = wc.map some → is.filterMap f = wc
  | [], [], _ => rfl
  | [], _ :: _, h => by cases h
  | _ :: _, [], h => by cases h
  | i :: is, w :: wc, h => by
    simp only [List.map_cons, List.cons.injEq] at h
    rw [List.filterMap_cons, h.1, fm_of h.2]
section Rows2
variable {p : Program} {l : Launch} {e : Env} {R : Room} {s : State} {m : MethodId} {args : Array Value} {below : List Frame} {meth : Method} {c : Code} {H H0 : Heap} {locs : List Loc} {cells slots : Nat} {Q : State → Prop} {cc : ByteArray} {pc : Nat} {ls : Array Slot} {rest : List Value} {A : Nat → Prop} {D : va_G} {tys : List (ClassId × FieldType)} {ws ws' : va_W}
/-- the returns -/
theorem rI {α : Type} {wf : α → va_W} {rf : α → Int32} {u u0 : α} {v : Int32} (hx : p.tables.exec = Jvm.exec) (hb : c.code = cc) (hr : meth.sig.returnType = some .int) (hlocks : meth.locks = false) (hK : va_K D vwCl tys s) (hP : va_P D vwCl (wf u) H) (hD : va_D A (wf u)) (hS : va_S A s.heap H locs) (hF : some u = some u0) (hv : v = rf u) (hdg : decode cc pc = .ok (.ireturn, 1)) :
    W p l e R s m args below meth c H locs 0 0 (QI below D tys (wf u0) (rf u0) args s A) (F0 m pc ls [.int v]) := by
  obtain rfl := Option.some.inj hF
  exact W.iret (v := v) hx hb hr (fun t ht hW => ⟨⟨v, (), rfl, hv, by rw [ht]; exact hP, va_K.moved hW.alike hK, hD⟩, hS.F ht⟩) hS.2.2 hdg
theorem rZ {α : Type} {wf : α → va_W} {rf : α → Bool} {u u0 : α} {v : Int32} (hx : p.tables.exec = Jvm.exec) (hb : c.code = cc) (hr : meth.sig.returnType = some .boolean) (hlocks : meth.locks = false) (hK : va_K D vwCl tys s) (hP : va_P D vwCl (wf u) H) (hD : va_D A (wf u)) (hS : va_S A s.heap H locs) (hF : some u = some u0) (hv : v = bI (rf u)) (hdg : decode cc pc = .ok (.ireturn, 1)) :
    W p l e R s m args below meth c H locs 0 0 (QI below D tys (wf u0) (bI (rf u0)) args s A) (F0 m pc ls [.int v]) := by
  obtain rfl := Option.some.inj hF
  exact W.zret (v := v) hx hb hr (by rw [hv]; exact nar_bI _) (fun t ht hW => ⟨⟨v, (), rfl, hv, by rw [ht]; exact hP, va_K.moved hW.alike hK, hD⟩, hS.F ht⟩) hS.2.2 hdg
theorem rV {α : Type} {wf : α → va_W} {u u0 : α} (hx : p.tables.exec = Jvm.exec) (hb : c.code = cc) (hr : meth.sig.returnType = none) (hlocks : meth.locks = false) (hK : va_K D vwCl tys s) (hP : va_P D vwCl (wf u) H) (hD : va_D A (wf u)) (hS : va_S A s.heap H locs) (hF : some u = some u0) (hdg : decode cc pc = .ok (.return_, 1)) :
    W p l e R s m args below meth c H locs 0 0 (QV below D tys (wf u0) args s A) (F0 m pc ls []) := by
  obtain rfl := Option.some.inj hF
  exact W.vret hx hb hr (fun t ht hW => ⟨⟨(), rfl, trivial, by rw [ht]; exact hP, va_K.moved hW.alike hK, hD⟩, hS.F ht⟩) hS.2.2 hdg
/-- a field written, the world behind it by its name -/
theorem pf {own ref C : String} {T : u_T} {N ci index a : Nat} {Ts : List Cond} {ty0 : Nat → FieldType} (hx : p.tables.exec = Jvm.exec) (hb : c.code = cc) (hts : ∀ w ∈ Ts, w.before args s = true) (hin : ∀ w ∈ u_ws C T N, w ∈ Ts) (hty : ∀ k, k < N → parseFieldDescriptor (T k).2.2.1 = some (ty0 k)) (hnm : ∀ a, a < N → ∀ b, b < N → a ≠ b → (T a).2.1 ≠ (T b).2.1) (hown : s.vm.findClass own = some m.cls) (hK : va_K D vwCl tys s) (hP : va_P D vwCl ws H) (hD : va_D A ws) (hS : va_S A H0 H locs) (q0 : Nat) {fs : List Value} (he : ws[q0]? = some (a, .inr (ci, fs))) (hc : vwCl[ci]? = some (C, T, N)) (k : Nat) (hk : k < N) (hlink : (Cond.fieldLink own index ref (T k).2.1 (T k).2.2.1).before args s = true) (hsame : (T k).1 = ref) (hfin : (T k).2.2.2 = false) {ty : FieldType} {v : Value} (hd : parseFieldDescriptor (T k).2.2.1 = some ty) (hn : narrow ty v = v) (hfit : fits ty v = true) (hl : k < fs.length) (hset : ws.set q0 (a, .inr (ci, fs.set k v)) = ws')
    (hdg : decode cc pc = .ok (.putfield index, 3)) (kk : ∀ (H1 : Heap) (locs1 : List Loc), va_P D vwCl ws' H1 → va_D A ws' → va_S A H0 H1 locs1 → W p l e R s m args below meth c H1 locs1 cells slots Q (F0 m (pc + 3) ls rest)) : W p l e R s m args below meth c H locs cells slots Q (F0 m pc ls (v :: .ref a :: rest)) := by
  subst hset
  exact va_put hx hb hts hin ty0 hty hnm hown hK hP hD hS q0 he hc k hk hlink (fun x h => by rw [← hsame]; exact h) hfin hd hn hfit hl hdg kk
/-- ints in an array written -/
theorem ias {a : Nat} (hx : p.tables.exec = Jvm.exec) (hb : c.code = cc) (hK : va_K D vwCl tys s) (hP : va_P D vwCl ws H) (hD : va_D A ws) (hS : va_S A H0 H locs) (q0 t0 : Nat) {cA : ClassId} {n : Nat} {f : Nat → Int32} (ha : ws[q0]? = some (a, .inl (cA, n, .inl f))) (ht : tys[t0]? = some (cA, .int)) {i x : Int32} (hin : inR i n = true) (hset : ws.set q0 (a, .inl (cA, n, .inl (upd f i.toNatClampNeg x))) = ws') (hdg : decode cc pc = .ok (.iastore, 1))
    (kk : ∀ (H1 : Heap) (locs1 : List Loc), va_P D vwCl ws' H1 → va_D A ws' → va_S A H0 H1 locs1 → W p l e R s m args below meth c H1 locs1 cells slots Q (F0 m (pc + 1) ls rest)) : W p l e R s m args below meth c H locs cells slots Q (F0 m pc ls (.int x :: .int i :: .ref a :: rest)) := by
  subst hset
  exact va_iast hx hb hK hP hD hS q0 t0 ha ht (inR_in hin) hdg kk
/-- booleans in an array: what the cell holds -/
def bF (f : Nat → Bool) : Nat → Int32 := fun j => bI (f j)
theorem bF_up (f : Nat → Bool) (k : Nat) (x : Bool) : upd (bF f) k (vp_nar .boolean (bI x)) = bF (va_up f k x) := by
  funext j
  rw [vnar_bI]
  unfold upd bF va_up
  by_cases h : j = k
  · simp [h]
  · simp [h]
theorem zas {a : Nat} (hx : p.tables.exec = Jvm.exec) (hb : c.code = cc) (hK : va_K D vwCl tys s) (hP : va_P D vwCl ws H) (hD : va_D A ws) (hS : va_S A H0 H locs) (q0 t0 : Nat) {cA : ClassId} {n : Nat} {f : Nat → Bool} (ha : ws[q0]? = some (a, .inl (cA, n, .inl (bF f)))) (ht : tys[t0]? = some (cA, .boolean)) {i : Int32} {x : Bool} {xv : Int32} (hxv : xv = bI x) (hin : inR i n = true) (hset : ws.set q0 (a, .inl (cA, n, .inl (bF (va_up f i.toNatClampNeg x)))) = ws') (hdg : decode cc pc = .ok (.bastore, 1))
    (kk : ∀ (H1 : Heap) (locs1 : List Loc), va_P D vwCl ws' H1 → va_D A ws' → va_S A H0 H1 locs1 → W p l e R s m args below meth c H1 locs1 cells slots Q (F0 m (pc + 1) ls rest)) : W p l e R s m args below meth c H locs cells slots Q (F0 m pc ls (.int xv :: .int i :: .ref a :: rest)) := by
  subst hset
  subst hxv
  refine va_zast hx hb hK hP hD hS q0 t0 ha ht (inR_in hin) hdg (fun H1 locs1 h1 h2 h3 => ?_)
  rw [bF_up] at h1 h2
  exact kk H1 locs1 h1 h2 h3
theorem cI_core {tysC : List (ClassId × FieldType)} {st0 : List Value} {wc wr w1 : va_W} {r rv : Int32} {a : Array Value} (hr : va_Run p l e R s m args below meth c H locs cells slots 0 0 (F0 m pc ls st0) rest (va_Qi (fun r' (_ : Unit) => r' = r) (cB D tysC w1 (va_A wc H.size)) (va_A wc H.size) a) (va_A wc H.size))
    (hK : va_K D vwCl tys s) (hP : va_P D vwCl ws H) (hD : va_D A ws) (hS : va_S A H0 H locs) (hA : ∀ q, H0.size ≤ q → A q) (isT isC isR isN : List Nat) (hT : isT.filterMap (fun i => tys[i]?) = tysC) (hCs : isC.map (fun i => ws[i]?) = wc.map some) (hR : isR.map (fun i => ws[i]?) = wr.map some) (hnn : (va_nd isR && va_nd isC && va_nd isN && isR.all (fun i => !(isC.contains i))) = true) (hN : isN.map (fun i => (wr ++ w1)[i]?) = ws'.map some) (hrv : r = rv)
    (kk : ∀ (H1 : Heap) (locs1 : List Loc), va_P D vwCl ws' H1 → va_D A ws' → va_S A H0 H1 locs1 → W p l e R s m args below meth c H1 locs1 cells slots Q (F0 m (pc + 3) ls (.int rv :: rest))) : W p l e R s m args below meth c H locs cells slots Q (F0 m pc ls st0) := by
  simp only [Bool.and_eq_true, List.all_eq_true] at hnn
  obtain ⟨⟨⟨hn1, hn2⟩, hn3⟩, hdis0⟩ := hnn
  have hdis : ∀ i ∈ isR, i ∉ isC := fun i hi hc => by
    have h := hdis0 i hi
    rw [List.contains_iff_mem.mpr hc] at h
    cases h
  have hFc := va_free (wc := wc) hD hS hA isC hCs
  subst hrv
  refine va_calli hr hS (fun q _ h => hFc q h) hFc (fun r1 u t H1 locs1 ht hvm hw hB hz1 hk1 hS1 => ?_)
  obtain ⟨hP1, hK1, hD1⟩ := hB
  rw [ht] at hP1
  obtain ⟨hP2, hD2⟩ := va_join (wr := wr) (w1 := w1) hP hD isC isR hCs hR hn1 hdis hk1 hFc hP1 hD1
  subst hw
  exact kk H1 locs1 (hP2.sub isN (fm_of hN)) (hD2.sub isN hn3 hN) hS1
theorem cV_core {tysC : List (ClassId × FieldType)} {st0 : List Value} {wc wr w1 : va_W} {a : Array Value} (hr : va_Run p l e R s m args below meth c H locs cells slots 0 0 (F0 m pc ls st0) rest (va_Qv (fun _ : Unit => True) (cB D tysC w1 (va_A wc H.size)) (va_A wc H.size) a) (va_A wc H.size))
    (hK : va_K D vwCl tys s) (hP : va_P D vwCl ws H) (hD : va_D A ws) (hS : va_S A H0 H locs) (hA : ∀ q, H0.size ≤ q → A q) (isT isC isR isN : List Nat) (hT : isT.filterMap (fun i => tys[i]?) = tysC) (hCs : isC.map (fun i => ws[i]?) = wc.map some) (hR : isR.map (fun i => ws[i]?) = wr.map some) (hnn : (va_nd isR && va_nd isC && va_nd isN && isR.all (fun i => !(isC.contains i))) = true) (hN : isN.map (fun i => (wr ++ w1)[i]?) = ws'.map some)
    (kk : ∀ (H1 : Heap) (locs1 : List Loc), va_P D vwCl ws' H1 → va_D A ws' → va_S A H0 H1 locs1 → W p l e R s m args below meth c H1 locs1 cells slots Q (F0 m (pc + 3) ls rest)) : W p l e R s m args below meth c H locs cells slots Q (F0 m pc ls st0) := by
  simp only [Bool.and_eq_true, List.all_eq_true] at hnn
  obtain ⟨⟨⟨hn1, hn2⟩, hn3⟩, hdis0⟩ := hnn
  have hdis : ∀ i ∈ isR, i ∉ isC := fun i hi hc => by
    have h := hdis0 i hi
    rw [List.contains_iff_mem.mpr hc] at h
    cases h
  have hFc := va_free (wc := wc) hD hS hA isC hCs
  refine va_callv hr hS (fun q _ h => hFc q h) hFc (fun u t H1 locs1 ht hvm hw hB hz1 hk1 hS1 => ?_)
  obtain ⟨hP1, hK1, hD1⟩ := hB
  rw [ht] at hP1
  obtain ⟨hP2, hD2⟩ := va_join (wr := wr) (w1 := w1) hP hD isC isR hCs hR hn1 hdis hk1 hFc hP1 hD1
  exact kk H1 locs1 (hP2.sub isN (fm_of hN)) (hD2.sub isN hn3 hN) hS1
theorem cVI {Ts w : List Cond} {nL index maxL n b q0 ci : Nat} {own C : String} {y : MethodName} {bytes : ByteArray} {ret : Option FieldType} {rm : Room} {tysC : List (ClassId × FieldType)} {As st0 : List Value} {wc wr w1 : va_W} {r rv : Int32} {fs : List Value} {q : vw_C} (S : CallFix p m c cc nL s args Ts own) (hM : MI l y w rm D tysC (.ref b :: As) wc w1 r) (cw : CallW R s args own C index y bytes maxL ret w rm 0 0 n)
    (hK : va_K D vwCl tys s) (hP : va_P D vwCl ws H) (hD : va_D A ws) (hS : va_S A H0 H locs) (hA : ∀ q, H0.size ≤ q → A q) (isT isC isR isN : List Nat) (hT : isT.filterMap (fun i => tys[i]?) = tysC) (hCs : isC.map (fun i => ws[i]?) = wc.map some) (hR : isR.map (fun i => ws[i]?) = wr.map some) (hnn : (va_nd isR && va_nd isC && va_nd isN && isR.all (fun i => !(isC.contains i))) = true) (hN : isN.map (fun i => (wr ++ w1)[i]?) = ws'.map some) (hc : vwCl[ci]? = some q) (hq : q.1 = C) (he : ws[q0]? = some (b, .inr (ci, fs))) (hn : As.length = n) (hsize : ls.size = nL) (hstack : st0 = As.reverse ++ .ref b :: rest) (hrm : (rest.map fun v => v.category).sum ≤ 8) (hrv : r = rv) (hdg : decode cc pc = .ok (.invokevirtual index, 3)) (hcl : cells ≤ R.cells ∧ slots ≤ R.slots)
    (kk : ∀ (H1 : Heap) (locs1 : List Loc), va_P D vwCl ws' H1 → va_D A ws' → va_S A H0 H1 locs1 → W p l e R s m args below meth c H1 locs1 cells slots Q (F0 m (pc + 3) ls (.int rv :: rest))) : W p l e R s m args below meth c H locs cells slots Q (F0 m pc ls st0) := by
  have hPc := hP.sub (ws' := wc) isC (fm_of hCs)
  have hDc : va_D A wc := hD.sub (ws' := wc) isC (by
    simp only [Bool.and_eq_true] at hnn
    exact hnn.1.1.2) hCs
  have hKc := hK.sub (tys' := tysC) isT hT
  have hpre : ∀ U : State, U.heap = H → s.WarmedH U.vm → va_Pc (.ref b :: As) (cPre D tysC wc H.size) ((.ref b :: As) : List Value).toArray U := fun U hU hW => ⟨rfl, by rw [hU], by rw [hU]; exact hPc, va_K.moved hW.alike hKc, hDc.weaken (fun _ _ _ _ => trivial)⟩
  exact cI_core (va_runV (As := As) (rest := rest) S (hM H.size) cw ⟨c_blind, by rw [← hq]; exact va_recv hK hP hc he, hpre⟩ rfl hn hsize hstack (lv_room hrm) hdg ⟨hcl.1, hcl.2⟩) hK hP hD hS hA isT isC isR isN hT hCs hR hnn hN hrv kk
theorem cVV {Ts w : List Cond} {nL index maxL n b q0 ci : Nat} {own C : String} {y : MethodName} {bytes : ByteArray} {ret : Option FieldType} {rm : Room} {tysC : List (ClassId × FieldType)} {As st0 : List Value} {wc wr w1 : va_W} {fs : List Value} {q : vw_C} (S : CallFix p m c cc nL s args Ts own) (hM : MV l y w rm D tysC (.ref b :: As) wc w1) (cw : CallW R s args own C index y bytes maxL ret w rm 0 0 n)
    (hK : va_K D vwCl tys s) (hP : va_P D vwCl ws H) (hD : va_D A ws) (hS : va_S A H0 H locs) (hA : ∀ q, H0.size ≤ q → A q) (isT isC isR isN : List Nat) (hT : isT.filterMap (fun i => tys[i]?) = tysC) (hCs : isC.map (fun i => ws[i]?) = wc.map some) (hR : isR.map (fun i => ws[i]?) = wr.map some) (hnn : (va_nd isR && va_nd isC && va_nd isN && isR.all (fun i => !(isC.contains i))) = true) (hN : isN.map (fun i => (wr ++ w1)[i]?) = ws'.map some) (hc : vwCl[ci]? = some q) (hq : q.1 = C) (he : ws[q0]? = some (b, .inr (ci, fs))) (hn : As.length = n) (hsize : ls.size = nL) (hstack : st0 = As.reverse ++ .ref b :: rest) (hrm : (rest.map fun v => v.category).sum ≤ 8) (hdg : decode cc pc = .ok (.invokevirtual index, 3)) (hcl : cells ≤ R.cells ∧ slots ≤ R.slots)
    (kk : ∀ (H1 : Heap) (locs1 : List Loc), va_P D vwCl ws' H1 → va_D A ws' → va_S A H0 H1 locs1 → W p l e R s m args below meth c H1 locs1 cells slots Q (F0 m (pc + 3) ls rest)) : W p l e R s m args below meth c H locs cells slots Q (F0 m pc ls st0) := by
  have hPc := hP.sub (ws' := wc) isC (fm_of hCs)
  have hDc : va_D A wc := hD.sub (ws' := wc) isC (by
    simp only [Bool.and_eq_true] at hnn
    exact hnn.1.1.2) hCs
  have hKc := hK.sub (tys' := tysC) isT hT
  have hpre : ∀ U : State, U.heap = H → s.WarmedH U.vm → va_Pc (.ref b :: As) (cPre D tysC wc H.size) ((.ref b :: As) : List Value).toArray U := fun U hU hW => ⟨rfl, by rw [hU], by rw [hU]; exact hPc, va_K.moved hW.alike hKc, hDc.weaken (fun _ _ _ _ => trivial)⟩
  exact cV_core (va_runV (As := As) (rest := rest) S (hM H.size) cw ⟨c_blind, by rw [← hq]; exact va_recv hK hP hc he, hpre⟩ rfl hn hsize hstack (lv_room hrm) hdg ⟨hcl.1, hcl.2⟩) hK hP hD hS hA isT isC isR isN hT hCs hR hnn hN kk
theorem cSI {Ts w : List Cond} {nL index maxL n : Nat} {own C : String} {y : MethodName} {bytes : ByteArray} {ret : Option FieldType} {rm : Room} {tysC : List (ClassId × FieldType)} {As st0 : List Value} {wc wr w1 : va_W} {r rv : Int32} (S : CallFix p m c cc nL s args Ts own) (hM : MI l y w rm D tysC As wc w1 r) (cw : CallB R s args own index y bytes maxL ret w rm 0 0 n ∧ (Cond.static y).before args s = true)
    (hK : va_K D vwCl tys s) (hP : va_P D vwCl ws H) (hD : va_D A ws) (hS : va_S A H0 H locs) (hA : ∀ q, H0.size ≤ q → A q) (isT isC isR isN : List Nat) (hT : isT.filterMap (fun i => tys[i]?) = tysC) (hCs : isC.map (fun i => ws[i]?) = wc.map some) (hR : isR.map (fun i => ws[i]?) = wr.map some) (hnn : (va_nd isR && va_nd isC && va_nd isN && isR.all (fun i => !(isC.contains i))) = true) (hN : isN.map (fun i => (wr ++ w1)[i]?) = ws'.map some) (hn : As.length = n) (hsize : ls.size = nL) (hstack : st0 = As.reverse ++ rest) (hrm : (rest.map fun v => v.category).sum ≤ 8) (hrv : r = rv) (hdg : decode cc pc = .ok (.invokestatic index, 3)) (hcl : cells ≤ R.cells ∧ slots ≤ R.slots)
    (kk : ∀ (H1 : Heap) (locs1 : List Loc), va_P D vwCl ws' H1 → va_D A ws' → va_S A H0 H1 locs1 → W p l e R s m args below meth c H1 locs1 cells slots Q (F0 m (pc + 3) ls (.int rv :: rest))) : W p l e R s m args below meth c H locs cells slots Q (F0 m pc ls st0) := by
  have hPc := hP.sub (ws' := wc) isC (fm_of hCs)
  have hDc : va_D A wc := hD.sub (ws' := wc) isC (by
    simp only [Bool.and_eq_true] at hnn
    exact hnn.1.1.2) hCs
  have hKc := hK.sub (tys' := tysC) isT hT
  have hpre : ∀ U : State, U.heap = H → s.WarmedH U.vm → va_Pc As (cPre D tysC wc H.size) (As : List Value).toArray U := fun U hU hW => ⟨rfl, by rw [hU], by rw [hU]; exact hPc, va_K.moved hW.alike hKc, hDc.weaken (fun _ _ _ _ => trivial)⟩
  exact cI_core (va_runS (As := As) (rest := rest) S (hM H.size) cw ⟨c_blind, hpre⟩ rfl hn hsize hstack (lv_room hrm) hdg ⟨hcl.1, hcl.2⟩) hK hP hD hS hA isT isC isR isN hT hCs hR hnn hN hrv kk
theorem cSV {Ts w : List Cond} {nL index maxL n : Nat} {own C : String} {y : MethodName} {bytes : ByteArray} {ret : Option FieldType} {rm : Room} {tysC : List (ClassId × FieldType)} {As st0 : List Value} {wc wr w1 : va_W} (S : CallFix p m c cc nL s args Ts own) (hM : MV l y w rm D tysC As wc w1) (cw : CallB R s args own index y bytes maxL ret w rm 0 0 n ∧ (Cond.static y).before args s = true)
    (hK : va_K D vwCl tys s) (hP : va_P D vwCl ws H) (hD : va_D A ws) (hS : va_S A H0 H locs) (hA : ∀ q, H0.size ≤ q → A q) (isT isC isR isN : List Nat) (hT : isT.filterMap (fun i => tys[i]?) = tysC) (hCs : isC.map (fun i => ws[i]?) = wc.map some) (hR : isR.map (fun i => ws[i]?) = wr.map some) (hnn : (va_nd isR && va_nd isC && va_nd isN && isR.all (fun i => !(isC.contains i))) = true) (hN : isN.map (fun i => (wr ++ w1)[i]?) = ws'.map some) (hn : As.length = n) (hsize : ls.size = nL) (hstack : st0 = As.reverse ++ rest) (hrm : (rest.map fun v => v.category).sum ≤ 8) (hdg : decode cc pc = .ok (.invokestatic index, 3)) (hcl : cells ≤ R.cells ∧ slots ≤ R.slots)
    (kk : ∀ (H1 : Heap) (locs1 : List Loc), va_P D vwCl ws' H1 → va_D A ws' → va_S A H0 H1 locs1 → W p l e R s m args below meth c H1 locs1 cells slots Q (F0 m (pc + 3) ls rest)) : W p l e R s m args below meth c H locs cells slots Q (F0 m pc ls st0) := by
  have hPc := hP.sub (ws' := wc) isC (fm_of hCs)
  have hDc : va_D A wc := hD.sub (ws' := wc) isC (by
    simp only [Bool.and_eq_true] at hnn
    exact hnn.1.1.2) hCs
  have hKc := hK.sub (tys' := tysC) isT hT
  have hpre : ∀ U : State, U.heap = H → s.WarmedH U.vm → va_Pc As (cPre D tysC wc H.size) (As : List Value).toArray U := fun U hU hW => ⟨rfl, by rw [hU], by rw [hU]; exact hPc, va_K.moved hW.alike hKc, hDc.weaken (fun _ _ _ _ => trivial)⟩
  exact cV_core (va_runS (As := As) (rest := rest) S (hM H.size) cw ⟨c_blind, hpre⟩ rfl hn hsize hstack (lv_room hrm) hdg ⟨hcl.1, hcl.2⟩) hK hP hD hS hA isT isC isR isN hT hCs hR hnn hN kk
end Rows2
end
section
/-! Cells under their names, and small rows for the walks. -/
theorem lt1_x {α β : Type} {y t : α} {f : α → Option β} {v : Option β} (e : y = t) (h : lt1 t f = v) : f y = v := by
  subst e
  exact h
theorem ti_ne {x k : Int32} (h : ¬ x = k) : x.toInt ≠ k.toInt := fun q => h (Int32.toInt_inj.mp q)
theorem tb_out3 {x : Int32} (h0 : ¬ x = 0) (h1 : ¬ x = 1) (h2 : ¬ x = 2) : x.toInt < 0 ∨ 2 < x.toInt := by
  have k0 : x.toInt ≠ 0 := ti_ne h0
  have k1 : x.toInt ≠ 1 := ti_ne h1
  have k2 : x.toInt ≠ 2 := ti_ne h2
  omega
theorem tb_out7 {x : Int32} (h0 : ¬ x = 0) (h1 : ¬ x = 1) (h2 : ¬ x = 2) (h3 : ¬ x = 3) (h4 : ¬ x = 4) (h5 : ¬ x = 5) (h6 : ¬ x = 6) : x.toInt < 0 ∨ 6 < x.toInt := by
  have k0 : x.toInt ≠ 0 := ti_ne h0
  have k1 : x.toInt ≠ 1 := ti_ne h1
  have k2 : x.toInt ≠ 2 := ti_ne h2
  have k3 : x.toInt ≠ 3 := ti_ne h3
  have k4 : x.toInt ≠ 4 := ti_ne h4
  have k5 : x.toInt ≠ 5 := ti_ne h5
  have k6 : x.toInt ≠ 6 := ti_ne h6
  omega
theorem tb_out8 {x : Int32} (h0 : ¬ x = 0) (h1 : ¬ x = 1) (h2 : ¬ x = 2) (h3 : ¬ x = 3) (h4 : ¬ x = 4) (h5 : ¬ x = 5) (h6 : ¬ x = 6) (h7 : ¬ x = 7) : x.toInt < 0 ∨ 7 < x.toInt := by
  have k7 : x.toInt ≠ 7 := ti_ne h7
  have := tb_out7 h0 h1 h2 h3 h4 h5 h6
  omega
theorem tb_out9 {x : Int32} (h0 : ¬ x = 0) (h1 : ¬ x = 1) (h2 : ¬ x = 2) (h3 : ¬ x = 3) (h4 : ¬ x = 4) (h5 : ¬ x = 5) (h6 : ¬ x = 6) (h7 : ¬ x = 7) (h8 : ¬ x = 8) : x.toInt < 0 ∨ 8 < x.toInt := by
  have k8 : x.toInt ≠ 8 := ti_ne h8
  have := tb_out8 h0 h1 h2 h3 h4 h5 h6 h7
  omega
theorem lk_out2 {x : Int32} {o0 o1 dd : Int} (h0 : ¬ x = 0) (h1 : ¬ x = 1) : Op.lookupswitch.offset [(0, o0), (1, o1)] dd x.toInt = dd := by
  have k0 : x.toInt ≠ 0 := ti_ne h0
  have k1 : x.toInt ≠ 1 := ti_ne h1
  rw [Op.lookupswitch.offset_cons, if_neg (fun h => k0 h.symm), Op.lookupswitch.offset_cons, if_neg (fun h => k1 h.symm), Op.lookupswitch.offset_nil]
abbrev aI (h : Nat) (k : ClassId) (n : Nat) (a : Nat → Int32) : Nat × va_E := (h, .inl (k, n, .inl a))
abbrev aZ (h : Nat) (k : ClassId) (n : Nat) (a : Nat → Bool) : Nat × va_E := (h, .inl (k, n, .inl (bF a)))
abbrev oX0 (h : Nat) (x0 : Int32) (x1 : Int32) : Nat × va_E := (h, .inr (0, [.int x0, .int x1]))
abbrev oX1 (h : Nat) (x0 : Nat) (x1 : Bool) : Nat × va_E := (h, .inr (1, [.ref x0, .int (bI x1)]))
abbrev oX2 (h : Nat) (x0 : Nat) (x1 : Int32) : Nat × va_E := (h, .inr (2, [.ref x0, .int x1]))
abbrev oX3 (h : Nat) (x0 : Int32) (x1 : Int32) (x2 : Int32) (x3 : Int32) : Nat × va_E := (h, .inr (3, [.int x0, .int x1, .int x2, .int x3]))
abbrev oX4 (h : Nat) (x0 : Int32) (x1 : Int32) (x2 : Int32) (x3 : Bool) (x4 : Bool) (x5 : Bool) (x6 : Bool) : Nat × va_E := (h, .inr (4, [.int x0, .int x1, .int x2, .int (bI x3), .int (bI x4), .int (bI x5), .int (bI x6)]))
abbrev oX5 (h : Nat) (x0 : Nat) (x1 : Int32) (x2 : Int32) : Nat × va_E := (h, .inr (5, [.ref x0, .int x1, .int x2]))
abbrev oX6 (h : Nat) (x0 : Int32) (x1 : Int32) (x2 : Int32) (x3 : Bool) : Nat × va_E := (h, .inr (6, [.int x0, .int x1, .int x2, .int (bI x3)]))
abbrev oX8 (h : Nat) (x0 : Nat) (x1 : Nat) (x2 : Nat) (x3 : Nat) (x4 : Nat) (x5 : Nat) (x6 : Nat) (x7 : Nat) (x8 : Int32) (x9 : Int32) (x10 : Int32) (x11 : Int32) (x12 : Bool) (x13 : Bool) (x14 : Bool) (x15 : Bool) (x16 : Int32) (x17 : Int32) : Nat × va_E := (h, .inr (7, [.ref x0, .ref x1, .ref x2, .ref x3, .ref x4, .ref x5, .ref x6, .ref x7, .int x8, .int x9, .int x10, .int x11, .int (bI x12), .int (bI x13), .int (bI x14), .int (bI x15), .int x16, .int x17]))
abbrev oX9 (h : Nat) (x0 : Int32) (x1 : Int32) (x2 : Int32) (x3 : Bool) (x4 : Int32) (x5 : Int32) (x6 : Int32) (x7 : Int32) (x8 : Int32) (x9 : Int32) (x10 : Nat) (x11 : Nat) (x12 : Int32) (x13 : Bool) (x14 : Nat) (x15 : Int32) (x16 : Bool) (x17 : Bool) (x18 : Int32) (x19 : Nat) (x20 : Nat) (x21 : Int32) (x22 : Bool) (x23 : Bool) (x24 : Int32) (x25 : Int32) (x26 : Int32) (x27 : Bool) (x28 : Bool) (x29 : Bool) (x30 : Int32) (x31 : Int32) (x32 : Int32) (x33 : Int32) (x34 : Int32) (x35 : Bool) (x36 : Nat) (x37 : Nat) (x38 : Int32) (x39 : Int32) : Nat × va_E := (h, .inr (8, [.int x0, .int x1, .int x2, .int (bI x3), .int x4, .int x5, .int x6, .int x7, .int x8, .int x9, .ref x10, .ref x11, .int x12, .int (bI x13), .ref x14, .int x15, .int (bI x16), .int (bI x17), .int x18, .ref x19, .ref x20, .int x21, .int (bI x22), .int (bI x23), .int x24, .int x25, .int x26, .int (bI x27), .int (bI x28), .int (bI x29), .int x30, .int x31, .int x32, .int x33, .int x34, .int (bI x35), .ref x36, .ref x37, .int x38, .int x39]))
end
section
theorem dX5_size_0 : decode cX5_size 0 = .ok (.aload_n 0, 1) := by decide +kernel
theorem dX5_size_1 : decode cX5_size 1 = .ok (.getfield 23, 3) := by decide +kernel
theorem dX5_size_4 : decode cX5_size 4 = .ok (.ireturn, 1) := by decide +kernel
theorem dX5_isEmpty_0 : decode cX5_isEmpty 0 = .ok (.aload_n 0, 1) := by decide +kernel
theorem dX5_isEmpty_1 : decode cX5_isEmpty 1 = .ok (.getfield 23, 3) := by decide +kernel
theorem dX5_isEmpty_4 : decode cX5_isEmpty 4 = .ok (.ifCond .ne 7, 3) := by decide +kernel
theorem dX5_isEmpty_7 : decode cX5_isEmpty 7 = .ok (.iconst 1, 1) := by decide +kernel
theorem dX5_isEmpty_8 : decode cX5_isEmpty 8 = .ok (.goto 4, 3) := by decide +kernel
theorem dX5_isEmpty_11 : decode cX5_isEmpty 11 = .ok (.iconst 0, 1) := by decide +kernel
theorem dX5_isEmpty_12 : decode cX5_isEmpty 12 = .ok (.ireturn, 1) := by decide +kernel
theorem dX5_room_0 : decode cX5_room 0 = .ok (.aload_n 0, 1) := by decide +kernel
theorem dX5_room_1 : decode cX5_room 1 = .ok (.getfield 13, 3) := by decide +kernel
theorem dX5_room_4 : decode cX5_room 4 = .ok (.arraylength, 1) := by decide +kernel
theorem dX5_room_5 : decode cX5_room 5 = .ok (.aload_n 0, 1) := by decide +kernel
theorem dX5_room_6 : decode cX5_room 6 = .ok (.getfield 23, 3) := by decide +kernel
theorem dX5_room_9 : decode cX5_room 9 = .ok (.isub, 1) := by decide +kernel
theorem dX5_room_10 : decode cX5_room 10 = .ok (.ireturn, 1) := by decide +kernel
theorem dX5_clear_0 : decode cX5_clear 0 = .ok (.aload_n 0, 1) := by decide +kernel
theorem dX5_clear_1 : decode cX5_clear 1 = .ok (.iconst 0, 1) := by decide +kernel
theorem dX5_clear_2 : decode cX5_clear 2 = .ok (.putfield 19, 3) := by decide +kernel
theorem dX5_clear_5 : decode cX5_clear 5 = .ok (.aload_n 0, 1) := by decide +kernel
theorem dX5_clear_6 : decode cX5_clear 6 = .ok (.iconst 0, 1) := by decide +kernel
theorem dX5_clear_7 : decode cX5_clear 7 = .ok (.putfield 23, 3) := by decide +kernel
theorem dX5_clear_10 : decode cX5_clear 10 = .ok (.return_, 1) := by decide +kernel
theorem dX5_cellOf_0 : decode cX5_cellOf 0 = .ok (.aload_n 0, 1) := by decide +kernel
theorem dX5_cellOf_1 : decode cX5_cellOf 1 = .ok (.getfield 19, 3) := by decide +kernel
theorem dX5_cellOf_4 : decode cX5_cellOf 4 = .ok (.iload_n 1, 1) := by decide +kernel
theorem dX5_cellOf_5 : decode cX5_cellOf 5 = .ok (.iadd, 1) := by decide +kernel
theorem dX5_cellOf_6 : decode cX5_cellOf 6 = .ok (.istore_n 2, 1) := by decide +kernel
theorem dX5_cellOf_7 : decode cX5_cellOf 7 = .ok (.iload_n 2, 1) := by decide +kernel
theorem dX5_cellOf_8 : decode cX5_cellOf 8 = .ok (.aload_n 0, 1) := by decide +kernel
theorem dX5_cellOf_9 : decode cX5_cellOf 9 = .ok (.getfield 13, 3) := by decide +kernel
theorem dX5_cellOf_12 : decode cX5_cellOf 12 = .ok (.arraylength, 1) := by decide +kernel
theorem dX5_cellOf_13 : decode cX5_cellOf 13 = .ok (.if_icmp .lt 13, 3) := by decide +kernel
theorem dX5_cellOf_16 : decode cX5_cellOf 16 = .ok (.iload_n 2, 1) := by decide +kernel
theorem dX5_cellOf_17 : decode cX5_cellOf 17 = .ok (.aload_n 0, 1) := by decide +kernel
theorem dX5_cellOf_18 : decode cX5_cellOf 18 = .ok (.getfield 13, 3) := by decide +kernel
theorem dX5_cellOf_21 : decode cX5_cellOf 21 = .ok (.arraylength, 1) := by decide +kernel
theorem dX5_cellOf_22 : decode cX5_cellOf 22 = .ok (.isub, 1) := by decide +kernel
theorem dX5_cellOf_23 : decode cX5_cellOf 23 = .ok (.goto 4, 3) := by decide +kernel
theorem dX5_cellOf_26 : decode cX5_cellOf 26 = .ok (.iload_n 2, 1) := by decide +kernel
theorem dX5_cellOf_27 : decode cX5_cellOf 27 = .ok (.ireturn, 1) := by decide +kernel
theorem dX5_at_0 : decode cX5_at 0 = .ok (.aload_n 0, 1) := by decide +kernel
theorem dX5_at_1 : decode cX5_at 1 = .ok (.iload_n 1, 1) := by decide +kernel
theorem dX5_at_2 : decode cX5_at 2 = .ok (.invokevirtual 26, 3) := by decide +kernel
theorem dX5_at_5 : decode cX5_at 5 = .ok (.istore_n 2, 1) := by decide +kernel
theorem dX5_at_6 : decode cX5_at 6 = .ok (.iload_n 1, 1) := by decide +kernel
theorem dX5_at_7 : decode cX5_at 7 = .ok (.ifCond .lt 33, 3) := by decide +kernel
theorem dX5_at_10 : decode cX5_at 10 = .ok (.iload_n 1, 1) := by decide +kernel
theorem dX5_at_11 : decode cX5_at 11 = .ok (.aload_n 0, 1) := by decide +kernel
theorem dX5_at_12 : decode cX5_at 12 = .ok (.getfield 23, 3) := by decide +kernel
theorem dX5_at_15 : decode cX5_at 15 = .ok (.if_icmp .ge 25, 3) := by decide +kernel
theorem dX5_at_18 : decode cX5_at 18 = .ok (.iload_n 2, 1) := by decide +kernel
theorem dX5_at_19 : decode cX5_at 19 = .ok (.ifCond .lt 21, 3) := by decide +kernel
theorem dX5_at_22 : decode cX5_at 22 = .ok (.iload_n 2, 1) := by decide +kernel
theorem dX5_at_23 : decode cX5_at 23 = .ok (.aload_n 0, 1) := by decide +kernel
theorem dX5_at_24 : decode cX5_at 24 = .ok (.getfield 13, 3) := by decide +kernel
theorem dX5_at_27 : decode cX5_at 27 = .ok (.arraylength, 1) := by decide +kernel
theorem dX5_at_28 : decode cX5_at 28 = .ok (.if_icmp .ge 12, 3) := by decide +kernel
theorem dX5_at_31 : decode cX5_at 31 = .ok (.aload_n 0, 1) := by decide +kernel
theorem dX5_at_32 : decode cX5_at 32 = .ok (.getfield 13, 3) := by decide +kernel
theorem dX5_at_35 : decode cX5_at 35 = .ok (.iload_n 2, 1) := by decide +kernel
theorem dX5_at_36 : decode cX5_at 36 = .ok (.iaload, 1) := by decide +kernel
theorem dX5_at_37 : decode cX5_at 37 = .ok (.goto 4, 3) := by decide +kernel
theorem dX5_at_40 : decode cX5_at 40 = .ok (.iconst 0, 1) := by decide +kernel
theorem dX5_at_41 : decode cX5_at 41 = .ok (.ireturn, 1) := by decide +kernel
set_option maxRecDepth 20000 in
theorem ggX5_at_X5_cellOf : GoodIn wsX5_at wsX5_cellOf := goodIn_r _ [7, 8, 2, 9, 10, 11] (by decide +kernel) (by decide +kernel)
set_option maxRecDepth 20000 in
theorem gX5_at_X5_cellOf : GoodIn wsX5_at (wsV RX5 26 RX5 yX5_cellOf wsX5_cellOf) := goodIn_app (goodIn_of _ (by decide +kernel)) ggX5_at_X5_cellOf
theorem dX5_first_0 : decode cX5_first 0 = .ok (.aload_n 0, 1) := by decide +kernel
theorem dX5_first_1 : decode cX5_first 1 = .ok (.iconst 0, 1) := by decide +kernel
theorem dX5_first_2 : decode cX5_first 2 = .ok (.invokevirtual 30, 3) := by decide +kernel
theorem dX5_first_5 : decode cX5_first 5 = .ok (.ireturn, 1) := by decide +kernel
set_option maxRecDepth 20000 in
theorem ggX5_first_X5_at : GoodIn wsX5_first wsX5_at := goodIn_r _ [5, 6, 7, 8, 9, 10, 4, 11, 12, 13, 14, 15] (by decide +kernel) (by decide +kernel)
set_option maxRecDepth 20000 in
theorem gX5_first_X5_at : GoodIn wsX5_first (wsV RX5 30 RX5 yX5_at wsX5_at) := goodIn_app (goodIn_of _ (by decide +kernel)) ggX5_first_X5_at
theorem dX5_setAt_0 : decode cX5_setAt 0 = .ok (.aload_n 0, 1) := by decide +kernel
theorem dX5_setAt_1 : decode cX5_setAt 1 = .ok (.iload_n 1, 1) := by decide +kernel
theorem dX5_setAt_2 : decode cX5_setAt 2 = .ok (.invokevirtual 26, 3) := by decide +kernel
theorem dX5_setAt_5 : decode cX5_setAt 5 = .ok (.istore_n 3, 1) := by decide +kernel
theorem dX5_setAt_6 : decode cX5_setAt 6 = .ok (.iload_n 1, 1) := by decide +kernel
theorem dX5_setAt_7 : decode cX5_setAt 7 = .ok (.ifCond .lt 31, 3) := by decide +kernel
theorem dX5_setAt_10 : decode cX5_setAt 10 = .ok (.iload_n 1, 1) := by decide +kernel
theorem dX5_setAt_11 : decode cX5_setAt 11 = .ok (.aload_n 0, 1) := by decide +kernel
theorem dX5_setAt_12 : decode cX5_setAt 12 = .ok (.getfield 23, 3) := by decide +kernel
theorem dX5_setAt_15 : decode cX5_setAt 15 = .ok (.if_icmp .ge 23, 3) := by decide +kernel
theorem dX5_setAt_18 : decode cX5_setAt 18 = .ok (.iload_n 3, 1) := by decide +kernel
theorem dX5_setAt_19 : decode cX5_setAt 19 = .ok (.ifCond .lt 19, 3) := by decide +kernel
theorem dX5_setAt_22 : decode cX5_setAt 22 = .ok (.iload_n 3, 1) := by decide +kernel
theorem dX5_setAt_23 : decode cX5_setAt 23 = .ok (.aload_n 0, 1) := by decide +kernel
theorem dX5_setAt_24 : decode cX5_setAt 24 = .ok (.getfield 13, 3) := by decide +kernel
theorem dX5_setAt_27 : decode cX5_setAt 27 = .ok (.arraylength, 1) := by decide +kernel
theorem dX5_setAt_28 : decode cX5_setAt 28 = .ok (.if_icmp .ge 10, 3) := by decide +kernel
theorem dX5_setAt_31 : decode cX5_setAt 31 = .ok (.aload_n 0, 1) := by decide +kernel
theorem dX5_setAt_32 : decode cX5_setAt 32 = .ok (.getfield 13, 3) := by decide +kernel
theorem dX5_setAt_35 : decode cX5_setAt 35 = .ok (.iload_n 3, 1) := by decide +kernel
theorem dX5_setAt_36 : decode cX5_setAt 36 = .ok (.iload_n 2, 1) := by decide +kernel
theorem dX5_setAt_37 : decode cX5_setAt 37 = .ok (.iastore, 1) := by decide +kernel
theorem dX5_setAt_38 : decode cX5_setAt 38 = .ok (.return_, 1) := by decide +kernel
set_option maxRecDepth 20000 in
theorem ggX5_setAt_X5_cellOf : GoodIn wsX5_setAt wsX5_cellOf := goodIn_r _ [7, 8, 2, 9, 10, 11] (by decide +kernel) (by decide +kernel)
set_option maxRecDepth 20000 in
theorem gX5_setAt_X5_cellOf : GoodIn wsX5_setAt (wsV RX5 26 RX5 yX5_cellOf wsX5_cellOf) := goodIn_app (goodIn_of _ (by decide +kernel)) ggX5_setAt_X5_cellOf
theorem dX5_setFirst_0 : decode cX5_setFirst 0 = .ok (.aload_n 0, 1) := by decide +kernel
theorem dX5_setFirst_1 : decode cX5_setFirst 1 = .ok (.iconst 0, 1) := by decide +kernel
theorem dX5_setFirst_2 : decode cX5_setFirst 2 = .ok (.iload_n 1, 1) := by decide +kernel
theorem dX5_setFirst_3 : decode cX5_setFirst 3 = .ok (.invokevirtual 33, 3) := by decide +kernel
theorem dX5_setFirst_6 : decode cX5_setFirst 6 = .ok (.return_, 1) := by decide +kernel
set_option maxRecDepth 20000 in
theorem ggX5_setFirst_X5_setAt : GoodIn wsX5_setFirst wsX5_setAt := goodIn_r _ [5, 6, 7, 8, 9, 10, 4, 11, 12, 13, 14, 15] (by decide +kernel) (by decide +kernel)
set_option maxRecDepth 20000 in
theorem gX5_setFirst_X5_setAt : GoodIn wsX5_setFirst (wsV RX5 33 RX5 yX5_setAt wsX5_setAt) := goodIn_app (goodIn_of _ (by decide +kernel)) ggX5_setFirst_X5_setAt
theorem dX5_add_0 : decode cX5_add 0 = .ok (.aload_n 0, 1) := by decide +kernel
theorem dX5_add_1 : decode cX5_add 1 = .ok (.getfield 23, 3) := by decide +kernel
theorem dX5_add_4 : decode cX5_add 4 = .ok (.aload_n 0, 1) := by decide +kernel
theorem dX5_add_5 : decode cX5_add 5 = .ok (.getfield 13, 3) := by decide +kernel
theorem dX5_add_8 : decode cX5_add 8 = .ok (.arraylength, 1) := by decide +kernel
theorem dX5_add_9 : decode cX5_add 9 = .ok (.if_icmp .ge 24, 3) := by decide +kernel
theorem dX5_add_12 : decode cX5_add 12 = .ok (.aload_n 0, 1) := by decide +kernel
theorem dX5_add_13 : decode cX5_add 13 = .ok (.dup, 1) := by decide +kernel
theorem dX5_add_14 : decode cX5_add 14 = .ok (.getfield 23, 3) := by decide +kernel
theorem dX5_add_17 : decode cX5_add 17 = .ok (.iconst 1, 1) := by decide +kernel
theorem dX5_add_18 : decode cX5_add 18 = .ok (.iadd, 1) := by decide +kernel
theorem dX5_add_19 : decode cX5_add 19 = .ok (.putfield 23, 3) := by decide +kernel
theorem dX5_add_22 : decode cX5_add 22 = .ok (.aload_n 0, 1) := by decide +kernel
theorem dX5_add_23 : decode cX5_add 23 = .ok (.aload_n 0, 1) := by decide +kernel
theorem dX5_add_24 : decode cX5_add 24 = .ok (.getfield 23, 3) := by decide +kernel
theorem dX5_add_27 : decode cX5_add 27 = .ok (.iconst 1, 1) := by decide +kernel
theorem dX5_add_28 : decode cX5_add 28 = .ok (.isub, 1) := by decide +kernel
theorem dX5_add_29 : decode cX5_add 29 = .ok (.iload_n 1, 1) := by decide +kernel
theorem dX5_add_30 : decode cX5_add 30 = .ok (.invokevirtual 33, 3) := by decide +kernel
theorem dX5_add_33 : decode cX5_add 33 = .ok (.return_, 1) := by decide +kernel
set_option maxRecDepth 20000 in
theorem ggX5_add_X5_setAt : GoodIn wsX5_add wsX5_setAt := goodIn_r _ [7, 1, 2, 8, 9, 10, 6, 11, 12, 13, 14, 15] (by decide +kernel) (by decide +kernel)
set_option maxRecDepth 20000 in
theorem gX5_add_X5_setAt : GoodIn wsX5_add (wsV RX5 33 RX5 yX5_setAt wsX5_setAt) := goodIn_app (goodIn_of _ (by decide +kernel)) ggX5_add_X5_setAt
theorem dX5_dropFirst_0 : decode cX5_dropFirst 0 = .ok (.aload_n 0, 1) := by decide +kernel
theorem dX5_dropFirst_1 : decode cX5_dropFirst 1 = .ok (.getfield 23, 3) := by decide +kernel
theorem dX5_dropFirst_4 : decode cX5_dropFirst 4 = .ok (.ifCond .le 22, 3) := by decide +kernel
theorem dX5_dropFirst_7 : decode cX5_dropFirst 7 = .ok (.aload_n 0, 1) := by decide +kernel
theorem dX5_dropFirst_8 : decode cX5_dropFirst 8 = .ok (.aload_n 0, 1) := by decide +kernel
theorem dX5_dropFirst_9 : decode cX5_dropFirst 9 = .ok (.iconst 1, 1) := by decide +kernel
theorem dX5_dropFirst_10 : decode cX5_dropFirst 10 = .ok (.invokevirtual 26, 3) := by decide +kernel
theorem dX5_dropFirst_13 : decode cX5_dropFirst 13 = .ok (.putfield 19, 3) := by decide +kernel
theorem dX5_dropFirst_16 : decode cX5_dropFirst 16 = .ok (.aload_n 0, 1) := by decide +kernel
theorem dX5_dropFirst_17 : decode cX5_dropFirst 17 = .ok (.dup, 1) := by decide +kernel
theorem dX5_dropFirst_18 : decode cX5_dropFirst 18 = .ok (.getfield 23, 3) := by decide +kernel
theorem dX5_dropFirst_21 : decode cX5_dropFirst 21 = .ok (.iconst 1, 1) := by decide +kernel
theorem dX5_dropFirst_22 : decode cX5_dropFirst 22 = .ok (.isub, 1) := by decide +kernel
theorem dX5_dropFirst_23 : decode cX5_dropFirst 23 = .ok (.putfield 23, 3) := by decide +kernel
theorem dX5_dropFirst_26 : decode cX5_dropFirst 26 = .ok (.return_, 1) := by decide +kernel
set_option maxRecDepth 20000 in
theorem ggX5_dropFirst_X5_cellOf : GoodIn wsX5_dropFirst wsX5_cellOf := goodIn_r _ [7, 2, 8, 9, 10, 11] (by decide +kernel) (by decide +kernel)
set_option maxRecDepth 20000 in
theorem gX5_dropFirst_X5_cellOf : GoodIn wsX5_dropFirst (wsV RX5 26 RX5 yX5_cellOf wsX5_cellOf) := goodIn_app (goodIn_of _ (by decide +kernel)) ggX5_dropFirst_X5_cellOf
def F_X5_size  (v_size : Int32) : Option (Int32) := some v_size
def wX5_size (h_ : Nat) (h_cells : Nat) (v_head : Int32) (v_size : Int32) (_u : Int32) : va_W := [oX5 h_ h_cells v_head v_size]
set_option maxHeartbeats 4000000 in
set_option maxRecDepth 100000 in
theorem mX5_size {l : Launch} (D : va_G) (h_ : Nat) (h_cells : Nat) (v_head : Int32) (v_size : Int32) (u0 : Int32) (hF : F_X5_size v_size = some u0) : MI l yX5_size wsX5_size { frames := 0, cells := 0, slots := 0, locals := 0 } D [] [.ref h_] [oX5 h_ h_cells v_head v_size] (wX5_size h_ h_cells v_head v_size u0) (u0) := by
  refine MI.ofW (cc := cX5_size) (maxL := 1) (ret := (some .int)) (lv := [(0, .ref h_)]) (by decide +kernel) rfl (Nat.le_of_ble_eq_true rfl) rfl ?_
  intro p e s m args below meth c A ls hx hb hr hml hts hown hlocks hA hK hP hD hS hl
  replace hown : s.vm.findClass RX5 = some m.cls := hown
  have i_X5 : ∀ w ∈ wsX50, w ∈ wsX5_size := by decide +kernel
  have f_23 := hts (.fieldLink RX5 23 "SerialPort$Ring" "size" "I") (by decide +kernel)
  have hret : ∀ (u : Int32) (v : Int32) (H : Heap) (locs : List Loc) (pc : Nat) (ls : Array Slot), va_P D vwCl (wX5_size h_ h_cells v_head v_size u) H → va_D A (wX5_size h_ h_cells v_head v_size u) → va_S A s.heap H locs → some u = some u0 → v = u → decode cX5_size pc = .ok (.ireturn, 1) → W p l e { frames := 0, cells := 0, slots := 0, locals := 0 } s m args below meth c H locs 0 0 (QI below D [] (wX5_size h_ h_cells v_head v_size u0) (u0) args s A) (F0 m pc ls [.int v]) := fun u v H locs pc ls h1 h2 h3 h4 h5 h6 => rI (wf := wX5_size h_ h_cells v_head v_size) (rf := fun u => u) hx hb hr hlocks hK h1 h2 h3 h4 h5 h6
  unfold F_X5_size at hF
  refine lv_aload_n hx hb dX5_size_0 rfl (lv_at hl 0 rfl) ?_
  refine va_get (D := D) (ci := 5) (v := .int v_size) (C := RX5) (T := TX5) (N := 3) hx hb hts i_X5 hown hK hP 0 rfl rfl 2 (Nat.le_of_ble_eq_true rfl) f_23 (fun _ h9 => h9) rfl dX5_size_1 ?_
  exact hret v_size v_size _ _ 4 _ hP hD hS hF rfl dX5_size_4
def F_X5_isEmpty  (v_size : Int32) : Option (Bool) := if v_size = 0 then (some true) else (some false)
def wX5_isEmpty (h_ : Nat) (h_cells : Nat) (v_head : Int32) (v_size : Int32) (_u : Bool) : va_W := [oX5 h_ h_cells v_head v_size]
set_option maxHeartbeats 4000000 in
set_option maxRecDepth 100000 in
theorem mX5_isEmpty {l : Launch} (D : va_G) (h_ : Nat) (h_cells : Nat) (v_head : Int32) (v_size : Int32) (u0 : Bool) (hF : F_X5_isEmpty v_size = some u0) : MI l yX5_isEmpty wsX5_isEmpty { frames := 0, cells := 0, slots := 0, locals := 0 } D [] [.ref h_] [oX5 h_ h_cells v_head v_size] (wX5_isEmpty h_ h_cells v_head v_size u0) (bI u0) := by
  refine MI.ofW (cc := cX5_isEmpty) (maxL := 1) (ret := (some .boolean)) (lv := [(0, .ref h_)]) (by decide +kernel) rfl (Nat.le_of_ble_eq_true rfl) rfl ?_
  intro p e s m args below meth c A ls hx hb hr hml hts hown hlocks hA hK hP hD hS hl
  replace hown : s.vm.findClass RX5 = some m.cls := hown
  have i_X5 : ∀ w ∈ wsX50, w ∈ wsX5_isEmpty := by decide +kernel
  have f_23 := hts (.fieldLink RX5 23 "SerialPort$Ring" "size" "I") (by decide +kernel)
  have hret : ∀ (u : Bool) (v : Int32) (H : Heap) (locs : List Loc) (pc : Nat) (ls : Array Slot), va_P D vwCl (wX5_isEmpty h_ h_cells v_head v_size u) H → va_D A (wX5_isEmpty h_ h_cells v_head v_size u) → va_S A s.heap H locs → some u = some u0 → v = bI u → decode cX5_isEmpty pc = .ok (.ireturn, 1) → W p l e { frames := 0, cells := 0, slots := 0, locals := 0 } s m args below meth c H locs 0 0 (QI below D [] (wX5_isEmpty h_ h_cells v_head v_size u0) (bI u0) args s A) (F0 m pc ls [.int v]) := fun u v H locs pc ls h1 h2 h3 h4 h5 h6 => rZ (wf := wX5_isEmpty h_ h_cells v_head v_size) (rf := fun u => u) hx hb hr hlocks hK h1 h2 h3 h4 h5 h6
  unfold F_X5_isEmpty at hF
  refine lv_aload_n hx hb dX5_isEmpty_0 rfl (lv_at hl 0 rfl) ?_
  refine va_get (D := D) (ci := 5) (v := .int v_size) (C := RX5) (T := TX5) (N := 3) hx hb hts i_X5 hown hK hP 0 rfl rfl 2 (Nat.le_of_ble_eq_true rfl) f_23 (fun _ h9 => h9) rfl dX5_isEmpty_1 ?_
  refine lv_if_ne (tgt := 11) hx hb dX5_isEmpty_4 (by decide) (fun c1 => ?_) (fun c1 => ?_)
  · replace hF := it_f c1 hF
    refine lv_iconst (v := 0) hx hb dX5_isEmpty_11 (by decide) ?_
    exact hret false 0 _ _ 12 _ hP hD hS hF rfl dX5_isEmpty_12
  · replace hF := it_t c1 hF
    refine lv_iconst (v := 1) hx hb dX5_isEmpty_7 (by decide) ?_
    refine lv_goto (tgt := 12) hx hb dX5_isEmpty_8 (by decide) ?_
    exact hret true 1 _ _ 12 _ hP hD hS hF rfl dX5_isEmpty_12
def F_X5_room  (v_size : Int32) (v_cells_n : Nat) : Option (Int32) := some ((Int32.ofNat v_cells_n) - v_size)
def wX5_room (k_cells : ClassId) (h_ : Nat) (h_cells : Nat) (v_head : Int32) (v_size : Int32) (v_cells_n : Nat) (v_cells_a : Nat → Int32) (_u : Int32) : va_W := [oX5 h_ h_cells v_head v_size, aI h_cells k_cells v_cells_n v_cells_a]
set_option maxHeartbeats 4000000 in
set_option maxRecDepth 100000 in
theorem mX5_room {l : Launch} (D : va_G) (k_cells : ClassId) (h_ : Nat) (h_cells : Nat) (v_head : Int32) (v_size : Int32) (v_cells_n : Nat) (v_cells_a : Nat → Int32) (u0 : Int32) (hF : F_X5_room v_size v_cells_n = some u0) : MI l yX5_room wsX5_room { frames := 0, cells := 0, slots := 0, locals := 0 } D [(k_cells, .int)] [.ref h_] [oX5 h_ h_cells v_head v_size, aI h_cells k_cells v_cells_n v_cells_a] (wX5_room k_cells h_ h_cells v_head v_size v_cells_n v_cells_a u0) (u0) := by
  refine MI.ofW (cc := cX5_room) (maxL := 1) (ret := (some .int)) (lv := [(0, .ref h_)]) (by decide +kernel) rfl (Nat.le_of_ble_eq_true rfl) rfl ?_
  intro p e s m args below meth c A ls hx hb hr hml hts hown hlocks hA hK hP hD hS hl
  replace hown : s.vm.findClass RX5 = some m.cls := hown
  have i_X5 : ∀ w ∈ wsX50, w ∈ wsX5_room := by decide +kernel
  have f_13 := hts (.fieldLink RX5 13 "SerialPort$Ring" "cells" "[I") (by decide +kernel)
  have f_23 := hts (.fieldLink RX5 23 "SerialPort$Ring" "size" "I") (by decide +kernel)
  have hret : ∀ (u : Int32) (v : Int32) (H : Heap) (locs : List Loc) (pc : Nat) (ls : Array Slot), va_P D vwCl (wX5_room k_cells h_ h_cells v_head v_size v_cells_n v_cells_a u) H → va_D A (wX5_room k_cells h_ h_cells v_head v_size v_cells_n v_cells_a u) → va_S A s.heap H locs → some u = some u0 → v = u → decode cX5_room pc = .ok (.ireturn, 1) → W p l e { frames := 0, cells := 0, slots := 0, locals := 0 } s m args below meth c H locs 0 0 (QI below D [(k_cells, .int)] (wX5_room k_cells h_ h_cells v_head v_size v_cells_n v_cells_a u0) (u0) args s A) (F0 m pc ls [.int v]) := fun u v H locs pc ls h1 h2 h3 h4 h5 h6 => rI (wf := wX5_room k_cells h_ h_cells v_head v_size v_cells_n v_cells_a) (rf := fun u => u) hx hb hr hlocks hK h1 h2 h3 h4 h5 h6
  unfold F_X5_room at hF
  refine lv_aload_n hx hb dX5_room_0 rfl (lv_at hl 0 rfl) ?_
  refine va_get (D := D) (ci := 5) (v := .ref h_cells) (C := RX5) (T := TX5) (N := 3) hx hb hts i_X5 hown hK hP 0 rfl rfl 0 (Nat.le_of_ble_eq_true rfl) f_13 (fun _ h9 => h9) rfl dX5_room_1 ?_
  refine va_alen (v := (Int32.ofNat v_cells_n)) hx hb hK hP 1 0 rfl rfl rfl dX5_room_4 ?_
  refine lv_aload_n hx hb dX5_room_5 rfl (lv_at hl 0 rfl) ?_
  refine va_get (D := D) (ci := 5) (v := .int v_size) (C := RX5) (T := TX5) (N := 3) hx hb hts i_X5 hown hK hP 0 rfl rfl 2 (Nat.le_of_ble_eq_true rfl) f_23 (fun _ h9 => h9) rfl dX5_room_6 ?_
  refine lv_isub hx hb dX5_room_9 ?_
  exact hret ((Int32.ofNat v_cells_n) - v_size) ((Int32.ofNat v_cells_n) - v_size) _ _ 10 _ hP hD hS hF rfl dX5_room_10
def F_X5_clear  (v_head : Int32) (v_size : Int32) : Option (Int32 × Int32) := some (0, 0)
def wX5_clear (h_ : Nat) (h_cells : Nat) (u : Int32 × Int32) : va_W := [oX5 h_ h_cells u.1 u.2]
set_option maxHeartbeats 4000000 in
set_option maxRecDepth 100000 in
theorem mX5_clear {l : Launch} (D : va_G) (h_ : Nat) (h_cells : Nat) (v_head : Int32) (v_size : Int32) (u0 : Int32 × Int32) (hF : F_X5_clear v_head v_size = some u0) : MV l yX5_clear wsX5_clear { frames := 0, cells := 0, slots := 0, locals := 0 } D [] [.ref h_] [oX5 h_ h_cells v_head v_size] (wX5_clear h_ h_cells u0) := by
  refine MV.ofW (cc := cX5_clear) (maxL := 1) (ret := none) (lv := [(0, .ref h_)]) (by decide +kernel) rfl (Nat.le_of_ble_eq_true rfl) rfl ?_
  intro p e s m args below meth c A ls hx hb hr hml hts hown hlocks hA hK hP hD hS hl
  replace hown : s.vm.findClass RX5 = some m.cls := hown
  have i_X5 : ∀ w ∈ wsX50, w ∈ wsX5_clear := by decide +kernel
  have f_19 := hts (.fieldLink RX5 19 "SerialPort$Ring" "head" "I") (by decide +kernel)
  have f_23 := hts (.fieldLink RX5 23 "SerialPort$Ring" "size" "I") (by decide +kernel)
  have hret : ∀ (u : Int32 × Int32) (H : Heap) (locs : List Loc) (pc : Nat) (ls : Array Slot), va_P D vwCl (wX5_clear h_ h_cells u) H → va_D A (wX5_clear h_ h_cells u) → va_S A s.heap H locs → some u = some u0 → decode cX5_clear pc = .ok (.return_, 1) → W p l e { frames := 0, cells := 0, slots := 0, locals := 0 } s m args below meth c H locs 0 0 (QV below D [] (wX5_clear h_ h_cells u0) args s A) (F0 m pc ls []) := fun u H locs pc ls h1 h2 h3 h4 h5 => rV (wf := wX5_clear h_ h_cells) hx hb hr hlocks hK h1 h2 h3 h4 h5
  unfold F_X5_clear at hF
  refine lv_aload_n hx hb dX5_clear_0 rfl (lv_at hl 0 rfl) ?_
  refine lv_iconst (v := 0) hx hb dX5_clear_1 (by decide) ?_
  refine pf (ci := 5) (v := .int 0) (ty := .int) (C := RX5) (T := TX5) (N := 3) (ws' := [oX5 h_ h_cells 0 v_size]) hx hb hts i_X5 tyX5_ok nmX5 hown hK hP hD hS 0 rfl rfl 1 (Nat.le_of_ble_eq_true rfl) f_19 rfl rfl (by decide +kernel) rfl rfl (Nat.le_of_ble_eq_true rfl) rfl dX5_clear_2 (fun H locs hP hD hS => ?_)
  refine lv_aload_n hx hb dX5_clear_5 rfl (lv_at hl 0 rfl) ?_
  refine lv_iconst (v := 0) hx hb dX5_clear_6 (by decide) ?_
  refine pf (ci := 5) (v := .int 0) (ty := .int) (C := RX5) (T := TX5) (N := 3) (ws' := [oX5 h_ h_cells 0 0]) hx hb hts i_X5 tyX5_ok nmX5 hown hK hP hD hS 0 rfl rfl 2 (Nat.le_of_ble_eq_true rfl) f_23 rfl rfl (by decide +kernel) rfl rfl (Nat.le_of_ble_eq_true rfl) rfl dX5_clear_7 (fun H locs hP hD hS => ?_)
  exact hret (0, 0) _ _ 10 _ hP hD hS hF dX5_clear_10
def F_X5_cellOf (p1 : Int32) (v_head : Int32) (v_cells_n : Nat) : Option (Int32) := lt1 (v_head + p1) (fun x1 => if x1 < (Int32.ofNat v_cells_n) then (some x1) else (some (x1 - (Int32.ofNat v_cells_n))))
def wX5_cellOf (k_cells : ClassId) (h_ : Nat) (h_cells : Nat) (v_head : Int32) (v_size : Int32) (v_cells_n : Nat) (v_cells_a : Nat → Int32) (_u : Int32) : va_W := [oX5 h_ h_cells v_head v_size, aI h_cells k_cells v_cells_n v_cells_a]
set_option maxHeartbeats 4000000 in
set_option maxRecDepth 100000 in
theorem mX5_cellOf {l : Launch} (D : va_G) (k_cells : ClassId) (h_ : Nat) (h_cells : Nat) (v_head : Int32) (v_size : Int32) (v_cells_n : Nat) (v_cells_a : Nat → Int32) (p1 : Int32) (u0 : Int32) (hF : F_X5_cellOf p1 v_head v_cells_n = some u0) : MI l yX5_cellOf wsX5_cellOf { frames := 0, cells := 0, slots := 0, locals := 0 } D [(k_cells, .int)] [.ref h_, .int p1] [oX5 h_ h_cells v_head v_size, aI h_cells k_cells v_cells_n v_cells_a] (wX5_cellOf k_cells h_ h_cells v_head v_size v_cells_n v_cells_a u0) (u0) := by
  refine MI.ofW (cc := cX5_cellOf) (maxL := 3) (ret := (some .int)) (lv := [(0, .ref h_), (1, .int p1)]) (by decide +kernel) rfl (Nat.le_of_ble_eq_true rfl) rfl ?_
  intro p e s m args below meth c A ls hx hb hr hml hts hown hlocks hA hK hP hD hS hl
  replace hown : s.vm.findClass RX5 = some m.cls := hown
  have i_X5 : ∀ w ∈ wsX50, w ∈ wsX5_cellOf := by decide +kernel
  have f_13 := hts (.fieldLink RX5 13 "SerialPort$Ring" "cells" "[I") (by decide +kernel)
  have f_19 := hts (.fieldLink RX5 19 "SerialPort$Ring" "head" "I") (by decide +kernel)
  have hret : ∀ (u : Int32) (v : Int32) (H : Heap) (locs : List Loc) (pc : Nat) (ls : Array Slot), va_P D vwCl (wX5_cellOf k_cells h_ h_cells v_head v_size v_cells_n v_cells_a u) H → va_D A (wX5_cellOf k_cells h_ h_cells v_head v_size v_cells_n v_cells_a u) → va_S A s.heap H locs → some u = some u0 → v = u → decode cX5_cellOf pc = .ok (.ireturn, 1) → W p l e { frames := 0, cells := 0, slots := 0, locals := 0 } s m args below meth c H locs 0 0 (QI below D [(k_cells, .int)] (wX5_cellOf k_cells h_ h_cells v_head v_size v_cells_n v_cells_a u0) (u0) args s A) (F0 m pc ls [.int v]) := fun u v H locs pc ls h1 h2 h3 h4 h5 h6 => rI (wf := wX5_cellOf k_cells h_ h_cells v_head v_size v_cells_n v_cells_a) (rf := fun u => u) hx hb hr hlocks hK h1 h2 h3 h4 h5 h6
  unfold F_X5_cellOf at hF
  refine lv_aload_n hx hb dX5_cellOf_0 rfl (lv_at hl 0 rfl) ?_
  refine va_get (D := D) (ci := 5) (v := .int v_head) (C := RX5) (T := TX5) (N := 3) hx hb hts i_X5 hown hK hP 0 rfl rfl 1 (Nat.le_of_ble_eq_true rfl) f_19 (fun _ h9 => h9) rfl dX5_cellOf_1 ?_
  refine lv_iload_n hx hb dX5_cellOf_4 rfl (lv_at hl 1 rfl) ?_
  refine lv_iadd hx hb dX5_cellOf_5 ?_
  refine lv_topi (fun x1 ex1 => ?_)
  replace hF := lt1_x ex1 hF
  refine lv_istore_n (lv' := [(2, .int x1), (0, .ref h_), (1, .int p1)]) hx hb dX5_cellOf_6 rfl hl (Nat.le_of_ble_eq_true rfl) rfl (fun ls hl => ?_)
  refine lv_iload_n hx hb dX5_cellOf_7 rfl (lv_at hl 0 rfl) ?_
  refine lv_aload_n hx hb dX5_cellOf_8 rfl (lv_at hl 1 rfl) ?_
  refine va_get (D := D) (ci := 5) (v := .ref h_cells) (C := RX5) (T := TX5) (N := 3) hx hb hts i_X5 hown hK hP 0 rfl rfl 0 (Nat.le_of_ble_eq_true rfl) f_13 (fun _ h9 => h9) rfl dX5_cellOf_9 ?_
  refine va_alen (v := (Int32.ofNat v_cells_n)) hx hb hK hP 1 0 rfl rfl rfl dX5_cellOf_12 ?_
  refine lv_icmp_lt (tgt := 26) hx hb dX5_cellOf_13 (by decide) (fun c2 => ?_) (fun c2 => ?_)
  · replace hF := it_t c2 hF
    refine lv_iload_n hx hb dX5_cellOf_26 rfl (lv_at hl 0 rfl) ?_
    exact hret x1 x1 _ _ 27 _ hP hD hS hF rfl dX5_cellOf_27
  · replace hF := it_f c2 hF
    refine lv_iload_n hx hb dX5_cellOf_16 rfl (lv_at hl 0 rfl) ?_
    refine lv_aload_n hx hb dX5_cellOf_17 rfl (lv_at hl 1 rfl) ?_
    refine va_get (D := D) (ci := 5) (v := .ref h_cells) (C := RX5) (T := TX5) (N := 3) hx hb hts i_X5 hown hK hP 0 rfl rfl 0 (Nat.le_of_ble_eq_true rfl) f_13 (fun _ h9 => h9) rfl dX5_cellOf_18 ?_
    refine va_alen (v := (Int32.ofNat v_cells_n)) hx hb hK hP 1 0 rfl rfl rfl dX5_cellOf_21 ?_
    refine lv_isub hx hb dX5_cellOf_22 ?_
    refine lv_goto (tgt := 27) hx hb dX5_cellOf_23 (by decide) ?_
    exact hret (x1 - (Int32.ofNat v_cells_n)) (x1 - (Int32.ofNat v_cells_n)) _ _ 27 _ hP hD hS hF rfl dX5_cellOf_27
def F_X5_at (p1 : Int32) (v_head : Int32) (v_size : Int32) (v_cells_n : Nat) (v_cells_a : Nat → Int32) : Option (Int32) := bd (F_X5_cellOf p1 v_head v_cells_n) (fun u1 => if p1 < 0 then (some (0 : Int32)) else (if v_size ≤ p1 then (some (0 : Int32)) else (if u1 < 0 then (some (0 : Int32)) else (if (Int32.ofNat v_cells_n) ≤ u1 then (some (0 : Int32)) else (gd (inR u1 v_cells_n = true) (some (v_cells_a u1.toNatClampNeg)))))))
def wX5_at (k_cells : ClassId) (h_ : Nat) (h_cells : Nat) (v_head : Int32) (v_size : Int32) (v_cells_n : Nat) (v_cells_a : Nat → Int32) (_u : Int32) : va_W := [oX5 h_ h_cells v_head v_size, aI h_cells k_cells v_cells_n v_cells_a]
set_option maxHeartbeats 4000000 in
set_option maxRecDepth 100000 in
theorem mX5_at {l : Launch} (D : va_G) (k_cells : ClassId) (h_ : Nat) (h_cells : Nat) (v_head : Int32) (v_size : Int32) (v_cells_n : Nat) (v_cells_a : Nat → Int32) (p1 : Int32) (u0 : Int32) (hF : F_X5_at p1 v_head v_size v_cells_n v_cells_a = some u0) : MI l yX5_at wsX5_at { frames := 1, cells := 0, slots := 0, locals := 22 } D [(k_cells, .int)] [.ref h_, .int p1] [oX5 h_ h_cells v_head v_size, aI h_cells k_cells v_cells_n v_cells_a] (wX5_at k_cells h_ h_cells v_head v_size v_cells_n v_cells_a u0) (u0) := by
  refine MI.ofW (cc := cX5_at) (maxL := 3) (ret := (some .int)) (lv := [(0, .ref h_), (1, .int p1)]) (by decide +kernel) rfl (Nat.le_of_ble_eq_true rfl) rfl ?_
  intro p e s m args below meth c A ls hx hb hr hml hts hown hlocks hA hK hP hD hS hl
  replace hown : s.vm.findClass RX5 = some m.cls := hown
  have i_X5 : ∀ w ∈ wsX50, w ∈ wsX5_at := by decide +kernel
  have f_13 := hts (.fieldLink RX5 13 "SerialPort$Ring" "cells" "[I") (by decide +kernel)
  have f_23 := hts (.fieldLink RX5 23 "SerialPort$Ring" "size" "I") (by decide +kernel)
  have hret : ∀ (u : Int32) (v : Int32) (H : Heap) (locs : List Loc) (pc : Nat) (ls : Array Slot), va_P D vwCl (wX5_at k_cells h_ h_cells v_head v_size v_cells_n v_cells_a u) H → va_D A (wX5_at k_cells h_ h_cells v_head v_size v_cells_n v_cells_a u) → va_S A s.heap H locs → some u = some u0 → v = u → decode cX5_at pc = .ok (.ireturn, 1) → W p l e { frames := 1, cells := 0, slots := 0, locals := 22 } s m args below meth c H locs 0 0 (QI below D [(k_cells, .int)] (wX5_at k_cells h_ h_cells v_head v_size v_cells_n v_cells_a u0) (u0) args s A) (F0 m pc ls [.int v]) := fun u v H locs pc ls h1 h2 h3 h4 h5 h6 => rI (wf := wX5_at k_cells h_ h_cells v_head v_size v_cells_n v_cells_a) (rf := fun u => u) hx hb hr hlocks hK h1 h2 h3 h4 h5 h6
  unfold F_X5_at at hF
  refine lv_aload_n hx hb dX5_at_0 rfl (lv_at hl 0 rfl) ?_
  refine lv_iload_n hx hb dX5_at_1 rfl (lv_at hl 1 rfl) ?_
  obtain ⟨u1, hu1, hF⟩ := bd_el hF
  refine cVI (q0 := 0) (ci := 5) (As := [.int p1]) (rest := []) (wr := []) (ws' := [oX5 h_ h_cells v_head v_size, aI h_cells k_cells v_cells_n v_cells_a]) (rv := u1) ⟨hx, hb, hml, hown, hts⟩ (mX5_cellOf D k_cells h_ h_cells v_head v_size v_cells_n v_cells_a p1 u1 hu1) (cwV 1 hts gX5_at_X5_cellOf rfl rfl rfl (by decide +kernel) ⟨Nat.le_of_ble_eq_true rfl, Nat.le_of_ble_eq_true rfl⟩) hK hP hD hS hA [0] [0, 1] [] [0, 1] rfl rfl rfl rfl rfl rfl rfl rfl rfl hl.1 rfl (Nat.le_of_ble_eq_true rfl) rfl dX5_at_2 ⟨Nat.le_refl _, Nat.le_refl _⟩ (fun H locs hP hD hS => ?_)
  refine lv_istore_n (lv' := [(2, .int u1), (0, .ref h_), (1, .int p1)]) hx hb dX5_at_5 rfl hl (Nat.le_of_ble_eq_true rfl) rfl (fun ls hl => ?_)
  refine lv_iload_n hx hb dX5_at_6 rfl (lv_at hl 2 rfl) ?_
  refine lv_if_lt (tgt := 40) hx hb dX5_at_7 (by decide) (fun c2 => ?_) (fun c2 => ?_)
  · replace hF := it_t c2 hF
    refine lv_iconst (v := 0) hx hb dX5_at_40 (by decide) ?_
    exact hret (0 : Int32) 0 _ _ 41 _ hP hD hS hF rfl dX5_at_41
  · replace hF := it_f c2 hF
    refine lv_iload_n hx hb dX5_at_10 rfl (lv_at hl 2 rfl) ?_
    refine lv_aload_n hx hb dX5_at_11 rfl (lv_at hl 1 rfl) ?_
    refine va_get (D := D) (ci := 5) (v := .int v_size) (C := RX5) (T := TX5) (N := 3) hx hb hts i_X5 hown hK hP 0 rfl rfl 2 (Nat.le_of_ble_eq_true rfl) f_23 (fun _ h9 => h9) rfl dX5_at_12 ?_
    refine lv_icmp_ge (tgt := 40) hx hb dX5_at_15 (by decide) (fun c3 => ?_) (fun c3 => ?_)
    · replace hF := it_t c3 hF
      refine lv_iconst (v := 0) hx hb dX5_at_40 (by decide) ?_
      exact hret (0 : Int32) 0 _ _ 41 _ hP hD hS hF rfl dX5_at_41
    · replace hF := it_f c3 hF
      refine lv_iload_n hx hb dX5_at_18 rfl (lv_at hl 0 rfl) ?_
      refine lv_if_lt (tgt := 40) hx hb dX5_at_19 (by decide) (fun c4 => ?_) (fun c4 => ?_)
      · replace hF := it_t c4 hF
        refine lv_iconst (v := 0) hx hb dX5_at_40 (by decide) ?_
        exact hret (0 : Int32) 0 _ _ 41 _ hP hD hS hF rfl dX5_at_41
      · replace hF := it_f c4 hF
        refine lv_iload_n hx hb dX5_at_22 rfl (lv_at hl 0 rfl) ?_
        refine lv_aload_n hx hb dX5_at_23 rfl (lv_at hl 1 rfl) ?_
        refine va_get (D := D) (ci := 5) (v := .ref h_cells) (C := RX5) (T := TX5) (N := 3) hx hb hts i_X5 hown hK hP 0 rfl rfl 0 (Nat.le_of_ble_eq_true rfl) f_13 (fun _ h9 => h9) rfl dX5_at_24 ?_
        refine va_alen (v := (Int32.ofNat v_cells_n)) hx hb hK hP 1 0 rfl rfl rfl dX5_at_27 ?_
        refine lv_icmp_ge (tgt := 40) hx hb dX5_at_28 (by decide) (fun c5 => ?_) (fun c5 => ?_)
        · replace hF := it_t c5 hF
          refine lv_iconst (v := 0) hx hb dX5_at_40 (by decide) ?_
          exact hret (0 : Int32) 0 _ _ 41 _ hP hD hS hF rfl dX5_at_41
        · replace hF := it_f c5 hF
          refine lv_aload_n hx hb dX5_at_31 rfl (lv_at hl 1 rfl) ?_
          refine va_get (D := D) (ci := 5) (v := .ref h_cells) (C := RX5) (T := TX5) (N := 3) hx hb hts i_X5 hown hK hP 0 rfl rfl 0 (Nat.le_of_ble_eq_true rfl) f_13 (fun _ h9 => h9) rfl dX5_at_32 ?_
          refine lv_iload_n hx hb dX5_at_35 rfl (lv_at hl 0 rfl) ?_
          obtain ⟨g6, hF⟩ := gd_el hF
          refine va_iald hx hb hK hP 1 0 rfl rfl (inR_in g6) dX5_at_36 ?_
          refine lv_goto (tgt := 41) hx hb dX5_at_37 (by decide) ?_
          exact hret (v_cells_a u1.toNatClampNeg) (v_cells_a u1.toNatClampNeg) _ _ 41 _ hP hD hS hF rfl dX5_at_41
def F_X5_first  (v_head : Int32) (v_size : Int32) (v_cells_n : Nat) (v_cells_a : Nat → Int32) : Option (Int32) := bd (F_X5_at 0 v_head v_size v_cells_n v_cells_a) (fun u1 => some u1)
def wX5_first (k_cells : ClassId) (h_ : Nat) (h_cells : Nat) (v_head : Int32) (v_size : Int32) (v_cells_n : Nat) (v_cells_a : Nat → Int32) (_u : Int32) : va_W := [oX5 h_ h_cells v_head v_size, aI h_cells k_cells v_cells_n v_cells_a]
set_option maxHeartbeats 4000000 in
set_option maxRecDepth 100000 in
theorem mX5_first {l : Launch} (D : va_G) (k_cells : ClassId) (h_ : Nat) (h_cells : Nat) (v_head : Int32) (v_size : Int32) (v_cells_n : Nat) (v_cells_a : Nat → Int32) (u0 : Int32) (hF : F_X5_first v_head v_size v_cells_n v_cells_a = some u0) : MI l yX5_first wsX5_first { frames := 2, cells := 0, slots := 0, locals := 44 } D [(k_cells, .int)] [.ref h_] [oX5 h_ h_cells v_head v_size, aI h_cells k_cells v_cells_n v_cells_a] (wX5_first k_cells h_ h_cells v_head v_size v_cells_n v_cells_a u0) (u0) := by
  refine MI.ofW (cc := cX5_first) (maxL := 1) (ret := (some .int)) (lv := [(0, .ref h_)]) (by decide +kernel) rfl (Nat.le_of_ble_eq_true rfl) rfl ?_
  intro p e s m args below meth c A ls hx hb hr hml hts hown hlocks hA hK hP hD hS hl
  replace hown : s.vm.findClass RX5 = some m.cls := hown
  have hret : ∀ (u : Int32) (v : Int32) (H : Heap) (locs : List Loc) (pc : Nat) (ls : Array Slot), va_P D vwCl (wX5_first k_cells h_ h_cells v_head v_size v_cells_n v_cells_a u) H → va_D A (wX5_first k_cells h_ h_cells v_head v_size v_cells_n v_cells_a u) → va_S A s.heap H locs → some u = some u0 → v = u → decode cX5_first pc = .ok (.ireturn, 1) → W p l e { frames := 2, cells := 0, slots := 0, locals := 44 } s m args below meth c H locs 0 0 (QI below D [(k_cells, .int)] (wX5_first k_cells h_ h_cells v_head v_size v_cells_n v_cells_a u0) (u0) args s A) (F0 m pc ls [.int v]) := fun u v H locs pc ls h1 h2 h3 h4 h5 h6 => rI (wf := wX5_first k_cells h_ h_cells v_head v_size v_cells_n v_cells_a) (rf := fun u => u) hx hb hr hlocks hK h1 h2 h3 h4 h5 h6
  unfold F_X5_first at hF
  refine lv_aload_n hx hb dX5_first_0 rfl (lv_at hl 0 rfl) ?_
  refine lv_iconst (v := 0) hx hb dX5_first_1 (by decide) ?_
  obtain ⟨u1, hu1, hF⟩ := bd_el hF
  refine cVI (q0 := 0) (ci := 5) (As := [.int 0]) (rest := []) (wr := []) (ws' := [oX5 h_ h_cells v_head v_size, aI h_cells k_cells v_cells_n v_cells_a]) (rv := u1) ⟨hx, hb, hml, hown, hts⟩ (mX5_at D k_cells h_ h_cells v_head v_size v_cells_n v_cells_a 0 u1 hu1) (cwV 1 hts gX5_first_X5_at rfl rfl rfl (by decide +kernel) ⟨Nat.le_of_ble_eq_true rfl, Nat.le_of_ble_eq_true rfl⟩) hK hP hD hS hA [0] [0, 1] [] [0, 1] rfl rfl rfl rfl rfl rfl rfl rfl rfl hl.1 rfl (Nat.le_of_ble_eq_true rfl) rfl dX5_first_2 ⟨Nat.le_refl _, Nat.le_refl _⟩ (fun H locs hP hD hS => ?_)
  exact hret u1 u1 _ _ 5 _ hP hD hS hF rfl dX5_first_5
def F_X5_setAt (p1 : Int32) (p2 : Int32) (v_head : Int32) (v_size : Int32) (v_cells_n : Nat) (v_cells_a : Nat → Int32) : Option ((Nat → Int32)) := bd (F_X5_cellOf p1 v_head v_cells_n) (fun u1 => if p1 < 0 then (some v_cells_a) else (if v_size ≤ p1 then (some v_cells_a) else (if u1 < 0 then (some v_cells_a) else (if (Int32.ofNat v_cells_n) ≤ u1 then (some v_cells_a) else (gd (inR u1 v_cells_n = true) (some (upd v_cells_a (u1.toNatClampNeg) p2)))))))
def wX5_setAt (k_cells : ClassId) (h_ : Nat) (h_cells : Nat) (v_head : Int32) (v_size : Int32) (v_cells_n : Nat) (u : (Nat → Int32)) : va_W := [oX5 h_ h_cells v_head v_size, aI h_cells k_cells v_cells_n u]
set_option maxHeartbeats 4000000 in
set_option maxRecDepth 100000 in
theorem mX5_setAt {l : Launch} (D : va_G) (k_cells : ClassId) (h_ : Nat) (h_cells : Nat) (v_head : Int32) (v_size : Int32) (v_cells_n : Nat) (v_cells_a : Nat → Int32) (p1 : Int32) (p2 : Int32) (u0 : (Nat → Int32)) (hF : F_X5_setAt p1 p2 v_head v_size v_cells_n v_cells_a = some u0) : MV l yX5_setAt wsX5_setAt { frames := 1, cells := 0, slots := 0, locals := 22 } D [(k_cells, .int)] [.ref h_, .int p1, .int p2] [oX5 h_ h_cells v_head v_size, aI h_cells k_cells v_cells_n v_cells_a] (wX5_setAt k_cells h_ h_cells v_head v_size v_cells_n u0) := by
  refine MV.ofW (cc := cX5_setAt) (maxL := 4) (ret := none) (lv := [(0, .ref h_), (1, .int p1), (2, .int p2)]) (by decide +kernel) rfl (Nat.le_of_ble_eq_true rfl) rfl ?_
  intro p e s m args below meth c A ls hx hb hr hml hts hown hlocks hA hK hP hD hS hl
  replace hown : s.vm.findClass RX5 = some m.cls := hown
  have i_X5 : ∀ w ∈ wsX50, w ∈ wsX5_setAt := by decide +kernel
  have f_13 := hts (.fieldLink RX5 13 "SerialPort$Ring" "cells" "[I") (by decide +kernel)
  have f_23 := hts (.fieldLink RX5 23 "SerialPort$Ring" "size" "I") (by decide +kernel)
  have hret : ∀ (u : (Nat → Int32)) (H : Heap) (locs : List Loc) (pc : Nat) (ls : Array Slot), va_P D vwCl (wX5_setAt k_cells h_ h_cells v_head v_size v_cells_n u) H → va_D A (wX5_setAt k_cells h_ h_cells v_head v_size v_cells_n u) → va_S A s.heap H locs → some u = some u0 → decode cX5_setAt pc = .ok (.return_, 1) → W p l e { frames := 1, cells := 0, slots := 0, locals := 22 } s m args below meth c H locs 0 0 (QV below D [(k_cells, .int)] (wX5_setAt k_cells h_ h_cells v_head v_size v_cells_n u0) args s A) (F0 m pc ls []) := fun u H locs pc ls h1 h2 h3 h4 h5 => rV (wf := wX5_setAt k_cells h_ h_cells v_head v_size v_cells_n) hx hb hr hlocks hK h1 h2 h3 h4 h5
  unfold F_X5_setAt at hF
  refine lv_aload_n hx hb dX5_setAt_0 rfl (lv_at hl 0 rfl) ?_
  refine lv_iload_n hx hb dX5_setAt_1 rfl (lv_at hl 1 rfl) ?_
  obtain ⟨u1, hu1, hF⟩ := bd_el hF
  refine cVI (q0 := 0) (ci := 5) (As := [.int p1]) (rest := []) (wr := []) (ws' := [oX5 h_ h_cells v_head v_size, aI h_cells k_cells v_cells_n v_cells_a]) (rv := u1) ⟨hx, hb, hml, hown, hts⟩ (mX5_cellOf D k_cells h_ h_cells v_head v_size v_cells_n v_cells_a p1 u1 hu1) (cwV 1 hts gX5_setAt_X5_cellOf rfl rfl rfl (by decide +kernel) ⟨Nat.le_of_ble_eq_true rfl, Nat.le_of_ble_eq_true rfl⟩) hK hP hD hS hA [0] [0, 1] [] [0, 1] rfl rfl rfl rfl rfl rfl rfl rfl rfl hl.1 rfl (Nat.le_of_ble_eq_true rfl) rfl dX5_setAt_2 ⟨Nat.le_refl _, Nat.le_refl _⟩ (fun H locs hP hD hS => ?_)
  refine lv_istore_n (lv' := [(3, .int u1), (0, .ref h_), (1, .int p1), (2, .int p2)]) hx hb dX5_setAt_5 rfl hl (Nat.le_of_ble_eq_true rfl) rfl (fun ls hl => ?_)
  refine lv_iload_n hx hb dX5_setAt_6 rfl (lv_at hl 2 rfl) ?_
  refine lv_if_lt (tgt := 38) hx hb dX5_setAt_7 (by decide) (fun c2 => ?_) (fun c2 => ?_)
  · replace hF := it_t c2 hF
    exact hret v_cells_a _ _ 38 _ hP hD hS hF dX5_setAt_38
  · replace hF := it_f c2 hF
    refine lv_iload_n hx hb dX5_setAt_10 rfl (lv_at hl 2 rfl) ?_
    refine lv_aload_n hx hb dX5_setAt_11 rfl (lv_at hl 1 rfl) ?_
    refine va_get (D := D) (ci := 5) (v := .int v_size) (C := RX5) (T := TX5) (N := 3) hx hb hts i_X5 hown hK hP 0 rfl rfl 2 (Nat.le_of_ble_eq_true rfl) f_23 (fun _ h9 => h9) rfl dX5_setAt_12 ?_
    refine lv_icmp_ge (tgt := 38) hx hb dX5_setAt_15 (by decide) (fun c3 => ?_) (fun c3 => ?_)
    · replace hF := it_t c3 hF
      exact hret v_cells_a _ _ 38 _ hP hD hS hF dX5_setAt_38
    · replace hF := it_f c3 hF
      refine lv_iload_n hx hb dX5_setAt_18 rfl (lv_at hl 0 rfl) ?_
      refine lv_if_lt (tgt := 38) hx hb dX5_setAt_19 (by decide) (fun c4 => ?_) (fun c4 => ?_)
      · replace hF := it_t c4 hF
        exact hret v_cells_a _ _ 38 _ hP hD hS hF dX5_setAt_38
      · replace hF := it_f c4 hF
        refine lv_iload_n hx hb dX5_setAt_22 rfl (lv_at hl 0 rfl) ?_
        refine lv_aload_n hx hb dX5_setAt_23 rfl (lv_at hl 1 rfl) ?_
        refine va_get (D := D) (ci := 5) (v := .ref h_cells) (C := RX5) (T := TX5) (N := 3) hx hb hts i_X5 hown hK hP 0 rfl rfl 0 (Nat.le_of_ble_eq_true rfl) f_13 (fun _ h9 => h9) rfl dX5_setAt_24 ?_
        refine va_alen (v := (Int32.ofNat v_cells_n)) hx hb hK hP 1 0 rfl rfl rfl dX5_setAt_27 ?_
        refine lv_icmp_ge (tgt := 38) hx hb dX5_setAt_28 (by decide) (fun c5 => ?_) (fun c5 => ?_)
        · replace hF := it_t c5 hF
          exact hret v_cells_a _ _ 38 _ hP hD hS hF dX5_setAt_38
        · replace hF := it_f c5 hF
          refine lv_aload_n hx hb dX5_setAt_31 rfl (lv_at hl 1 rfl) ?_
          refine va_get (D := D) (ci := 5) (v := .ref h_cells) (C := RX5) (T := TX5) (N := 3) hx hb hts i_X5 hown hK hP 0 rfl rfl 0 (Nat.le_of_ble_eq_true rfl) f_13 (fun _ h9 => h9) rfl dX5_setAt_32 ?_
          refine lv_iload_n hx hb dX5_setAt_35 rfl (lv_at hl 0 rfl) ?_
          refine lv_iload_n hx hb dX5_setAt_36 rfl (lv_at hl 3 rfl) ?_
          obtain ⟨g6, hF⟩ := gd_el hF
          refine ias (ws' := [oX5 h_ h_cells v_head v_size, aI h_cells k_cells v_cells_n (upd v_cells_a (u1.toNatClampNeg) p2)]) hx hb hK hP hD hS 1 0 rfl rfl g6 rfl dX5_setAt_37 (fun H locs hP hD hS => ?_)
          exact hret (upd v_cells_a (u1.toNatClampNeg) p2) _ _ 38 _ hP hD hS hF dX5_setAt_38
def F_X5_setFirst (p1 : Int32) (v_head : Int32) (v_size : Int32) (v_cells_n : Nat) (v_cells_a : Nat → Int32) : Option ((Nat → Int32)) := bd (F_X5_setAt 0 p1 v_head v_size v_cells_n v_cells_a) (fun u1 => some u1)
def wX5_setFirst (k_cells : ClassId) (h_ : Nat) (h_cells : Nat) (v_head : Int32) (v_size : Int32) (v_cells_n : Nat) (u : (Nat → Int32)) : va_W := [oX5 h_ h_cells v_head v_size, aI h_cells k_cells v_cells_n u]
set_option maxHeartbeats 4000000 in
set_option maxRecDepth 100000 in
theorem mX5_setFirst {l : Launch} (D : va_G) (k_cells : ClassId) (h_ : Nat) (h_cells : Nat) (v_head : Int32) (v_size : Int32) (v_cells_n : Nat) (v_cells_a : Nat → Int32) (p1 : Int32) (u0 : (Nat → Int32)) (hF : F_X5_setFirst p1 v_head v_size v_cells_n v_cells_a = some u0) : MV l yX5_setFirst wsX5_setFirst { frames := 2, cells := 0, slots := 0, locals := 45 } D [(k_cells, .int)] [.ref h_, .int p1] [oX5 h_ h_cells v_head v_size, aI h_cells k_cells v_cells_n v_cells_a] (wX5_setFirst k_cells h_ h_cells v_head v_size v_cells_n u0) := by
  refine MV.ofW (cc := cX5_setFirst) (maxL := 2) (ret := none) (lv := [(0, .ref h_), (1, .int p1)]) (by decide +kernel) rfl (Nat.le_of_ble_eq_true rfl) rfl ?_
  intro p e s m args below meth c A ls hx hb hr hml hts hown hlocks hA hK hP hD hS hl
  replace hown : s.vm.findClass RX5 = some m.cls := hown
  have hret : ∀ (u : (Nat → Int32)) (H : Heap) (locs : List Loc) (pc : Nat) (ls : Array Slot), va_P D vwCl (wX5_setFirst k_cells h_ h_cells v_head v_size v_cells_n u) H → va_D A (wX5_setFirst k_cells h_ h_cells v_head v_size v_cells_n u) → va_S A s.heap H locs → some u = some u0 → decode cX5_setFirst pc = .ok (.return_, 1) → W p l e { frames := 2, cells := 0, slots := 0, locals := 45 } s m args below meth c H locs 0 0 (QV below D [(k_cells, .int)] (wX5_setFirst k_cells h_ h_cells v_head v_size v_cells_n u0) args s A) (F0 m pc ls []) := fun u H locs pc ls h1 h2 h3 h4 h5 => rV (wf := wX5_setFirst k_cells h_ h_cells v_head v_size v_cells_n) hx hb hr hlocks hK h1 h2 h3 h4 h5
  unfold F_X5_setFirst at hF
  refine lv_aload_n hx hb dX5_setFirst_0 rfl (lv_at hl 0 rfl) ?_
  refine lv_iconst (v := 0) hx hb dX5_setFirst_1 (by decide) ?_
  refine lv_iload_n hx hb dX5_setFirst_2 rfl (lv_at hl 1 rfl) ?_
  obtain ⟨u1, hu1, hF⟩ := bd_el hF
  refine cVV (q0 := 0) (ci := 5) (As := [.int 0, .int p1]) (rest := []) (wr := []) (ws' := [oX5 h_ h_cells v_head v_size, aI h_cells k_cells v_cells_n u1]) ⟨hx, hb, hml, hown, hts⟩ (mX5_setAt D k_cells h_ h_cells v_head v_size v_cells_n v_cells_a 0 p1 u1 hu1) (cwV 2 hts gX5_setFirst_X5_setAt rfl rfl rfl (by decide +kernel) ⟨Nat.le_of_ble_eq_true rfl, Nat.le_of_ble_eq_true rfl⟩) hK hP hD hS hA [0] [0, 1] [] [0, 1] rfl rfl rfl rfl rfl rfl rfl rfl rfl hl.1 rfl (Nat.le_of_ble_eq_true rfl) dX5_setFirst_3 ⟨Nat.le_refl _, Nat.le_refl _⟩ (fun H locs hP hD hS => ?_)
  exact hret u1 _ _ 6 _ hP hD hS hF dX5_setFirst_6
def F_X5_add (p1 : Int32) (v_head : Int32) (v_size : Int32) (v_cells_n : Nat) (v_cells_a : Nat → Int32) : Option (Int32 × (Nat → Int32)) := if (Int32.ofNat v_cells_n) ≤ v_size then (some (v_size, v_cells_a)) else (lt1 (v_size + 1) (fun x2 => bd (F_X5_setAt (x2 - 1) p1 v_head x2 v_cells_n v_cells_a) (fun u3 => some (x2, u3))))
def wX5_add (k_cells : ClassId) (h_ : Nat) (h_cells : Nat) (v_head : Int32) (v_cells_n : Nat) (u : Int32 × (Nat → Int32)) : va_W := [oX5 h_ h_cells v_head u.1, aI h_cells k_cells v_cells_n u.2]
set_option maxHeartbeats 4000000 in
set_option maxRecDepth 100000 in
theorem mX5_add {l : Launch} (D : va_G) (k_cells : ClassId) (h_ : Nat) (h_cells : Nat) (v_head : Int32) (v_size : Int32) (v_cells_n : Nat) (v_cells_a : Nat → Int32) (p1 : Int32) (u0 : Int32 × (Nat → Int32)) (hF : F_X5_add p1 v_head v_size v_cells_n v_cells_a = some u0) : MV l yX5_add wsX5_add { frames := 2, cells := 0, slots := 0, locals := 45 } D [(k_cells, .int)] [.ref h_, .int p1] [oX5 h_ h_cells v_head v_size, aI h_cells k_cells v_cells_n v_cells_a] (wX5_add k_cells h_ h_cells v_head v_cells_n u0) := by
  refine MV.ofW (cc := cX5_add) (maxL := 2) (ret := none) (lv := [(0, .ref h_), (1, .int p1)]) (by decide +kernel) rfl (Nat.le_of_ble_eq_true rfl) rfl ?_
  intro p e s m args below meth c A ls hx hb hr hml hts hown hlocks hA hK hP hD hS hl
  replace hown : s.vm.findClass RX5 = some m.cls := hown
  have i_X5 : ∀ w ∈ wsX50, w ∈ wsX5_add := by decide +kernel
  have f_13 := hts (.fieldLink RX5 13 "SerialPort$Ring" "cells" "[I") (by decide +kernel)
  have f_23 := hts (.fieldLink RX5 23 "SerialPort$Ring" "size" "I") (by decide +kernel)
  have hret : ∀ (u : Int32 × (Nat → Int32)) (H : Heap) (locs : List Loc) (pc : Nat) (ls : Array Slot), va_P D vwCl (wX5_add k_cells h_ h_cells v_head v_cells_n u) H → va_D A (wX5_add k_cells h_ h_cells v_head v_cells_n u) → va_S A s.heap H locs → some u = some u0 → decode cX5_add pc = .ok (.return_, 1) → W p l e { frames := 2, cells := 0, slots := 0, locals := 45 } s m args below meth c H locs 0 0 (QV below D [(k_cells, .int)] (wX5_add k_cells h_ h_cells v_head v_cells_n u0) args s A) (F0 m pc ls []) := fun u H locs pc ls h1 h2 h3 h4 h5 => rV (wf := wX5_add k_cells h_ h_cells v_head v_cells_n) hx hb hr hlocks hK h1 h2 h3 h4 h5
  unfold F_X5_add at hF
  refine lv_aload_n hx hb dX5_add_0 rfl (lv_at hl 0 rfl) ?_
  refine va_get (D := D) (ci := 5) (v := .int v_size) (C := RX5) (T := TX5) (N := 3) hx hb hts i_X5 hown hK hP 0 rfl rfl 2 (Nat.le_of_ble_eq_true rfl) f_23 (fun _ h9 => h9) rfl dX5_add_1 ?_
  refine lv_aload_n hx hb dX5_add_4 rfl (lv_at hl 0 rfl) ?_
  refine va_get (D := D) (ci := 5) (v := .ref h_cells) (C := RX5) (T := TX5) (N := 3) hx hb hts i_X5 hown hK hP 0 rfl rfl 0 (Nat.le_of_ble_eq_true rfl) f_13 (fun _ h9 => h9) rfl dX5_add_5 ?_
  refine va_alen (v := (Int32.ofNat v_cells_n)) hx hb hK hP 1 0 rfl rfl rfl dX5_add_8 ?_
  refine lv_icmp_ge (tgt := 33) hx hb dX5_add_9 (by decide) (fun c1 => ?_) (fun c1 => ?_)
  · replace hF := it_t c1 hF
    exact hret (v_size, v_cells_a) _ _ 33 _ hP hD hS hF dX5_add_33
  · replace hF := it_f c1 hF
    refine lv_aload_n hx hb dX5_add_12 rfl (lv_at hl 0 rfl) ?_
    refine lv_dup hx hb dX5_add_13 rfl ?_
    refine va_get (D := D) (ci := 5) (v := .int v_size) (C := RX5) (T := TX5) (N := 3) hx hb hts i_X5 hown hK hP 0 rfl rfl 2 (Nat.le_of_ble_eq_true rfl) f_23 (fun _ h9 => h9) rfl dX5_add_14 ?_
    refine lv_iconst (v := 1) hx hb dX5_add_17 (by decide) ?_
    refine lv_iadd hx hb dX5_add_18 ?_
    refine lv_topi (fun x2 ex2 => ?_)
    replace hF := lt1_x ex2 hF
    refine pf (ci := 5) (v := .int x2) (ty := .int) (C := RX5) (T := TX5) (N := 3) (ws' := [oX5 h_ h_cells v_head x2, aI h_cells k_cells v_cells_n v_cells_a]) hx hb hts i_X5 tyX5_ok nmX5 hown hK hP hD hS 0 rfl rfl 2 (Nat.le_of_ble_eq_true rfl) f_23 rfl rfl (by decide +kernel) rfl rfl (Nat.le_of_ble_eq_true rfl) rfl dX5_add_19 (fun H locs hP hD hS => ?_)
    refine lv_aload_n hx hb dX5_add_22 rfl (lv_at hl 0 rfl) ?_
    refine lv_aload_n hx hb dX5_add_23 rfl (lv_at hl 0 rfl) ?_
    refine va_get (D := D) (ci := 5) (v := .int x2) (C := RX5) (T := TX5) (N := 3) hx hb hts i_X5 hown hK hP 0 rfl rfl 2 (Nat.le_of_ble_eq_true rfl) f_23 (fun _ h9 => h9) rfl dX5_add_24 ?_
    refine lv_iconst (v := 1) hx hb dX5_add_27 (by decide) ?_
    refine lv_isub hx hb dX5_add_28 ?_
    refine lv_iload_n hx hb dX5_add_29 rfl (lv_at hl 1 rfl) ?_
    obtain ⟨u3, hu3, hF⟩ := bd_el hF
    refine cVV (q0 := 0) (ci := 5) (As := [.int (x2 - 1), .int p1]) (rest := []) (wr := []) (ws' := [oX5 h_ h_cells v_head x2, aI h_cells k_cells v_cells_n u3]) ⟨hx, hb, hml, hown, hts⟩ (mX5_setAt D k_cells h_ h_cells v_head x2 v_cells_n v_cells_a (x2 - 1) p1 u3 hu3) (cwV 2 hts gX5_add_X5_setAt rfl rfl rfl (by decide +kernel) ⟨Nat.le_of_ble_eq_true rfl, Nat.le_of_ble_eq_true rfl⟩) hK hP hD hS hA [0] [0, 1] [] [0, 1] rfl rfl rfl rfl rfl rfl rfl rfl rfl hl.1 rfl (Nat.le_of_ble_eq_true rfl) dX5_add_30 ⟨Nat.le_refl _, Nat.le_refl _⟩ (fun H locs hP hD hS => ?_)
    exact hret (x2, u3) _ _ 33 _ hP hD hS hF dX5_add_33
def F_X5_dropFirst  (v_head : Int32) (v_size : Int32) (v_cells_n : Nat) : Option (Int32 × Int32) := if v_size ≤ 0 then (some (v_head, v_size)) else (bd (F_X5_cellOf 1 v_head v_cells_n) (fun u2 => lt1 (v_size - 1) (fun x3 => some (u2, x3))))
def wX5_dropFirst (k_cells : ClassId) (h_ : Nat) (h_cells : Nat) (v_cells_n : Nat) (v_cells_a : Nat → Int32) (u : Int32 × Int32) : va_W := [oX5 h_ h_cells u.1 u.2, aI h_cells k_cells v_cells_n v_cells_a]
set_option maxHeartbeats 4000000 in
set_option maxRecDepth 100000 in
theorem mX5_dropFirst {l : Launch} (D : va_G) (k_cells : ClassId) (h_ : Nat) (h_cells : Nat) (v_head : Int32) (v_size : Int32) (v_cells_n : Nat) (v_cells_a : Nat → Int32) (u0 : Int32 × Int32) (hF : F_X5_dropFirst v_head v_size v_cells_n = some u0) : MV l yX5_dropFirst wsX5_dropFirst { frames := 1, cells := 0, slots := 0, locals := 22 } D [(k_cells, .int)] [.ref h_] [oX5 h_ h_cells v_head v_size, aI h_cells k_cells v_cells_n v_cells_a] (wX5_dropFirst k_cells h_ h_cells v_cells_n v_cells_a u0) := by
  refine MV.ofW (cc := cX5_dropFirst) (maxL := 1) (ret := none) (lv := [(0, .ref h_)]) (by decide +kernel) rfl (Nat.le_of_ble_eq_true rfl) rfl ?_
  intro p e s m args below meth c A ls hx hb hr hml hts hown hlocks hA hK hP hD hS hl
  replace hown : s.vm.findClass RX5 = some m.cls := hown
  have i_X5 : ∀ w ∈ wsX50, w ∈ wsX5_dropFirst := by decide +kernel
  have f_19 := hts (.fieldLink RX5 19 "SerialPort$Ring" "head" "I") (by decide +kernel)
  have f_23 := hts (.fieldLink RX5 23 "SerialPort$Ring" "size" "I") (by decide +kernel)
  have hret : ∀ (u : Int32 × Int32) (H : Heap) (locs : List Loc) (pc : Nat) (ls : Array Slot), va_P D vwCl (wX5_dropFirst k_cells h_ h_cells v_cells_n v_cells_a u) H → va_D A (wX5_dropFirst k_cells h_ h_cells v_cells_n v_cells_a u) → va_S A s.heap H locs → some u = some u0 → decode cX5_dropFirst pc = .ok (.return_, 1) → W p l e { frames := 1, cells := 0, slots := 0, locals := 22 } s m args below meth c H locs 0 0 (QV below D [(k_cells, .int)] (wX5_dropFirst k_cells h_ h_cells v_cells_n v_cells_a u0) args s A) (F0 m pc ls []) := fun u H locs pc ls h1 h2 h3 h4 h5 => rV (wf := wX5_dropFirst k_cells h_ h_cells v_cells_n v_cells_a) hx hb hr hlocks hK h1 h2 h3 h4 h5
  unfold F_X5_dropFirst at hF
  refine lv_aload_n hx hb dX5_dropFirst_0 rfl (lv_at hl 0 rfl) ?_
  refine va_get (D := D) (ci := 5) (v := .int v_size) (C := RX5) (T := TX5) (N := 3) hx hb hts i_X5 hown hK hP 0 rfl rfl 2 (Nat.le_of_ble_eq_true rfl) f_23 (fun _ h9 => h9) rfl dX5_dropFirst_1 ?_
  refine lv_if_le (tgt := 26) hx hb dX5_dropFirst_4 (by decide) (fun c1 => ?_) (fun c1 => ?_)
  · replace hF := it_t c1 hF
    exact hret (v_head, v_size) _ _ 26 _ hP hD hS hF dX5_dropFirst_26
  · replace hF := it_f c1 hF
    refine lv_aload_n hx hb dX5_dropFirst_7 rfl (lv_at hl 0 rfl) ?_
    refine lv_aload_n hx hb dX5_dropFirst_8 rfl (lv_at hl 0 rfl) ?_
    refine lv_iconst (v := 1) hx hb dX5_dropFirst_9 (by decide) ?_
    obtain ⟨u2, hu2, hF⟩ := bd_el hF
    refine cVI (q0 := 0) (ci := 5) (As := [.int 1]) (rest := [.ref h_]) (wr := []) (ws' := [oX5 h_ h_cells v_head v_size, aI h_cells k_cells v_cells_n v_cells_a]) (rv := u2) ⟨hx, hb, hml, hown, hts⟩ (mX5_cellOf D k_cells h_ h_cells v_head v_size v_cells_n v_cells_a 1 u2 hu2) (cwV 1 hts gX5_dropFirst_X5_cellOf rfl rfl rfl (by decide +kernel) ⟨Nat.le_of_ble_eq_true rfl, Nat.le_of_ble_eq_true rfl⟩) hK hP hD hS hA [0] [0, 1] [] [0, 1] rfl rfl rfl rfl rfl rfl rfl rfl rfl hl.1 rfl (Nat.le_of_ble_eq_true rfl) rfl dX5_dropFirst_10 ⟨Nat.le_refl _, Nat.le_refl _⟩ (fun H locs hP hD hS => ?_)
    refine pf (ci := 5) (v := .int u2) (ty := .int) (C := RX5) (T := TX5) (N := 3) (ws' := [oX5 h_ h_cells u2 v_size, aI h_cells k_cells v_cells_n v_cells_a]) hx hb hts i_X5 tyX5_ok nmX5 hown hK hP hD hS 0 rfl rfl 1 (Nat.le_of_ble_eq_true rfl) f_19 rfl rfl (by decide +kernel) rfl rfl (Nat.le_of_ble_eq_true rfl) rfl dX5_dropFirst_13 (fun H locs hP hD hS => ?_)
    refine lv_aload_n hx hb dX5_dropFirst_16 rfl (lv_at hl 0 rfl) ?_
    refine lv_dup hx hb dX5_dropFirst_17 rfl ?_
    refine va_get (D := D) (ci := 5) (v := .int v_size) (C := RX5) (T := TX5) (N := 3) hx hb hts i_X5 hown hK hP 0 rfl rfl 2 (Nat.le_of_ble_eq_true rfl) f_23 (fun _ h9 => h9) rfl dX5_dropFirst_18 ?_
    refine lv_iconst (v := 1) hx hb dX5_dropFirst_21 (by decide) ?_
    refine lv_isub hx hb dX5_dropFirst_22 ?_
    refine lv_topi (fun x3 ex3 => ?_)
    replace hF := lt1_x ex3 hF
    refine pf (ci := 5) (v := .int x3) (ty := .int) (C := RX5) (T := TX5) (N := 3) (ws' := [oX5 h_ h_cells u2 x3, aI h_cells k_cells v_cells_n v_cells_a]) hx hb hts i_X5 tyX5_ok nmX5 hown hK hP hD hS 0 rfl rfl 2 (Nat.le_of_ble_eq_true rfl) f_23 rfl rfl (by decide +kernel) rfl rfl (Nat.le_of_ble_eq_true rfl) rfl dX5_dropFirst_23 (fun H locs hP hD hS => ?_)
    exact hret (u2, x3) _ _ 26 _ hP hD hS hF dX5_dropFirst_26
end
