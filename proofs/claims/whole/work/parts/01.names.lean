-- ===== PART A: goes FIRST, ahead of the names: the tables' words, and 'selects' of the private methods out of them =====
/-- a private method of a class that the tables say can be made, by its rows of tables_1 -/
def lw_okq (q : MethodName × Nat) : Prop := (q.1.cls ≠ "java/lang/invoke/MethodHandle" ∧ q.1.cls ≠ "java/lang/invoke/VarHandle") ∧ Cond.instantiable q.1.cls q.2 ∈ tables_1 ∧ Cond.privateMethod q.1 ∈ tables_1 ∧ Cond.instanceMethod q.1 ∈ tables_1
theorem lw_p0 : lw_okq (⟨"MonitorTurns", "programAt", "(I)LMonitorTurns$Program;"⟩, 7) := ⟨⟨by decide +kernel, by decide +kernel⟩, List.mem_of_getElem? (i := 14) (by decide +kernel), List.mem_of_getElem? (i := 385) (by decide +kernel), List.mem_of_getElem? (i := 386) (by decide +kernel)⟩
theorem lw_p1 : lw_okq (⟨"MonitorTurns$Crew", "stamp", "(LMonitorTurns$Strand;)V"⟩, 5) := ⟨⟨by decide +kernel, by decide +kernel⟩, List.mem_of_getElem? (i := 42) (by decide +kernel), List.mem_of_getElem? (i := 473) (by decide +kernel), List.mem_of_getElem? (i := 474) (by decide +kernel)⟩
theorem lw_p2 : lw_okq (⟨"MonitorTurns", "takeTurn", "()I"⟩, 7) := ⟨⟨by decide +kernel, by decide +kernel⟩, List.mem_of_getElem? (i := 14) (by decide +kernel), List.mem_of_getElem? (i := 502) (by decide +kernel), List.mem_of_getElem? (i := 503) (by decide +kernel)⟩
theorem lw_p3 : lw_okq (⟨"MonitorTurns$Acts", "reckon", "(LMonitorTurns$Strand;IIII)I"⟩, 3) := ⟨⟨by decide +kernel, by decide +kernel⟩, List.mem_of_getElem? (i := 189) (by decide +kernel), List.mem_of_getElem? (i := 534) (by decide +kernel), List.mem_of_getElem? (i := 535) (by decide +kernel)⟩
theorem lw_p4 : lw_okq (⟨"MonitorTurns$Acts", "divide", "(LMonitorTurns$Strand;II)I"⟩, 3) := ⟨⟨by decide +kernel, by decide +kernel⟩, List.mem_of_getElem? (i := 189) (by decide +kernel), List.mem_of_getElem? (i := 543) (by decide +kernel), List.mem_of_getElem? (i := 544) (by decide +kernel)⟩
theorem lw_p5 : lw_okq (⟨"MonitorTurns$Acts", "useThings", "(LMonitorTurns$Strand;IIII)I"⟩, 3) := ⟨⟨by decide +kernel, by decide +kernel⟩, List.mem_of_getElem? (i := 189) (by decide +kernel), List.mem_of_getElem? (i := 554) (by decide +kernel), List.mem_of_getElem? (i := 555) (by decide +kernel)⟩
theorem lw_p6 : lw_okq (⟨"MonitorTurns$Acts", "holdNumber", "(LMonitorTurns$Strand;II)I"⟩, 3) := ⟨⟨by decide +kernel, by decide +kernel⟩, List.mem_of_getElem? (i := 189) (by decide +kernel), List.mem_of_getElem? (i := 558) (by decide +kernel), List.mem_of_getElem? (i := 559) (by decide +kernel)⟩
theorem lw_p7 : lw_okq (⟨"MonitorTurns$Acts", "makeThing", "(LMonitorTurns$Strand;III)I"⟩, 3) := ⟨⟨by decide +kernel, by decide +kernel⟩, List.mem_of_getElem? (i := 189) (by decide +kernel), List.mem_of_getElem? (i := 564) (by decide +kernel), List.mem_of_getElem? (i := 565) (by decide +kernel)⟩
theorem lw_p8 : lw_okq (⟨"MonitorTurns$Acts", "inHand", "(LMonitorTurns$Strand;I)LMonitorTurns$Thing;"⟩, 3) := ⟨⟨by decide +kernel, by decide +kernel⟩, List.mem_of_getElem? (i := 189) (by decide +kernel), List.mem_of_getElem? (i := 574) (by decide +kernel), List.mem_of_getElem? (i := 575) (by decide +kernel)⟩
theorem lw_p9 : lw_okq (⟨"MonitorTurns$Acts", "readCount", "(LMonitorTurns$Strand;ILMonitorTurns$Thing;)I"⟩, 3) := ⟨⟨by decide +kernel, by decide +kernel⟩, List.mem_of_getElem? (i := 189) (by decide +kernel), List.mem_of_getElem? (i := 578) (by decide +kernel), List.mem_of_getElem? (i := 579) (by decide +kernel)⟩
theorem lw_p10 : lw_okq (⟨"MonitorTurns$Acts", "bump", "(LMonitorTurns$Thing;I)I"⟩, 3) := ⟨⟨by decide +kernel, by decide +kernel⟩, List.mem_of_getElem? (i := 189) (by decide +kernel), List.mem_of_getElem? (i := 586) (by decide +kernel), List.mem_of_getElem? (i := 587) (by decide +kernel)⟩
theorem lw_p11 : lw_okq (⟨"MonitorTurns$Acts", "weighInto", "(LMonitorTurns$Strand;ILMonitorTurns$Thing;)I"⟩, 3) := ⟨⟨by decide +kernel, by decide +kernel⟩, List.mem_of_getElem? (i := 189) (by decide +kernel), List.mem_of_getElem? (i := 590) (by decide +kernel), List.mem_of_getElem? (i := 591) (by decide +kernel)⟩
theorem lw_p12 : lw_okq (⟨"MonitorTurns$Acts", "readMark", "(LMonitorTurns$Strand;ILMonitorTurns$Thing;)I"⟩, 3) := ⟨⟨by decide +kernel, by decide +kernel⟩, List.mem_of_getElem? (i := 189) (by decide +kernel), List.mem_of_getElem? (i := 595) (by decide +kernel), List.mem_of_getElem? (i := 596) (by decide +kernel)⟩
theorem lw_p13 : lw_okq (⟨"MonitorTurns$Acts", "useRows", "(LMonitorTurns$Strand;IIII)I"⟩, 3) := ⟨⟨by decide +kernel, by decide +kernel⟩, List.mem_of_getElem? (i := 189) (by decide +kernel), List.mem_of_getElem? (i := 603) (by decide +kernel), List.mem_of_getElem? (i := 604) (by decide +kernel)⟩
theorem lw_p14 : lw_okq (⟨"MonitorTurns$Acts", "readSize", "(LMonitorTurns$Strand;ILMonitorTurns$Thing;)I"⟩, 3) := ⟨⟨by decide +kernel, by decide +kernel⟩, List.mem_of_getElem? (i := 189) (by decide +kernel), List.mem_of_getElem? (i := 607) (by decide +kernel), List.mem_of_getElem? (i := 608) (by decide +kernel)⟩
theorem lw_p15 : lw_okq (⟨"MonitorTurns$Acts", "readNumber", "(LMonitorTurns$Strand;ILMonitorTurns$Thing;I)I"⟩, 3) := ⟨⟨by decide +kernel, by decide +kernel⟩, List.mem_of_getElem? (i := 189) (by decide +kernel), List.mem_of_getElem? (i := 612) (by decide +kernel), List.mem_of_getElem? (i := 613) (by decide +kernel)⟩
def lw_privs_1 : List (MethodName × Nat) := [(⟨"MonitorTurns", "programAt", "(I)LMonitorTurns$Program;"⟩, 7), (⟨"MonitorTurns$Crew", "stamp", "(LMonitorTurns$Strand;)V"⟩, 5), (⟨"MonitorTurns", "takeTurn", "()I"⟩, 7), (⟨"MonitorTurns$Acts", "reckon", "(LMonitorTurns$Strand;IIII)I"⟩, 3), (⟨"MonitorTurns$Acts", "divide", "(LMonitorTurns$Strand;II)I"⟩, 3), (⟨"MonitorTurns$Acts", "useThings", "(LMonitorTurns$Strand;IIII)I"⟩, 3), (⟨"MonitorTurns$Acts", "holdNumber", "(LMonitorTurns$Strand;II)I"⟩, 3), (⟨"MonitorTurns$Acts", "makeThing", "(LMonitorTurns$Strand;III)I"⟩, 3), (⟨"MonitorTurns$Acts", "inHand", "(LMonitorTurns$Strand;I)LMonitorTurns$Thing;"⟩, 3), (⟨"MonitorTurns$Acts", "readCount", "(LMonitorTurns$Strand;ILMonitorTurns$Thing;)I"⟩, 3), (⟨"MonitorTurns$Acts", "bump", "(LMonitorTurns$Thing;I)I"⟩, 3), (⟨"MonitorTurns$Acts", "weighInto", "(LMonitorTurns$Strand;ILMonitorTurns$Thing;)I"⟩, 3), (⟨"MonitorTurns$Acts", "readMark", "(LMonitorTurns$Strand;ILMonitorTurns$Thing;)I"⟩, 3), (⟨"MonitorTurns$Acts", "useRows", "(LMonitorTurns$Strand;IIII)I"⟩, 3), (⟨"MonitorTurns$Acts", "readSize", "(LMonitorTurns$Strand;ILMonitorTurns$Thing;)I"⟩, 3), (⟨"MonitorTurns$Acts", "readNumber", "(LMonitorTurns$Strand;ILMonitorTurns$Thing;I)I"⟩, 3)]
theorem lw_r1 : ∀ q ∈ lw_privs_1, lw_okq q := List.forall_mem_cons.mpr ⟨lw_p0, List.forall_mem_cons.mpr ⟨lw_p1, List.forall_mem_cons.mpr ⟨lw_p2, List.forall_mem_cons.mpr ⟨lw_p3, List.forall_mem_cons.mpr ⟨lw_p4, List.forall_mem_cons.mpr ⟨lw_p5, List.forall_mem_cons.mpr ⟨lw_p6, List.forall_mem_cons.mpr ⟨lw_p7, List.forall_mem_cons.mpr ⟨lw_p8, List.forall_mem_cons.mpr ⟨lw_p9, List.forall_mem_cons.mpr ⟨lw_p10, List.forall_mem_cons.mpr ⟨lw_p11, List.forall_mem_cons.mpr ⟨lw_p12, List.forall_mem_cons.mpr ⟨lw_p13, List.forall_mem_cons.mpr ⟨lw_p14, List.forall_mem_cons.mpr ⟨lw_p15, fun _ h => absurd h List.not_mem_nil⟩⟩⟩⟩⟩⟩⟩⟩⟩⟩⟩⟩⟩⟩⟩⟩
theorem lw_p16 : lw_okq (⟨"MonitorTurns$Acts", "writeNumber", "(LMonitorTurns$Thing;II)I"⟩, 3) := ⟨⟨by decide +kernel, by decide +kernel⟩, List.mem_of_getElem? (i := 189) (by decide +kernel), List.mem_of_getElem? (i := 621) (by decide +kernel), List.mem_of_getElem? (i := 622) (by decide +kernel)⟩
theorem lw_p17 : lw_okq (⟨"MonitorTurns$Acts", "takeThing", "(LMonitorTurns$Strand;ILMonitorTurns$Thing;I)I"⟩, 3) := ⟨⟨by decide +kernel, by decide +kernel⟩, List.mem_of_getElem? (i := 189) (by decide +kernel), List.mem_of_getElem? (i := 625) (by decide +kernel), List.mem_of_getElem? (i := 626) (by decide +kernel)⟩
theorem lw_p18 : lw_okq (⟨"MonitorTurns$Acts", "putThing", "(LMonitorTurns$Thing;II)I"⟩, 3) := ⟨⟨by decide +kernel, by decide +kernel⟩, List.mem_of_getElem? (i := 189) (by decide +kernel), List.mem_of_getElem? (i := 630) (by decide +kernel), List.mem_of_getElem? (i := 631) (by decide +kernel)⟩
theorem lw_p19 : lw_okq (⟨"MonitorTurns$Acts", "copy", "(LMonitorTurns$Thing;LMonitorTurns$Thing;I)I"⟩, 3) := ⟨⟨by decide +kernel, by decide +kernel⟩, List.mem_of_getElem? (i := 189) (by decide +kernel), List.mem_of_getElem? (i := 640) (by decide +kernel), List.mem_of_getElem? (i := 641) (by decide +kernel)⟩
theorem lw_p20 : lw_okq (⟨"MonitorTurns$Acts", "useMonitors", "(LMonitorTurns$Strand;III)I"⟩, 3) := ⟨⟨by decide +kernel, by decide +kernel⟩, List.mem_of_getElem? (i := 189) (by decide +kernel), List.mem_of_getElem? (i := 648) (by decide +kernel), List.mem_of_getElem? (i := 649) (by decide +kernel)⟩
theorem lw_p21 : lw_okq (⟨"MonitorTurns$Acts", "enter", "(LMonitorTurns$Strand;LMonitorTurns$Thing;Z)I"⟩, 3) := ⟨⟨by decide +kernel, by decide +kernel⟩, List.mem_of_getElem? (i := 189) (by decide +kernel), List.mem_of_getElem? (i := 652) (by decide +kernel), List.mem_of_getElem? (i := 653) (by decide +kernel)⟩
theorem lw_p22 : lw_okq (⟨"MonitorTurns$Acts", "leave", "(LMonitorTurns$Thing;)I"⟩, 3) := ⟨⟨by decide +kernel, by decide +kernel⟩, List.mem_of_getElem? (i := 189) (by decide +kernel), List.mem_of_getElem? (i := 657) (by decide +kernel), List.mem_of_getElem? (i := 658) (by decide +kernel)⟩
theorem lw_p23 : lw_okq (⟨"MonitorTurns$Crew", "next", "(II)LMonitorTurns$Strand;"⟩, 5) := ⟨⟨by decide +kernel, by decide +kernel⟩, List.mem_of_getElem? (i := 42) (by decide +kernel), List.mem_of_getElem? (i := 665) (by decide +kernel), List.mem_of_getElem? (i := 666) (by decide +kernel)⟩
theorem lw_p24 : lw_okq (⟨"MonitorTurns$Acts", "waitOn", "(LMonitorTurns$Strand;LMonitorTurns$Thing;I)I"⟩, 3) := ⟨⟨by decide +kernel, by decide +kernel⟩, List.mem_of_getElem? (i := 189) (by decide +kernel), List.mem_of_getElem? (i := 669) (by decide +kernel), List.mem_of_getElem? (i := 670) (by decide +kernel)⟩
theorem lw_p25 : lw_okq (⟨"MonitorTurns$Acts", "useThreads", "(LMonitorTurns$Strand;II)I"⟩, 3) := ⟨⟨by decide +kernel, by decide +kernel⟩, List.mem_of_getElem? (i := 189) (by decide +kernel), List.mem_of_getElem? (i := 695) (by decide +kernel), List.mem_of_getElem? (i := 696) (by decide +kernel)⟩
theorem lw_p26 : lw_okq (⟨"MonitorTurns$Acts", "sleep", "(LMonitorTurns$Strand;I)I"⟩, 3) := ⟨⟨by decide +kernel, by decide +kernel⟩, List.mem_of_getElem? (i := 189) (by decide +kernel), List.mem_of_getElem? (i := 699) (by decide +kernel), List.mem_of_getElem? (i := 700) (by decide +kernel)⟩
theorem lw_p27 : lw_okq (⟨"MonitorTurns$Acts", "join", "(LMonitorTurns$Strand;LMonitorTurns$Strand;)I"⟩, 3) := ⟨⟨by decide +kernel, by decide +kernel⟩, List.mem_of_getElem? (i := 189) (by decide +kernel), List.mem_of_getElem? (i := 705) (by decide +kernel), List.mem_of_getElem? (i := 706) (by decide +kernel)⟩
theorem lw_p28 : lw_okq (⟨"MonitorTurns$Acts", "startNew", "(LMonitorTurns$Strand;)I"⟩, 3) := ⟨⟨by decide +kernel, by decide +kernel⟩, List.mem_of_getElem? (i := 189) (by decide +kernel), List.mem_of_getElem? (i := 710) (by decide +kernel), List.mem_of_getElem? (i := 711) (by decide +kernel)⟩
theorem lw_p29 : lw_okq (⟨"MonitorTurns$Acts", "useHandlers", "(LMonitorTurns$Strand;III)I"⟩, 3) := ⟨⟨by decide +kernel, by decide +kernel⟩, List.mem_of_getElem? (i := 189) (by decide +kernel), List.mem_of_getElem? (i := 715) (by decide +kernel), List.mem_of_getElem? (i := 716) (by decide +kernel)⟩
theorem lw_p30 : lw_okq (⟨"MonitorTurns", "fail", "(LMonitorTurns$Strand;I)V"⟩, 7) := ⟨⟨by decide +kernel, by decide +kernel⟩, List.mem_of_getElem? (i := 14) (by decide +kernel), List.mem_of_getElem? (i := 731) (by decide +kernel), List.mem_of_getElem? (i := 732) (by decide +kernel)⟩
theorem lw_p31 : lw_okq (⟨"MonitorTurns$Crew", "wayBackTo", "(I)I"⟩, 5) := ⟨⟨by decide +kernel, by decide +kernel⟩, List.mem_of_getElem? (i := 42) (by decide +kernel), List.mem_of_getElem? (i := 781) (by decide +kernel), List.mem_of_getElem? (i := 782) (by decide +kernel)⟩
def lw_privs_2 : List (MethodName × Nat) := [(⟨"MonitorTurns$Acts", "writeNumber", "(LMonitorTurns$Thing;II)I"⟩, 3), (⟨"MonitorTurns$Acts", "takeThing", "(LMonitorTurns$Strand;ILMonitorTurns$Thing;I)I"⟩, 3), (⟨"MonitorTurns$Acts", "putThing", "(LMonitorTurns$Thing;II)I"⟩, 3), (⟨"MonitorTurns$Acts", "copy", "(LMonitorTurns$Thing;LMonitorTurns$Thing;I)I"⟩, 3), (⟨"MonitorTurns$Acts", "useMonitors", "(LMonitorTurns$Strand;III)I"⟩, 3), (⟨"MonitorTurns$Acts", "enter", "(LMonitorTurns$Strand;LMonitorTurns$Thing;Z)I"⟩, 3), (⟨"MonitorTurns$Acts", "leave", "(LMonitorTurns$Thing;)I"⟩, 3), (⟨"MonitorTurns$Crew", "next", "(II)LMonitorTurns$Strand;"⟩, 5), (⟨"MonitorTurns$Acts", "waitOn", "(LMonitorTurns$Strand;LMonitorTurns$Thing;I)I"⟩, 3), (⟨"MonitorTurns$Acts", "useThreads", "(LMonitorTurns$Strand;II)I"⟩, 3), (⟨"MonitorTurns$Acts", "sleep", "(LMonitorTurns$Strand;I)I"⟩, 3), (⟨"MonitorTurns$Acts", "join", "(LMonitorTurns$Strand;LMonitorTurns$Strand;)I"⟩, 3), (⟨"MonitorTurns$Acts", "startNew", "(LMonitorTurns$Strand;)I"⟩, 3), (⟨"MonitorTurns$Acts", "useHandlers", "(LMonitorTurns$Strand;III)I"⟩, 3), (⟨"MonitorTurns", "fail", "(LMonitorTurns$Strand;I)V"⟩, 7), (⟨"MonitorTurns$Crew", "wayBackTo", "(I)I"⟩, 5)]
theorem lw_r2 : ∀ q ∈ lw_privs_2, lw_okq q := List.forall_mem_cons.mpr ⟨lw_p16, List.forall_mem_cons.mpr ⟨lw_p17, List.forall_mem_cons.mpr ⟨lw_p18, List.forall_mem_cons.mpr ⟨lw_p19, List.forall_mem_cons.mpr ⟨lw_p20, List.forall_mem_cons.mpr ⟨lw_p21, List.forall_mem_cons.mpr ⟨lw_p22, List.forall_mem_cons.mpr ⟨lw_p23, List.forall_mem_cons.mpr ⟨lw_p24, List.forall_mem_cons.mpr ⟨lw_p25, List.forall_mem_cons.mpr ⟨lw_p26, List.forall_mem_cons.mpr ⟨lw_p27, List.forall_mem_cons.mpr ⟨lw_p28, List.forall_mem_cons.mpr ⟨lw_p29, List.forall_mem_cons.mpr ⟨lw_p30, List.forall_mem_cons.mpr ⟨lw_p31, fun _ h => absurd h List.not_mem_nil⟩⟩⟩⟩⟩⟩⟩⟩⟩⟩⟩⟩⟩⟩⟩⟩
theorem lw_p32 : lw_okq (⟨"MonitorTurns$Crew", "follow", "(II)I"⟩, 5) := ⟨⟨by decide +kernel, by decide +kernel⟩, List.mem_of_getElem? (i := 42) (by decide +kernel), List.mem_of_getElem? (i := 785) (by decide +kernel), List.mem_of_getElem? (i := 786) (by decide +kernel)⟩
theorem lw_p33 : lw_okq (⟨"MonitorTurns$Crew", "hangsOn", "(I)I"⟩, 5) := ⟨⟨by decide +kernel, by decide +kernel⟩, List.mem_of_getElem? (i := 42) (by decide +kernel), List.mem_of_getElem? (i := 789) (by decide +kernel), List.mem_of_getElem? (i := 790) (by decide +kernel)⟩
theorem lw_p34 : lw_okq (⟨"MonitorTurnsModel", "make", "(II)I"⟩, 45) := ⟨⟨by decide +kernel, by decide +kernel⟩, List.mem_of_getElem? (i := 806) (by decide +kernel), List.mem_of_getElem? (i := 956) (by decide +kernel), List.mem_of_getElem? (i := 957) (by decide +kernel)⟩
theorem lw_p35 : lw_okq (⟨"MonitorTurnsModel", "isThing", "(I)Z"⟩, 45) := ⟨⟨by decide +kernel, by decide +kernel⟩, List.mem_of_getElem? (i := 806) (by decide +kernel), List.mem_of_getElem? (i := 964) (by decide +kernel), List.mem_of_getElem? (i := 965) (by decide +kernel)⟩
theorem lw_p36 : lw_okq (⟨"MonitorTurnsModel", "isBox", "(I)Z"⟩, 45) := ⟨⟨by decide +kernel, by decide +kernel⟩, List.mem_of_getElem? (i := 806) (by decide +kernel), List.mem_of_getElem? (i := 968) (by decide +kernel), List.mem_of_getElem? (i := 969) (by decide +kernel)⟩
theorem lw_p37 : lw_okq (⟨"MonitorTurnsModel", "howMany", "(II)I"⟩, 45) := ⟨⟨by decide +kernel, by decide +kernel⟩, List.mem_of_getElem? (i := 806) (by decide +kernel), List.mem_of_getElem? (i := 972) (by decide +kernel), List.mem_of_getElem? (i := 973) (by decide +kernel)⟩
theorem lw_p38 : lw_okq (⟨"MonitorTurnsModel", "weighs", "(I)I"⟩, 45) := ⟨⟨by decide +kernel, by decide +kernel⟩, List.mem_of_getElem? (i := 806) (by decide +kernel), List.mem_of_getElem? (i := 984) (by decide +kernel), List.mem_of_getElem? (i := 985) (by decide +kernel)⟩
theorem lw_p39 : lw_okq (⟨"MonitorTurnsModel", "leaves", "(I)V"⟩, 45) := ⟨⟨by decide +kernel, by decide +kernel⟩, List.mem_of_getElem? (i := 806) (by decide +kernel), List.mem_of_getElem? (i := 988) (by decide +kernel), List.mem_of_getElem? (i := 989) (by decide +kernel)⟩
theorem lw_p40 : lw_okq (⟨"MonitorTurnsModel", "isInUse", "(I)Z"⟩, 45) := ⟨⟨by decide +kernel, by decide +kernel⟩, List.mem_of_getElem? (i := 806) (by decide +kernel), List.mem_of_getElem? (i := 1003) (by decide +kernel), List.mem_of_getElem? (i := 1004) (by decide +kernel)⟩
theorem lw_p41 : lw_okq (⟨"MonitorTurnsModel", "isUnderWay", "(I)Z"⟩, 45) := ⟨⟨by decide +kernel, by decide +kernel⟩, List.mem_of_getElem? (i := 806) (by decide +kernel), List.mem_of_getElem? (i := 1007) (by decide +kernel), List.mem_of_getElem? (i := 1008) (by decide +kernel)⟩
theorem lw_p42 : lw_okq (⟨"MonitorTurnsModel", "isThread", "(I)Z"⟩, 45) := ⟨⟨by decide +kernel, by decide +kernel⟩, List.mem_of_getElem? (i := 806) (by decide +kernel), List.mem_of_getElem? (i := 1023) (by decide +kernel), List.mem_of_getElem? (i := 1024) (by decide +kernel)⟩
theorem lw_p43 : lw_okq (⟨"MonitorTurnsModel", "getIn", "(I)V"⟩, 45) := ⟨⟨by decide +kernel, by decide +kernel⟩, List.mem_of_getElem? (i := 806) (by decide +kernel), List.mem_of_getElem? (i := 1039) (by decide +kernel), List.mem_of_getElem? (i := 1040) (by decide +kernel)⟩
theorem lw_p44 : lw_okq (⟨"MonitorTurnsModel", "still", "()I"⟩, 45) := ⟨⟨by decide +kernel, by decide +kernel⟩, List.mem_of_getElem? (i := 806) (by decide +kernel), List.mem_of_getElem? (i := 1055) (by decide +kernel), List.mem_of_getElem? (i := 1056) (by decide +kernel)⟩
theorem lw_p45 : lw_okq (⟨"MonitorTurnsModel", "goes", "()I"⟩, 45) := ⟨⟨by decide +kernel, by decide +kernel⟩, List.mem_of_getElem? (i := 806) (by decide +kernel), List.mem_of_getElem? (i := 1059) (by decide +kernel), List.mem_of_getElem? (i := 1060) (by decide +kernel)⟩
theorem lw_p46 : lw_okq (⟨"MonitorTurnsModel", "isTold", "(I)V"⟩, 45) := ⟨⟨by decide +kernel, by decide +kernel⟩, List.mem_of_getElem? (i := 806) (by decide +kernel), List.mem_of_getElem? (i := 1063) (by decide +kernel), List.mem_of_getElem? (i := 1064) (by decide +kernel)⟩
theorem lw_p47 : lw_okq (⟨"MonitorTurnsModel", "chosen", "()I"⟩, 45) := ⟨⟨by decide +kernel, by decide +kernel⟩, List.mem_of_getElem? (i := 806) (by decide +kernel), List.mem_of_getElem? (i := 1067) (by decide +kernel), List.mem_of_getElem? (i := 1068) (by decide +kernel)⟩
def lw_privs_3 : List (MethodName × Nat) := [(⟨"MonitorTurns$Crew", "follow", "(II)I"⟩, 5), (⟨"MonitorTurns$Crew", "hangsOn", "(I)I"⟩, 5), (⟨"MonitorTurnsModel", "make", "(II)I"⟩, 45), (⟨"MonitorTurnsModel", "isThing", "(I)Z"⟩, 45), (⟨"MonitorTurnsModel", "isBox", "(I)Z"⟩, 45), (⟨"MonitorTurnsModel", "howMany", "(II)I"⟩, 45), (⟨"MonitorTurnsModel", "weighs", "(I)I"⟩, 45), (⟨"MonitorTurnsModel", "leaves", "(I)V"⟩, 45), (⟨"MonitorTurnsModel", "isInUse", "(I)Z"⟩, 45), (⟨"MonitorTurnsModel", "isUnderWay", "(I)Z"⟩, 45), (⟨"MonitorTurnsModel", "isThread", "(I)Z"⟩, 45), (⟨"MonitorTurnsModel", "getIn", "(I)V"⟩, 45), (⟨"MonitorTurnsModel", "still", "()I"⟩, 45), (⟨"MonitorTurnsModel", "goes", "()I"⟩, 45), (⟨"MonitorTurnsModel", "isTold", "(I)V"⟩, 45), (⟨"MonitorTurnsModel", "chosen", "()I"⟩, 45)]
theorem lw_r3 : ∀ q ∈ lw_privs_3, lw_okq q := List.forall_mem_cons.mpr ⟨lw_p32, List.forall_mem_cons.mpr ⟨lw_p33, List.forall_mem_cons.mpr ⟨lw_p34, List.forall_mem_cons.mpr ⟨lw_p35, List.forall_mem_cons.mpr ⟨lw_p36, List.forall_mem_cons.mpr ⟨lw_p37, List.forall_mem_cons.mpr ⟨lw_p38, List.forall_mem_cons.mpr ⟨lw_p39, List.forall_mem_cons.mpr ⟨lw_p40, List.forall_mem_cons.mpr ⟨lw_p41, List.forall_mem_cons.mpr ⟨lw_p42, List.forall_mem_cons.mpr ⟨lw_p43, List.forall_mem_cons.mpr ⟨lw_p44, List.forall_mem_cons.mpr ⟨lw_p45, List.forall_mem_cons.mpr ⟨lw_p46, List.forall_mem_cons.mpr ⟨lw_p47, fun _ h => absurd h List.not_mem_nil⟩⟩⟩⟩⟩⟩⟩⟩⟩⟩⟩⟩⟩⟩⟩⟩
theorem lw_p48 : lw_okq (⟨"MonitorTurnsModel", "ends", "(III)V"⟩, 45) := ⟨⟨by decide +kernel, by decide +kernel⟩, List.mem_of_getElem? (i := 806) (by decide +kernel), List.mem_of_getElem? (i := 1071) (by decide +kernel), List.mem_of_getElem? (i := 1072) (by decide +kernel)⟩
theorem lw_p49 : lw_okq (⟨"MonitorTurnsModel", "isLeft", "(I)V"⟩, 45) := ⟨⟨by decide +kernel, by decide +kernel⟩, List.mem_of_getElem? (i := 806) (by decide +kernel), List.mem_of_getElem? (i := 1075) (by decide +kernel), List.mem_of_getElem? (i := 1076) (by decide +kernel)⟩
theorem lw_p50 : lw_okq (⟨"MonitorTurnsModel", "next", "(II)I"⟩, 45) := ⟨⟨by decide +kernel, by decide +kernel⟩, List.mem_of_getElem? (i := 806) (by decide +kernel), List.mem_of_getElem? (i := 1079) (by decide +kernel), List.mem_of_getElem? (i := 1080) (by decide +kernel)⟩
theorem lw_p51 : lw_okq (⟨"MonitorTurnsModel", "does", "(II)V"⟩, 45) := ⟨⟨by decide +kernel, by decide +kernel⟩, List.mem_of_getElem? (i := 806) (by decide +kernel), List.mem_of_getElem? (i := 1083) (by decide +kernel), List.mem_of_getElem? (i := 1084) (by decide +kernel)⟩
theorem lw_p52 : lw_okq (⟨"MonitorTurnsModel", "numbers", "(IIIII)V"⟩, 45) := ⟨⟨by decide +kernel, by decide +kernel⟩, List.mem_of_getElem? (i := 806) (by decide +kernel), List.mem_of_getElem? (i := 1087) (by decide +kernel), List.mem_of_getElem? (i := 1088) (by decide +kernel)⟩
theorem lw_p53 : lw_okq (⟨"MonitorTurnsModel", "bad", "(I)V"⟩, 45) := ⟨⟨by decide +kernel, by decide +kernel⟩, List.mem_of_getElem? (i := 806) (by decide +kernel), List.mem_of_getElem? (i := 1091) (by decide +kernel), List.mem_of_getElem? (i := 1092) (by decide +kernel)⟩
theorem lw_p54 : lw_okq (⟨"MonitorTurnsModel", "goesTo", "(II)V"⟩, 45) := ⟨⟨by decide +kernel, by decide +kernel⟩, List.mem_of_getElem? (i := 806) (by decide +kernel), List.mem_of_getElem? (i := 1095) (by decide +kernel), List.mem_of_getElem? (i := 1096) (by decide +kernel)⟩
theorem lw_p55 : lw_okq (⟨"MonitorTurnsModel", "holds", "(IIIII)V"⟩, 45) := ⟨⟨by decide +kernel, by decide +kernel⟩, List.mem_of_getElem? (i := 806) (by decide +kernel), List.mem_of_getElem? (i := 1099) (by decide +kernel), List.mem_of_getElem? (i := 1100) (by decide +kernel)⟩
theorem lw_p56 : lw_okq (⟨"MonitorTurnsModel", "boxes", "(IIII)V"⟩, 45) := ⟨⟨by decide +kernel, by decide +kernel⟩, List.mem_of_getElem? (i := 806) (by decide +kernel), List.mem_of_getElem? (i := 1103) (by decide +kernel), List.mem_of_getElem? (i := 1104) (by decide +kernel)⟩
theorem lw_p57 : lw_okq (⟨"MonitorTurnsModel", "rows", "(IIIII)V"⟩, 45) := ⟨⟨by decide +kernel, by decide +kernel⟩, List.mem_of_getElem? (i := 806) (by decide +kernel), List.mem_of_getElem? (i := 1107) (by decide +kernel), List.mem_of_getElem? (i := 1108) (by decide +kernel)⟩
theorem lw_p58 : lw_okq (⟨"MonitorTurnsModel", "copies", "(III)V"⟩, 45) := ⟨⟨by decide +kernel, by decide +kernel⟩, List.mem_of_getElem? (i := 806) (by decide +kernel), List.mem_of_getElem? (i := 1111) (by decide +kernel), List.mem_of_getElem? (i := 1112) (by decide +kernel)⟩
theorem lw_p59 : lw_okq (⟨"MonitorTurnsModel", "fits", "(III)Z"⟩, 45) := ⟨⟨by decide +kernel, by decide +kernel⟩, List.mem_of_getElem? (i := 806) (by decide +kernel), List.mem_of_getElem? (i := 1115) (by decide +kernel), List.mem_of_getElem? (i := 1116) (by decide +kernel)⟩
theorem lw_p60 : lw_okq (⟨"MonitorTurnsModel", "enters", "(IIII)V"⟩, 45) := ⟨⟨by decide +kernel, by decide +kernel⟩, List.mem_of_getElem? (i := 806) (by decide +kernel), List.mem_of_getElem? (i := 1119) (by decide +kernel), List.mem_of_getElem? (i := 1120) (by decide +kernel)⟩
theorem lw_p61 : lw_okq (⟨"MonitorTurnsModel", "waits", "(III)V"⟩, 45) := ⟨⟨by decide +kernel, by decide +kernel⟩, List.mem_of_getElem? (i := 806) (by decide +kernel), List.mem_of_getElem? (i := 1123) (by decide +kernel), List.mem_of_getElem? (i := 1124) (by decide +kernel)⟩
theorem lw_p62 : lw_okq (⟨"MonitorTurnsModel", "stops", "(III)V"⟩, 45) := ⟨⟨by decide +kernel, by decide +kernel⟩, List.mem_of_getElem? (i := 806) (by decide +kernel), List.mem_of_getElem? (i := 1131) (by decide +kernel), List.mem_of_getElem? (i := 1132) (by decide +kernel)⟩
theorem lw_p63 : lw_okq (⟨"MonitorTurnsModel", "rests", "(IIII)V"⟩, 45) := ⟨⟨by decide +kernel, by decide +kernel⟩, List.mem_of_getElem? (i := 806) (by decide +kernel), List.mem_of_getElem? (i := 1136) (by decide +kernel), List.mem_of_getElem? (i := 1137) (by decide +kernel)⟩
def lw_privs_4 : List (MethodName × Nat) := [(⟨"MonitorTurnsModel", "ends", "(III)V"⟩, 45), (⟨"MonitorTurnsModel", "isLeft", "(I)V"⟩, 45), (⟨"MonitorTurnsModel", "next", "(II)I"⟩, 45), (⟨"MonitorTurnsModel", "does", "(II)V"⟩, 45), (⟨"MonitorTurnsModel", "numbers", "(IIIII)V"⟩, 45), (⟨"MonitorTurnsModel", "bad", "(I)V"⟩, 45), (⟨"MonitorTurnsModel", "goesTo", "(II)V"⟩, 45), (⟨"MonitorTurnsModel", "holds", "(IIIII)V"⟩, 45), (⟨"MonitorTurnsModel", "boxes", "(IIII)V"⟩, 45), (⟨"MonitorTurnsModel", "rows", "(IIIII)V"⟩, 45), (⟨"MonitorTurnsModel", "copies", "(III)V"⟩, 45), (⟨"MonitorTurnsModel", "fits", "(III)Z"⟩, 45), (⟨"MonitorTurnsModel", "enters", "(IIII)V"⟩, 45), (⟨"MonitorTurnsModel", "waits", "(III)V"⟩, 45), (⟨"MonitorTurnsModel", "stops", "(III)V"⟩, 45), (⟨"MonitorTurnsModel", "rests", "(IIII)V"⟩, 45)]
theorem lw_r4 : ∀ q ∈ lw_privs_4, lw_okq q := List.forall_mem_cons.mpr ⟨lw_p48, List.forall_mem_cons.mpr ⟨lw_p49, List.forall_mem_cons.mpr ⟨lw_p50, List.forall_mem_cons.mpr ⟨lw_p51, List.forall_mem_cons.mpr ⟨lw_p52, List.forall_mem_cons.mpr ⟨lw_p53, List.forall_mem_cons.mpr ⟨lw_p54, List.forall_mem_cons.mpr ⟨lw_p55, List.forall_mem_cons.mpr ⟨lw_p56, List.forall_mem_cons.mpr ⟨lw_p57, List.forall_mem_cons.mpr ⟨lw_p58, List.forall_mem_cons.mpr ⟨lw_p59, List.forall_mem_cons.mpr ⟨lw_p60, List.forall_mem_cons.mpr ⟨lw_p61, List.forall_mem_cons.mpr ⟨lw_p62, List.forall_mem_cons.mpr ⟨lw_p63, fun _ h => absurd h List.not_mem_nil⟩⟩⟩⟩⟩⟩⟩⟩⟩⟩⟩⟩⟩⟩⟩⟩
theorem lw_p64 : lw_okq (⟨"MonitorTurnsModel", "fails", "(I)V"⟩, 45) := ⟨⟨by decide +kernel, by decide +kernel⟩, List.mem_of_getElem? (i := 806) (by decide +kernel), List.mem_of_getElem? (i := 1140) (by decide +kernel), List.mem_of_getElem? (i := 1141) (by decide +kernel)⟩
theorem lw_p65 : lw_okq (⟨"MonitorTurnsModel", "hangsOn", "(I)I"⟩, 45) := ⟨⟨by decide +kernel, by decide +kernel⟩, List.mem_of_getElem? (i := 806) (by decide +kernel), List.mem_of_getElem? (i := 1164) (by decide +kernel), List.mem_of_getElem? (i := 1165) (by decide +kernel)⟩
def lw_privs_5 : List (MethodName × Nat) := [(⟨"MonitorTurnsModel", "fails", "(I)V"⟩, 45), (⟨"MonitorTurnsModel", "hangsOn", "(I)I"⟩, 45)]
theorem lw_r5 : ∀ q ∈ lw_privs_5, lw_okq q := List.forall_mem_cons.mpr ⟨lw_p64, List.forall_mem_cons.mpr ⟨lw_p65, fun _ h => absurd h List.not_mem_nil⟩⟩
def lw_privs : List (MethodName × Nat) := lw_privs_1 ++ (lw_privs_2 ++ (lw_privs_3 ++ (lw_privs_4 ++ (lw_privs_5))))
def lw_tbl : List Cond := k2_sels lw_privs ++ tables_1
theorem lw_privs_ok : ∀ q ∈ lw_privs, lw_okq q := by
  show ∀ q ∈ lw_privs_1 ++ (lw_privs_2 ++ (lw_privs_3 ++ (lw_privs_4 ++ (lw_privs_5)))), lw_okq q
  exact List.forall_mem_append.mpr ⟨lw_r1, List.forall_mem_append.mpr ⟨lw_r2, List.forall_mem_append.mpr ⟨lw_r3, List.forall_mem_append.mpr ⟨lw_r4, lw_r5⟩⟩⟩⟩

def RX0 : String := "MonitorTurns$Acts"
def TX0 : u_T := fun k => match k with
  | 0 => ("MonitorTurns$Acts", "shelf", "LMonitorTurns$Shelf;", true)
  | 1 => ("MonitorTurns$Acts", "crew", "LMonitorTurns$Crew;", true)
  | _ => ("MonitorTurns$Acts", "begun", "I", false)
def tyX0 : Nat → FieldType := fun k => match k with
  | 0 => .object "MonitorTurns$Shelf"
  | 1 => .object "MonitorTurns$Crew"
  | _ => .int
abbrev wsX00 : List Cond := u_ws RX0 TX0 3
theorem nmX0 : ∀ a, a < 3 → ∀ b, b < 3 → a ≠ b → (TX0 a).2.1 ≠ (TX0 b).2.1 := by decide +kernel
theorem tyX0_ok : ∀ k, k < 3 → parseFieldDescriptor (TX0 k).2.2.1 = some (tyX0 k) := by decide +kernel
abbrev cX0_init : ByteArray := prog_2_method_1_code
def yX0_init : MethodName := ⟨RX0, "<init>", "(LMonitorTurns$Shelf;LMonitorTurns$Crew;)V"⟩
abbrev cX0_perform : ByteArray := prog_2_method_2_code
def yX0_perform : MethodName := ⟨RX0, "perform", "(LMonitorTurns$Strand;)I"⟩
abbrev cX0_reckon : ByteArray := prog_2_method_3_code
def yX0_reckon : MethodName := ⟨RX0, "reckon", "(LMonitorTurns$Strand;IIII)I"⟩
abbrev cX0_divide : ByteArray := prog_2_method_4_code
def yX0_divide : MethodName := ⟨RX0, "divide", "(LMonitorTurns$Strand;II)I"⟩
abbrev cX0_useThings : ByteArray := prog_2_method_5_code
def yX0_useThings : MethodName := ⟨RX0, "useThings", "(LMonitorTurns$Strand;IIII)I"⟩
abbrev cX0_inHand : ByteArray := prog_2_method_6_code
def yX0_inHand : MethodName := ⟨RX0, "inHand", "(LMonitorTurns$Strand;I)LMonitorTurns$Thing;"⟩
abbrev cX0_holdNumber : ByteArray := prog_2_method_7_code
def yX0_holdNumber : MethodName := ⟨RX0, "holdNumber", "(LMonitorTurns$Strand;II)I"⟩
abbrev cX0_makeThing : ByteArray := prog_2_method_8_code
def yX0_makeThing : MethodName := ⟨RX0, "makeThing", "(LMonitorTurns$Strand;III)I"⟩
abbrev cX0_readCount : ByteArray := prog_2_method_9_code
def yX0_readCount : MethodName := ⟨RX0, "readCount", "(LMonitorTurns$Strand;ILMonitorTurns$Thing;)I"⟩
abbrev cX0_bump : ByteArray := prog_2_method_10_code
def yX0_bump : MethodName := ⟨RX0, "bump", "(LMonitorTurns$Thing;I)I"⟩
abbrev cX0_weighInto : ByteArray := prog_2_method_11_code
def yX0_weighInto : MethodName := ⟨RX0, "weighInto", "(LMonitorTurns$Strand;ILMonitorTurns$Thing;)I"⟩
abbrev cX0_readMark : ByteArray := prog_2_method_12_code
def yX0_readMark : MethodName := ⟨RX0, "readMark", "(LMonitorTurns$Strand;ILMonitorTurns$Thing;)I"⟩
abbrev cX0_useRows : ByteArray := prog_2_method_13_code
def yX0_useRows : MethodName := ⟨RX0, "useRows", "(LMonitorTurns$Strand;IIII)I"⟩
abbrev cX0_readSize : ByteArray := prog_2_method_14_code
def yX0_readSize : MethodName := ⟨RX0, "readSize", "(LMonitorTurns$Strand;ILMonitorTurns$Thing;)I"⟩
abbrev cX0_readNumber : ByteArray := prog_2_method_15_code
def yX0_readNumber : MethodName := ⟨RX0, "readNumber", "(LMonitorTurns$Strand;ILMonitorTurns$Thing;I)I"⟩
abbrev cX0_writeNumber : ByteArray := prog_2_method_16_code
def yX0_writeNumber : MethodName := ⟨RX0, "writeNumber", "(LMonitorTurns$Thing;II)I"⟩
abbrev cX0_takeThing : ByteArray := prog_2_method_17_code
def yX0_takeThing : MethodName := ⟨RX0, "takeThing", "(LMonitorTurns$Strand;ILMonitorTurns$Thing;I)I"⟩
abbrev cX0_putThing : ByteArray := prog_2_method_18_code
def yX0_putThing : MethodName := ⟨RX0, "putThing", "(LMonitorTurns$Thing;II)I"⟩
abbrev cX0_copy : ByteArray := prog_2_method_19_code
def yX0_copy : MethodName := ⟨RX0, "copy", "(LMonitorTurns$Thing;LMonitorTurns$Thing;I)I"⟩
abbrev cX0_useMonitors : ByteArray := prog_2_method_20_code
def yX0_useMonitors : MethodName := ⟨RX0, "useMonitors", "(LMonitorTurns$Strand;III)I"⟩
abbrev cX0_enter : ByteArray := prog_2_method_21_code
def yX0_enter : MethodName := ⟨RX0, "enter", "(LMonitorTurns$Strand;LMonitorTurns$Thing;Z)I"⟩
abbrev cX0_leave : ByteArray := prog_2_method_22_code
def yX0_leave : MethodName := ⟨RX0, "leave", "(LMonitorTurns$Thing;)I"⟩
abbrev cX0_waitOn : ByteArray := prog_2_method_23_code
def yX0_waitOn : MethodName := ⟨RX0, "waitOn", "(LMonitorTurns$Strand;LMonitorTurns$Thing;I)I"⟩
abbrev cX0_useThreads : ByteArray := prog_2_method_24_code
def yX0_useThreads : MethodName := ⟨RX0, "useThreads", "(LMonitorTurns$Strand;II)I"⟩
abbrev cX0_sleep : ByteArray := prog_2_method_25_code
def yX0_sleep : MethodName := ⟨RX0, "sleep", "(LMonitorTurns$Strand;I)I"⟩
abbrev cX0_join : ByteArray := prog_2_method_26_code
def yX0_join : MethodName := ⟨RX0, "join", "(LMonitorTurns$Strand;LMonitorTurns$Strand;)I"⟩
abbrev cX0_startNew : ByteArray := prog_2_method_27_code
def yX0_startNew : MethodName := ⟨RX0, "startNew", "(LMonitorTurns$Strand;)I"⟩
abbrev cX0_useHandlers : ByteArray := prog_2_method_28_code
def yX0_useHandlers : MethodName := ⟨RX0, "useHandlers", "(LMonitorTurns$Strand;III)I"⟩
def RX1 : String := "MonitorTurns$Crew"
def TX1 : u_T := fun k => match k with
  | 0 => ("MonitorTurns$Crew", "shelf", "LMonitorTurns$Shelf;", true)
  | 1 => ("MonitorTurns$Crew", "strands", "[LMonitorTurns$Strand;", true)
  | 2 => ("MonitorTurns$Crew", "time", "I", false)
  | 3 => ("MonitorTurns$Crew", "orderInForce", "I", false)
  | _ => ("MonitorTurns$Crew", "stamps", "I", false)
def tyX1 : Nat → FieldType := fun k => match k with
  | 0 => .object "MonitorTurns$Shelf"
  | 1 => .array (.object "MonitorTurns$Strand")
  | 2 => .int
  | 3 => .int
  | _ => .int
abbrev wsX10 : List Cond := u_ws RX1 TX1 5
theorem nmX1 : ∀ a, a < 5 → ∀ b, b < 5 → a ≠ b → (TX1 a).2.1 ≠ (TX1 b).2.1 := by decide +kernel
theorem tyX1_ok : ∀ k, k < 5 → parseFieldDescriptor (TX1 k).2.2.1 = some (tyX1 k) := by decide +kernel
abbrev cX1_init : ByteArray := prog_3_method_1_code
def yX1_init : MethodName := ⟨RX1, "<init>", "(LMonitorTurns$Shelf;)V"⟩
abbrev cX1_at : ByteArray := prog_3_method_2_code
def yX1_at : MethodName := ⟨RX1, "at", "(I)LMonitorTurns$Strand;"⟩
abbrev cX1_isInUse : ByteArray := prog_3_method_3_code
def yX1_isInUse : MethodName := ⟨RX1, "isInUse", "(LMonitorTurns$Program;)Z"⟩
abbrev cX1_howManyUnderWay : ByteArray := prog_3_method_4_code
def yX1_howManyUnderWay : MethodName := ⟨RX1, "howManyUnderWay", "()I"⟩
abbrev cX1_howMany : ByteArray := prog_3_method_5_code
def yX1_howMany : MethodName := ⟨RX1, "howMany", "(II)I"⟩
abbrev cX1_isOver : ByteArray := prog_3_method_6_code
def yX1_isOver : MethodName := ⟨RX1, "isOver", "()Z"⟩
abbrev cX1_isStuck : ByteArray := prog_3_method_7_code
def yX1_isStuck : MethodName := ⟨RX1, "isStuck", "()Z"⟩
abbrev cX1_passTime : ByteArray := prog_3_method_8_code
def yX1_passTime : MethodName := ⟨RX1, "passTime", "()V"⟩
abbrev cX1_firstReadyBehind : ByteArray := prog_3_method_9_code
def yX1_firstReadyBehind : MethodName := ⟨RX1, "firstReadyBehind", "(I)LMonitorTurns$Strand;"⟩
abbrev cX1_readyOfGreatestRank : ByteArray := prog_3_method_10_code
def yX1_readyOfGreatestRank : MethodName := ⟨RX1, "readyOfGreatestRank", "()LMonitorTurns$Strand;"⟩
abbrev cX1_getIn : ByteArray := prog_3_method_11_code
def yX1_getIn : MethodName := ⟨RX1, "getIn", "(LMonitorTurns$Strand;LMonitorTurns$Thing;I)V"⟩
abbrev cX1_stamp : ByteArray := prog_3_method_12_code
def yX1_stamp : MethodName := ⟨RX1, "stamp", "(LMonitorTurns$Strand;)V"⟩
abbrev cX1_vacate : ByteArray := prog_3_method_13_code
def yX1_vacate : MethodName := ⟨RX1, "vacate", "(LMonitorTurns$Thing;)V"⟩
abbrev cX1_await : ByteArray := prog_3_method_14_code
def yX1_await : MethodName := ⟨RX1, "await", "(LMonitorTurns$Strand;LMonitorTurns$Thing;I)V"⟩
abbrev cX1_tellNext : ByteArray := prog_3_method_15_code
def yX1_tellNext : MethodName := ⟨RX1, "tellNext", "(LMonitorTurns$Thing;)V"⟩
abbrev cX1_tellEach : ByteArray := prog_3_method_16_code
def yX1_tellEach : MethodName := ⟨RX1, "tellEach", "(LMonitorTurns$Thing;)V"⟩
abbrev cX1_next : ByteArray := prog_3_method_17_code
def yX1_next : MethodName := ⟨RX1, "next", "(II)LMonitorTurns$Strand;"⟩
abbrev cX1_timeAfter : ByteArray := prog_3_method_18_code
def yX1_timeAfter : MethodName := ⟨RX1, "timeAfter", "(I)I"⟩
abbrev cX1_interrupt : ByteArray := prog_3_method_19_code
def yX1_interrupt : MethodName := ⟨RX1, "interrupt", "(LMonitorTurns$Strand;)V"⟩
abbrev cX1_end : ByteArray := prog_3_method_20_code
def yX1_end : MethodName := ⟨RX1, "end", "(LMonitorTurns$Strand;II)V"⟩
abbrev cX1_inRing : ByteArray := prog_3_method_21_code
def yX1_inRing : MethodName := ⟨RX1, "inRing", "(I)I"⟩
abbrev cX1_wayBackTo : ByteArray := prog_3_method_22_code
def yX1_wayBackTo : MethodName := ⟨RX1, "wayBackTo", "(I)I"⟩
abbrev cX1_follow : ByteArray := prog_3_method_23_code
def yX1_follow : MethodName := ⟨RX1, "follow", "(II)I"⟩
abbrev cX1_hangsOn : ByteArray := prog_3_method_24_code
def yX1_hangsOn : MethodName := ⟨RX1, "hangsOn", "(I)I"⟩
def RX2 : String := "MonitorTurns$Handlers"
def TX2 : u_T := fun k => match k with
  | 0 => ("MonitorTurns$Handlers", "places", "[I", true)
  | 1 => ("MonitorTurns$Handlers", "masks", "[I", true)
  | _ => ("MonitorTurns$Handlers", "size", "I", false)
def tyX2 : Nat → FieldType := fun k => match k with
  | 0 => .array .int
  | 1 => .array .int
  | _ => .int
abbrev wsX20 : List Cond := u_ws RX2 TX2 3
theorem nmX2 : ∀ a, a < 3 → ∀ b, b < 3 → a ≠ b → (TX2 a).2.1 ≠ (TX2 b).2.1 := by decide +kernel
theorem tyX2_ok : ∀ k, k < 3 → parseFieldDescriptor (TX2 k).2.2.1 = some (tyX2 k) := by decide +kernel
abbrev cX2_init : ByteArray := prog_4_method_1_code
def yX2_init : MethodName := ⟨RX2, "<init>", "()V"⟩
abbrev cX2_push : ByteArray := prog_4_method_2_code
def yX2_push : MethodName := ⟨RX2, "push", "(II)Z"⟩
abbrev cX2_latestFor : ByteArray := prog_4_method_3_code
def yX2_latestFor : MethodName := ⟨RX2, "latestFor", "(I)I"⟩
abbrev cX2_placeOf : ByteArray := prog_4_method_4_code
def yX2_placeOf : MethodName := ⟨RX2, "placeOf", "(I)I"⟩
def RX3 : String := "MonitorTurns$Program"
def TX3 : u_T := fun k => match k with
  | 0 => ("MonitorTurns$Program", "numbers", "[I", true)
  | _ => ("MonitorTurns$Program", "size", "I", false)
def tyX3 : Nat → FieldType := fun k => match k with
  | 0 => .array .int
  | _ => .int
abbrev wsX30 : List Cond := u_ws RX3 TX3 2
theorem nmX3 : ∀ a, a < 2 → ∀ b, b < 2 → a ≠ b → (TX3 a).2.1 ≠ (TX3 b).2.1 := by decide +kernel
theorem tyX3_ok : ∀ k, k < 2 → parseFieldDescriptor (TX3 k).2.2.1 = some (tyX3 k) := by decide +kernel
abbrev cX3_init : ByteArray := prog_5_method_1_code
def yX3_init : MethodName := ⟨RX3, "<init>", "()V"⟩
abbrev cX3_isWellNamed : ByteArray := prog_5_method_2_code
def yX3_isWellNamed : MethodName := ⟨RX3, "isWellNamed", "(IIII)Z"⟩
abbrev cX3_mayName : ByteArray := prog_5_method_3_code
def yX3_mayName : MethodName := ⟨RX3, "mayName", "(II)Z"⟩
abbrev cX3_append : ByteArray := prog_5_method_4_code
def yX3_append : MethodName := ⟨RX3, "append", "(IIII)V"⟩
abbrev cX3_numberAt : ByteArray := prog_5_method_5_code
def yX3_numberAt : MethodName := ⟨RX3, "numberAt", "(II)I"⟩
def RX4 : String := "MonitorTurns$Shelf"
def TX4 : u_T := fun k => match k with
  | 0 => ("MonitorTurns$Shelf", "things", "[LMonitorTurns$Thing;", true)
  | 1 => ("MonitorTurns$Shelf", "size", "I", false)
  | _ => ("MonitorTurns$Shelf", "weighedKind", "I", false)
def tyX4 : Nat → FieldType := fun k => match k with
  | 0 => .array (.object "MonitorTurns$Thing")
  | 1 => .int
  | _ => .int
abbrev wsX40 : List Cond := u_ws RX4 TX4 3
theorem nmX4 : ∀ a, a < 3 → ∀ b, b < 3 → a ≠ b → (TX4 a).2.1 ≠ (TX4 b).2.1 := by decide +kernel
theorem tyX4_ok : ∀ k, k < 3 → parseFieldDescriptor (TX4 k).2.2.1 = some (tyX4 k) := by decide +kernel
abbrev cX4_init : ByteArray := prog_6_method_1_code
def yX4_init : MethodName := ⟨RX4, "<init>", "()V"⟩
abbrev cX4_at : ByteArray := prog_6_method_2_code
def yX4_at : MethodName := ⟨RX4, "at", "(I)LMonitorTurns$Thing;"⟩
abbrev cX4_isFull : ByteArray := prog_6_method_3_code
def yX4_isFull : MethodName := ⟨RX4, "isFull", "()Z"⟩
abbrev cX4_make : ByteArray := prog_6_method_4_code
def yX4_make : MethodName := ⟨RX4, "make", "(II)I"⟩
abbrev cX4_weightOf : ByteArray := prog_6_method_5_code
def yX4_weightOf : MethodName := ⟨RX4, "weightOf", "(LMonitorTurns$Thing;)I"⟩
abbrev cX4_bodyThatBegan : ByteArray := prog_6_method_6_code
def yX4_bodyThatBegan : MethodName := ⟨RX4, "bodyThatBegan", "(I)I"⟩
abbrev cX4_bodiesOf : ByteArray := prog_6_method_7_code
def yX4_bodiesOf : MethodName := ⟨RX4, "bodiesOf", "(I)[I"⟩
abbrev cX4_fits : ByteArray := prog_6_method_8_code
def yX4_fits : MethodName := ⟨RX4, "fits", "(ILMonitorTurns$Thing;)Z"⟩
def RX5 : String := "MonitorTurns$Strand"
def TX5 : u_T := fun k => match k with
  | 0 => ("MonitorTurns$Strand", "number", "I", true)
  | 1 => ("MonitorTurns$Strand", "registers", "[I", true)
  | 2 => ("MonitorTurns$Strand", "hands", "[I", true)
  | 3 => ("MonitorTurns$Strand", "handlers", "LMonitorTurns$Handlers;", true)
  | 4 => ("MonitorTurns$Strand", "state", "I", false)
  | 5 => ("MonitorTurns$Strand", "program", "LMonitorTurns$Program;", false)
  | 6 => ("MonitorTurns$Strand", "rank", "I", false)
  | 7 => ("MonitorTurns$Strand", "place", "I", false)
  | 8 => ("MonitorTurns$Strand", "flag", "Z", false)
  | 9 => ("MonitorTurns$Strand", "breaks", "Z", false)
  | 10 => ("MonitorTurns$Strand", "raised", "I", false)
  | 11 => ("MonitorTurns$Strand", "caughtKind", "I", false)
  | 12 => ("MonitorTurns$Strand", "caughtNumber", "I", false)
  | 13 => ("MonitorTurns$Strand", "endKind", "I", false)
  | 14 => ("MonitorTurns$Strand", "endNumber", "I", false)
  | 15 => ("MonitorTurns$Strand", "target", "I", false)
  | 16 => ("MonitorTurns$Strand", "until", "I", false)
  | 17 => ("MonitorTurns$Strand", "depth", "I", false)
  | 18 => ("MonitorTurns$Strand", "stamp", "I", false)
  | _ => ("MonitorTurns$Strand", "begun", "I", false)
def tyX5 : Nat → FieldType := fun k => match k with
  | 0 => .int
  | 1 => .array .int
  | 2 => .array .int
  | 3 => .object "MonitorTurns$Handlers"
  | 4 => .int
  | 5 => .object "MonitorTurns$Program"
  | 6 => .int
  | 7 => .int
  | 8 => .boolean
  | 9 => .boolean
  | 10 => .int
  | 11 => .int
  | 12 => .int
  | 13 => .int
  | 14 => .int
  | 15 => .int
  | 16 => .int
  | 17 => .int
  | 18 => .int
  | _ => .int
abbrev wsX50 : List Cond := u_ws RX5 TX5 20
theorem nmX5 : ∀ a, a < 20 → ∀ b, b < 20 → a ≠ b → (TX5 a).2.1 ≠ (TX5 b).2.1 := by decide +kernel
theorem tyX5_ok : ∀ k, k < 20 → parseFieldDescriptor (TX5 k).2.2.1 = some (tyX5 k) := by decide +kernel
abbrev cX5_init : ByteArray := prog_7_method_1_code
def yX5_init : MethodName := ⟨RX5, "<init>", "(I)V"⟩
abbrev cX5_renew : ByteArray := prog_7_method_2_code
def yX5_renew : MethodName := ⟨RX5, "renew", "(LMonitorTurns$Program;I)V"⟩
abbrev cX5_isUnderWay : ByteArray := prog_7_method_3_code
def yX5_isUnderWay : MethodName := ⟨RX5, "isUnderWay", "()Z"⟩
abbrev cX5_isAtEnd : ByteArray := prog_7_method_4_code
def yX5_isAtEnd : MethodName := ⟨RX5, "isAtEnd", "()Z"⟩
abbrev cX5_jump : ByteArray := prog_7_method_5_code
def yX5_jump : MethodName := ⟨RX5, "jump", "(I)V"⟩
abbrev cX5_become : ByteArray := prog_7_method_6_code
def yX5_become : MethodName := ⟨RX5, "become", "(III)V"⟩
abbrev cX5_takeFlag : ByteArray := prog_7_method_7_code
def yX5_takeFlag : MethodName := ⟨RX5, "takeFlag", "()Z"⟩
abbrev cX5_kept : ByteArray := prog_7_method_8_code
def yX5_kept : MethodName := ⟨RX5, "kept", "(I)I"⟩
abbrev cX5_keep : ByteArray := prog_7_method_9_code
def yX5_keep : MethodName := ⟨RX5, "keep", "(II)V"⟩
abbrev cX5_held : ByteArray := prog_7_method_10_code
def yX5_held : MethodName := ⟨RX5, "held", "(I)I"⟩
abbrev cX5_grasp : ByteArray := prog_7_method_11_code
def yX5_grasp : MethodName := ⟨RX5, "grasp", "(II)V"⟩
def RX6 : String := "MonitorTurns$Tally"
def TX6 : u_T := fun k => match k with
  | 0 => ("MonitorTurns$Tally", "failures", "[I", true)
  | 1 => ("MonitorTurns$Tally", "turns", "[I", true)
  | 2 => ("MonitorTurns$Tally", "allFailures", "I", false)
  | 3 => ("MonitorTurns$Tally", "met", "I", false)
  | _ => ("MonitorTurns$Tally", "turnsNoted", "I", false)
def tyX6 : Nat → FieldType := fun k => match k with
  | 0 => .array .int
  | 1 => .array .int
  | 2 => .int
  | 3 => .int
  | _ => .int
abbrev wsX60 : List Cond := u_ws RX6 TX6 5
theorem nmX6 : ∀ a, a < 5 → ∀ b, b < 5 → a ≠ b → (TX6 a).2.1 ≠ (TX6 b).2.1 := by decide +kernel
theorem tyX6_ok : ∀ k, k < 5 → parseFieldDescriptor (TX6 k).2.2.1 = some (tyX6 k) := by decide +kernel
abbrev cX6_init : ByteArray := prog_8_method_1_code
def yX6_init : MethodName := ⟨RX6, "<init>", "()V"⟩
abbrev cX6_countFailure : ByteArray := prog_8_method_2_code
def yX6_countFailure : MethodName := ⟨RX6, "countFailure", "(IZ)V"⟩
abbrev cX6_note : ByteArray := prog_8_method_3_code
def yX6_note : MethodName := ⟨RX6, "note", "(III)V"⟩
abbrev cX6_logged : ByteArray := prog_8_method_4_code
def yX6_logged : MethodName := ⟨RX6, "logged", "(II)I"⟩
def RX7 : String := "MonitorTurns$Thing"
def TX7 : u_T := fun k => match k with
  | 0 => ("MonitorTurns$Thing", "number", "I", true)
  | 1 => ("MonitorTurns$Thing", "kind", "I", true)
  | 2 => ("MonitorTurns$Thing", "places", "[I", true)
  | 3 => ("MonitorTurns$Thing", "count", "I", false)
  | 4 => ("MonitorTurns$Thing", "owner", "I", false)
  | _ => ("MonitorTurns$Thing", "depth", "I", false)
def tyX7 : Nat → FieldType := fun k => match k with
  | 0 => .int
  | 1 => .int
  | 2 => .array .int
  | 3 => .int
  | 4 => .int
  | _ => .int
abbrev wsX70 : List Cond := u_ws RX7 TX7 6
theorem nmX7 : ∀ a, a < 6 → ∀ b, b < 6 → a ≠ b → (TX7 a).2.1 ≠ (TX7 b).2.1 := by decide +kernel
theorem tyX7_ok : ∀ k, k < 6 → parseFieldDescriptor (TX7 k).2.2.1 = some (tyX7 k) := by decide +kernel
abbrev cX7_init : ByteArray := prog_9_method_1_code
def yX7_init : MethodName := ⟨RX7, "<init>", "(II[I)V"⟩
abbrev cX7_letIn : ByteArray := prog_9_method_2_code
def yX7_letIn : MethodName := ⟨RX7, "letIn", "(II)V"⟩
abbrev cX7_isBox : ByteArray := prog_9_method_3_code
def yX7_isBox : MethodName := ⟨RX7, "isBox", "()Z"⟩
abbrev cX7_isCrate : ByteArray := prog_9_method_4_code
def yX7_isCrate : MethodName := ⟨RX7, "isCrate", "()Z"⟩
abbrev cX7_isRow : ByteArray := prog_9_method_5_code
def yX7_isRow : MethodName := ⟨RX7, "isRow", "()Z"⟩
abbrev cX7_isRowOfNumbers : ByteArray := prog_9_method_6_code
def yX7_isRowOfNumbers : MethodName := ⟨RX7, "isRowOfNumbers", "()Z"⟩
abbrev cX7_isRowOfThings : ByteArray := prog_9_method_7_code
def yX7_isRowOfThings : MethodName := ⟨RX7, "isRowOfThings", "()Z"⟩
abbrev cX7_takesFrom : ByteArray := prog_9_method_8_code
def yX7_takesFrom : MethodName := ⟨RX7, "takesFrom", "(LMonitorTurns$Thing;)Z"⟩
abbrev cX7_hasPlace : ByteArray := prog_9_method_9_code
def yX7_hasPlace : MethodName := ⟨RX7, "hasPlace", "(I)Z"⟩
def RX8 : String := "MonitorTurns"
def TX8 : u_T := fun k => match k with
  | 0 => ("MonitorTurns", "shelf", "LMonitorTurns$Shelf;", true)
  | 1 => ("MonitorTurns", "crew", "LMonitorTurns$Crew;", true)
  | 2 => ("MonitorTurns", "acts", "LMonitorTurns$Acts;", true)
  | 3 => ("MonitorTurns", "tally", "LMonitorTurns$Tally;", true)
  | 4 => ("MonitorTurns", "programs", "[LMonitorTurns$Program;", true)
  | 5 => ("MonitorTurns", "ruleInForce", "I", false)
  | _ => ("MonitorTurns", "latest", "I", false)
def tyX8 : Nat → FieldType := fun k => match k with
  | 0 => .object "MonitorTurns$Shelf"
  | 1 => .object "MonitorTurns$Crew"
  | 2 => .object "MonitorTurns$Acts"
  | 3 => .object "MonitorTurns$Tally"
  | 4 => .array (.object "MonitorTurns$Program")
  | 5 => .int
  | _ => .int
abbrev wsX80 : List Cond := u_ws RX8 TX8 7
theorem nmX8 : ∀ a, a < 7 → ∀ b, b < 7 → a ≠ b → (TX8 a).2.1 ≠ (TX8 b).2.1 := by decide +kernel
theorem tyX8_ok : ∀ k, k < 7 → parseFieldDescriptor (TX8 k).2.2.1 = some (tyX8 k) := by decide +kernel
abbrev cX8_init : ByteArray := prog_1_method_1_code
def yX8_init : MethodName := ⟨RX8, "<init>", "()V"⟩
abbrev cX8_thing : ByteArray := prog_1_method_2_code
def yX8_thing : MethodName := ⟨RX8, "thing", "(II)I"⟩
abbrev cX8_of : ByteArray := prog_1_method_3_code
def yX8_of : MethodName := ⟨RX8, "of", "(II)I"⟩
abbrev cX8_item : ByteArray := prog_1_method_4_code
def yX8_item : MethodName := ⟨RX8, "item", "(II)I"⟩
abbrev cX8_weigh : ByteArray := prog_1_method_5_code
def yX8_weigh : MethodName := ⟨RX8, "weigh", "(I)I"⟩
abbrev cX8_trace : ByteArray := prog_1_method_6_code
def yX8_trace : MethodName := ⟨RX8, "trace", "(I)I"⟩
abbrev cX8_act : ByteArray := prog_1_method_7_code
def yX8_act : MethodName := ⟨RX8, "act", "(IIIII)I"⟩
abbrev cX8_wipe : ByteArray := prog_1_method_8_code
def yX8_wipe : MethodName := ⟨RX8, "wipe", "(I)I"⟩
abbrev cX8_thread : ByteArray := prog_1_method_9_code
def yX8_thread : MethodName := ⟨RX8, "thread", "(III)I"⟩
abbrev cX8_set : ByteArray := prog_1_method_10_code
def yX8_set : MethodName := ⟨RX8, "set", "(III)I"⟩
abbrev cX8_give : ByteArray := prog_1_method_11_code
def yX8_give : MethodName := ⟨RX8, "give", "(III)I"⟩
abbrev cX8_start : ByteArray := prog_1_method_12_code
def yX8_start : MethodName := ⟨RX8, "start", "(I)I"⟩
abbrev cX8_broken : ByteArray := prog_1_method_13_code
def yX8_broken : MethodName := ⟨RX8, "broken", "(I)I"⟩
abbrev cX8_rule : ByteArray := prog_1_method_14_code
def yX8_rule : MethodName := ⟨RX8, "rule", "(I)I"⟩
abbrev cX8_order : ByteArray := prog_1_method_15_code
def yX8_order : MethodName := ⟨RX8, "order", "(I)I"⟩
abbrev cX8_turn : ByteArray := prog_1_method_16_code
def yX8_turn : MethodName := ⟨RX8, "turn", "()I"⟩
abbrev cX8_run : ByteArray := prog_1_method_17_code
def yX8_run : MethodName := ⟨RX8, "run", "(I)I"⟩
abbrev cX8_told : ByteArray := prog_1_method_18_code
def yX8_told : MethodName := ⟨RX8, "told", "(II)I"⟩
abbrev cX8_register : ByteArray := prog_1_method_19_code
def yX8_register : MethodName := ⟨RX8, "register", "(II)I"⟩
abbrev cX8_hand : ByteArray := prog_1_method_20_code
def yX8_hand : MethodName := ⟨RX8, "hand", "(II)I"⟩
abbrev cX8_ring : ByteArray := prog_1_method_21_code
def yX8_ring : MethodName := ⟨RX8, "ring", "(I)I"⟩
abbrev cX8_log : ByteArray := prog_1_method_22_code
def yX8_log : MethodName := ⟨RX8, "log", "(II)I"⟩
abbrev cX8_count : ByteArray := prog_1_method_23_code
def yX8_count : MethodName := ⟨RX8, "count", "(I)I"⟩
abbrev cX8_isSlot : ByteArray := prog_1_method_24_code
def yX8_isSlot : MethodName := ⟨RX8, "isSlot", "(I)Z"⟩
abbrev cX8_programAt : ByteArray := prog_1_method_25_code
def yX8_programAt : MethodName := ⟨RX8, "programAt", "(I)LMonitorTurns$Program;"⟩
abbrev cX8_takeTurn : ByteArray := prog_1_method_26_code
def yX8_takeTurn : MethodName := ⟨RX8, "takeTurn", "()I"⟩
abbrev cX8_fail : ByteArray := prog_1_method_27_code
def yX8_fail : MethodName := ⟨RX8, "fail", "(LMonitorTurns$Strand;I)V"⟩
def RX9 : String := "MonitorTurnsModel"
def TX9 : u_T := fun k => match k with
  | 0 => ("MonitorTurnsModel", "things", "I", false)
  | 1 => ("MonitorTurnsModel", "kinds", "[I", true)
  | 2 => ("MonitorTurnsModel", "counts", "[I", true)
  | 3 => ("MonitorTurnsModel", "sizes", "[I", true)
  | 4 => ("MonitorTurnsModel", "cells", "[I", true)
  | 5 => ("MonitorTurnsModel", "owner", "[I", true)
  | 6 => ("MonitorTurnsModel", "depth", "[I", true)
  | 7 => ("MonitorTurnsModel", "trace", "[I", true)
  | 8 => ("MonitorTurnsModel", "traced", "I", false)
  | 9 => ("MonitorTurnsModel", "acts", "[I", true)
  | 10 => ("MonitorTurnsModel", "many", "[I", true)
  | 11 => ("MonitorTurnsModel", "named", "[I", true)
  | 12 => ("MonitorTurnsModel", "state", "[I", true)
  | 13 => ("MonitorTurnsModel", "program", "[I", true)
  | 14 => ("MonitorTurnsModel", "rank", "[I", true)
  | 15 => ("MonitorTurnsModel", "place", "[I", true)
  | 16 => ("MonitorTurnsModel", "flag", "[Z", true)
  | 17 => ("MonitorTurnsModel", "isBroken", "[Z", true)
  | 18 => ("MonitorTurnsModel", "endKind", "[I", true)
  | 19 => ("MonitorTurnsModel", "endNumber", "[I", true)
  | 20 => ("MonitorTurnsModel", "about", "[I", true)
  | 21 => ("MonitorTurnsModel", "till", "[I", true)
  | 22 => ("MonitorTurnsModel", "want", "[I", true)
  | 23 => ("MonitorTurnsModel", "since", "[I", true)
  | 24 => ("MonitorTurnsModel", "done", "[I", true)
  | 25 => ("MonitorTurnsModel", "metKind", "[I", true)
  | 26 => ("MonitorTurnsModel", "metNumber", "[I", true)
  | 27 => ("MonitorTurnsModel", "handlers", "[I", true)
  | 28 => ("MonitorTurnsModel", "handlerPlace", "[I", true)
  | 29 => ("MonitorTurnsModel", "handlerBits", "[I", true)
  | 30 => ("MonitorTurnsModel", "registers", "[I", true)
  | 31 => ("MonitorTurnsModel", "hands", "[I", true)
  | 32 => ("MonitorTurnsModel", "time", "I", false)
  | 33 => ("MonitorTurnsModel", "rule", "I", false)
  | 34 => ("MonitorTurnsModel", "order", "I", false)
  | 35 => ("MonitorTurnsModel", "latest", "I", false)
  | 36 => ("MonitorTurnsModel", "begun", "I", false)
  | 37 => ("MonitorTurnsModel", "fault", "I", false)
  | 38 => ("MonitorTurnsModel", "faultNumber", "I", false)
  | 39 => ("MonitorTurnsModel", "faults", "[I", true)
  | 40 => ("MonitorTurnsModel", "faultMany", "I", false)
  | 41 => ("MonitorTurnsModel", "met", "I", false)
  | 42 => ("MonitorTurnsModel", "actMany", "I", false)
  | 43 => ("MonitorTurnsModel", "logged", "I", false)
  | _ => ("MonitorTurnsModel", "log", "[I", true)
def tyX9 : Nat → FieldType := fun k => match k with
  | 0 => .int
  | 1 => .array .int
  | 2 => .array .int
  | 3 => .array .int
  | 4 => .array .int
  | 5 => .array .int
  | 6 => .array .int
  | 7 => .array .int
  | 8 => .int
  | 9 => .array .int
  | 10 => .array .int
  | 11 => .array .int
  | 12 => .array .int
  | 13 => .array .int
  | 14 => .array .int
  | 15 => .array .int
  | 16 => .array .boolean
  | 17 => .array .boolean
  | 18 => .array .int
  | 19 => .array .int
  | 20 => .array .int
  | 21 => .array .int
  | 22 => .array .int
  | 23 => .array .int
  | 24 => .array .int
  | 25 => .array .int
  | 26 => .array .int
  | 27 => .array .int
  | 28 => .array .int
  | 29 => .array .int
  | 30 => .array .int
  | 31 => .array .int
  | 32 => .int
  | 33 => .int
  | 34 => .int
  | 35 => .int
  | 36 => .int
  | 37 => .int
  | 38 => .int
  | 39 => .array .int
  | 40 => .int
  | 41 => .int
  | 42 => .int
  | 43 => .int
  | _ => .array .int
abbrev wsX90 : List Cond := u_ws RX9 TX9 45
theorem nmX9 : ∀ a, a < 45 → ∀ b, b < 45 → a ≠ b → (TX9 a).2.1 ≠ (TX9 b).2.1 := by decide +kernel
theorem tyX9_ok : ∀ k, k < 45 → parseFieldDescriptor (TX9 k).2.2.1 = some (tyX9 k) := by decide +kernel
abbrev cX9_init : ByteArray := prog_11_method_1_code
def yX9_init : MethodName := ⟨RX9, "<init>", "()V"⟩
abbrev cX9_in : ByteArray := prog_11_method_2_code
def yX9_in : MethodName := ⟨RX9, "in", "(III)Z"⟩
abbrev cX9_make : ByteArray := prog_11_method_3_code
def yX9_make : MethodName := ⟨RX9, "make", "(II)I"⟩
abbrev cX9_thing : ByteArray := prog_11_method_4_code
def yX9_thing : MethodName := ⟨RX9, "thing", "(II)I"⟩
abbrev cX9_isThing : ByteArray := prog_11_method_5_code
def yX9_isThing : MethodName := ⟨RX9, "isThing", "(I)Z"⟩
abbrev cX9_isBox : ByteArray := prog_11_method_6_code
def yX9_isBox : MethodName := ⟨RX9, "isBox", "(I)Z"⟩
abbrev cX9_howMany : ByteArray := prog_11_method_7_code
def yX9_howMany : MethodName := ⟨RX9, "howMany", "(II)I"⟩
abbrev cX9_of : ByteArray := prog_11_method_8_code
def yX9_of : MethodName := ⟨RX9, "of", "(II)I"⟩
abbrev cX9_item : ByteArray := prog_11_method_9_code
def yX9_item : MethodName := ⟨RX9, "item", "(II)I"⟩
abbrev cX9_leaves : ByteArray := prog_11_method_10_code
def yX9_leaves : MethodName := ⟨RX9, "leaves", "(I)V"⟩
abbrev cX9_weighs : ByteArray := prog_11_method_11_code
def yX9_weighs : MethodName := ⟨RX9, "weighs", "(I)I"⟩
abbrev cX9_weigh : ByteArray := prog_11_method_12_code
def yX9_weigh : MethodName := ⟨RX9, "weigh", "(I)I"⟩
abbrev cX9_trace : ByteArray := prog_11_method_13_code
def yX9_trace : MethodName := ⟨RX9, "trace", "(I)I"⟩
abbrev cX9_isUnderWay : ByteArray := prog_11_method_14_code
def yX9_isUnderWay : MethodName := ⟨RX9, "isUnderWay", "(I)Z"⟩
abbrev cX9_isInUse : ByteArray := prog_11_method_15_code
def yX9_isInUse : MethodName := ⟨RX9, "isInUse", "(I)Z"⟩
abbrev cX9_isWell : ByteArray := prog_11_method_16_code
def yX9_isWell : MethodName := ⟨RX9, "isWell", "(II)Z"⟩
abbrev cX9_act : ByteArray := prog_11_method_17_code
def yX9_act : MethodName := ⟨RX9, "act", "(IIIII)I"⟩
abbrev cX9_wipe : ByteArray := prog_11_method_18_code
def yX9_wipe : MethodName := ⟨RX9, "wipe", "(I)I"⟩
abbrev cX9_thread : ByteArray := prog_11_method_19_code
def yX9_thread : MethodName := ⟨RX9, "thread", "(III)I"⟩
abbrev cX9_isThread : ByteArray := prog_11_method_20_code
def yX9_isThread : MethodName := ⟨RX9, "isThread", "(I)Z"⟩
abbrev cX9_set : ByteArray := prog_11_method_21_code
def yX9_set : MethodName := ⟨RX9, "set", "(III)I"⟩
abbrev cX9_give : ByteArray := prog_11_method_22_code
def yX9_give : MethodName := ⟨RX9, "give", "(III)I"⟩
abbrev cX9_start : ByteArray := prog_11_method_23_code
def yX9_start : MethodName := ⟨RX9, "start", "(I)I"⟩
abbrev cX9_broken : ByteArray := prog_11_method_24_code
def yX9_broken : MethodName := ⟨RX9, "broken", "(I)I"⟩
abbrev cX9_getIn : ByteArray := prog_11_method_25_code
def yX9_getIn : MethodName := ⟨RX9, "getIn", "(I)V"⟩
abbrev cX9_next : ByteArray := prog_11_method_26_code
def yX9_next : MethodName := ⟨RX9, "next", "(II)I"⟩
abbrev cX9_isLeft : ByteArray := prog_11_method_27_code
def yX9_isLeft : MethodName := ⟨RX9, "isLeft", "(I)V"⟩
abbrev cX9_isTold : ByteArray := prog_11_method_28_code
def yX9_isTold : MethodName := ⟨RX9, "isTold", "(I)V"⟩
abbrev cX9_ends : ByteArray := prog_11_method_29_code
def yX9_ends : MethodName := ⟨RX9, "ends", "(III)V"⟩
abbrev cX9_rule : ByteArray := prog_11_method_30_code
def yX9_rule : MethodName := ⟨RX9, "rule", "(I)I"⟩
abbrev cX9_order : ByteArray := prog_11_method_31_code
def yX9_order : MethodName := ⟨RX9, "order", "(I)I"⟩
abbrev cX9_still : ByteArray := prog_11_method_32_code
def yX9_still : MethodName := ⟨RX9, "still", "()I"⟩
abbrev cX9_chosen : ByteArray := prog_11_method_33_code
def yX9_chosen : MethodName := ⟨RX9, "chosen", "()I"⟩
abbrev cX9_goes : ByteArray := prog_11_method_34_code
def yX9_goes : MethodName := ⟨RX9, "goes", "()I"⟩
abbrev cX9_fails : ByteArray := prog_11_method_35_code
def yX9_fails : MethodName := ⟨RX9, "fails", "(I)V"⟩
abbrev cX9_goesTo : ByteArray := prog_11_method_36_code
def yX9_goesTo : MethodName := ⟨RX9, "goesTo", "(II)V"⟩
abbrev cX9_turn : ByteArray := prog_11_method_37_code
def yX9_turn : MethodName := ⟨RX9, "turn", "()I"⟩
abbrev cX9_run : ByteArray := prog_11_method_38_code
def yX9_run : MethodName := ⟨RX9, "run", "(I)I"⟩
abbrev cX9_bad : ByteArray := prog_11_method_39_code
def yX9_bad : MethodName := ⟨RX9, "bad", "(I)V"⟩
abbrev cX9_does : ByteArray := prog_11_method_40_code
def yX9_does : MethodName := ⟨RX9, "does", "(II)V"⟩
abbrev cX9_numbers : ByteArray := prog_11_method_41_code
def yX9_numbers : MethodName := ⟨RX9, "numbers", "(IIIII)V"⟩
abbrev cX9_holds : ByteArray := prog_11_method_42_code
def yX9_holds : MethodName := ⟨RX9, "holds", "(IIIII)V"⟩
abbrev cX9_boxes : ByteArray := prog_11_method_43_code
def yX9_boxes : MethodName := ⟨RX9, "boxes", "(IIII)V"⟩
abbrev cX9_rows : ByteArray := prog_11_method_44_code
def yX9_rows : MethodName := ⟨RX9, "rows", "(IIIII)V"⟩
abbrev cX9_fits : ByteArray := prog_11_method_45_code
def yX9_fits : MethodName := ⟨RX9, "fits", "(III)Z"⟩
abbrev cX9_copies : ByteArray := prog_11_method_46_code
def yX9_copies : MethodName := ⟨RX9, "copies", "(III)V"⟩
abbrev cX9_later : ByteArray := prog_11_method_47_code
def yX9_later : MethodName := ⟨RX9, "later", "(II)I"⟩
abbrev cX9_enters : ByteArray := prog_11_method_48_code
def yX9_enters : MethodName := ⟨RX9, "enters", "(IIII)V"⟩
abbrev cX9_waits : ByteArray := prog_11_method_49_code
def yX9_waits : MethodName := ⟨RX9, "waits", "(III)V"⟩
abbrev cX9_stops : ByteArray := prog_11_method_50_code
def yX9_stops : MethodName := ⟨RX9, "stops", "(III)V"⟩
abbrev cX9_rests : ByteArray := prog_11_method_51_code
def yX9_rests : MethodName := ⟨RX9, "rests", "(IIII)V"⟩
abbrev cX9_told : ByteArray := prog_11_method_52_code
def yX9_told : MethodName := ⟨RX9, "told", "(II)I"⟩
abbrev cX9_register : ByteArray := prog_11_method_53_code
def yX9_register : MethodName := ⟨RX9, "register", "(II)I"⟩
abbrev cX9_hand : ByteArray := prog_11_method_54_code
def yX9_hand : MethodName := ⟨RX9, "hand", "(II)I"⟩
abbrev cX9_hangsOn : ByteArray := prog_11_method_55_code
def yX9_hangsOn : MethodName := ⟨RX9, "hangsOn", "(I)I"⟩
abbrev cX9_ring : ByteArray := prog_11_method_56_code
def yX9_ring : MethodName := ⟨RX9, "ring", "(I)I"⟩
abbrev cX9_log : ByteArray := prog_11_method_57_code
def yX9_log : MethodName := ⟨RX9, "log", "(II)I"⟩
abbrev cX9_count : ByteArray := prog_11_method_58_code
def yX9_count : MethodName := ⟨RX9, "count", "(I)I"⟩
def RJ9 : String := "java/lang/Math"
def TJ9 : u_T := fun k => match k with
  | _ => ("", "", "", false)
def tyJ9 : Nat → FieldType := fun k => match k with
  | _ => .int
abbrev wsJ90 : List Cond := u_ws RJ9 TJ9 0
theorem nmJ9 : ∀ a, a < 0 → ∀ b, b < 0 → a ≠ b → (TJ9 a).2.1 ≠ (TJ9 b).2.1 := by decide +kernel
theorem tyJ9_ok : ∀ k, k < 0 → parseFieldDescriptor (TJ9 k).2.2.1 = some (tyJ9 k) := by decide +kernel
abbrev cJ9_floorMod_7cf53 : ByteArray := prog_12_method_50_code
def yJ9_floorMod_7cf53 : MethodName := ⟨RJ9, "floorMod", "(II)I"⟩
abbrev cJ9_max_7cf53 : ByteArray := prog_12_method_65_code
def yJ9_max_7cf53 : MethodName := ⟨RJ9, "max", "(II)I"⟩
abbrev cJ9_min_7cf53 : ByteArray := prog_12_method_69_code
def yJ9_min_7cf53 : MethodName := ⟨RJ9, "min", "(II)I"⟩
def RJ7 : String := "java/util/Arrays"
def TJ7 : u_T := fun k => match k with
  | _ => ("", "", "", false)
def tyJ7 : Nat → FieldType := fun k => match k with
  | _ => .int
abbrev wsJ70 : List Cond := u_ws RJ7 TJ7 0
theorem nmJ7 : ∀ a, a < 0 → ∀ b, b < 0 → a ≠ b → (TJ7 a).2.1 ≠ (TJ7 b).2.1 := by decide +kernel
theorem tyJ7_ok : ∀ k, k < 0 → parseFieldDescriptor (TJ7 k).2.2.1 = some (tyJ7 k) := by decide +kernel
abbrev cJ7_fill_53178 : ByteArray := prog_13_method_103_code
def yJ7_fill_53178 : MethodName := ⟨RJ7, "fill", "([II)V"⟩
def RL : String := "MonitorTurnsLaw"
abbrev cL_law : ByteArray := code
def yL_law : MethodName := ⟨RL, "law", "([I)Z"⟩
abbrev vwCl : List vw_C := [(RX0, TX0, 3), (RX1, TX1, 5), (RX2, TX2, 3), (RX3, TX3, 2), (RX4, TX4, 3), (RX5, TX5, 20), (RX6, TX6, 5), (RX7, TX7, 6), (RX8, TX8, 7), (RX9, TX9, 45)]
def TB : List Cond := lw_tbl.filter goodWord
theorem tb_in {w : Cond} {i : Nat} (h : lw_tbl[i]? = some w) (hg : goodWord w = true) : w ∈ TB := List.mem_filter.mpr ⟨List.mem_of_getElem? h, hg⟩
theorem tb_good {w : Cond} (h : w ∈ TB) : (w.onTables && w.keeps) = true ∨ ∃ ty, w = .arrayClass ty := good_of_word (List.mem_filter.mp h).2
theorem tb_tbl {w : Cond} (h : w ∈ TB) : w ∈ lw_tbl := (List.mem_filter.mp h).1
theorem iniRL : Cond.initialized RL ∈ TB := tb_in (i := 66) (by decide +kernel) (by decide +kernel)
theorem iniRX8 : Cond.initialized RX8 ∈ TB := tb_in (i := 67) (by decide +kernel) (by decide +kernel)
theorem iniRX4 : Cond.initialized RX4 ∈ TB := tb_in (i := 68) (by decide +kernel) (by decide +kernel)
theorem iniRX1 : Cond.initialized RX1 ∈ TB := tb_in (i := 69) (by decide +kernel) (by decide +kernel)
theorem iniRX5 : Cond.initialized RX5 ∈ TB := tb_in (i := 70) (by decide +kernel) (by decide +kernel)
theorem iniRX2 : Cond.initialized RX2 ∈ TB := tb_in (i := 71) (by decide +kernel) (by decide +kernel)
theorem iniRJ7 : Cond.initialized RJ7 ∈ TB := tb_in (i := 72) (by decide +kernel) (by decide +kernel)
theorem iniRX0 : Cond.initialized RX0 ∈ TB := tb_in (i := 73) (by decide +kernel) (by decide +kernel)
theorem iniRX6 : Cond.initialized RX6 ∈ TB := tb_in (i := 74) (by decide +kernel) (by decide +kernel)
theorem iniRX3 : Cond.initialized RX3 ∈ TB := tb_in (i := 75) (by decide +kernel) (by decide +kernel)
theorem iniRX9 : Cond.initialized RX9 ∈ TB := tb_in (i := 76) (by decide +kernel) (by decide +kernel)
theorem iniRX7 : Cond.initialized RX7 ∈ TB := tb_in (i := 77) (by decide +kernel) (by decide +kernel)
theorem iniRJ9 : Cond.initialized RJ9 ∈ TB := tb_in (i := 78) (by decide +kernel) (by decide +kernel)
theorem clRL_7 : Cond.classLink RL 7 RX8 ∈ TB := tb_in (i := 79) (by decide +kernel) (by decide +kernel)
theorem istRX8 : Cond.instantiable RX8 7 ∈ TB := tb_in (i := 80) (by decide +kernel) (by decide +kernel)
theorem mlRL_9 : Cond.methodLink RL 9 yX8_init ∈ TB := tb_in (i := 81) (by decide +kernel) (by decide +kernel)
theorem im_yX8_init : Cond.instanceMethod yX8_init ∈ TB := tb_in (i := 82) (by decide +kernel) (by decide +kernel)
theorem mlRX8_1 : Cond.methodLink RX8 1 objectInit ∈ TB := tb_in (i := 84) (by decide +kernel) (by decide +kernel)
theorem im_objectInit : Cond.instanceMethod objectInit ∈ TB := tb_in (i := 85) (by decide +kernel) (by decide +kernel)
theorem clRX8_7 : Cond.classLink RX8 7 RX4 ∈ TB := tb_in (i := 87) (by decide +kernel) (by decide +kernel)
theorem istRX4 : Cond.instantiable RX4 3 ∈ TB := tb_in (i := 88) (by decide +kernel) (by decide +kernel)
theorem mnRX8_9 : Cond.methodLinkNest RX8 9 yX4_init "MonitorTurns" ∈ lw_tbl := List.mem_of_getElem? (i := 89) (by decide +kernel)
theorem im_yX4_init : Cond.instanceMethod yX4_init ∈ TB := tb_in (i := 90) (by decide +kernel) (by decide +kernel)
theorem mlRX4_3 : Cond.methodLink RX4 3 objectInit ∈ TB := tb_in (i := 92) (by decide +kernel) (by decide +kernel)
theorem clRX4_9 : Cond.classLink RX4 9 RX7 ∈ TB := tb_in (i := 93) (by decide +kernel) (by decide +kernel)
theorem flRX4_11 : Cond.fieldLink RX4 11 "MonitorTurns$Shelf" "things" "[LMonitorTurns$Thing;" ∈ TB := tb_in (i := 95) (by decide +kernel) (by decide +kernel)
theorem flRX4_21 : Cond.fieldLink RX4 21 "MonitorTurns$Shelf" "size" "I" ∈ TB := tb_in (i := 96) (by decide +kernel) (by decide +kernel)
theorem flRX1_128 : Cond.fieldLink RX1 128 "MonitorTurns$Shelf" "size" "I" ∈ TB := tb_in (i := 97) (by decide +kernel) (by decide +kernel)
theorem flRX8_221 : Cond.fieldLink RX8 221 "MonitorTurns$Shelf" "size" "I" ∈ TB := tb_in (i := 98) (by decide +kernel) (by decide +kernel)
theorem flRX4_17 : Cond.fieldLink RX4 17 "MonitorTurns$Shelf" "weighedKind" "I" ∈ TB := tb_in (i := 99) (by decide +kernel) (by decide +kernel)
theorem clRX8_16 : Cond.classLink RX8 16 RX1 ∈ TB := tb_in (i := 107) (by decide +kernel) (by decide +kernel)
theorem istRX1 : Cond.instantiable RX1 5 ∈ TB := tb_in (i := 108) (by decide +kernel) (by decide +kernel)
theorem mlRX8_18 : Cond.methodLink RX8 18 yX1_init ∈ TB := tb_in (i := 109) (by decide +kernel) (by decide +kernel)
theorem im_yX1_init : Cond.instanceMethod yX1_init ∈ TB := tb_in (i := 110) (by decide +kernel) (by decide +kernel)
theorem mlRX1_3 : Cond.methodLink RX1 3 objectInit ∈ TB := tb_in (i := 112) (by decide +kernel) (by decide +kernel)
theorem clRX1_9 : Cond.classLink RX1 9 RX5 ∈ TB := tb_in (i := 113) (by decide +kernel) (by decide +kernel)
theorem istRX5 : Cond.instantiable RX5 20 ∈ TB := tb_in (i := 115) (by decide +kernel) (by decide +kernel)
theorem mlRX1_21 : Cond.methodLink RX1 21 yX5_init ∈ TB := tb_in (i := 116) (by decide +kernel) (by decide +kernel)
theorem im_yX5_init : Cond.instanceMethod yX5_init ∈ TB := tb_in (i := 117) (by decide +kernel) (by decide +kernel)
theorem mlRX5_3 : Cond.methodLink RX5 3 objectInit ∈ TB := tb_in (i := 119) (by decide +kernel) (by decide +kernel)
theorem clRX5_18 : Cond.classLink RX5 18 RX2 ∈ TB := tb_in (i := 120) (by decide +kernel) (by decide +kernel)
theorem istRX2 : Cond.instantiable RX2 3 ∈ TB := tb_in (i := 121) (by decide +kernel) (by decide +kernel)
theorem mnRX5_20 : Cond.methodLinkNest RX5 20 yX2_init "MonitorTurns" ∈ lw_tbl := List.mem_of_getElem? (i := 122) (by decide +kernel)
theorem im_yX2_init : Cond.instanceMethod yX2_init ∈ TB := tb_in (i := 123) (by decide +kernel) (by decide +kernel)
theorem mlRX2_3 : Cond.methodLink RX2 3 objectInit ∈ TB := tb_in (i := 125) (by decide +kernel) (by decide +kernel)
theorem flRX2_9 : Cond.fieldLink RX2 9 "MonitorTurns$Handlers" "places" "[I" ∈ TB := tb_in (i := 126) (by decide +kernel) (by decide +kernel)
theorem flRX2_15 : Cond.fieldLink RX2 15 "MonitorTurns$Handlers" "masks" "[I" ∈ TB := tb_in (i := 127) (by decide +kernel) (by decide +kernel)
theorem flRX2_18 : Cond.fieldLink RX2 18 "MonitorTurns$Handlers" "size" "I" ∈ TB := tb_in (i := 128) (by decide +kernel) (by decide +kernel)
theorem flRX5_58 : Cond.fieldLink RX5 58 "MonitorTurns$Handlers" "size" "I" ∈ TB := tb_in (i := 129) (by decide +kernel) (by decide +kernel)
theorem flRX8_197 : Cond.fieldLink RX8 197 "MonitorTurns$Handlers" "size" "I" ∈ TB := tb_in (i := 130) (by decide +kernel) (by decide +kernel)
theorem flRX0_276 : Cond.fieldLink RX0 276 "MonitorTurns$Handlers" "size" "I" ∈ TB := tb_in (i := 131) (by decide +kernel) (by decide +kernel)
theorem mlRX5_38 : Cond.methodLink RX5 38 yJ7_fill_53178 ∈ TB := tb_in (i := 140) (by decide +kernel) (by decide +kernel)
theorem im_yJ7_fill_53178 : Cond.static yJ7_fill_53178 ∈ TB := tb_in (i := 141) (by decide +kernel) (by decide +kernel)
theorem flRX5_35 : Cond.fieldLink RX5 35 "MonitorTurns$Strand" "number" "I" ∈ TB := tb_in (i := 143) (by decide +kernel) (by decide +kernel)
theorem flRX1_86 : Cond.fieldLink RX1 86 "MonitorTurns$Strand" "number" "I" ∈ TB := tb_in (i := 144) (by decide +kernel) (by decide +kernel)
theorem flRX0_192 : Cond.fieldLink RX0 192 "MonitorTurns$Strand" "number" "I" ∈ TB := tb_in (i := 145) (by decide +kernel) (by decide +kernel)
theorem flRX8_239 : Cond.fieldLink RX8 239 "MonitorTurns$Strand" "number" "I" ∈ TB := tb_in (i := 146) (by decide +kernel) (by decide +kernel)
theorem flRX5_9 : Cond.fieldLink RX5 9 "MonitorTurns$Strand" "registers" "[I" ∈ TB := tb_in (i := 147) (by decide +kernel) (by decide +kernel)
theorem flRX5_15 : Cond.fieldLink RX5 15 "MonitorTurns$Strand" "hands" "[I" ∈ TB := tb_in (i := 148) (by decide +kernel) (by decide +kernel)
theorem flRX5_21 : Cond.fieldLink RX5 21 "MonitorTurns$Strand" "handlers" "LMonitorTurns$Handlers;" ∈ TB := tb_in (i := 149) (by decide +kernel) (by decide +kernel)
theorem flRX8_193 : Cond.fieldLink RX8 193 "MonitorTurns$Strand" "handlers" "LMonitorTurns$Handlers;" ∈ TB := tb_in (i := 150) (by decide +kernel) (by decide +kernel)
theorem flRX0_266 : Cond.fieldLink RX0 266 "MonitorTurns$Strand" "handlers" "LMonitorTurns$Handlers;" ∈ TB := tb_in (i := 151) (by decide +kernel) (by decide +kernel)
theorem flRX5_25 : Cond.fieldLink RX5 25 "MonitorTurns$Strand" "state" "I" ∈ TB := tb_in (i := 152) (by decide +kernel) (by decide +kernel)
theorem flRX1_32 : Cond.fieldLink RX1 32 "MonitorTurns$Strand" "state" "I" ∈ TB := tb_in (i := 153) (by decide +kernel) (by decide +kernel)
theorem flRX8_134 : Cond.fieldLink RX8 134 "MonitorTurns$Strand" "state" "I" ∈ TB := tb_in (i := 154) (by decide +kernel) (by decide +kernel)
theorem flRX0_260 : Cond.fieldLink RX0 260 "MonitorTurns$Strand" "state" "I" ∈ TB := tb_in (i := 155) (by decide +kernel) (by decide +kernel)
theorem flRX5_48 : Cond.fieldLink RX5 48 "MonitorTurns$Strand" "program" "LMonitorTurns$Program;" ∈ TB := tb_in (i := 156) (by decide +kernel) (by decide +kernel)
theorem flRX0_25 : Cond.fieldLink RX0 25 "MonitorTurns$Strand" "program" "LMonitorTurns$Program;" ∈ TB := tb_in (i := 157) (by decide +kernel) (by decide +kernel)
theorem flRX1_24 : Cond.fieldLink RX1 24 "MonitorTurns$Strand" "program" "LMonitorTurns$Program;" ∈ TB := tb_in (i := 158) (by decide +kernel) (by decide +kernel)
theorem flRX5_52 : Cond.fieldLink RX5 52 "MonitorTurns$Strand" "rank" "I" ∈ TB := tb_in (i := 159) (by decide +kernel) (by decide +kernel)
theorem flRX1_78 : Cond.fieldLink RX1 78 "MonitorTurns$Strand" "rank" "I" ∈ TB := tb_in (i := 160) (by decide +kernel) (by decide +kernel)
theorem flRX5_55 : Cond.fieldLink RX5 55 "MonitorTurns$Strand" "place" "I" ∈ TB := tb_in (i := 161) (by decide +kernel) (by decide +kernel)
theorem flRX0_33 : Cond.fieldLink RX0 33 "MonitorTurns$Strand" "place" "I" ∈ TB := tb_in (i := 162) (by decide +kernel) (by decide +kernel)
theorem flRX8_174 : Cond.fieldLink RX8 174 "MonitorTurns$Strand" "place" "I" ∈ TB := tb_in (i := 163) (by decide +kernel) (by decide +kernel)
theorem flRX5_61 : Cond.fieldLink RX5 61 "MonitorTurns$Strand" "flag" "Z" ∈ TB := tb_in (i := 164) (by decide +kernel) (by decide +kernel)
theorem flRX8_183 : Cond.fieldLink RX8 183 "MonitorTurns$Strand" "flag" "Z" ∈ TB := tb_in (i := 165) (by decide +kernel) (by decide +kernel)
theorem flRX1_115 : Cond.fieldLink RX1 115 "MonitorTurns$Strand" "flag" "Z" ∈ TB := tb_in (i := 166) (by decide +kernel) (by decide +kernel)
theorem flRX0_19 : Cond.fieldLink RX0 19 "MonitorTurns$Strand" "breaks" "Z" ∈ TB := tb_in (i := 167) (by decide +kernel) (by decide +kernel)
theorem flRX5_65 : Cond.fieldLink RX5 65 "MonitorTurns$Strand" "breaks" "Z" ∈ TB := tb_in (i := 168) (by decide +kernel) (by decide +kernel)
theorem flRX1_119 : Cond.fieldLink RX1 119 "MonitorTurns$Strand" "breaks" "Z" ∈ TB := tb_in (i := 169) (by decide +kernel) (by decide +kernel)
theorem flRX8_258 : Cond.fieldLink RX8 258 "MonitorTurns$Strand" "raised" "I" ∈ TB := tb_in (i := 170) (by decide +kernel) (by decide +kernel)
theorem flRX0_263 : Cond.fieldLink RX0 263 "MonitorTurns$Strand" "raised" "I" ∈ TB := tb_in (i := 171) (by decide +kernel) (by decide +kernel)
theorem flRX5_68 : Cond.fieldLink RX5 68 "MonitorTurns$Strand" "caughtKind" "I" ∈ TB := tb_in (i := 172) (by decide +kernel) (by decide +kernel)
theorem flRX8_268 : Cond.fieldLink RX8 268 "MonitorTurns$Strand" "caughtKind" "I" ∈ TB := tb_in (i := 173) (by decide +kernel) (by decide +kernel)
theorem flRX0_284 : Cond.fieldLink RX0 284 "MonitorTurns$Strand" "caughtKind" "I" ∈ TB := tb_in (i := 174) (by decide +kernel) (by decide +kernel)
theorem flRX5_71 : Cond.fieldLink RX5 71 "MonitorTurns$Strand" "caughtNumber" "I" ∈ TB := tb_in (i := 175) (by decide +kernel) (by decide +kernel)
theorem flRX8_271 : Cond.fieldLink RX8 271 "MonitorTurns$Strand" "caughtNumber" "I" ∈ TB := tb_in (i := 176) (by decide +kernel) (by decide +kernel)
theorem flRX0_287 : Cond.fieldLink RX0 287 "MonitorTurns$Strand" "caughtNumber" "I" ∈ TB := tb_in (i := 177) (by decide +kernel) (by decide +kernel)
theorem flRX5_74 : Cond.fieldLink RX5 74 "MonitorTurns$Strand" "endKind" "I" ∈ TB := tb_in (i := 178) (by decide +kernel) (by decide +kernel)
theorem flRX8_177 : Cond.fieldLink RX8 177 "MonitorTurns$Strand" "endKind" "I" ∈ TB := tb_in (i := 179) (by decide +kernel) (by decide +kernel)
theorem flRX1_122 : Cond.fieldLink RX1 122 "MonitorTurns$Strand" "endKind" "I" ∈ TB := tb_in (i := 180) (by decide +kernel) (by decide +kernel)
theorem flRX5_77 : Cond.fieldLink RX5 77 "MonitorTurns$Strand" "endNumber" "I" ∈ TB := tb_in (i := 181) (by decide +kernel) (by decide +kernel)
theorem flRX8_180 : Cond.fieldLink RX8 180 "MonitorTurns$Strand" "endNumber" "I" ∈ TB := tb_in (i := 182) (by decide +kernel) (by decide +kernel)
theorem flRX1_125 : Cond.fieldLink RX1 125 "MonitorTurns$Strand" "endNumber" "I" ∈ TB := tb_in (i := 183) (by decide +kernel) (by decide +kernel)
theorem flRX5_29 : Cond.fieldLink RX5 29 "MonitorTurns$Strand" "target" "I" ∈ TB := tb_in (i := 184) (by decide +kernel) (by decide +kernel)
theorem flRX1_36 : Cond.fieldLink RX1 36 "MonitorTurns$Strand" "target" "I" ∈ TB := tb_in (i := 185) (by decide +kernel) (by decide +kernel)
theorem flRX8_187 : Cond.fieldLink RX8 187 "MonitorTurns$Strand" "target" "I" ∈ TB := tb_in (i := 186) (by decide +kernel) (by decide +kernel)
theorem flRX5_32 : Cond.fieldLink RX5 32 "MonitorTurns$Strand" "until" "I" ∈ TB := tb_in (i := 187) (by decide +kernel) (by decide +kernel)
theorem flRX1_43 : Cond.fieldLink RX1 43 "MonitorTurns$Strand" "until" "I" ∈ TB := tb_in (i := 188) (by decide +kernel) (by decide +kernel)
theorem flRX8_190 : Cond.fieldLink RX8 190 "MonitorTurns$Strand" "until" "I" ∈ TB := tb_in (i := 189) (by decide +kernel) (by decide +kernel)
theorem flRX1_58 : Cond.fieldLink RX1 58 "MonitorTurns$Strand" "depth" "I" ∈ TB := tb_in (i := 190) (by decide +kernel) (by decide +kernel)
theorem flRX1_101 : Cond.fieldLink RX1 101 "MonitorTurns$Strand" "stamp" "I" ∈ TB := tb_in (i := 191) (by decide +kernel) (by decide +kernel)
theorem flRX5_80 : Cond.fieldLink RX5 80 "MonitorTurns$Strand" "begun" "I" ∈ TB := tb_in (i := 192) (by decide +kernel) (by decide +kernel)
theorem flRX0_46 : Cond.fieldLink RX0 46 "MonitorTurns$Strand" "begun" "I" ∈ TB := tb_in (i := 193) (by decide +kernel) (by decide +kernel)
theorem flRX8_200 : Cond.fieldLink RX8 200 "MonitorTurns$Strand" "begun" "I" ∈ TB := tb_in (i := 194) (by decide +kernel) (by decide +kernel)
theorem flRX1_17 : Cond.fieldLink RX1 17 "MonitorTurns$Crew" "shelf" "LMonitorTurns$Shelf;" ∈ TB := tb_in (i := 236) (by decide +kernel) (by decide +kernel)
theorem flRX1_11 : Cond.fieldLink RX1 11 "MonitorTurns$Crew" "strands" "[LMonitorTurns$Strand;" ∈ TB := tb_in (i := 237) (by decide +kernel) (by decide +kernel)
theorem flRX1_49 : Cond.fieldLink RX1 49 "MonitorTurns$Crew" "time" "I" ∈ TB := tb_in (i := 238) (by decide +kernel) (by decide +kernel)
theorem flRX8_218 : Cond.fieldLink RX8 218 "MonitorTurns$Crew" "time" "I" ∈ TB := tb_in (i := 239) (by decide +kernel) (by decide +kernel)
theorem flRX8_158 : Cond.fieldLink RX8 158 "MonitorTurns$Crew" "orderInForce" "I" ∈ TB := tb_in (i := 240) (by decide +kernel) (by decide +kernel)
theorem flRX1_108 : Cond.fieldLink RX1 108 "MonitorTurns$Crew" "orderInForce" "I" ∈ TB := tb_in (i := 241) (by decide +kernel) (by decide +kernel)
theorem flRX1_98 : Cond.fieldLink RX1 98 "MonitorTurns$Crew" "stamps" "I" ∈ TB := tb_in (i := 242) (by decide +kernel) (by decide +kernel)
theorem clRX8_25 : Cond.classLink RX8 25 RX0 ∈ TB := tb_in (i := 254) (by decide +kernel) (by decide +kernel)
theorem istRX0 : Cond.instantiable RX0 3 ∈ TB := tb_in (i := 255) (by decide +kernel) (by decide +kernel)
theorem mlRX8_27 : Cond.methodLink RX8 27 yX0_init ∈ TB := tb_in (i := 256) (by decide +kernel) (by decide +kernel)
theorem im_yX0_init : Cond.instanceMethod yX0_init ∈ TB := tb_in (i := 257) (by decide +kernel) (by decide +kernel)
theorem mlRX0_3 : Cond.methodLink RX0 3 objectInit ∈ TB := tb_in (i := 259) (by decide +kernel) (by decide +kernel)
theorem flRX0_9 : Cond.fieldLink RX0 9 "MonitorTurns$Acts" "shelf" "LMonitorTurns$Shelf;" ∈ TB := tb_in (i := 260) (by decide +kernel) (by decide +kernel)
theorem flRX0_15 : Cond.fieldLink RX0 15 "MonitorTurns$Acts" "crew" "LMonitorTurns$Crew;" ∈ TB := tb_in (i := 261) (by decide +kernel) (by decide +kernel)
theorem flRX0_43 : Cond.fieldLink RX0 43 "MonitorTurns$Acts" "begun" "I" ∈ TB := tb_in (i := 262) (by decide +kernel) (by decide +kernel)
theorem flRX8_225 : Cond.fieldLink RX8 225 "MonitorTurns$Acts" "begun" "I" ∈ TB := tb_in (i := 263) (by decide +kernel) (by decide +kernel)
theorem clRX8_34 : Cond.classLink RX8 34 RX6 ∈ TB := tb_in (i := 271) (by decide +kernel) (by decide +kernel)
theorem istRX6 : Cond.instantiable RX6 5 ∈ TB := tb_in (i := 272) (by decide +kernel) (by decide +kernel)
theorem mnRX8_36 : Cond.methodLinkNest RX8 36 yX6_init "MonitorTurns" ∈ lw_tbl := List.mem_of_getElem? (i := 273) (by decide +kernel)
theorem im_yX6_init : Cond.instanceMethod yX6_init ∈ TB := tb_in (i := 274) (by decide +kernel) (by decide +kernel)
theorem mlRX6_3 : Cond.methodLink RX6 3 objectInit ∈ TB := tb_in (i := 276) (by decide +kernel) (by decide +kernel)
theorem flRX6_9 : Cond.fieldLink RX6 9 "MonitorTurns$Tally" "failures" "[I" ∈ TB := tb_in (i := 277) (by decide +kernel) (by decide +kernel)
theorem flRX8_215 : Cond.fieldLink RX8 215 "MonitorTurns$Tally" "failures" "[I" ∈ TB := tb_in (i := 278) (by decide +kernel) (by decide +kernel)
theorem flRX6_15 : Cond.fieldLink RX6 15 "MonitorTurns$Tally" "turns" "[I" ∈ TB := tb_in (i := 279) (by decide +kernel) (by decide +kernel)
theorem flRX6_18 : Cond.fieldLink RX6 18 "MonitorTurns$Tally" "allFailures" "I" ∈ TB := tb_in (i := 280) (by decide +kernel) (by decide +kernel)
theorem flRX8_161 : Cond.fieldLink RX8 161 "MonitorTurns$Tally" "allFailures" "I" ∈ TB := tb_in (i := 281) (by decide +kernel) (by decide +kernel)
theorem flRX6_22 : Cond.fieldLink RX6 22 "MonitorTurns$Tally" "met" "I" ∈ TB := tb_in (i := 282) (by decide +kernel) (by decide +kernel)
theorem flRX8_226 : Cond.fieldLink RX8 226 "MonitorTurns$Tally" "met" "I" ∈ TB := tb_in (i := 283) (by decide +kernel) (by decide +kernel)
theorem flRX6_25 : Cond.fieldLink RX6 25 "MonitorTurns$Tally" "turnsNoted" "I" ∈ TB := tb_in (i := 284) (by decide +kernel) (by decide +kernel)
theorem clRX8_41 : Cond.classLink RX8 41 RX3 ∈ TB := tb_in (i := 296) (by decide +kernel) (by decide +kernel)
theorem istRX3 : Cond.instantiable RX3 2 ∈ TB := tb_in (i := 298) (by decide +kernel) (by decide +kernel)
theorem mnRX8_47 : Cond.methodLinkNest RX8 47 yX3_init "MonitorTurns" ∈ lw_tbl := List.mem_of_getElem? (i := 299) (by decide +kernel)
theorem im_yX3_init : Cond.instanceMethod yX3_init ∈ TB := tb_in (i := 300) (by decide +kernel) (by decide +kernel)
theorem mlRX3_3 : Cond.methodLink RX3 3 objectInit ∈ TB := tb_in (i := 302) (by decide +kernel) (by decide +kernel)
theorem flRX3_11 : Cond.fieldLink RX3 11 "MonitorTurns$Program" "numbers" "[I" ∈ TB := tb_in (i := 303) (by decide +kernel) (by decide +kernel)
theorem flRX3_22 : Cond.fieldLink RX3 22 "MonitorTurns$Program" "size" "I" ∈ TB := tb_in (i := 304) (by decide +kernel) (by decide +kernel)
theorem flRX5_83 : Cond.fieldLink RX5 83 "MonitorTurns$Program" "size" "I" ∈ TB := tb_in (i := 305) (by decide +kernel) (by decide +kernel)
theorem flRX8_115 : Cond.fieldLink RX8 115 "MonitorTurns$Program" "size" "I" ∈ TB := tb_in (i := 306) (by decide +kernel) (by decide +kernel)
theorem flRX8_10 : Cond.fieldLink RX8 10 "MonitorTurns" "shelf" "LMonitorTurns$Shelf;" ∈ TB := tb_in (i := 312) (by decide +kernel) (by decide +kernel)
theorem flRX8_21 : Cond.fieldLink RX8 21 "MonitorTurns" "crew" "LMonitorTurns$Crew;" ∈ TB := tb_in (i := 313) (by decide +kernel) (by decide +kernel)
theorem flRX8_30 : Cond.fieldLink RX8 30 "MonitorTurns" "acts" "LMonitorTurns$Acts;" ∈ TB := tb_in (i := 314) (by decide +kernel) (by decide +kernel)
theorem flRX8_37 : Cond.fieldLink RX8 37 "MonitorTurns" "tally" "LMonitorTurns$Tally;" ∈ TB := tb_in (i := 315) (by decide +kernel) (by decide +kernel)
theorem flRX8_43 : Cond.fieldLink RX8 43 "MonitorTurns" "programs" "[LMonitorTurns$Program;" ∈ TB := tb_in (i := 316) (by decide +kernel) (by decide +kernel)
theorem flRX8_155 : Cond.fieldLink RX8 155 "MonitorTurns" "ruleInForce" "I" ∈ TB := tb_in (i := 317) (by decide +kernel) (by decide +kernel)
theorem flRX8_48 : Cond.fieldLink RX8 48 "MonitorTurns" "latest" "I" ∈ TB := tb_in (i := 318) (by decide +kernel) (by decide +kernel)
theorem mlRL_13 : Cond.methodLink RL 13 yX8_thing ∈ TB := tb_in (i := 334) (by decide +kernel) (by decide +kernel)
theorem im_yX8_thing : Cond.instanceMethod yX8_thing ∈ TB := tb_in (i := 335) (by decide +kernel) (by decide +kernel)
theorem mlRX8_52 : Cond.methodLink RX8 52 yX4_isFull ∈ TB := tb_in (i := 338) (by decide +kernel) (by decide +kernel)
theorem im_yX4_isFull : Cond.instanceMethod yX4_isFull ∈ TB := tb_in (i := 339) (by decide +kernel) (by decide +kernel)
theorem mlRX8_56 : Cond.methodLink RX8 56 yX4_make ∈ TB := tb_in (i := 342) (by decide +kernel) (by decide +kernel)
theorem im_yX4_make : Cond.instanceMethod yX4_make ∈ TB := tb_in (i := 343) (by decide +kernel) (by decide +kernel)
theorem mlRX4_24 : Cond.methodLink RX4 24 yX4_isFull ∈ TB := tb_in (i := 346) (by decide +kernel) (by decide +kernel)
theorem istRX7 : Cond.instantiable RX7 6 ∈ TB := tb_in (i := 347) (by decide +kernel) (by decide +kernel)
theorem mlRX4_28 : Cond.methodLink RX4 28 yX7_init ∈ TB := tb_in (i := 348) (by decide +kernel) (by decide +kernel)
theorem im_yX7_init : Cond.instanceMethod yX7_init ∈ TB := tb_in (i := 349) (by decide +kernel) (by decide +kernel)
theorem mlRX7_3 : Cond.methodLink RX7 3 objectInit ∈ TB := tb_in (i := 351) (by decide +kernel) (by decide +kernel)
theorem flRX7_15 : Cond.fieldLink RX7 15 "MonitorTurns$Thing" "number" "I" ∈ TB := tb_in (i := 352) (by decide +kernel) (by decide +kernel)
theorem flRX8_85 : Cond.fieldLink RX8 85 "MonitorTurns$Thing" "number" "I" ∈ TB := tb_in (i := 353) (by decide +kernel) (by decide +kernel)
theorem flRX4_44 : Cond.fieldLink RX4 44 "MonitorTurns$Thing" "number" "I" ∈ TB := tb_in (i := 354) (by decide +kernel) (by decide +kernel)
theorem flRX1_93 : Cond.fieldLink RX1 93 "MonitorTurns$Thing" "number" "I" ∈ TB := tb_in (i := 355) (by decide +kernel) (by decide +kernel)
theorem flRX7_18 : Cond.fieldLink RX7 18 "MonitorTurns$Thing" "kind" "I" ∈ TB := tb_in (i := 356) (by decide +kernel) (by decide +kernel)
theorem flRX8_64 : Cond.fieldLink RX8 64 "MonitorTurns$Thing" "kind" "I" ∈ TB := tb_in (i := 357) (by decide +kernel) (by decide +kernel)
theorem flRX4_47 : Cond.fieldLink RX4 47 "MonitorTurns$Thing" "kind" "I" ∈ TB := tb_in (i := 358) (by decide +kernel) (by decide +kernel)
theorem flRX0_175 : Cond.fieldLink RX0 175 "MonitorTurns$Thing" "kind" "I" ∈ TB := tb_in (i := 359) (by decide +kernel) (by decide +kernel)
theorem flRX7_21 : Cond.fieldLink RX7 21 "MonitorTurns$Thing" "places" "[I" ∈ TB := tb_in (i := 360) (by decide +kernel) (by decide +kernel)
theorem flRX8_72 : Cond.fieldLink RX8 72 "MonitorTurns$Thing" "places" "[I" ∈ TB := tb_in (i := 361) (by decide +kernel) (by decide +kernel)
theorem flRX4_34 : Cond.fieldLink RX4 34 "MonitorTurns$Thing" "places" "[I" ∈ TB := tb_in (i := 362) (by decide +kernel) (by decide +kernel)
theorem flRX0_164 : Cond.fieldLink RX0 164 "MonitorTurns$Thing" "places" "[I" ∈ TB := tb_in (i := 363) (by decide +kernel) (by decide +kernel)
theorem flRX8_76 : Cond.fieldLink RX8 76 "MonitorTurns$Thing" "count" "I" ∈ TB := tb_in (i := 364) (by decide +kernel) (by decide +kernel)
theorem flRX4_50 : Cond.fieldLink RX4 50 "MonitorTurns$Thing" "count" "I" ∈ TB := tb_in (i := 365) (by decide +kernel) (by decide +kernel)
theorem flRX0_130 : Cond.fieldLink RX0 130 "MonitorTurns$Thing" "count" "I" ∈ TB := tb_in (i := 366) (by decide +kernel) (by decide +kernel)
theorem flRX7_9 : Cond.fieldLink RX7 9 "MonitorTurns$Thing" "owner" "I" ∈ TB := tb_in (i := 367) (by decide +kernel) (by decide +kernel)
theorem flRX8_79 : Cond.fieldLink RX8 79 "MonitorTurns$Thing" "owner" "I" ∈ TB := tb_in (i := 368) (by decide +kernel) (by decide +kernel)
theorem flRX1_81 : Cond.fieldLink RX1 81 "MonitorTurns$Thing" "owner" "I" ∈ TB := tb_in (i := 369) (by decide +kernel) (by decide +kernel)
theorem flRX0_189 : Cond.fieldLink RX0 189 "MonitorTurns$Thing" "owner" "I" ∈ TB := tb_in (i := 370) (by decide +kernel) (by decide +kernel)
theorem flRX7_25 : Cond.fieldLink RX7 25 "MonitorTurns$Thing" "depth" "I" ∈ TB := tb_in (i := 371) (by decide +kernel) (by decide +kernel)
theorem flRX8_82 : Cond.fieldLink RX8 82 "MonitorTurns$Thing" "depth" "I" ∈ TB := tb_in (i := 372) (by decide +kernel) (by decide +kernel)
theorem flRX1_107 : Cond.fieldLink RX1 107 "MonitorTurns$Thing" "depth" "I" ∈ TB := tb_in (i := 373) (by decide +kernel) (by decide +kernel)
theorem flRX0_215 : Cond.fieldLink RX0 215 "MonitorTurns$Thing" "depth" "I" ∈ TB := tb_in (i := 374) (by decide +kernel) (by decide +kernel)
theorem mlRX4_31 : Cond.methodLink RX4 31 yX7_isRowOfThings ∈ TB := tb_in (i := 388) (by decide +kernel) (by decide +kernel)
theorem im_yX7_isRowOfThings : Cond.instanceMethod yX7_isRowOfThings ∈ TB := tb_in (i := 389) (by decide +kernel) (by decide +kernel)
theorem mlRX4_38 : Cond.methodLink RX4 38 yJ7_fill_53178 ∈ TB := tb_in (i := 392) (by decide +kernel) (by decide +kernel)
theorem mlRL_18 : Cond.methodLink RL 18 yX8_of ∈ TB := tb_in (i := 393) (by decide +kernel) (by decide +kernel)
theorem im_yX8_of : Cond.instanceMethod yX8_of ∈ TB := tb_in (i := 394) (by decide +kernel) (by decide +kernel)
theorem mlRX8_60 : Cond.methodLink RX8 60 yX4_at ∈ TB := tb_in (i := 397) (by decide +kernel) (by decide +kernel)
theorem im_yX4_at : Cond.instanceMethod yX4_at ∈ TB := tb_in (i := 398) (by decide +kernel) (by decide +kernel)
theorem mlRX8_69 : Cond.methodLink RX8 69 yX7_isRow ∈ TB := tb_in (i := 401) (by decide +kernel) (by decide +kernel)
theorem im_yX7_isRow : Cond.instanceMethod yX7_isRow ∈ TB := tb_in (i := 402) (by decide +kernel) (by decide +kernel)
theorem mlRX8_88 : Cond.methodLink RX8 88 yX1_howMany ∈ TB := tb_in (i := 405) (by decide +kernel) (by decide +kernel)
theorem im_yX1_howMany : Cond.instanceMethod yX1_howMany ∈ TB := tb_in (i := 406) (by decide +kernel) (by decide +kernel)
theorem mlRL_22 : Cond.methodLink RL 22 yX8_item ∈ TB := tb_in (i := 409) (by decide +kernel) (by decide +kernel)
theorem im_yX8_item : Cond.instanceMethod yX8_item ∈ TB := tb_in (i := 410) (by decide +kernel) (by decide +kernel)
theorem mlRX8_91 : Cond.methodLink RX8 91 yX7_hasPlace ∈ TB := tb_in (i := 413) (by decide +kernel) (by decide +kernel)
theorem im_yX7_hasPlace : Cond.instanceMethod yX7_hasPlace ∈ TB := tb_in (i := 414) (by decide +kernel) (by decide +kernel)
theorem mlRL_26 : Cond.methodLink RL 26 yX8_weigh ∈ TB := tb_in (i := 417) (by decide +kernel) (by decide +kernel)
theorem im_yX8_weigh : Cond.instanceMethod yX8_weigh ∈ TB := tb_in (i := 418) (by decide +kernel) (by decide +kernel)
theorem mlRX8_95 : Cond.methodLink RX8 95 yX4_weightOf ∈ TB := tb_in (i := 421) (by decide +kernel) (by decide +kernel)
theorem im_yX4_weightOf : Cond.instanceMethod yX4_weightOf ∈ TB := tb_in (i := 422) (by decide +kernel) (by decide +kernel)
theorem mlRL_31 : Cond.methodLink RL 31 yX8_trace ∈ TB := tb_in (i := 425) (by decide +kernel) (by decide +kernel)
theorem im_yX8_trace : Cond.instanceMethod yX8_trace ∈ TB := tb_in (i := 426) (by decide +kernel) (by decide +kernel)
theorem mlRX8_99 : Cond.methodLink RX8 99 yX4_bodyThatBegan ∈ TB := tb_in (i := 429) (by decide +kernel) (by decide +kernel)
theorem im_yX4_bodyThatBegan : Cond.instanceMethod yX4_bodyThatBegan ∈ TB := tb_in (i := 430) (by decide +kernel) (by decide +kernel)
theorem mlRX4_53 : Cond.methodLink RX4 53 yX4_bodiesOf ∈ TB := tb_in (i := 433) (by decide +kernel) (by decide +kernel)
theorem im_yX4_bodiesOf : Cond.static yX4_bodiesOf ∈ TB := tb_in (i := 434) (by decide +kernel) (by decide +kernel)
theorem flRX4_57 : Cond.fieldLink RX4 57 "MonitorTurns$Shelf" "PLAIN_BODIES" "[I" ∈ TB := tb_in (i := 436) (by decide +kernel) (by decide +kernel)
theorem flRX4_60 : Cond.fieldLink RX4 60 "MonitorTurns$Shelf" "BOX_BODIES" "[I" ∈ TB := tb_in (i := 438) (by decide +kernel) (by decide +kernel)
theorem flRX4_63 : Cond.fieldLink RX4 63 "MonitorTurns$Shelf" "CRATE_BODIES" "[I" ∈ TB := tb_in (i := 440) (by decide +kernel) (by decide +kernel)
theorem flRX4_66 : Cond.fieldLink RX4 66 "MonitorTurns$Shelf" "CHEST_BODIES" "[I" ∈ TB := tb_in (i := 442) (by decide +kernel) (by decide +kernel)
theorem flRX4_69 : Cond.fieldLink RX4 69 "MonitorTurns$Shelf" "ROW_BODIES" "[I" ∈ TB := tb_in (i := 444) (by decide +kernel) (by decide +kernel)
theorem mlRL_35 : Cond.methodLink RL 35 yX8_act ∈ TB := tb_in (i := 446) (by decide +kernel) (by decide +kernel)
theorem im_yX8_act : Cond.instanceMethod yX8_act ∈ TB := tb_in (i := 447) (by decide +kernel) (by decide +kernel)
theorem mlRX8_103 : Cond.methodLink RX8 103 yX8_programAt ∈ TB := tb_in (i := 450) (by decide +kernel) (by decide +kernel)
theorem im_yX8_programAt : Cond.instanceMethod yX8_programAt ∈ TB := tb_in (i := 452) (by decide +kernel) (by decide +kernel)
theorem mlRX8_107 : Cond.methodLink RX8 107 yX3_isWellNamed ∈ TB := tb_in (i := 454) (by decide +kernel) (by decide +kernel)
theorem im_yX3_isWellNamed : Cond.static yX3_isWellNamed ∈ TB := tb_in (i := 455) (by decide +kernel) (by decide +kernel)
theorem mlRX3_15 : Cond.methodLink RX3 15 yX3_mayName ∈ TB := tb_in (i := 457) (by decide +kernel) (by decide +kernel)
theorem im_yX3_mayName : Cond.static yX3_mayName ∈ TB := tb_in (i := 458) (by decide +kernel) (by decide +kernel)
theorem flRX3_19 : Cond.fieldLink RX3 19 "MonitorTurns$Program" "MOST_NAMED" "[I" ∈ TB := tb_in (i := 460) (by decide +kernel) (by decide +kernel)
theorem mlRX8_111 : Cond.methodLink RX8 111 yX1_isInUse ∈ TB := tb_in (i := 462) (by decide +kernel) (by decide +kernel)
theorem im_yX1_isInUse : Cond.instanceMethod yX1_isInUse ∈ TB := tb_in (i := 463) (by decide +kernel) (by decide +kernel)
theorem mlRX1_28 : Cond.methodLink RX1 28 yX5_isUnderWay ∈ TB := tb_in (i := 466) (by decide +kernel) (by decide +kernel)
theorem im_yX5_isUnderWay : Cond.instanceMethod yX5_isUnderWay ∈ TB := tb_in (i := 467) (by decide +kernel) (by decide +kernel)
theorem mlRX8_118 : Cond.methodLink RX8 118 yX3_append ∈ TB := tb_in (i := 470) (by decide +kernel) (by decide +kernel)
theorem im_yX3_append : Cond.instanceMethod yX3_append ∈ TB := tb_in (i := 471) (by decide +kernel) (by decide +kernel)
theorem mlRL_40 : Cond.methodLink RL 40 yX8_wipe ∈ TB := tb_in (i := 474) (by decide +kernel) (by decide +kernel)
theorem im_yX8_wipe : Cond.instanceMethod yX8_wipe ∈ TB := tb_in (i := 475) (by decide +kernel) (by decide +kernel)
theorem mlRL_44 : Cond.methodLink RL 44 yX8_thread ∈ TB := tb_in (i := 478) (by decide +kernel) (by decide +kernel)
theorem im_yX8_thread : Cond.instanceMethod yX8_thread ∈ TB := tb_in (i := 479) (by decide +kernel) (by decide +kernel)
theorem mlRX8_122 : Cond.methodLink RX8 122 yX1_at ∈ TB := tb_in (i := 482) (by decide +kernel) (by decide +kernel)
theorem im_yX1_at : Cond.instanceMethod yX1_at ∈ TB := tb_in (i := 483) (by decide +kernel) (by decide +kernel)
theorem mlRX8_125 : Cond.methodLink RX8 125 yX5_isUnderWay ∈ TB := tb_in (i := 486) (by decide +kernel) (by decide +kernel)
theorem mlRX8_130 : Cond.methodLink RX8 130 yX5_renew ∈ TB := tb_in (i := 487) (by decide +kernel) (by decide +kernel)
theorem im_yX5_renew : Cond.instanceMethod yX5_renew ∈ TB := tb_in (i := 488) (by decide +kernel) (by decide +kernel)
theorem mlRX5_44 : Cond.methodLink RX5 44 yX5_become ∈ TB := tb_in (i := 491) (by decide +kernel) (by decide +kernel)
theorem im_yX5_become : Cond.instanceMethod yX5_become ∈ TB := tb_in (i := 492) (by decide +kernel) (by decide +kernel)
theorem mlRL_49 : Cond.methodLink RL 49 yX8_set ∈ TB := tb_in (i := 495) (by decide +kernel) (by decide +kernel)
theorem im_yX8_set : Cond.instanceMethod yX8_set ∈ TB := tb_in (i := 496) (by decide +kernel) (by decide +kernel)
theorem mlRX8_137 : Cond.methodLink RX8 137 yX8_isSlot ∈ TB := tb_in (i := 499) (by decide +kernel) (by decide +kernel)
theorem im_yX8_isSlot : Cond.static yX8_isSlot ∈ TB := tb_in (i := 500) (by decide +kernel) (by decide +kernel)
theorem mlRX8_140 : Cond.methodLink RX8 140 yX5_keep ∈ TB := tb_in (i := 502) (by decide +kernel) (by decide +kernel)
theorem im_yX5_keep : Cond.instanceMethod yX5_keep ∈ TB := tb_in (i := 503) (by decide +kernel) (by decide +kernel)
theorem mnRX5_92 : Cond.methodLinkNest RX5 92 yX8_isSlot "MonitorTurns" ∈ lw_tbl := List.mem_of_getElem? (i := 506) (by decide +kernel)
theorem mlRL_53 : Cond.methodLink RL 53 yX8_give ∈ TB := tb_in (i := 507) (by decide +kernel) (by decide +kernel)
theorem im_yX8_give : Cond.instanceMethod yX8_give ∈ TB := tb_in (i := 508) (by decide +kernel) (by decide +kernel)
theorem mlRX8_144 : Cond.methodLink RX8 144 yX5_grasp ∈ TB := tb_in (i := 511) (by decide +kernel) (by decide +kernel)
theorem im_yX5_grasp : Cond.instanceMethod yX5_grasp ∈ TB := tb_in (i := 512) (by decide +kernel) (by decide +kernel)
theorem mlRL_57 : Cond.methodLink RL 57 yX8_start ∈ TB := tb_in (i := 515) (by decide +kernel) (by decide +kernel)
theorem im_yX8_start : Cond.instanceMethod yX8_start ∈ TB := tb_in (i := 516) (by decide +kernel) (by decide +kernel)
theorem mlRX8_147 : Cond.methodLink RX8 147 yX5_become ∈ TB := tb_in (i := 519) (by decide +kernel) (by decide +kernel)
theorem mlRL_61 : Cond.methodLink RL 61 yX8_broken ∈ TB := tb_in (i := 520) (by decide +kernel) (by decide +kernel)
theorem im_yX8_broken : Cond.instanceMethod yX8_broken ∈ TB := tb_in (i := 521) (by decide +kernel) (by decide +kernel)
theorem mlRX8_151 : Cond.methodLink RX8 151 yX1_interrupt ∈ TB := tb_in (i := 524) (by decide +kernel) (by decide +kernel)
theorem im_yX1_interrupt : Cond.instanceMethod yX1_interrupt ∈ TB := tb_in (i := 525) (by decide +kernel) (by decide +kernel)
theorem mlRX1_52 : Cond.methodLink RX1 52 yX4_at ∈ TB := tb_in (i := 528) (by decide +kernel) (by decide +kernel)
theorem mlRX1_61 : Cond.methodLink RX1 61 yX1_getIn ∈ TB := tb_in (i := 529) (by decide +kernel) (by decide +kernel)
theorem im_yX1_getIn : Cond.instanceMethod yX1_getIn ∈ TB := tb_in (i := 530) (by decide +kernel) (by decide +kernel)
theorem mlRX1_89 : Cond.methodLink RX1 89 yX7_letIn ∈ TB := tb_in (i := 533) (by decide +kernel) (by decide +kernel)
theorem im_yX7_letIn : Cond.instanceMethod yX7_letIn ∈ TB := tb_in (i := 534) (by decide +kernel) (by decide +kernel)
theorem mlRX1_65 : Cond.methodLink RX1 65 yX5_become ∈ TB := tb_in (i := 537) (by decide +kernel) (by decide +kernel)
theorem mlRX1_94 : Cond.methodLink RX1 94 yX1_stamp ∈ TB := tb_in (i := 538) (by decide +kernel) (by decide +kernel)
theorem im_yX1_stamp : Cond.instanceMethod yX1_stamp ∈ TB := tb_in (i := 540) (by decide +kernel) (by decide +kernel)
theorem mlRL_65 : Cond.methodLink RL 65 yX8_rule ∈ TB := tb_in (i := 542) (by decide +kernel) (by decide +kernel)
theorem im_yX8_rule : Cond.instanceMethod yX8_rule ∈ TB := tb_in (i := 543) (by decide +kernel) (by decide +kernel)
theorem mlRL_69 : Cond.methodLink RL 69 yX8_order ∈ TB := tb_in (i := 546) (by decide +kernel) (by decide +kernel)
theorem im_yX8_order : Cond.instanceMethod yX8_order ∈ TB := tb_in (i := 547) (by decide +kernel) (by decide +kernel)
theorem mlRL_73 : Cond.methodLink RL 73 yX8_turn ∈ TB := tb_in (i := 550) (by decide +kernel) (by decide +kernel)
theorem im_yX8_turn : Cond.instanceMethod yX8_turn ∈ TB := tb_in (i := 551) (by decide +kernel) (by decide +kernel)
theorem mlRX8_164 : Cond.methodLink RX8 164 yX1_isOver ∈ TB := tb_in (i := 554) (by decide +kernel) (by decide +kernel)
theorem im_yX1_isOver : Cond.instanceMethod yX1_isOver ∈ TB := tb_in (i := 555) (by decide +kernel) (by decide +kernel)
theorem mlRX1_39 : Cond.methodLink RX1 39 yX1_howManyUnderWay ∈ TB := tb_in (i := 558) (by decide +kernel) (by decide +kernel)
theorem im_yX1_howManyUnderWay : Cond.instanceMethod yX1_howManyUnderWay ∈ TB := tb_in (i := 559) (by decide +kernel) (by decide +kernel)
theorem mlRX8_167 : Cond.methodLink RX8 167 yX1_isStuck ∈ TB := tb_in (i := 562) (by decide +kernel) (by decide +kernel)
theorem im_yX1_isStuck : Cond.instanceMethod yX1_isStuck ∈ TB := tb_in (i := 563) (by decide +kernel) (by decide +kernel)
theorem mlRX1_46 : Cond.methodLink RX1 46 yX1_isOver ∈ TB := tb_in (i := 566) (by decide +kernel) (by decide +kernel)
theorem mlRX8_170 : Cond.methodLink RX8 170 yX8_takeTurn ∈ TB := tb_in (i := 567) (by decide +kernel) (by decide +kernel)
theorem im_yX8_takeTurn : Cond.instanceMethod yX8_takeTurn ∈ TB := tb_in (i := 569) (by decide +kernel) (by decide +kernel)
theorem mlRX8_229 : Cond.methodLink RX8 229 yX1_passTime ∈ TB := tb_in (i := 571) (by decide +kernel) (by decide +kernel)
theorem im_yX1_passTime : Cond.instanceMethod yX1_passTime ∈ TB := tb_in (i := 572) (by decide +kernel) (by decide +kernel)
theorem mlRX8_232 : Cond.methodLink RX8 232 yX1_firstReadyBehind ∈ TB := tb_in (i := 575) (by decide +kernel) (by decide +kernel)
theorem im_yX1_firstReadyBehind : Cond.instanceMethod yX1_firstReadyBehind ∈ TB := tb_in (i := 576) (by decide +kernel) (by decide +kernel)
theorem mlRX1_69 : Cond.methodLink RX1 69 yJ9_floorMod_7cf53 ∈ TB := tb_in (i := 579) (by decide +kernel) (by decide +kernel)
theorem im_yJ9_floorMod_7cf53 : Cond.static yJ9_floorMod_7cf53 ∈ TB := tb_in (i := 580) (by decide +kernel) (by decide +kernel)
theorem mlRX1_75 : Cond.methodLink RX1 75 yX1_at ∈ TB := tb_in (i := 582) (by decide +kernel) (by decide +kernel)
theorem mlRX8_235 : Cond.methodLink RX8 235 yX1_readyOfGreatestRank ∈ TB := tb_in (i := 583) (by decide +kernel) (by decide +kernel)
theorem im_yX1_readyOfGreatestRank : Cond.instanceMethod yX1_readyOfGreatestRank ∈ TB := tb_in (i := 584) (by decide +kernel) (by decide +kernel)
theorem mlRX8_240 : Cond.methodLink RX8 240 yX0_perform ∈ TB := tb_in (i := 587) (by decide +kernel) (by decide +kernel)
theorem im_yX0_perform : Cond.instanceMethod yX0_perform ∈ TB := tb_in (i := 588) (by decide +kernel) (by decide +kernel)
theorem mlRX0_29 : Cond.methodLink RX0 29 yX5_isAtEnd ∈ TB := tb_in (i := 591) (by decide +kernel) (by decide +kernel)
theorem im_yX5_isAtEnd : Cond.instanceMethod yX5_isAtEnd ∈ TB := tb_in (i := 592) (by decide +kernel) (by decide +kernel)
theorem mlRX0_37 : Cond.methodLink RX0 37 yX3_numberAt ∈ TB := tb_in (i := 595) (by decide +kernel) (by decide +kernel)
theorem im_yX3_numberAt : Cond.instanceMethod yX3_numberAt ∈ TB := tb_in (i := 596) (by decide +kernel) (by decide +kernel)
theorem mlRX0_47 : Cond.methodLink RX0 47 yX0_reckon ∈ TB := tb_in (i := 599) (by decide +kernel) (by decide +kernel)
theorem im_yX0_reckon : Cond.instanceMethod yX0_reckon ∈ TB := tb_in (i := 601) (by decide +kernel) (by decide +kernel)
theorem mlRX0_68 : Cond.methodLink RX0 68 yX5_keep ∈ TB := tb_in (i := 603) (by decide +kernel) (by decide +kernel)
theorem mlRX0_72 : Cond.methodLink RX0 72 yX5_kept ∈ TB := tb_in (i := 604) (by decide +kernel) (by decide +kernel)
theorem im_yX5_kept : Cond.instanceMethod yX5_kept ∈ TB := tb_in (i := 605) (by decide +kernel) (by decide +kernel)
theorem mlRX0_76 : Cond.methodLink RX0 76 yX0_divide ∈ TB := tb_in (i := 608) (by decide +kernel) (by decide +kernel)
theorem im_yX0_divide : Cond.instanceMethod yX0_divide ∈ TB := tb_in (i := 610) (by decide +kernel) (by decide +kernel)
theorem mlRX0_79 : Cond.methodLink RX0 79 yX5_jump ∈ TB := tb_in (i := 612) (by decide +kernel) (by decide +kernel)
theorem im_yX5_jump : Cond.instanceMethod yX5_jump ∈ TB := tb_in (i := 613) (by decide +kernel) (by decide +kernel)
theorem mlRX5_86 : Cond.methodLink RX5 86 yJ9_min_7cf53 ∈ TB := tb_in (i := 616) (by decide +kernel) (by decide +kernel)
theorem im_yJ9_min_7cf53 : Cond.static yJ9_min_7cf53 ∈ TB := tb_in (i := 617) (by decide +kernel) (by decide +kernel)
theorem mlRX0_51 : Cond.methodLink RX0 51 yX0_useThings ∈ TB := tb_in (i := 619) (by decide +kernel) (by decide +kernel)
theorem im_yX0_useThings : Cond.instanceMethod yX0_useThings ∈ TB := tb_in (i := 621) (by decide +kernel) (by decide +kernel)
theorem mlRX0_83 : Cond.methodLink RX0 83 yX0_holdNumber ∈ TB := tb_in (i := 623) (by decide +kernel) (by decide +kernel)
theorem im_yX0_holdNumber : Cond.instanceMethod yX0_holdNumber ∈ TB := tb_in (i := 625) (by decide +kernel) (by decide +kernel)
theorem mlRX0_113 : Cond.methodLink RX0 113 yX4_at ∈ TB := tb_in (i := 627) (by decide +kernel) (by decide +kernel)
theorem mlRX0_92 : Cond.methodLink RX0 92 yX5_grasp ∈ TB := tb_in (i := 628) (by decide +kernel) (by decide +kernel)
theorem mlRX0_86 : Cond.methodLink RX0 86 yX0_makeThing ∈ TB := tb_in (i := 629) (by decide +kernel) (by decide +kernel)
theorem im_yX0_makeThing : Cond.instanceMethod yX0_makeThing ∈ TB := tb_in (i := 631) (by decide +kernel) (by decide +kernel)
theorem mlRX0_119 : Cond.methodLink RX0 119 yX4_isFull ∈ TB := tb_in (i := 633) (by decide +kernel) (by decide +kernel)
theorem mlRX0_122 : Cond.methodLink RX0 122 yX4_make ∈ TB := tb_in (i := 634) (by decide +kernel) (by decide +kernel)
theorem mlRX0_89 : Cond.methodLink RX0 89 yX5_held ∈ TB := tb_in (i := 635) (by decide +kernel) (by decide +kernel)
theorem im_yX5_held : Cond.instanceMethod yX5_held ∈ TB := tb_in (i := 636) (by decide +kernel) (by decide +kernel)
theorem mlRX0_95 : Cond.methodLink RX0 95 yX0_inHand ∈ TB := tb_in (i := 639) (by decide +kernel) (by decide +kernel)
theorem im_yX0_inHand : Cond.instanceMethod yX0_inHand ∈ TB := tb_in (i := 641) (by decide +kernel) (by decide +kernel)
theorem mlRX0_99 : Cond.methodLink RX0 99 yX0_readCount ∈ TB := tb_in (i := 643) (by decide +kernel) (by decide +kernel)
theorem im_yX0_readCount : Cond.instanceMethod yX0_readCount ∈ TB := tb_in (i := 645) (by decide +kernel) (by decide +kernel)
theorem mlRX0_125 : Cond.methodLink RX0 125 yX7_isBox ∈ TB := tb_in (i := 647) (by decide +kernel) (by decide +kernel)
theorem im_yX7_isBox : Cond.instanceMethod yX7_isBox ∈ TB := tb_in (i := 648) (by decide +kernel) (by decide +kernel)
theorem mlRX0_103 : Cond.methodLink RX0 103 yX0_bump ∈ TB := tb_in (i := 651) (by decide +kernel) (by decide +kernel)
theorem im_yX0_bump : Cond.instanceMethod yX0_bump ∈ TB := tb_in (i := 653) (by decide +kernel) (by decide +kernel)
theorem mlRX0_107 : Cond.methodLink RX0 107 yX0_weighInto ∈ TB := tb_in (i := 655) (by decide +kernel) (by decide +kernel)
theorem im_yX0_weighInto : Cond.instanceMethod yX0_weighInto ∈ TB := tb_in (i := 657) (by decide +kernel) (by decide +kernel)
theorem mlRX0_133 : Cond.methodLink RX0 133 yX4_weightOf ∈ TB := tb_in (i := 659) (by decide +kernel) (by decide +kernel)
theorem mlRX0_110 : Cond.methodLink RX0 110 yX0_readMark ∈ TB := tb_in (i := 660) (by decide +kernel) (by decide +kernel)
theorem im_yX0_readMark : Cond.instanceMethod yX0_readMark ∈ TB := tb_in (i := 662) (by decide +kernel) (by decide +kernel)
theorem mlRX0_137 : Cond.methodLink RX0 137 yX7_isCrate ∈ TB := tb_in (i := 664) (by decide +kernel) (by decide +kernel)
theorem im_yX7_isCrate : Cond.instanceMethod yX7_isCrate ∈ TB := tb_in (i := 665) (by decide +kernel) (by decide +kernel)
theorem mlRX0_54 : Cond.methodLink RX0 54 yX0_useRows ∈ TB := tb_in (i := 668) (by decide +kernel) (by decide +kernel)
theorem im_yX0_useRows : Cond.instanceMethod yX0_useRows ∈ TB := tb_in (i := 670) (by decide +kernel) (by decide +kernel)
theorem mlRX0_140 : Cond.methodLink RX0 140 yX0_readSize ∈ TB := tb_in (i := 672) (by decide +kernel) (by decide +kernel)
theorem im_yX0_readSize : Cond.instanceMethod yX0_readSize ∈ TB := tb_in (i := 674) (by decide +kernel) (by decide +kernel)
theorem mlRX0_161 : Cond.methodLink RX0 161 yX7_isRow ∈ TB := tb_in (i := 676) (by decide +kernel) (by decide +kernel)
theorem mlRX0_143 : Cond.methodLink RX0 143 yX0_readNumber ∈ TB := tb_in (i := 677) (by decide +kernel) (by decide +kernel)
theorem im_yX0_readNumber : Cond.instanceMethod yX0_readNumber ∈ TB := tb_in (i := 679) (by decide +kernel) (by decide +kernel)
theorem mlRX0_168 : Cond.methodLink RX0 168 yX7_isRowOfNumbers ∈ TB := tb_in (i := 681) (by decide +kernel) (by decide +kernel)
theorem im_yX7_isRowOfNumbers : Cond.instanceMethod yX7_isRowOfNumbers ∈ TB := tb_in (i := 682) (by decide +kernel) (by decide +kernel)
theorem mlRX0_171 : Cond.methodLink RX0 171 yX7_hasPlace ∈ TB := tb_in (i := 685) (by decide +kernel) (by decide +kernel)
theorem mlRX0_147 : Cond.methodLink RX0 147 yX0_writeNumber ∈ TB := tb_in (i := 686) (by decide +kernel) (by decide +kernel)
theorem im_yX0_writeNumber : Cond.instanceMethod yX0_writeNumber ∈ TB := tb_in (i := 688) (by decide +kernel) (by decide +kernel)
theorem mlRX0_151 : Cond.methodLink RX0 151 yX0_takeThing ∈ TB := tb_in (i := 690) (by decide +kernel) (by decide +kernel)
theorem im_yX0_takeThing : Cond.instanceMethod yX0_takeThing ∈ TB := tb_in (i := 692) (by decide +kernel) (by decide +kernel)
theorem mlRX0_178 : Cond.methodLink RX0 178 yX7_isRowOfThings ∈ TB := tb_in (i := 694) (by decide +kernel) (by decide +kernel)
theorem mlRX0_154 : Cond.methodLink RX0 154 yX0_putThing ∈ TB := tb_in (i := 695) (by decide +kernel) (by decide +kernel)
theorem im_yX0_putThing : Cond.instanceMethod yX0_putThing ∈ TB := tb_in (i := 697) (by decide +kernel) (by decide +kernel)
theorem mlRX0_181 : Cond.methodLink RX0 181 yX4_fits ∈ TB := tb_in (i := 699) (by decide +kernel) (by decide +kernel)
theorem im_yX4_fits : Cond.instanceMethod yX4_fits ∈ TB := tb_in (i := 700) (by decide +kernel) (by decide +kernel)
theorem mlRX4_72 : Cond.methodLink RX4 72 yX4_at ∈ TB := tb_in (i := 703) (by decide +kernel) (by decide +kernel)
theorem mlRX4_76 : Cond.methodLink RX4 76 yX7_isBox ∈ TB := tb_in (i := 704) (by decide +kernel) (by decide +kernel)
theorem mlRX0_157 : Cond.methodLink RX0 157 yX0_copy ∈ TB := tb_in (i := 705) (by decide +kernel) (by decide +kernel)
theorem im_yX0_copy : Cond.instanceMethod yX0_copy ∈ TB := tb_in (i := 707) (by decide +kernel) (by decide +kernel)
theorem mlRX0_185 : Cond.methodLink RX0 185 yX7_takesFrom ∈ TB := tb_in (i := 709) (by decide +kernel) (by decide +kernel)
theorem im_yX7_takesFrom : Cond.instanceMethod yX7_takesFrom ∈ TB := tb_in (i := 710) (by decide +kernel) (by decide +kernel)
theorem mlRX0_57 : Cond.methodLink RX0 57 yX0_useMonitors ∈ TB := tb_in (i := 713) (by decide +kernel) (by decide +kernel)
theorem im_yX0_useMonitors : Cond.instanceMethod yX0_useMonitors ∈ TB := tb_in (i := 715) (by decide +kernel) (by decide +kernel)
theorem mlRX0_195 : Cond.methodLink RX0 195 yX0_enter ∈ TB := tb_in (i := 717) (by decide +kernel) (by decide +kernel)
theorem im_yX0_enter : Cond.instanceMethod yX0_enter ∈ TB := tb_in (i := 719) (by decide +kernel) (by decide +kernel)
theorem mlRX0_218 : Cond.methodLink RX0 218 yX1_getIn ∈ TB := tb_in (i := 721) (by decide +kernel) (by decide +kernel)
theorem mlRX0_199 : Cond.methodLink RX0 199 yX0_leave ∈ TB := tb_in (i := 722) (by decide +kernel) (by decide +kernel)
theorem im_yX0_leave : Cond.instanceMethod yX0_leave ∈ TB := tb_in (i := 724) (by decide +kernel) (by decide +kernel)
theorem mlRX0_222 : Cond.methodLink RX0 222 yX1_vacate ∈ TB := tb_in (i := 726) (by decide +kernel) (by decide +kernel)
theorem im_yX1_vacate : Cond.instanceMethod yX1_vacate ∈ TB := tb_in (i := 727) (by decide +kernel) (by decide +kernel)
theorem mlRX1_103 : Cond.methodLink RX1 103 yX1_next ∈ TB := tb_in (i := 730) (by decide +kernel) (by decide +kernel)
theorem im_yX1_next : Cond.instanceMethod yX1_next ∈ TB := tb_in (i := 732) (by decide +kernel) (by decide +kernel)
theorem mlRX0_202 : Cond.methodLink RX0 202 yX0_waitOn ∈ TB := tb_in (i := 734) (by decide +kernel) (by decide +kernel)
theorem im_yX0_waitOn : Cond.instanceMethod yX0_waitOn ∈ TB := tb_in (i := 736) (by decide +kernel) (by decide +kernel)
theorem mlRX0_225 : Cond.methodLink RX0 225 yX5_takeFlag ∈ TB := tb_in (i := 738) (by decide +kernel) (by decide +kernel)
theorem im_yX5_takeFlag : Cond.instanceMethod yX5_takeFlag ∈ TB := tb_in (i := 739) (by decide +kernel) (by decide +kernel)
theorem mlRX0_228 : Cond.methodLink RX0 228 yX1_timeAfter ∈ TB := tb_in (i := 742) (by decide +kernel) (by decide +kernel)
theorem im_yX1_timeAfter : Cond.instanceMethod yX1_timeAfter ∈ TB := tb_in (i := 743) (by decide +kernel) (by decide +kernel)
theorem coRX1_111 : Cond.constant RX1 111 (1000000) ∈ TB := tb_in (i := 746) (by decide +kernel) (by decide +kernel)
theorem mlRX1_112 : Cond.methodLink RX1 112 yJ9_min_7cf53 ∈ TB := tb_in (i := 747) (by decide +kernel) (by decide +kernel)
theorem mlRX0_231 : Cond.methodLink RX0 231 yX1_await ∈ TB := tb_in (i := 748) (by decide +kernel) (by decide +kernel)
theorem im_yX1_await : Cond.instanceMethod yX1_await ∈ TB := tb_in (i := 749) (by decide +kernel) (by decide +kernel)
theorem mlRX0_206 : Cond.methodLink RX0 206 yX1_tellNext ∈ TB := tb_in (i := 752) (by decide +kernel) (by decide +kernel)
theorem im_yX1_tellNext : Cond.instanceMethod yX1_tellNext ∈ TB := tb_in (i := 753) (by decide +kernel) (by decide +kernel)
theorem mlRX0_212 : Cond.methodLink RX0 212 yX1_tellEach ∈ TB := tb_in (i := 756) (by decide +kernel) (by decide +kernel)
theorem im_yX1_tellEach : Cond.instanceMethod yX1_tellEach ∈ TB := tb_in (i := 757) (by decide +kernel) (by decide +kernel)
theorem mlRX0_61 : Cond.methodLink RX0 61 yX0_useThreads ∈ TB := tb_in (i := 760) (by decide +kernel) (by decide +kernel)
theorem im_yX0_useThreads : Cond.instanceMethod yX0_useThreads ∈ TB := tb_in (i := 762) (by decide +kernel) (by decide +kernel)
theorem mlRX0_234 : Cond.methodLink RX0 234 yX0_sleep ∈ TB := tb_in (i := 764) (by decide +kernel) (by decide +kernel)
theorem im_yX0_sleep : Cond.instanceMethod yX0_sleep ∈ TB := tb_in (i := 766) (by decide +kernel) (by decide +kernel)
theorem mlRX0_253 : Cond.methodLink RX0 253 yX5_become ∈ TB := tb_in (i := 768) (by decide +kernel) (by decide +kernel)
theorem mlRX0_238 : Cond.methodLink RX0 238 yX1_at ∈ TB := tb_in (i := 769) (by decide +kernel) (by decide +kernel)
theorem mlRX0_241 : Cond.methodLink RX0 241 yX0_join ∈ TB := tb_in (i := 770) (by decide +kernel) (by decide +kernel)
theorem im_yX0_join : Cond.instanceMethod yX0_join ∈ TB := tb_in (i := 772) (by decide +kernel) (by decide +kernel)
theorem mlRX0_257 : Cond.methodLink RX0 257 yX5_isUnderWay ∈ TB := tb_in (i := 774) (by decide +kernel) (by decide +kernel)
theorem mlRX0_245 : Cond.methodLink RX0 245 yX0_startNew ∈ TB := tb_in (i := 775) (by decide +kernel) (by decide +kernel)
theorem im_yX0_startNew : Cond.instanceMethod yX0_startNew ∈ TB := tb_in (i := 777) (by decide +kernel) (by decide +kernel)
theorem mlRX0_249 : Cond.methodLink RX0 249 yX1_interrupt ∈ TB := tb_in (i := 779) (by decide +kernel) (by decide +kernel)
theorem mlRX0_65 : Cond.methodLink RX0 65 yX0_useHandlers ∈ TB := tb_in (i := 780) (by decide +kernel) (by decide +kernel)
theorem im_yX0_useHandlers : Cond.instanceMethod yX0_useHandlers ∈ TB := tb_in (i := 782) (by decide +kernel) (by decide +kernel)
theorem mlRX0_270 : Cond.methodLink RX0 270 yX2_push ∈ TB := tb_in (i := 784) (by decide +kernel) (by decide +kernel)
theorem im_yX2_push : Cond.instanceMethod yX2_push ∈ TB := tb_in (i := 785) (by decide +kernel) (by decide +kernel)
theorem mlRX0_279 : Cond.methodLink RX0 279 yJ9_max_7cf53 ∈ TB := tb_in (i := 788) (by decide +kernel) (by decide +kernel)
theorem im_yJ9_max_7cf53 : Cond.static yJ9_max_7cf53 ∈ TB := tb_in (i := 789) (by decide +kernel) (by decide +kernel)
theorem mlRX8_244 : Cond.methodLink RX8 244 yX6_note ∈ TB := tb_in (i := 791) (by decide +kernel) (by decide +kernel)
theorem im_yX6_note : Cond.instanceMethod yX6_note ∈ TB := tb_in (i := 792) (by decide +kernel) (by decide +kernel)
theorem mlRX6_28 : Cond.methodLink RX6 28 yJ9_floorMod_7cf53 ∈ TB := tb_in (i := 795) (by decide +kernel) (by decide +kernel)
theorem mlRX8_247 : Cond.methodLink RX8 247 yX8_fail ∈ TB := tb_in (i := 796) (by decide +kernel) (by decide +kernel)
theorem im_yX8_fail : Cond.instanceMethod yX8_fail ∈ TB := tb_in (i := 798) (by decide +kernel) (by decide +kernel)
theorem mlRX8_261 : Cond.methodLink RX8 261 yX2_latestFor ∈ TB := tb_in (i := 800) (by decide +kernel) (by decide +kernel)
theorem im_yX2_latestFor : Cond.instanceMethod yX2_latestFor ∈ TB := tb_in (i := 801) (by decide +kernel) (by decide +kernel)
theorem mlRX2_22 : Cond.methodLink RX2 22 yJ9_min_7cf53 ∈ TB := tb_in (i := 804) (by decide +kernel) (by decide +kernel)
theorem mlRX8_264 : Cond.methodLink RX8 264 yX6_countFailure ∈ TB := tb_in (i := 805) (by decide +kernel) (by decide +kernel)
theorem im_yX6_countFailure : Cond.instanceMethod yX6_countFailure ∈ TB := tb_in (i := 806) (by decide +kernel) (by decide +kernel)
theorem mlRX8_254 : Cond.methodLink RX8 254 yX1_end ∈ TB := tb_in (i := 809) (by decide +kernel) (by decide +kernel)
theorem im_yX1_end : Cond.instanceMethod yX1_end ∈ TB := tb_in (i := 810) (by decide +kernel) (by decide +kernel)
theorem mlRX1_131 : Cond.methodLink RX1 131 yX1_vacate ∈ TB := tb_in (i := 813) (by decide +kernel) (by decide +kernel)
theorem mlRX8_274 : Cond.methodLink RX8 274 yX2_placeOf ∈ TB := tb_in (i := 814) (by decide +kernel) (by decide +kernel)
theorem im_yX2_placeOf : Cond.instanceMethod yX2_placeOf ∈ TB := tb_in (i := 815) (by decide +kernel) (by decide +kernel)
theorem mlRX8_277 : Cond.methodLink RX8 277 yX5_jump ∈ TB := tb_in (i := 818) (by decide +kernel) (by decide +kernel)
theorem mlRX8_251 : Cond.methodLink RX8 251 yX5_isAtEnd ∈ TB := tb_in (i := 819) (by decide +kernel) (by decide +kernel)
theorem mlRL_78 : Cond.methodLink RL 78 yX8_run ∈ TB := tb_in (i := 820) (by decide +kernel) (by decide +kernel)
theorem im_yX8_run : Cond.instanceMethod yX8_run ∈ TB := tb_in (i := 821) (by decide +kernel) (by decide +kernel)
theorem mlRL_82 : Cond.methodLink RL 82 yX8_told ∈ TB := tb_in (i := 824) (by decide +kernel) (by decide +kernel)
theorem im_yX8_told : Cond.instanceMethod yX8_told ∈ TB := tb_in (i := 825) (by decide +kernel) (by decide +kernel)
theorem mlRL_86 : Cond.methodLink RL 86 yX8_register ∈ TB := tb_in (i := 828) (by decide +kernel) (by decide +kernel)
theorem im_yX8_register : Cond.instanceMethod yX8_register ∈ TB := tb_in (i := 829) (by decide +kernel) (by decide +kernel)
theorem mlRX8_203 : Cond.methodLink RX8 203 yX5_kept ∈ TB := tb_in (i := 832) (by decide +kernel) (by decide +kernel)
theorem mlRL_90 : Cond.methodLink RL 90 yX8_hand ∈ TB := tb_in (i := 833) (by decide +kernel) (by decide +kernel)
theorem im_yX8_hand : Cond.instanceMethod yX8_hand ∈ TB := tb_in (i := 834) (by decide +kernel) (by decide +kernel)
theorem mlRX8_206 : Cond.methodLink RX8 206 yX5_held ∈ TB := tb_in (i := 837) (by decide +kernel) (by decide +kernel)
theorem mlRL_94 : Cond.methodLink RL 94 yX8_ring ∈ TB := tb_in (i := 838) (by decide +kernel) (by decide +kernel)
theorem im_yX8_ring : Cond.instanceMethod yX8_ring ∈ TB := tb_in (i := 839) (by decide +kernel) (by decide +kernel)
theorem mlRX8_209 : Cond.methodLink RX8 209 yX1_inRing ∈ TB := tb_in (i := 842) (by decide +kernel) (by decide +kernel)
theorem im_yX1_inRing : Cond.instanceMethod yX1_inRing ∈ TB := tb_in (i := 843) (by decide +kernel) (by decide +kernel)
theorem mlRX1_135 : Cond.methodLink RX1 135 yX1_wayBackTo ∈ TB := tb_in (i := 846) (by decide +kernel) (by decide +kernel)
theorem im_yX1_wayBackTo : Cond.instanceMethod yX1_wayBackTo ∈ TB := tb_in (i := 848) (by decide +kernel) (by decide +kernel)
theorem mlRX1_139 : Cond.methodLink RX1 139 yX1_follow ∈ TB := tb_in (i := 850) (by decide +kernel) (by decide +kernel)
theorem im_yX1_follow : Cond.instanceMethod yX1_follow ∈ TB := tb_in (i := 852) (by decide +kernel) (by decide +kernel)
theorem mlRX1_142 : Cond.methodLink RX1 142 yX1_hangsOn ∈ TB := tb_in (i := 854) (by decide +kernel) (by decide +kernel)
theorem im_yX1_hangsOn : Cond.instanceMethod yX1_hangsOn ∈ TB := tb_in (i := 856) (by decide +kernel) (by decide +kernel)
theorem mlRL_98 : Cond.methodLink RL 98 yX8_log ∈ TB := tb_in (i := 858) (by decide +kernel) (by decide +kernel)
theorem im_yX8_log : Cond.instanceMethod yX8_log ∈ TB := tb_in (i := 859) (by decide +kernel) (by decide +kernel)
theorem mlRX8_212 : Cond.methodLink RX8 212 yX6_logged ∈ TB := tb_in (i := 862) (by decide +kernel) (by decide +kernel)
theorem im_yX6_logged : Cond.instanceMethod yX6_logged ∈ TB := tb_in (i := 863) (by decide +kernel) (by decide +kernel)
theorem mlRL_102 : Cond.methodLink RL 102 yX8_count ∈ TB := tb_in (i := 866) (by decide +kernel) (by decide +kernel)
theorem im_yX8_count : Cond.instanceMethod yX8_count ∈ TB := tb_in (i := 867) (by decide +kernel) (by decide +kernel)
theorem mlRX8_222 : Cond.methodLink RX8 222 yX1_howManyUnderWay ∈ TB := tb_in (i := 870) (by decide +kernel) (by decide +kernel)
theorem clRL_10 : Cond.classLink RL 10 RX9 ∈ TB := tb_in (i := 871) (by decide +kernel) (by decide +kernel)
theorem istRX9 : Cond.instantiable RX9 45 ∈ TB := tb_in (i := 872) (by decide +kernel) (by decide +kernel)
theorem mlRL_12 : Cond.methodLink RL 12 yX9_init ∈ TB := tb_in (i := 873) (by decide +kernel) (by decide +kernel)
theorem im_yX9_init : Cond.instanceMethod yX9_init ∈ TB := tb_in (i := 874) (by decide +kernel) (by decide +kernel)
theorem mlRX9_1 : Cond.methodLink RX9 1 objectInit ∈ TB := tb_in (i := 876) (by decide +kernel) (by decide +kernel)
theorem flRX9_111 : Cond.fieldLink RX9 111 "MonitorTurnsModel" "things" "I" ∈ TB := tb_in (i := 877) (by decide +kernel) (by decide +kernel)
theorem flRX9_7 : Cond.fieldLink RX9 7 "MonitorTurnsModel" "kinds" "[I" ∈ TB := tb_in (i := 878) (by decide +kernel) (by decide +kernel)
theorem flRX9_13 : Cond.fieldLink RX9 13 "MonitorTurnsModel" "counts" "[I" ∈ TB := tb_in (i := 879) (by decide +kernel) (by decide +kernel)
theorem flRX9_16 : Cond.fieldLink RX9 16 "MonitorTurnsModel" "sizes" "[I" ∈ TB := tb_in (i := 880) (by decide +kernel) (by decide +kernel)
theorem flRX9_19 : Cond.fieldLink RX9 19 "MonitorTurnsModel" "cells" "[I" ∈ TB := tb_in (i := 881) (by decide +kernel) (by decide +kernel)
theorem flRX9_22 : Cond.fieldLink RX9 22 "MonitorTurnsModel" "owner" "[I" ∈ TB := tb_in (i := 882) (by decide +kernel) (by decide +kernel)
theorem flRX9_25 : Cond.fieldLink RX9 25 "MonitorTurnsModel" "depth" "[I" ∈ TB := tb_in (i := 883) (by decide +kernel) (by decide +kernel)
theorem flRX9_28 : Cond.fieldLink RX9 28 "MonitorTurnsModel" "trace" "[I" ∈ TB := tb_in (i := 884) (by decide +kernel) (by decide +kernel)
theorem flRX9_132 : Cond.fieldLink RX9 132 "MonitorTurnsModel" "traced" "I" ∈ TB := tb_in (i := 885) (by decide +kernel) (by decide +kernel)
theorem flRX9_31 : Cond.fieldLink RX9 31 "MonitorTurnsModel" "acts" "[I" ∈ TB := tb_in (i := 886) (by decide +kernel) (by decide +kernel)
theorem flRX9_34 : Cond.fieldLink RX9 34 "MonitorTurnsModel" "many" "[I" ∈ TB := tb_in (i := 887) (by decide +kernel) (by decide +kernel)
theorem flRX9_37 : Cond.fieldLink RX9 37 "MonitorTurnsModel" "named" "[I" ∈ TB := tb_in (i := 888) (by decide +kernel) (by decide +kernel)
theorem flRX9_40 : Cond.fieldLink RX9 40 "MonitorTurnsModel" "state" "[I" ∈ TB := tb_in (i := 889) (by decide +kernel) (by decide +kernel)
theorem flRX9_43 : Cond.fieldLink RX9 43 "MonitorTurnsModel" "program" "[I" ∈ TB := tb_in (i := 890) (by decide +kernel) (by decide +kernel)
theorem flRX9_46 : Cond.fieldLink RX9 46 "MonitorTurnsModel" "rank" "[I" ∈ TB := tb_in (i := 891) (by decide +kernel) (by decide +kernel)
theorem flRX9_49 : Cond.fieldLink RX9 49 "MonitorTurnsModel" "place" "[I" ∈ TB := tb_in (i := 892) (by decide +kernel) (by decide +kernel)
theorem flRX9_52 : Cond.fieldLink RX9 52 "MonitorTurnsModel" "flag" "[Z" ∈ TB := tb_in (i := 893) (by decide +kernel) (by decide +kernel)
theorem flRX9_56 : Cond.fieldLink RX9 56 "MonitorTurnsModel" "isBroken" "[Z" ∈ TB := tb_in (i := 894) (by decide +kernel) (by decide +kernel)
theorem flRX9_59 : Cond.fieldLink RX9 59 "MonitorTurnsModel" "endKind" "[I" ∈ TB := tb_in (i := 895) (by decide +kernel) (by decide +kernel)
theorem flRX9_62 : Cond.fieldLink RX9 62 "MonitorTurnsModel" "endNumber" "[I" ∈ TB := tb_in (i := 896) (by decide +kernel) (by decide +kernel)
theorem flRX9_65 : Cond.fieldLink RX9 65 "MonitorTurnsModel" "about" "[I" ∈ TB := tb_in (i := 897) (by decide +kernel) (by decide +kernel)
theorem flRX9_68 : Cond.fieldLink RX9 68 "MonitorTurnsModel" "till" "[I" ∈ TB := tb_in (i := 898) (by decide +kernel) (by decide +kernel)
theorem flRX9_71 : Cond.fieldLink RX9 71 "MonitorTurnsModel" "want" "[I" ∈ TB := tb_in (i := 899) (by decide +kernel) (by decide +kernel)
theorem flRX9_74 : Cond.fieldLink RX9 74 "MonitorTurnsModel" "since" "[I" ∈ TB := tb_in (i := 900) (by decide +kernel) (by decide +kernel)
theorem flRX9_77 : Cond.fieldLink RX9 77 "MonitorTurnsModel" "done" "[I" ∈ TB := tb_in (i := 901) (by decide +kernel) (by decide +kernel)
theorem flRX9_80 : Cond.fieldLink RX9 80 "MonitorTurnsModel" "metKind" "[I" ∈ TB := tb_in (i := 902) (by decide +kernel) (by decide +kernel)
theorem flRX9_83 : Cond.fieldLink RX9 83 "MonitorTurnsModel" "metNumber" "[I" ∈ TB := tb_in (i := 903) (by decide +kernel) (by decide +kernel)
theorem flRX9_86 : Cond.fieldLink RX9 86 "MonitorTurnsModel" "handlers" "[I" ∈ TB := tb_in (i := 904) (by decide +kernel) (by decide +kernel)
theorem flRX9_89 : Cond.fieldLink RX9 89 "MonitorTurnsModel" "handlerPlace" "[I" ∈ TB := tb_in (i := 905) (by decide +kernel) (by decide +kernel)
theorem flRX9_92 : Cond.fieldLink RX9 92 "MonitorTurnsModel" "handlerBits" "[I" ∈ TB := tb_in (i := 906) (by decide +kernel) (by decide +kernel)
theorem flRX9_95 : Cond.fieldLink RX9 95 "MonitorTurnsModel" "registers" "[I" ∈ TB := tb_in (i := 907) (by decide +kernel) (by decide +kernel)
theorem flRX9_98 : Cond.fieldLink RX9 98 "MonitorTurnsModel" "hands" "[I" ∈ TB := tb_in (i := 908) (by decide +kernel) (by decide +kernel)
theorem flRX9_174 : Cond.fieldLink RX9 174 "MonitorTurnsModel" "time" "I" ∈ TB := tb_in (i := 909) (by decide +kernel) (by decide +kernel)
theorem flRX9_171 : Cond.fieldLink RX9 171 "MonitorTurnsModel" "rule" "I" ∈ TB := tb_in (i := 910) (by decide +kernel) (by decide +kernel)
theorem flRX9_162 : Cond.fieldLink RX9 162 "MonitorTurnsModel" "order" "I" ∈ TB := tb_in (i := 911) (by decide +kernel) (by decide +kernel)
theorem flRX9_101 : Cond.fieldLink RX9 101 "MonitorTurnsModel" "latest" "I" ∈ TB := tb_in (i := 912) (by decide +kernel) (by decide +kernel)
theorem flRX9_159 : Cond.fieldLink RX9 159 "MonitorTurnsModel" "begun" "I" ∈ TB := tb_in (i := 913) (by decide +kernel) (by decide +kernel)
theorem flRX9_184 : Cond.fieldLink RX9 184 "MonitorTurnsModel" "fault" "I" ∈ TB := tb_in (i := 914) (by decide +kernel) (by decide +kernel)
theorem flRX9_187 : Cond.fieldLink RX9 187 "MonitorTurnsModel" "faultNumber" "I" ∈ TB := tb_in (i := 915) (by decide +kernel) (by decide +kernel)
theorem flRX9_105 : Cond.fieldLink RX9 105 "MonitorTurnsModel" "faults" "[I" ∈ TB := tb_in (i := 916) (by decide +kernel) (by decide +kernel)
theorem flRX9_207 : Cond.fieldLink RX9 207 "MonitorTurnsModel" "faultMany" "I" ∈ TB := tb_in (i := 917) (by decide +kernel) (by decide +kernel)
theorem flRX9_210 : Cond.fieldLink RX9 210 "MonitorTurnsModel" "met" "I" ∈ TB := tb_in (i := 918) (by decide +kernel) (by decide +kernel)
theorem flRX9_194 : Cond.fieldLink RX9 194 "MonitorTurnsModel" "actMany" "I" ∈ TB := tb_in (i := 919) (by decide +kernel) (by decide +kernel)
theorem flRX9_204 : Cond.fieldLink RX9 204 "MonitorTurnsModel" "logged" "I" ∈ TB := tb_in (i := 920) (by decide +kernel) (by decide +kernel)
theorem flRX9_108 : Cond.fieldLink RX9 108 "MonitorTurnsModel" "log" "[I" ∈ TB := tb_in (i := 921) (by decide +kernel) (by decide +kernel)
theorem mlRL_17 : Cond.methodLink RL 17 yX9_thing ∈ TB := tb_in (i := 1014) (by decide +kernel) (by decide +kernel)
theorem im_yX9_thing : Cond.instanceMethod yX9_thing ∈ TB := tb_in (i := 1015) (by decide +kernel) (by decide +kernel)
theorem mlRX9_114 : Cond.methodLink RX9 114 yX9_in ∈ TB := tb_in (i := 1018) (by decide +kernel) (by decide +kernel)
theorem im_yX9_in : Cond.static yX9_in ∈ TB := tb_in (i := 1019) (by decide +kernel) (by decide +kernel)
theorem mlRX9_118 : Cond.methodLink RX9 118 yX9_make ∈ TB := tb_in (i := 1021) (by decide +kernel) (by decide +kernel)
theorem im_yX9_make : Cond.instanceMethod yX9_make ∈ TB := tb_in (i := 1023) (by decide +kernel) (by decide +kernel)
theorem mlRL_21 : Cond.methodLink RL 21 yX9_of ∈ TB := tb_in (i := 1025) (by decide +kernel) (by decide +kernel)
theorem im_yX9_of : Cond.instanceMethod yX9_of ∈ TB := tb_in (i := 1026) (by decide +kernel) (by decide +kernel)
theorem mlRX9_122 : Cond.methodLink RX9 122 yX9_isThing ∈ TB := tb_in (i := 1029) (by decide +kernel) (by decide +kernel)
theorem im_yX9_isThing : Cond.instanceMethod yX9_isThing ∈ TB := tb_in (i := 1031) (by decide +kernel) (by decide +kernel)
theorem mlRX9_126 : Cond.methodLink RX9 126 yX9_isBox ∈ TB := tb_in (i := 1033) (by decide +kernel) (by decide +kernel)
theorem im_yX9_isBox : Cond.instanceMethod yX9_isBox ∈ TB := tb_in (i := 1035) (by decide +kernel) (by decide +kernel)
theorem mlRX9_129 : Cond.methodLink RX9 129 yX9_howMany ∈ TB := tb_in (i := 1037) (by decide +kernel) (by decide +kernel)
theorem im_yX9_howMany : Cond.instanceMethod yX9_howMany ∈ TB := tb_in (i := 1039) (by decide +kernel) (by decide +kernel)
theorem mlRL_25 : Cond.methodLink RL 25 yX9_item ∈ TB := tb_in (i := 1041) (by decide +kernel) (by decide +kernel)
theorem im_yX9_item : Cond.instanceMethod yX9_item ∈ TB := tb_in (i := 1042) (by decide +kernel) (by decide +kernel)
theorem mlRL_30 : Cond.methodLink RL 30 yX9_weigh ∈ TB := tb_in (i := 1045) (by decide +kernel) (by decide +kernel)
theorem im_yX9_weigh : Cond.instanceMethod yX9_weigh ∈ TB := tb_in (i := 1046) (by decide +kernel) (by decide +kernel)
theorem mlRX9_139 : Cond.methodLink RX9 139 yX9_weighs ∈ TB := tb_in (i := 1049) (by decide +kernel) (by decide +kernel)
theorem im_yX9_weighs : Cond.instanceMethod yX9_weighs ∈ TB := tb_in (i := 1051) (by decide +kernel) (by decide +kernel)
theorem mlRX9_135 : Cond.methodLink RX9 135 yX9_leaves ∈ TB := tb_in (i := 1053) (by decide +kernel) (by decide +kernel)
theorem im_yX9_leaves : Cond.instanceMethod yX9_leaves ∈ TB := tb_in (i := 1055) (by decide +kernel) (by decide +kernel)
theorem mlRL_34 : Cond.methodLink RL 34 yX9_trace ∈ TB := tb_in (i := 1057) (by decide +kernel) (by decide +kernel)
theorem im_yX9_trace : Cond.instanceMethod yX9_trace ∈ TB := tb_in (i := 1058) (by decide +kernel) (by decide +kernel)
theorem mlRL_39 : Cond.methodLink RL 39 yX9_act ∈ TB := tb_in (i := 1061) (by decide +kernel) (by decide +kernel)
theorem im_yX9_act : Cond.instanceMethod yX9_act ∈ TB := tb_in (i := 1062) (by decide +kernel) (by decide +kernel)
theorem mlRX9_146 : Cond.methodLink RX9 146 yX9_isWell ∈ TB := tb_in (i := 1065) (by decide +kernel) (by decide +kernel)
theorem im_yX9_isWell : Cond.static yX9_isWell ∈ TB := tb_in (i := 1066) (by decide +kernel) (by decide +kernel)
theorem mlRX9_150 : Cond.methodLink RX9 150 yX9_isInUse ∈ TB := tb_in (i := 1068) (by decide +kernel) (by decide +kernel)
theorem im_yX9_isInUse : Cond.instanceMethod yX9_isInUse ∈ TB := tb_in (i := 1070) (by decide +kernel) (by decide +kernel)
theorem mlRX9_143 : Cond.methodLink RX9 143 yX9_isUnderWay ∈ TB := tb_in (i := 1072) (by decide +kernel) (by decide +kernel)
theorem im_yX9_isUnderWay : Cond.instanceMethod yX9_isUnderWay ∈ TB := tb_in (i := 1074) (by decide +kernel) (by decide +kernel)
theorem mlRL_43 : Cond.methodLink RL 43 yX9_wipe ∈ TB := tb_in (i := 1076) (by decide +kernel) (by decide +kernel)
theorem im_yX9_wipe : Cond.instanceMethod yX9_wipe ∈ TB := tb_in (i := 1077) (by decide +kernel) (by decide +kernel)
theorem mlRL_48 : Cond.methodLink RL 48 yX9_thread ∈ TB := tb_in (i := 1080) (by decide +kernel) (by decide +kernel)
theorem im_yX9_thread : Cond.instanceMethod yX9_thread ∈ TB := tb_in (i := 1081) (by decide +kernel) (by decide +kernel)
theorem mlRL_52 : Cond.methodLink RL 52 yX9_set ∈ TB := tb_in (i := 1084) (by decide +kernel) (by decide +kernel)
theorem im_yX9_set : Cond.instanceMethod yX9_set ∈ TB := tb_in (i := 1085) (by decide +kernel) (by decide +kernel)
theorem mlRX9_153 : Cond.methodLink RX9 153 yX9_isThread ∈ TB := tb_in (i := 1088) (by decide +kernel) (by decide +kernel)
theorem im_yX9_isThread : Cond.instanceMethod yX9_isThread ∈ TB := tb_in (i := 1090) (by decide +kernel) (by decide +kernel)
theorem mlRL_56 : Cond.methodLink RL 56 yX9_give ∈ TB := tb_in (i := 1092) (by decide +kernel) (by decide +kernel)
theorem im_yX9_give : Cond.instanceMethod yX9_give ∈ TB := tb_in (i := 1093) (by decide +kernel) (by decide +kernel)
theorem mlRL_60 : Cond.methodLink RL 60 yX9_start ∈ TB := tb_in (i := 1096) (by decide +kernel) (by decide +kernel)
theorem im_yX9_start : Cond.instanceMethod yX9_start ∈ TB := tb_in (i := 1097) (by decide +kernel) (by decide +kernel)
theorem mlRL_64 : Cond.methodLink RL 64 yX9_broken ∈ TB := tb_in (i := 1100) (by decide +kernel) (by decide +kernel)
theorem im_yX9_broken : Cond.instanceMethod yX9_broken ∈ TB := tb_in (i := 1101) (by decide +kernel) (by decide +kernel)
theorem mlRX9_156 : Cond.methodLink RX9 156 yX9_getIn ∈ TB := tb_in (i := 1104) (by decide +kernel) (by decide +kernel)
theorem im_yX9_getIn : Cond.instanceMethod yX9_getIn ∈ TB := tb_in (i := 1106) (by decide +kernel) (by decide +kernel)
theorem mlRL_68 : Cond.methodLink RL 68 yX9_rule ∈ TB := tb_in (i := 1108) (by decide +kernel) (by decide +kernel)
theorem im_yX9_rule : Cond.instanceMethod yX9_rule ∈ TB := tb_in (i := 1109) (by decide +kernel) (by decide +kernel)
theorem mlRL_72 : Cond.methodLink RL 72 yX9_order ∈ TB := tb_in (i := 1112) (by decide +kernel) (by decide +kernel)
theorem im_yX9_order : Cond.instanceMethod yX9_order ∈ TB := tb_in (i := 1113) (by decide +kernel) (by decide +kernel)
theorem mlRL_77 : Cond.methodLink RL 77 yX9_turn ∈ TB := tb_in (i := 1116) (by decide +kernel) (by decide +kernel)
theorem im_yX9_turn : Cond.instanceMethod yX9_turn ∈ TB := tb_in (i := 1117) (by decide +kernel) (by decide +kernel)
theorem mlRX9_216 : Cond.methodLink RX9 216 yX9_still ∈ TB := tb_in (i := 1120) (by decide +kernel) (by decide +kernel)
theorem im_yX9_still : Cond.instanceMethod yX9_still ∈ TB := tb_in (i := 1122) (by decide +kernel) (by decide +kernel)
theorem mlRX9_219 : Cond.methodLink RX9 219 yX9_goes ∈ TB := tb_in (i := 1124) (by decide +kernel) (by decide +kernel)
theorem im_yX9_goes : Cond.instanceMethod yX9_goes ∈ TB := tb_in (i := 1126) (by decide +kernel) (by decide +kernel)
theorem mlRX9_177 : Cond.methodLink RX9 177 yX9_isTold ∈ TB := tb_in (i := 1128) (by decide +kernel) (by decide +kernel)
theorem im_yX9_isTold : Cond.instanceMethod yX9_isTold ∈ TB := tb_in (i := 1130) (by decide +kernel) (by decide +kernel)
theorem mlRX9_180 : Cond.methodLink RX9 180 yX9_chosen ∈ TB := tb_in (i := 1132) (by decide +kernel) (by decide +kernel)
theorem im_yX9_chosen : Cond.instanceMethod yX9_chosen ∈ TB := tb_in (i := 1134) (by decide +kernel) (by decide +kernel)
theorem mlRX9_190 : Cond.methodLink RX9 190 yX9_ends ∈ TB := tb_in (i := 1136) (by decide +kernel) (by decide +kernel)
theorem im_yX9_ends : Cond.instanceMethod yX9_ends ∈ TB := tb_in (i := 1138) (by decide +kernel) (by decide +kernel)
theorem mlRX9_168 : Cond.methodLink RX9 168 yX9_isLeft ∈ TB := tb_in (i := 1140) (by decide +kernel) (by decide +kernel)
theorem im_yX9_isLeft : Cond.instanceMethod yX9_isLeft ∈ TB := tb_in (i := 1142) (by decide +kernel) (by decide +kernel)
theorem mlRX9_165 : Cond.methodLink RX9 165 yX9_next ∈ TB := tb_in (i := 1144) (by decide +kernel) (by decide +kernel)
theorem im_yX9_next : Cond.instanceMethod yX9_next ∈ TB := tb_in (i := 1146) (by decide +kernel) (by decide +kernel)
theorem mlRX9_197 : Cond.methodLink RX9 197 yX9_does ∈ TB := tb_in (i := 1148) (by decide +kernel) (by decide +kernel)
theorem im_yX9_does : Cond.instanceMethod yX9_does ∈ TB := tb_in (i := 1150) (by decide +kernel) (by decide +kernel)
theorem mlRX9_222 : Cond.methodLink RX9 222 yX9_numbers ∈ TB := tb_in (i := 1152) (by decide +kernel) (by decide +kernel)
theorem im_yX9_numbers : Cond.instanceMethod yX9_numbers ∈ TB := tb_in (i := 1154) (by decide +kernel) (by decide +kernel)
theorem mlRX9_245 : Cond.methodLink RX9 245 yX9_bad ∈ TB := tb_in (i := 1156) (by decide +kernel) (by decide +kernel)
theorem im_yX9_bad : Cond.instanceMethod yX9_bad ∈ TB := tb_in (i := 1158) (by decide +kernel) (by decide +kernel)
theorem mlRX9_213 : Cond.methodLink RX9 213 yX9_goesTo ∈ TB := tb_in (i := 1160) (by decide +kernel) (by decide +kernel)
theorem im_yX9_goesTo : Cond.instanceMethod yX9_goesTo ∈ TB := tb_in (i := 1162) (by decide +kernel) (by decide +kernel)
theorem mlRX9_226 : Cond.methodLink RX9 226 yX9_holds ∈ TB := tb_in (i := 1164) (by decide +kernel) (by decide +kernel)
theorem im_yX9_holds : Cond.instanceMethod yX9_holds ∈ TB := tb_in (i := 1166) (by decide +kernel) (by decide +kernel)
theorem mlRX9_229 : Cond.methodLink RX9 229 yX9_boxes ∈ TB := tb_in (i := 1168) (by decide +kernel) (by decide +kernel)
theorem im_yX9_boxes : Cond.instanceMethod yX9_boxes ∈ TB := tb_in (i := 1170) (by decide +kernel) (by decide +kernel)
theorem mlRX9_233 : Cond.methodLink RX9 233 yX9_rows ∈ TB := tb_in (i := 1172) (by decide +kernel) (by decide +kernel)
theorem im_yX9_rows : Cond.instanceMethod yX9_rows ∈ TB := tb_in (i := 1174) (by decide +kernel) (by decide +kernel)
theorem mlRX9_248 : Cond.methodLink RX9 248 yX9_copies ∈ TB := tb_in (i := 1176) (by decide +kernel) (by decide +kernel)
theorem im_yX9_copies : Cond.instanceMethod yX9_copies ∈ TB := tb_in (i := 1178) (by decide +kernel) (by decide +kernel)
theorem mlRX9_251 : Cond.methodLink RX9 251 yX9_fits ∈ TB := tb_in (i := 1180) (by decide +kernel) (by decide +kernel)
theorem im_yX9_fits : Cond.instanceMethod yX9_fits ∈ TB := tb_in (i := 1182) (by decide +kernel) (by decide +kernel)
theorem mlRX9_236 : Cond.methodLink RX9 236 yX9_enters ∈ TB := tb_in (i := 1184) (by decide +kernel) (by decide +kernel)
theorem im_yX9_enters : Cond.instanceMethod yX9_enters ∈ TB := tb_in (i := 1186) (by decide +kernel) (by decide +kernel)
theorem mlRX9_255 : Cond.methodLink RX9 255 yX9_waits ∈ TB := tb_in (i := 1188) (by decide +kernel) (by decide +kernel)
theorem im_yX9_waits : Cond.instanceMethod yX9_waits ∈ TB := tb_in (i := 1190) (by decide +kernel) (by decide +kernel)
theorem mlRX9_258 : Cond.methodLink RX9 258 yX9_later ∈ TB := tb_in (i := 1192) (by decide +kernel) (by decide +kernel)
theorem im_yX9_later : Cond.static yX9_later ∈ TB := tb_in (i := 1193) (by decide +kernel) (by decide +kernel)
theorem coRX9_254 : Cond.constant RX9 254 (1000000) ∈ TB := tb_in (i := 1195) (by decide +kernel) (by decide +kernel)
theorem mlRX9_239 : Cond.methodLink RX9 239 yX9_stops ∈ TB := tb_in (i := 1196) (by decide +kernel) (by decide +kernel)
theorem im_yX9_stops : Cond.instanceMethod yX9_stops ∈ TB := tb_in (i := 1198) (by decide +kernel) (by decide +kernel)
theorem mlRX9_261 : Cond.methodLink RX9 261 yX9_broken ∈ TB := tb_in (i := 1200) (by decide +kernel) (by decide +kernel)
theorem mlRX9_242 : Cond.methodLink RX9 242 yX9_rests ∈ TB := tb_in (i := 1201) (by decide +kernel) (by decide +kernel)
theorem im_yX9_rests : Cond.instanceMethod yX9_rests ∈ TB := tb_in (i := 1203) (by decide +kernel) (by decide +kernel)
theorem mlRX9_201 : Cond.methodLink RX9 201 yX9_fails ∈ TB := tb_in (i := 1205) (by decide +kernel) (by decide +kernel)
theorem im_yX9_fails : Cond.instanceMethod yX9_fails ∈ TB := tb_in (i := 1207) (by decide +kernel) (by decide +kernel)
theorem mlRL_81 : Cond.methodLink RL 81 yX9_run ∈ TB := tb_in (i := 1209) (by decide +kernel) (by decide +kernel)
theorem im_yX9_run : Cond.instanceMethod yX9_run ∈ TB := tb_in (i := 1210) (by decide +kernel) (by decide +kernel)
theorem mlRL_85 : Cond.methodLink RL 85 yX9_told ∈ TB := tb_in (i := 1213) (by decide +kernel) (by decide +kernel)
theorem im_yX9_told : Cond.instanceMethod yX9_told ∈ TB := tb_in (i := 1214) (by decide +kernel) (by decide +kernel)
theorem mlRL_89 : Cond.methodLink RL 89 yX9_register ∈ TB := tb_in (i := 1217) (by decide +kernel) (by decide +kernel)
theorem im_yX9_register : Cond.instanceMethod yX9_register ∈ TB := tb_in (i := 1218) (by decide +kernel) (by decide +kernel)
theorem mlRL_93 : Cond.methodLink RL 93 yX9_hand ∈ TB := tb_in (i := 1221) (by decide +kernel) (by decide +kernel)
theorem im_yX9_hand : Cond.instanceMethod yX9_hand ∈ TB := tb_in (i := 1222) (by decide +kernel) (by decide +kernel)
theorem mlRL_97 : Cond.methodLink RL 97 yX9_ring ∈ TB := tb_in (i := 1225) (by decide +kernel) (by decide +kernel)
theorem im_yX9_ring : Cond.instanceMethod yX9_ring ∈ TB := tb_in (i := 1226) (by decide +kernel) (by decide +kernel)
theorem mlRX9_264 : Cond.methodLink RX9 264 yX9_hangsOn ∈ TB := tb_in (i := 1229) (by decide +kernel) (by decide +kernel)
theorem im_yX9_hangsOn : Cond.instanceMethod yX9_hangsOn ∈ TB := tb_in (i := 1231) (by decide +kernel) (by decide +kernel)
theorem mlRL_101 : Cond.methodLink RL 101 yX9_log ∈ TB := tb_in (i := 1233) (by decide +kernel) (by decide +kernel)
theorem im_yX9_log : Cond.instanceMethod yX9_log ∈ TB := tb_in (i := 1234) (by decide +kernel) (by decide +kernel)
theorem mlRL_105 : Cond.methodLink RL 105 yX9_count ∈ TB := tb_in (i := 1237) (by decide +kernel) (by decide +kernel)
theorem im_yX9_count : Cond.instanceMethod yX9_count ∈ TB := tb_in (i := 1238) (by decide +kernel) (by decide +kernel)
theorem cd_yX8_init : Cond.code yX8_init cX8_init 2 none ∈ TB := tb_in (i := 83) (by decide +kernel) (by decide +kernel)
theorem cd_objectInit : Cond.code objectInit ⟨#[0xb1]⟩ 1 none ∈ TB := tb_in (i := 86) (by decide +kernel) (by decide +kernel)
theorem cd_yX4_init : Cond.code yX4_init cX4_init 1 none ∈ TB := tb_in (i := 91) (by decide +kernel) (by decide +kernel)
theorem cd_yX1_init : Cond.code yX1_init cX1_init 3 none ∈ TB := tb_in (i := 111) (by decide +kernel) (by decide +kernel)
theorem cd_yX5_init : Cond.code yX5_init cX5_init 2 none ∈ TB := tb_in (i := 118) (by decide +kernel) (by decide +kernel)
theorem cd_yX2_init : Cond.code yX2_init cX2_init 1 none ∈ TB := tb_in (i := 124) (by decide +kernel) (by decide +kernel)
theorem cd_yJ7_fill_53178 : Cond.code yJ7_fill_53178 cJ7_fill_53178 4 none ∈ TB := tb_in (i := 142) (by decide +kernel) (by decide +kernel)
theorem cd_yX0_init : Cond.code yX0_init cX0_init 3 none ∈ TB := tb_in (i := 258) (by decide +kernel) (by decide +kernel)
theorem cd_yX6_init : Cond.code yX6_init cX6_init 1 none ∈ TB := tb_in (i := 275) (by decide +kernel) (by decide +kernel)
theorem cd_yX3_init : Cond.code yX3_init cX3_init 1 none ∈ TB := tb_in (i := 301) (by decide +kernel) (by decide +kernel)
theorem cd_yX8_thing : Cond.code yX8_thing cX8_thing 4 (some .int) ∈ TB := tb_in (i := 337) (by decide +kernel) (by decide +kernel)
theorem cd_yX4_isFull : Cond.code yX4_isFull cX4_isFull 1 (some .boolean) ∈ TB := tb_in (i := 341) (by decide +kernel) (by decide +kernel)
theorem cd_yX4_make : Cond.code yX4_make cX4_make 4 (some .int) ∈ TB := tb_in (i := 345) (by decide +kernel) (by decide +kernel)
theorem cd_yX7_init : Cond.code yX7_init cX7_init 4 none ∈ TB := tb_in (i := 350) (by decide +kernel) (by decide +kernel)
theorem cd_yX7_isRowOfThings : Cond.code yX7_isRowOfThings cX7_isRowOfThings 1 (some .boolean) ∈ TB := tb_in (i := 391) (by decide +kernel) (by decide +kernel)
theorem cd_yX8_of : Cond.code yX8_of cX8_of 4 (some .int) ∈ TB := tb_in (i := 396) (by decide +kernel) (by decide +kernel)
theorem cd_yX4_at : Cond.code yX4_at cX4_at 2 (some (.object "MonitorTurns$Thing")) ∈ TB := tb_in (i := 400) (by decide +kernel) (by decide +kernel)
theorem cd_yX7_isRow : Cond.code yX7_isRow cX7_isRow 1 (some .boolean) ∈ TB := tb_in (i := 404) (by decide +kernel) (by decide +kernel)
theorem cd_yX1_howMany : Cond.code yX1_howMany cX1_howMany 8 (some .int) ∈ TB := tb_in (i := 408) (by decide +kernel) (by decide +kernel)
theorem cd_yX8_item : Cond.code yX8_item cX8_item 4 (some .int) ∈ TB := tb_in (i := 412) (by decide +kernel) (by decide +kernel)
theorem cd_yX7_hasPlace : Cond.code yX7_hasPlace cX7_hasPlace 2 (some .boolean) ∈ TB := tb_in (i := 416) (by decide +kernel) (by decide +kernel)
theorem cd_yX8_weigh : Cond.code yX8_weigh cX8_weigh 3 (some .int) ∈ TB := tb_in (i := 420) (by decide +kernel) (by decide +kernel)
theorem cd_yX4_weightOf : Cond.code yX4_weightOf cX4_weightOf 2 (some .int) ∈ TB := tb_in (i := 424) (by decide +kernel) (by decide +kernel)
theorem cd_yX8_trace : Cond.code yX8_trace cX8_trace 2 (some .int) ∈ TB := tb_in (i := 428) (by decide +kernel) (by decide +kernel)
theorem cd_yX4_bodyThatBegan : Cond.code yX4_bodyThatBegan cX4_bodyThatBegan 3 (some .int) ∈ TB := tb_in (i := 432) (by decide +kernel) (by decide +kernel)
theorem cd_yX4_bodiesOf : Cond.code yX4_bodiesOf cX4_bodiesOf 1 (some (.array .int)) ∈ TB := tb_in (i := 435) (by decide +kernel) (by decide +kernel)
theorem cd_yX8_act : Cond.code yX8_act cX8_act 7 (some .int) ∈ TB := tb_in (i := 449) (by decide +kernel) (by decide +kernel)
theorem cd_yX8_programAt : Cond.code yX8_programAt cX8_programAt 2 (some (.object "MonitorTurns$Program")) ∈ TB := tb_in (i := 453) (by decide +kernel) (by decide +kernel)
theorem cd_yX3_isWellNamed : Cond.code yX3_isWellNamed cX3_isWellNamed 4 (some .boolean) ∈ TB := tb_in (i := 456) (by decide +kernel) (by decide +kernel)
theorem cd_yX3_mayName : Cond.code yX3_mayName cX3_mayName 3 (some .boolean) ∈ TB := tb_in (i := 459) (by decide +kernel) (by decide +kernel)
theorem cd_yX1_isInUse : Cond.code yX1_isInUse cX1_isInUse 6 (some .boolean) ∈ TB := tb_in (i := 465) (by decide +kernel) (by decide +kernel)
theorem cd_yX5_isUnderWay : Cond.code yX5_isUnderWay cX5_isUnderWay 1 (some .boolean) ∈ TB := tb_in (i := 469) (by decide +kernel) (by decide +kernel)
theorem cd_yX3_append : Cond.code yX3_append cX3_append 6 none ∈ TB := tb_in (i := 473) (by decide +kernel) (by decide +kernel)
theorem cd_yX8_wipe : Cond.code yX8_wipe cX8_wipe 4 (some .int) ∈ TB := tb_in (i := 477) (by decide +kernel) (by decide +kernel)
theorem cd_yX8_thread : Cond.code yX8_thread cX8_thread 6 (some .int) ∈ TB := tb_in (i := 481) (by decide +kernel) (by decide +kernel)
theorem cd_yX1_at : Cond.code yX1_at cX1_at 2 (some (.object "MonitorTurns$Strand")) ∈ TB := tb_in (i := 485) (by decide +kernel) (by decide +kernel)
theorem cd_yX5_renew : Cond.code yX5_renew cX5_renew 3 none ∈ TB := tb_in (i := 490) (by decide +kernel) (by decide +kernel)
theorem cd_yX5_become : Cond.code yX5_become cX5_become 4 none ∈ TB := tb_in (i := 494) (by decide +kernel) (by decide +kernel)
theorem cd_yX8_set : Cond.code yX8_set cX8_set 5 (some .int) ∈ TB := tb_in (i := 498) (by decide +kernel) (by decide +kernel)
theorem cd_yX8_isSlot : Cond.code yX8_isSlot cX8_isSlot 1 (some .boolean) ∈ TB := tb_in (i := 501) (by decide +kernel) (by decide +kernel)
theorem cd_yX5_keep : Cond.code yX5_keep cX5_keep 3 none ∈ TB := tb_in (i := 505) (by decide +kernel) (by decide +kernel)
theorem cd_yX8_give : Cond.code yX8_give cX8_give 5 (some .int) ∈ TB := tb_in (i := 510) (by decide +kernel) (by decide +kernel)
theorem cd_yX5_grasp : Cond.code yX5_grasp cX5_grasp 3 none ∈ TB := tb_in (i := 514) (by decide +kernel) (by decide +kernel)
theorem cd_yX8_start : Cond.code yX8_start cX8_start 3 (some .int) ∈ TB := tb_in (i := 518) (by decide +kernel) (by decide +kernel)
theorem cd_yX8_broken : Cond.code yX8_broken cX8_broken 3 (some .int) ∈ TB := tb_in (i := 523) (by decide +kernel) (by decide +kernel)
theorem cd_yX1_interrupt : Cond.code yX1_interrupt cX1_interrupt 2 none ∈ TB := tb_in (i := 527) (by decide +kernel) (by decide +kernel)
theorem cd_yX1_getIn : Cond.code yX1_getIn cX1_getIn 4 none ∈ TB := tb_in (i := 532) (by decide +kernel) (by decide +kernel)
theorem cd_yX7_letIn : Cond.code yX7_letIn cX7_letIn 3 none ∈ TB := tb_in (i := 536) (by decide +kernel) (by decide +kernel)
theorem cd_yX1_stamp : Cond.code yX1_stamp cX1_stamp 2 none ∈ TB := tb_in (i := 541) (by decide +kernel) (by decide +kernel)
theorem cd_yX8_rule : Cond.code yX8_rule cX8_rule 3 (some .int) ∈ TB := tb_in (i := 545) (by decide +kernel) (by decide +kernel)
theorem cd_yX8_order : Cond.code yX8_order cX8_order 3 (some .int) ∈ TB := tb_in (i := 549) (by decide +kernel) (by decide +kernel)
theorem cd_yX8_turn : Cond.code yX8_turn cX8_turn 1 (some .int) ∈ TB := tb_in (i := 553) (by decide +kernel) (by decide +kernel)
theorem cd_yX1_isOver : Cond.code yX1_isOver cX1_isOver 1 (some .boolean) ∈ TB := tb_in (i := 557) (by decide +kernel) (by decide +kernel)
theorem cd_yX1_howManyUnderWay : Cond.code yX1_howManyUnderWay cX1_howManyUnderWay 6 (some .int) ∈ TB := tb_in (i := 561) (by decide +kernel) (by decide +kernel)
theorem cd_yX1_isStuck : Cond.code yX1_isStuck cX1_isStuck 5 (some .boolean) ∈ TB := tb_in (i := 565) (by decide +kernel) (by decide +kernel)
theorem cd_yX8_takeTurn : Cond.code yX8_takeTurn cX8_takeTurn 4 (some .int) ∈ TB := tb_in (i := 570) (by decide +kernel) (by decide +kernel)
theorem cd_yX1_passTime : Cond.code yX1_passTime cX1_passTime 5 none ∈ TB := tb_in (i := 574) (by decide +kernel) (by decide +kernel)
theorem cd_yX1_firstReadyBehind : Cond.code yX1_firstReadyBehind cX1_firstReadyBehind 4 (some (.object "MonitorTurns$Strand")) ∈ TB := tb_in (i := 578) (by decide +kernel) (by decide +kernel)
theorem cd_yJ9_floorMod_7cf53 : Cond.code yJ9_floorMod_7cf53 cJ9_floorMod_7cf53 3 (some .int) ∈ TB := tb_in (i := 581) (by decide +kernel) (by decide +kernel)
theorem cd_yX1_readyOfGreatestRank : Cond.code yX1_readyOfGreatestRank cX1_readyOfGreatestRank 6 (some (.object "MonitorTurns$Strand")) ∈ TB := tb_in (i := 586) (by decide +kernel) (by decide +kernel)
theorem cd_yX0_perform : Cond.code yX0_perform cX0_perform 7 (some .int) ∈ TB := tb_in (i := 590) (by decide +kernel) (by decide +kernel)
theorem cd_yX5_isAtEnd : Cond.code yX5_isAtEnd cX5_isAtEnd 1 (some .boolean) ∈ TB := tb_in (i := 594) (by decide +kernel) (by decide +kernel)
theorem cd_yX3_numberAt : Cond.code yX3_numberAt cX3_numberAt 4 (some .int) ∈ TB := tb_in (i := 598) (by decide +kernel) (by decide +kernel)
theorem cd_yX0_reckon : Cond.code yX0_reckon cX0_reckon 6 (some .int) ∈ TB := tb_in (i := 602) (by decide +kernel) (by decide +kernel)
theorem cd_yX5_kept : Cond.code yX5_kept cX5_kept 2 (some .int) ∈ TB := tb_in (i := 607) (by decide +kernel) (by decide +kernel)
theorem cd_yX0_divide : Cond.code yX0_divide cX0_divide 4 (some .int) ∈ TB := tb_in (i := 611) (by decide +kernel) (by decide +kernel)
theorem cd_yX5_jump : Cond.code yX5_jump cX5_jump 2 none ∈ TB := tb_in (i := 615) (by decide +kernel) (by decide +kernel)
theorem cd_yJ9_min_7cf53 : Cond.code yJ9_min_7cf53 cJ9_min_7cf53 2 (some .int) ∈ TB := tb_in (i := 618) (by decide +kernel) (by decide +kernel)
theorem cd_yX0_useThings : Cond.code yX0_useThings cX0_useThings 6 (some .int) ∈ TB := tb_in (i := 622) (by decide +kernel) (by decide +kernel)
theorem cd_yX0_holdNumber : Cond.code yX0_holdNumber cX0_holdNumber 4 (some .int) ∈ TB := tb_in (i := 626) (by decide +kernel) (by decide +kernel)
theorem cd_yX0_makeThing : Cond.code yX0_makeThing cX0_makeThing 6 (some .int) ∈ TB := tb_in (i := 632) (by decide +kernel) (by decide +kernel)
theorem cd_yX5_held : Cond.code yX5_held cX5_held 2 (some .int) ∈ TB := tb_in (i := 638) (by decide +kernel) (by decide +kernel)
theorem cd_yX0_inHand : Cond.code yX0_inHand cX0_inHand 3 (some (.object "MonitorTurns$Thing")) ∈ TB := tb_in (i := 642) (by decide +kernel) (by decide +kernel)
theorem cd_yX0_readCount : Cond.code yX0_readCount cX0_readCount 4 (some .int) ∈ TB := tb_in (i := 646) (by decide +kernel) (by decide +kernel)
theorem cd_yX7_isBox : Cond.code yX7_isBox cX7_isBox 1 (some .boolean) ∈ TB := tb_in (i := 650) (by decide +kernel) (by decide +kernel)
theorem cd_yX0_bump : Cond.code yX0_bump cX0_bump 3 (some .int) ∈ TB := tb_in (i := 654) (by decide +kernel) (by decide +kernel)
theorem cd_yX0_weighInto : Cond.code yX0_weighInto cX0_weighInto 4 (some .int) ∈ TB := tb_in (i := 658) (by decide +kernel) (by decide +kernel)
theorem cd_yX0_readMark : Cond.code yX0_readMark cX0_readMark 4 (some .int) ∈ TB := tb_in (i := 663) (by decide +kernel) (by decide +kernel)
theorem cd_yX7_isCrate : Cond.code yX7_isCrate cX7_isCrate 1 (some .boolean) ∈ TB := tb_in (i := 667) (by decide +kernel) (by decide +kernel)
theorem cd_yX0_useRows : Cond.code yX0_useRows cX0_useRows 6 (some .int) ∈ TB := tb_in (i := 671) (by decide +kernel) (by decide +kernel)
theorem cd_yX0_readSize : Cond.code yX0_readSize cX0_readSize 4 (some .int) ∈ TB := tb_in (i := 675) (by decide +kernel) (by decide +kernel)
theorem cd_yX0_readNumber : Cond.code yX0_readNumber cX0_readNumber 5 (some .int) ∈ TB := tb_in (i := 680) (by decide +kernel) (by decide +kernel)
theorem cd_yX7_isRowOfNumbers : Cond.code yX7_isRowOfNumbers cX7_isRowOfNumbers 1 (some .boolean) ∈ TB := tb_in (i := 684) (by decide +kernel) (by decide +kernel)
theorem cd_yX0_writeNumber : Cond.code yX0_writeNumber cX0_writeNumber 4 (some .int) ∈ TB := tb_in (i := 689) (by decide +kernel) (by decide +kernel)
theorem cd_yX0_takeThing : Cond.code yX0_takeThing cX0_takeThing 5 (some .int) ∈ TB := tb_in (i := 693) (by decide +kernel) (by decide +kernel)
theorem cd_yX0_putThing : Cond.code yX0_putThing cX0_putThing 4 (some .int) ∈ TB := tb_in (i := 698) (by decide +kernel) (by decide +kernel)
theorem cd_yX4_fits : Cond.code yX4_fits cX4_fits 4 (some .boolean) ∈ TB := tb_in (i := 702) (by decide +kernel) (by decide +kernel)
theorem cd_yX0_copy : Cond.code yX0_copy cX0_copy 7 (some .int) ∈ TB := tb_in (i := 708) (by decide +kernel) (by decide +kernel)
theorem cd_yX7_takesFrom : Cond.code yX7_takesFrom cX7_takesFrom 2 (some .boolean) ∈ TB := tb_in (i := 712) (by decide +kernel) (by decide +kernel)
theorem cd_yX0_useMonitors : Cond.code yX0_useMonitors cX0_useMonitors 7 (some .int) ∈ TB := tb_in (i := 716) (by decide +kernel) (by decide +kernel)
theorem cd_yX0_enter : Cond.code yX0_enter cX0_enter 4 (some .int) ∈ TB := tb_in (i := 720) (by decide +kernel) (by decide +kernel)
theorem cd_yX0_leave : Cond.code yX0_leave cX0_leave 2 (some .int) ∈ TB := tb_in (i := 725) (by decide +kernel) (by decide +kernel)
theorem cd_yX1_vacate : Cond.code yX1_vacate cX1_vacate 3 none ∈ TB := tb_in (i := 729) (by decide +kernel) (by decide +kernel)
theorem cd_yX1_next : Cond.code yX1_next cX1_next 9 (some (.object "MonitorTurns$Strand")) ∈ TB := tb_in (i := 733) (by decide +kernel) (by decide +kernel)
theorem cd_yX0_waitOn : Cond.code yX0_waitOn cX0_waitOn 4 (some .int) ∈ TB := tb_in (i := 737) (by decide +kernel) (by decide +kernel)
theorem cd_yX5_takeFlag : Cond.code yX5_takeFlag cX5_takeFlag 2 (some .boolean) ∈ TB := tb_in (i := 741) (by decide +kernel) (by decide +kernel)
theorem cd_yX1_timeAfter : Cond.code yX1_timeAfter cX1_timeAfter 2 (some .int) ∈ TB := tb_in (i := 745) (by decide +kernel) (by decide +kernel)
theorem cd_yX1_await : Cond.code yX1_await cX1_await 4 none ∈ TB := tb_in (i := 751) (by decide +kernel) (by decide +kernel)
theorem cd_yX1_tellNext : Cond.code yX1_tellNext cX1_tellNext 3 none ∈ TB := tb_in (i := 755) (by decide +kernel) (by decide +kernel)
theorem cd_yX1_tellEach : Cond.code yX1_tellEach cX1_tellEach 6 none ∈ TB := tb_in (i := 759) (by decide +kernel) (by decide +kernel)
theorem cd_yX0_useThreads : Cond.code yX0_useThreads cX0_useThreads 6 (some .int) ∈ TB := tb_in (i := 763) (by decide +kernel) (by decide +kernel)
theorem cd_yX0_sleep : Cond.code yX0_sleep cX0_sleep 3 (some .int) ∈ TB := tb_in (i := 767) (by decide +kernel) (by decide +kernel)
theorem cd_yX0_join : Cond.code yX0_join cX0_join 3 (some .int) ∈ TB := tb_in (i := 773) (by decide +kernel) (by decide +kernel)
theorem cd_yX0_startNew : Cond.code yX0_startNew cX0_startNew 2 (some .int) ∈ TB := tb_in (i := 778) (by decide +kernel) (by decide +kernel)
theorem cd_yX0_useHandlers : Cond.code yX0_useHandlers cX0_useHandlers 5 (some .int) ∈ TB := tb_in (i := 783) (by decide +kernel) (by decide +kernel)
theorem cd_yX2_push : Cond.code yX2_push cX2_push 3 (some .boolean) ∈ TB := tb_in (i := 787) (by decide +kernel) (by decide +kernel)
theorem cd_yJ9_max_7cf53 : Cond.code yJ9_max_7cf53 cJ9_max_7cf53 2 (some .int) ∈ TB := tb_in (i := 790) (by decide +kernel) (by decide +kernel)
theorem cd_yX6_note : Cond.code yX6_note cX6_note 5 none ∈ TB := tb_in (i := 794) (by decide +kernel) (by decide +kernel)
theorem cd_yX8_fail : Cond.code yX8_fail cX8_fail 5 none ∈ TB := tb_in (i := 799) (by decide +kernel) (by decide +kernel)
theorem cd_yX2_latestFor : Cond.code yX2_latestFor cX2_latestFor 3 (some .int) ∈ TB := tb_in (i := 803) (by decide +kernel) (by decide +kernel)
theorem cd_yX6_countFailure : Cond.code yX6_countFailure cX6_countFailure 3 none ∈ TB := tb_in (i := 808) (by decide +kernel) (by decide +kernel)
theorem cd_yX1_end : Cond.code yX1_end cX1_end 8 none ∈ TB := tb_in (i := 812) (by decide +kernel) (by decide +kernel)
theorem cd_yX2_placeOf : Cond.code yX2_placeOf cX2_placeOf 2 (some .int) ∈ TB := tb_in (i := 817) (by decide +kernel) (by decide +kernel)
theorem cd_yX8_run : Cond.code yX8_run cX8_run 3 (some .int) ∈ TB := tb_in (i := 823) (by decide +kernel) (by decide +kernel)
theorem cd_yX8_told : Cond.code yX8_told cX8_told 4 (some .int) ∈ TB := tb_in (i := 827) (by decide +kernel) (by decide +kernel)
theorem cd_yX8_register : Cond.code yX8_register cX8_register 4 (some .int) ∈ TB := tb_in (i := 831) (by decide +kernel) (by decide +kernel)
theorem cd_yX8_hand : Cond.code yX8_hand cX8_hand 4 (some .int) ∈ TB := tb_in (i := 836) (by decide +kernel) (by decide +kernel)
theorem cd_yX8_ring : Cond.code yX8_ring cX8_ring 2 (some .int) ∈ TB := tb_in (i := 841) (by decide +kernel) (by decide +kernel)
theorem cd_yX1_inRing : Cond.code yX1_inRing cX1_inRing 4 (some .int) ∈ TB := tb_in (i := 845) (by decide +kernel) (by decide +kernel)
theorem cd_yX1_wayBackTo : Cond.code yX1_wayBackTo cX1_wayBackTo 3 (some .int) ∈ TB := tb_in (i := 849) (by decide +kernel) (by decide +kernel)
theorem cd_yX1_follow : Cond.code yX1_follow cX1_follow 5 (some .int) ∈ TB := tb_in (i := 853) (by decide +kernel) (by decide +kernel)
theorem cd_yX1_hangsOn : Cond.code yX1_hangsOn cX1_hangsOn 4 (some .int) ∈ TB := tb_in (i := 857) (by decide +kernel) (by decide +kernel)
theorem cd_yX8_log : Cond.code yX8_log cX8_log 3 (some .int) ∈ TB := tb_in (i := 861) (by decide +kernel) (by decide +kernel)
theorem cd_yX6_logged : Cond.code yX6_logged cX6_logged 3 (some .int) ∈ TB := tb_in (i := 865) (by decide +kernel) (by decide +kernel)
theorem cd_yX8_count : Cond.code yX8_count cX8_count 2 (some .int) ∈ TB := tb_in (i := 869) (by decide +kernel) (by decide +kernel)
theorem cd_yX9_init : Cond.code yX9_init cX9_init 1 none ∈ TB := tb_in (i := 875) (by decide +kernel) (by decide +kernel)
theorem cd_yX9_thing : Cond.code yX9_thing cX9_thing 3 (some .int) ∈ TB := tb_in (i := 1017) (by decide +kernel) (by decide +kernel)
theorem cd_yX9_in : Cond.code yX9_in cX9_in 3 (some .boolean) ∈ TB := tb_in (i := 1020) (by decide +kernel) (by decide +kernel)
theorem cd_yX9_make : Cond.code yX9_make cX9_make 5 (some .int) ∈ TB := tb_in (i := 1024) (by decide +kernel) (by decide +kernel)
theorem cd_yX9_of : Cond.code yX9_of cX9_of 3 (some .int) ∈ TB := tb_in (i := 1028) (by decide +kernel) (by decide +kernel)
theorem cd_yX9_isThing : Cond.code yX9_isThing cX9_isThing 2 (some .boolean) ∈ TB := tb_in (i := 1032) (by decide +kernel) (by decide +kernel)
theorem cd_yX9_isBox : Cond.code yX9_isBox cX9_isBox 2 (some .boolean) ∈ TB := tb_in (i := 1036) (by decide +kernel) (by decide +kernel)
theorem cd_yX9_howMany : Cond.code yX9_howMany cX9_howMany 5 (some .int) ∈ TB := tb_in (i := 1040) (by decide +kernel) (by decide +kernel)
theorem cd_yX9_item : Cond.code yX9_item cX9_item 3 (some .int) ∈ TB := tb_in (i := 1044) (by decide +kernel) (by decide +kernel)
theorem cd_yX9_weigh : Cond.code yX9_weigh cX9_weigh 2 (some .int) ∈ TB := tb_in (i := 1048) (by decide +kernel) (by decide +kernel)
theorem cd_yX9_weighs : Cond.code yX9_weighs cX9_weighs 5 (some .int) ∈ TB := tb_in (i := 1052) (by decide +kernel) (by decide +kernel)
theorem cd_yX9_leaves : Cond.code yX9_leaves cX9_leaves 2 none ∈ TB := tb_in (i := 1056) (by decide +kernel) (by decide +kernel)
theorem cd_yX9_trace : Cond.code yX9_trace cX9_trace 2 (some .int) ∈ TB := tb_in (i := 1060) (by decide +kernel) (by decide +kernel)
theorem cd_yX9_act : Cond.code yX9_act cX9_act 7 (some .int) ∈ TB := tb_in (i := 1064) (by decide +kernel) (by decide +kernel)
theorem cd_yX9_isWell : Cond.code yX9_isWell cX9_isWell 2 (some .boolean) ∈ TB := tb_in (i := 1067) (by decide +kernel) (by decide +kernel)
theorem cd_yX9_isInUse : Cond.code yX9_isInUse cX9_isInUse 4 (some .boolean) ∈ TB := tb_in (i := 1071) (by decide +kernel) (by decide +kernel)
theorem cd_yX9_isUnderWay : Cond.code yX9_isUnderWay cX9_isUnderWay 2 (some .boolean) ∈ TB := tb_in (i := 1075) (by decide +kernel) (by decide +kernel)
theorem cd_yX9_wipe : Cond.code yX9_wipe cX9_wipe 3 (some .int) ∈ TB := tb_in (i := 1079) (by decide +kernel) (by decide +kernel)
theorem cd_yX9_thread : Cond.code yX9_thread cX9_thread 5 (some .int) ∈ TB := tb_in (i := 1083) (by decide +kernel) (by decide +kernel)
theorem cd_yX9_set : Cond.code yX9_set cX9_set 4 (some .int) ∈ TB := tb_in (i := 1087) (by decide +kernel) (by decide +kernel)
theorem cd_yX9_isThread : Cond.code yX9_isThread cX9_isThread 2 (some .boolean) ∈ TB := tb_in (i := 1091) (by decide +kernel) (by decide +kernel)
theorem cd_yX9_give : Cond.code yX9_give cX9_give 4 (some .int) ∈ TB := tb_in (i := 1095) (by decide +kernel) (by decide +kernel)
theorem cd_yX9_start : Cond.code yX9_start cX9_start 2 (some .int) ∈ TB := tb_in (i := 1099) (by decide +kernel) (by decide +kernel)
theorem cd_yX9_broken : Cond.code yX9_broken cX9_broken 2 (some .int) ∈ TB := tb_in (i := 1103) (by decide +kernel) (by decide +kernel)
theorem cd_yX9_getIn : Cond.code yX9_getIn cX9_getIn 3 none ∈ TB := tb_in (i := 1107) (by decide +kernel) (by decide +kernel)
theorem cd_yX9_rule : Cond.code yX9_rule cX9_rule 3 (some .int) ∈ TB := tb_in (i := 1111) (by decide +kernel) (by decide +kernel)
theorem cd_yX9_order : Cond.code yX9_order cX9_order 3 (some .int) ∈ TB := tb_in (i := 1115) (by decide +kernel) (by decide +kernel)
theorem cd_yX9_turn : Cond.code yX9_turn cX9_turn 2 (some .int) ∈ TB := tb_in (i := 1119) (by decide +kernel) (by decide +kernel)
theorem cd_yX9_still : Cond.code yX9_still cX9_still 4 (some .int) ∈ TB := tb_in (i := 1123) (by decide +kernel) (by decide +kernel)
theorem cd_yX9_goes : Cond.code yX9_goes cX9_goes 4 (some .int) ∈ TB := tb_in (i := 1127) (by decide +kernel) (by decide +kernel)
theorem cd_yX9_isTold : Cond.code yX9_isTold cX9_isTold 2 none ∈ TB := tb_in (i := 1131) (by decide +kernel) (by decide +kernel)
theorem cd_yX9_chosen : Cond.code yX9_chosen cX9_chosen 4 (some .int) ∈ TB := tb_in (i := 1135) (by decide +kernel) (by decide +kernel)
theorem cd_yX9_ends : Cond.code yX9_ends cX9_ends 5 none ∈ TB := tb_in (i := 1139) (by decide +kernel) (by decide +kernel)
theorem cd_yX9_isLeft : Cond.code yX9_isLeft cX9_isLeft 3 none ∈ TB := tb_in (i := 1143) (by decide +kernel) (by decide +kernel)
theorem cd_yX9_next : Cond.code yX9_next cX9_next 6 (some .int) ∈ TB := tb_in (i := 1147) (by decide +kernel) (by decide +kernel)
theorem cd_yX9_does : Cond.code yX9_does cX9_does 7 none ∈ TB := tb_in (i := 1151) (by decide +kernel) (by decide +kernel)
theorem cd_yX9_numbers : Cond.code yX9_numbers cX9_numbers 8 none ∈ TB := tb_in (i := 1155) (by decide +kernel) (by decide +kernel)
theorem cd_yX9_bad : Cond.code yX9_bad cX9_bad 2 none ∈ TB := tb_in (i := 1159) (by decide +kernel) (by decide +kernel)
theorem cd_yX9_goesTo : Cond.code yX9_goesTo cX9_goesTo 4 none ∈ TB := tb_in (i := 1163) (by decide +kernel) (by decide +kernel)
theorem cd_yX9_holds : Cond.code yX9_holds cX9_holds 7 none ∈ TB := tb_in (i := 1167) (by decide +kernel) (by decide +kernel)
theorem cd_yX9_boxes : Cond.code yX9_boxes cX9_boxes 6 none ∈ TB := tb_in (i := 1171) (by decide +kernel) (by decide +kernel)
theorem cd_yX9_rows : Cond.code yX9_rows cX9_rows 11 none ∈ TB := tb_in (i := 1175) (by decide +kernel) (by decide +kernel)
theorem cd_yX9_copies : Cond.code yX9_copies cX9_copies 8 none ∈ TB := tb_in (i := 1179) (by decide +kernel) (by decide +kernel)
theorem cd_yX9_fits : Cond.code yX9_fits cX9_fits 4 (some .boolean) ∈ TB := tb_in (i := 1183) (by decide +kernel) (by decide +kernel)
theorem cd_yX9_enters : Cond.code yX9_enters cX9_enters 7 none ∈ TB := tb_in (i := 1187) (by decide +kernel) (by decide +kernel)
theorem cd_yX9_waits : Cond.code yX9_waits cX9_waits 4 none ∈ TB := tb_in (i := 1191) (by decide +kernel) (by decide +kernel)
theorem cd_yX9_later : Cond.code yX9_later cX9_later 2 (some .int) ∈ TB := tb_in (i := 1194) (by decide +kernel) (by decide +kernel)
theorem cd_yX9_stops : Cond.code yX9_stops cX9_stops 5 none ∈ TB := tb_in (i := 1199) (by decide +kernel) (by decide +kernel)
theorem cd_yX9_rests : Cond.code yX9_rests cX9_rests 6 none ∈ TB := tb_in (i := 1204) (by decide +kernel) (by decide +kernel)
theorem cd_yX9_fails : Cond.code yX9_fails cX9_fails 3 none ∈ TB := tb_in (i := 1208) (by decide +kernel) (by decide +kernel)
theorem cd_yX9_run : Cond.code yX9_run cX9_run 4 (some .int) ∈ TB := tb_in (i := 1212) (by decide +kernel) (by decide +kernel)
theorem cd_yX9_told : Cond.code yX9_told cX9_told 4 (some .int) ∈ TB := tb_in (i := 1216) (by decide +kernel) (by decide +kernel)
theorem cd_yX9_register : Cond.code yX9_register cX9_register 3 (some .int) ∈ TB := tb_in (i := 1220) (by decide +kernel) (by decide +kernel)
theorem cd_yX9_hand : Cond.code yX9_hand cX9_hand 3 (some .int) ∈ TB := tb_in (i := 1224) (by decide +kernel) (by decide +kernel)
theorem cd_yX9_ring : Cond.code yX9_ring cX9_ring 7 (some .int) ∈ TB := tb_in (i := 1228) (by decide +kernel) (by decide +kernel)
theorem cd_yX9_hangsOn : Cond.code yX9_hangsOn cX9_hangsOn 2 (some .int) ∈ TB := tb_in (i := 1232) (by decide +kernel) (by decide +kernel)
theorem cd_yX9_log : Cond.code yX9_log cX9_log 3 (some .int) ∈ TB := tb_in (i := 1236) (by decide +kernel) (by decide +kernel)
theorem cd_yX9_count : Cond.code yX9_count cX9_count 4 (some .int) ∈ TB := tb_in (i := 1240) (by decide +kernel) (by decide +kernel)
theorem se_yX8_programAt : Cond.selects RX8 yX8_programAt yX8_programAt ∈ TB := tb_in (i := 0) (by decide +kernel) (by decide +kernel)
theorem se_yX1_stamp : Cond.selects RX1 yX1_stamp yX1_stamp ∈ TB := tb_in (i := 1) (by decide +kernel) (by decide +kernel)
theorem se_yX8_takeTurn : Cond.selects RX8 yX8_takeTurn yX8_takeTurn ∈ TB := tb_in (i := 2) (by decide +kernel) (by decide +kernel)
theorem se_yX0_reckon : Cond.selects RX0 yX0_reckon yX0_reckon ∈ TB := tb_in (i := 3) (by decide +kernel) (by decide +kernel)
theorem se_yX0_divide : Cond.selects RX0 yX0_divide yX0_divide ∈ TB := tb_in (i := 4) (by decide +kernel) (by decide +kernel)
theorem se_yX0_useThings : Cond.selects RX0 yX0_useThings yX0_useThings ∈ TB := tb_in (i := 5) (by decide +kernel) (by decide +kernel)
theorem se_yX0_holdNumber : Cond.selects RX0 yX0_holdNumber yX0_holdNumber ∈ TB := tb_in (i := 6) (by decide +kernel) (by decide +kernel)
theorem se_yX0_makeThing : Cond.selects RX0 yX0_makeThing yX0_makeThing ∈ TB := tb_in (i := 7) (by decide +kernel) (by decide +kernel)
theorem se_yX0_inHand : Cond.selects RX0 yX0_inHand yX0_inHand ∈ TB := tb_in (i := 8) (by decide +kernel) (by decide +kernel)
theorem se_yX0_readCount : Cond.selects RX0 yX0_readCount yX0_readCount ∈ TB := tb_in (i := 9) (by decide +kernel) (by decide +kernel)
theorem se_yX0_bump : Cond.selects RX0 yX0_bump yX0_bump ∈ TB := tb_in (i := 10) (by decide +kernel) (by decide +kernel)
theorem se_yX0_weighInto : Cond.selects RX0 yX0_weighInto yX0_weighInto ∈ TB := tb_in (i := 11) (by decide +kernel) (by decide +kernel)
theorem se_yX0_readMark : Cond.selects RX0 yX0_readMark yX0_readMark ∈ TB := tb_in (i := 12) (by decide +kernel) (by decide +kernel)
theorem se_yX0_useRows : Cond.selects RX0 yX0_useRows yX0_useRows ∈ TB := tb_in (i := 13) (by decide +kernel) (by decide +kernel)
theorem se_yX0_readSize : Cond.selects RX0 yX0_readSize yX0_readSize ∈ TB := tb_in (i := 14) (by decide +kernel) (by decide +kernel)
theorem se_yX0_readNumber : Cond.selects RX0 yX0_readNumber yX0_readNumber ∈ TB := tb_in (i := 15) (by decide +kernel) (by decide +kernel)
theorem se_yX0_writeNumber : Cond.selects RX0 yX0_writeNumber yX0_writeNumber ∈ TB := tb_in (i := 16) (by decide +kernel) (by decide +kernel)
theorem se_yX0_takeThing : Cond.selects RX0 yX0_takeThing yX0_takeThing ∈ TB := tb_in (i := 17) (by decide +kernel) (by decide +kernel)
theorem se_yX0_putThing : Cond.selects RX0 yX0_putThing yX0_putThing ∈ TB := tb_in (i := 18) (by decide +kernel) (by decide +kernel)
theorem se_yX0_copy : Cond.selects RX0 yX0_copy yX0_copy ∈ TB := tb_in (i := 19) (by decide +kernel) (by decide +kernel)
theorem se_yX0_useMonitors : Cond.selects RX0 yX0_useMonitors yX0_useMonitors ∈ TB := tb_in (i := 20) (by decide +kernel) (by decide +kernel)
theorem se_yX0_enter : Cond.selects RX0 yX0_enter yX0_enter ∈ TB := tb_in (i := 21) (by decide +kernel) (by decide +kernel)
theorem se_yX0_leave : Cond.selects RX0 yX0_leave yX0_leave ∈ TB := tb_in (i := 22) (by decide +kernel) (by decide +kernel)
theorem se_yX1_next : Cond.selects RX1 yX1_next yX1_next ∈ TB := tb_in (i := 23) (by decide +kernel) (by decide +kernel)
theorem se_yX0_waitOn : Cond.selects RX0 yX0_waitOn yX0_waitOn ∈ TB := tb_in (i := 24) (by decide +kernel) (by decide +kernel)
theorem se_yX0_useThreads : Cond.selects RX0 yX0_useThreads yX0_useThreads ∈ TB := tb_in (i := 25) (by decide +kernel) (by decide +kernel)
theorem se_yX0_sleep : Cond.selects RX0 yX0_sleep yX0_sleep ∈ TB := tb_in (i := 26) (by decide +kernel) (by decide +kernel)
theorem se_yX0_join : Cond.selects RX0 yX0_join yX0_join ∈ TB := tb_in (i := 27) (by decide +kernel) (by decide +kernel)
theorem se_yX0_startNew : Cond.selects RX0 yX0_startNew yX0_startNew ∈ TB := tb_in (i := 28) (by decide +kernel) (by decide +kernel)
theorem se_yX0_useHandlers : Cond.selects RX0 yX0_useHandlers yX0_useHandlers ∈ TB := tb_in (i := 29) (by decide +kernel) (by decide +kernel)
theorem se_yX8_fail : Cond.selects RX8 yX8_fail yX8_fail ∈ TB := tb_in (i := 30) (by decide +kernel) (by decide +kernel)
theorem se_yX1_wayBackTo : Cond.selects RX1 yX1_wayBackTo yX1_wayBackTo ∈ TB := tb_in (i := 31) (by decide +kernel) (by decide +kernel)
theorem se_yX1_follow : Cond.selects RX1 yX1_follow yX1_follow ∈ TB := tb_in (i := 32) (by decide +kernel) (by decide +kernel)
theorem se_yX1_hangsOn : Cond.selects RX1 yX1_hangsOn yX1_hangsOn ∈ TB := tb_in (i := 33) (by decide +kernel) (by decide +kernel)
theorem se_yX9_make : Cond.selects RX9 yX9_make yX9_make ∈ TB := tb_in (i := 34) (by decide +kernel) (by decide +kernel)
theorem se_yX9_isThing : Cond.selects RX9 yX9_isThing yX9_isThing ∈ TB := tb_in (i := 35) (by decide +kernel) (by decide +kernel)
theorem se_yX9_isBox : Cond.selects RX9 yX9_isBox yX9_isBox ∈ TB := tb_in (i := 36) (by decide +kernel) (by decide +kernel)
theorem se_yX9_howMany : Cond.selects RX9 yX9_howMany yX9_howMany ∈ TB := tb_in (i := 37) (by decide +kernel) (by decide +kernel)
theorem se_yX9_weighs : Cond.selects RX9 yX9_weighs yX9_weighs ∈ TB := tb_in (i := 38) (by decide +kernel) (by decide +kernel)
theorem se_yX9_leaves : Cond.selects RX9 yX9_leaves yX9_leaves ∈ TB := tb_in (i := 39) (by decide +kernel) (by decide +kernel)
theorem se_yX9_isInUse : Cond.selects RX9 yX9_isInUse yX9_isInUse ∈ TB := tb_in (i := 40) (by decide +kernel) (by decide +kernel)
theorem se_yX9_isUnderWay : Cond.selects RX9 yX9_isUnderWay yX9_isUnderWay ∈ TB := tb_in (i := 41) (by decide +kernel) (by decide +kernel)
theorem se_yX9_isThread : Cond.selects RX9 yX9_isThread yX9_isThread ∈ TB := tb_in (i := 42) (by decide +kernel) (by decide +kernel)
theorem se_yX9_getIn : Cond.selects RX9 yX9_getIn yX9_getIn ∈ TB := tb_in (i := 43) (by decide +kernel) (by decide +kernel)
theorem se_yX9_still : Cond.selects RX9 yX9_still yX9_still ∈ TB := tb_in (i := 44) (by decide +kernel) (by decide +kernel)
theorem se_yX9_goes : Cond.selects RX9 yX9_goes yX9_goes ∈ TB := tb_in (i := 45) (by decide +kernel) (by decide +kernel)
theorem se_yX9_isTold : Cond.selects RX9 yX9_isTold yX9_isTold ∈ TB := tb_in (i := 46) (by decide +kernel) (by decide +kernel)
theorem se_yX9_chosen : Cond.selects RX9 yX9_chosen yX9_chosen ∈ TB := tb_in (i := 47) (by decide +kernel) (by decide +kernel)
theorem se_yX9_ends : Cond.selects RX9 yX9_ends yX9_ends ∈ TB := tb_in (i := 48) (by decide +kernel) (by decide +kernel)
theorem se_yX9_isLeft : Cond.selects RX9 yX9_isLeft yX9_isLeft ∈ TB := tb_in (i := 49) (by decide +kernel) (by decide +kernel)
theorem se_yX9_next : Cond.selects RX9 yX9_next yX9_next ∈ TB := tb_in (i := 50) (by decide +kernel) (by decide +kernel)
theorem se_yX9_does : Cond.selects RX9 yX9_does yX9_does ∈ TB := tb_in (i := 51) (by decide +kernel) (by decide +kernel)
theorem se_yX9_numbers : Cond.selects RX9 yX9_numbers yX9_numbers ∈ TB := tb_in (i := 52) (by decide +kernel) (by decide +kernel)
theorem se_yX9_bad : Cond.selects RX9 yX9_bad yX9_bad ∈ TB := tb_in (i := 53) (by decide +kernel) (by decide +kernel)
theorem se_yX9_goesTo : Cond.selects RX9 yX9_goesTo yX9_goesTo ∈ TB := tb_in (i := 54) (by decide +kernel) (by decide +kernel)
theorem se_yX9_holds : Cond.selects RX9 yX9_holds yX9_holds ∈ TB := tb_in (i := 55) (by decide +kernel) (by decide +kernel)
theorem se_yX9_boxes : Cond.selects RX9 yX9_boxes yX9_boxes ∈ TB := tb_in (i := 56) (by decide +kernel) (by decide +kernel)
theorem se_yX9_rows : Cond.selects RX9 yX9_rows yX9_rows ∈ TB := tb_in (i := 57) (by decide +kernel) (by decide +kernel)
theorem se_yX9_copies : Cond.selects RX9 yX9_copies yX9_copies ∈ TB := tb_in (i := 58) (by decide +kernel) (by decide +kernel)
theorem se_yX9_fits : Cond.selects RX9 yX9_fits yX9_fits ∈ TB := tb_in (i := 59) (by decide +kernel) (by decide +kernel)
theorem se_yX9_enters : Cond.selects RX9 yX9_enters yX9_enters ∈ TB := tb_in (i := 60) (by decide +kernel) (by decide +kernel)
theorem se_yX9_waits : Cond.selects RX9 yX9_waits yX9_waits ∈ TB := tb_in (i := 61) (by decide +kernel) (by decide +kernel)
theorem se_yX9_stops : Cond.selects RX9 yX9_stops yX9_stops ∈ TB := tb_in (i := 62) (by decide +kernel) (by decide +kernel)
theorem se_yX9_rests : Cond.selects RX9 yX9_rests yX9_rests ∈ TB := tb_in (i := 63) (by decide +kernel) (by decide +kernel)
theorem se_yX9_fails : Cond.selects RX9 yX9_fails yX9_fails ∈ TB := tb_in (i := 64) (by decide +kernel) (by decide +kernel)
theorem se_yX9_hangsOn : Cond.selects RX9 yX9_hangsOn yX9_hangsOn ∈ TB := tb_in (i := 65) (by decide +kernel) (by decide +kernel)
theorem se_yX8_thing : Cond.selects RX8 yX8_thing yX8_thing ∈ TB := tb_in (i := 336) (by decide +kernel) (by decide +kernel)
theorem se_yX4_isFull : Cond.selects RX4 yX4_isFull yX4_isFull ∈ TB := tb_in (i := 340) (by decide +kernel) (by decide +kernel)
theorem se_yX4_make : Cond.selects RX4 yX4_make yX4_make ∈ TB := tb_in (i := 344) (by decide +kernel) (by decide +kernel)
theorem se_yX7_isRowOfThings : Cond.selects RX7 yX7_isRowOfThings yX7_isRowOfThings ∈ TB := tb_in (i := 390) (by decide +kernel) (by decide +kernel)
theorem se_yX8_of : Cond.selects RX8 yX8_of yX8_of ∈ TB := tb_in (i := 395) (by decide +kernel) (by decide +kernel)
theorem se_yX4_at : Cond.selects RX4 yX4_at yX4_at ∈ TB := tb_in (i := 399) (by decide +kernel) (by decide +kernel)
theorem se_yX7_isRow : Cond.selects RX7 yX7_isRow yX7_isRow ∈ TB := tb_in (i := 403) (by decide +kernel) (by decide +kernel)
theorem se_yX1_howMany : Cond.selects RX1 yX1_howMany yX1_howMany ∈ TB := tb_in (i := 407) (by decide +kernel) (by decide +kernel)
theorem se_yX8_item : Cond.selects RX8 yX8_item yX8_item ∈ TB := tb_in (i := 411) (by decide +kernel) (by decide +kernel)
theorem se_yX7_hasPlace : Cond.selects RX7 yX7_hasPlace yX7_hasPlace ∈ TB := tb_in (i := 415) (by decide +kernel) (by decide +kernel)
theorem se_yX8_weigh : Cond.selects RX8 yX8_weigh yX8_weigh ∈ TB := tb_in (i := 419) (by decide +kernel) (by decide +kernel)
theorem se_yX4_weightOf : Cond.selects RX4 yX4_weightOf yX4_weightOf ∈ TB := tb_in (i := 423) (by decide +kernel) (by decide +kernel)
theorem se_yX8_trace : Cond.selects RX8 yX8_trace yX8_trace ∈ TB := tb_in (i := 427) (by decide +kernel) (by decide +kernel)
theorem se_yX4_bodyThatBegan : Cond.selects RX4 yX4_bodyThatBegan yX4_bodyThatBegan ∈ TB := tb_in (i := 431) (by decide +kernel) (by decide +kernel)
theorem se_yX8_act : Cond.selects RX8 yX8_act yX8_act ∈ TB := tb_in (i := 448) (by decide +kernel) (by decide +kernel)
theorem se_yX1_isInUse : Cond.selects RX1 yX1_isInUse yX1_isInUse ∈ TB := tb_in (i := 464) (by decide +kernel) (by decide +kernel)
theorem se_yX5_isUnderWay : Cond.selects RX5 yX5_isUnderWay yX5_isUnderWay ∈ TB := tb_in (i := 468) (by decide +kernel) (by decide +kernel)
theorem se_yX3_append : Cond.selects RX3 yX3_append yX3_append ∈ TB := tb_in (i := 472) (by decide +kernel) (by decide +kernel)
theorem se_yX8_wipe : Cond.selects RX8 yX8_wipe yX8_wipe ∈ TB := tb_in (i := 476) (by decide +kernel) (by decide +kernel)
theorem se_yX8_thread : Cond.selects RX8 yX8_thread yX8_thread ∈ TB := tb_in (i := 480) (by decide +kernel) (by decide +kernel)
theorem se_yX1_at : Cond.selects RX1 yX1_at yX1_at ∈ TB := tb_in (i := 484) (by decide +kernel) (by decide +kernel)
theorem se_yX5_renew : Cond.selects RX5 yX5_renew yX5_renew ∈ TB := tb_in (i := 489) (by decide +kernel) (by decide +kernel)
theorem se_yX5_become : Cond.selects RX5 yX5_become yX5_become ∈ TB := tb_in (i := 493) (by decide +kernel) (by decide +kernel)
theorem se_yX8_set : Cond.selects RX8 yX8_set yX8_set ∈ TB := tb_in (i := 497) (by decide +kernel) (by decide +kernel)
theorem se_yX5_keep : Cond.selects RX5 yX5_keep yX5_keep ∈ TB := tb_in (i := 504) (by decide +kernel) (by decide +kernel)
theorem se_yX8_give : Cond.selects RX8 yX8_give yX8_give ∈ TB := tb_in (i := 509) (by decide +kernel) (by decide +kernel)
theorem se_yX5_grasp : Cond.selects RX5 yX5_grasp yX5_grasp ∈ TB := tb_in (i := 513) (by decide +kernel) (by decide +kernel)
theorem se_yX8_start : Cond.selects RX8 yX8_start yX8_start ∈ TB := tb_in (i := 517) (by decide +kernel) (by decide +kernel)
theorem se_yX8_broken : Cond.selects RX8 yX8_broken yX8_broken ∈ TB := tb_in (i := 522) (by decide +kernel) (by decide +kernel)
theorem se_yX1_interrupt : Cond.selects RX1 yX1_interrupt yX1_interrupt ∈ TB := tb_in (i := 526) (by decide +kernel) (by decide +kernel)
theorem se_yX1_getIn : Cond.selects RX1 yX1_getIn yX1_getIn ∈ TB := tb_in (i := 531) (by decide +kernel) (by decide +kernel)
theorem se_yX7_letIn : Cond.selects RX7 yX7_letIn yX7_letIn ∈ TB := tb_in (i := 535) (by decide +kernel) (by decide +kernel)
theorem se_yX8_rule : Cond.selects RX8 yX8_rule yX8_rule ∈ TB := tb_in (i := 544) (by decide +kernel) (by decide +kernel)
theorem se_yX8_order : Cond.selects RX8 yX8_order yX8_order ∈ TB := tb_in (i := 548) (by decide +kernel) (by decide +kernel)
theorem se_yX8_turn : Cond.selects RX8 yX8_turn yX8_turn ∈ TB := tb_in (i := 552) (by decide +kernel) (by decide +kernel)
theorem se_yX1_isOver : Cond.selects RX1 yX1_isOver yX1_isOver ∈ TB := tb_in (i := 556) (by decide +kernel) (by decide +kernel)
theorem se_yX1_howManyUnderWay : Cond.selects RX1 yX1_howManyUnderWay yX1_howManyUnderWay ∈ TB := tb_in (i := 560) (by decide +kernel) (by decide +kernel)
theorem se_yX1_isStuck : Cond.selects RX1 yX1_isStuck yX1_isStuck ∈ TB := tb_in (i := 564) (by decide +kernel) (by decide +kernel)
theorem se_yX1_passTime : Cond.selects RX1 yX1_passTime yX1_passTime ∈ TB := tb_in (i := 573) (by decide +kernel) (by decide +kernel)
theorem se_yX1_firstReadyBehind : Cond.selects RX1 yX1_firstReadyBehind yX1_firstReadyBehind ∈ TB := tb_in (i := 577) (by decide +kernel) (by decide +kernel)
theorem se_yX1_readyOfGreatestRank : Cond.selects RX1 yX1_readyOfGreatestRank yX1_readyOfGreatestRank ∈ TB := tb_in (i := 585) (by decide +kernel) (by decide +kernel)
theorem se_yX0_perform : Cond.selects RX0 yX0_perform yX0_perform ∈ TB := tb_in (i := 589) (by decide +kernel) (by decide +kernel)
theorem se_yX5_isAtEnd : Cond.selects RX5 yX5_isAtEnd yX5_isAtEnd ∈ TB := tb_in (i := 593) (by decide +kernel) (by decide +kernel)
theorem se_yX3_numberAt : Cond.selects RX3 yX3_numberAt yX3_numberAt ∈ TB := tb_in (i := 597) (by decide +kernel) (by decide +kernel)
theorem se_yX5_kept : Cond.selects RX5 yX5_kept yX5_kept ∈ TB := tb_in (i := 606) (by decide +kernel) (by decide +kernel)
theorem se_yX5_jump : Cond.selects RX5 yX5_jump yX5_jump ∈ TB := tb_in (i := 614) (by decide +kernel) (by decide +kernel)
theorem se_yX5_held : Cond.selects RX5 yX5_held yX5_held ∈ TB := tb_in (i := 637) (by decide +kernel) (by decide +kernel)
theorem se_yX7_isBox : Cond.selects RX7 yX7_isBox yX7_isBox ∈ TB := tb_in (i := 649) (by decide +kernel) (by decide +kernel)
theorem se_yX7_isCrate : Cond.selects RX7 yX7_isCrate yX7_isCrate ∈ TB := tb_in (i := 666) (by decide +kernel) (by decide +kernel)
theorem se_yX7_isRowOfNumbers : Cond.selects RX7 yX7_isRowOfNumbers yX7_isRowOfNumbers ∈ TB := tb_in (i := 683) (by decide +kernel) (by decide +kernel)
theorem se_yX4_fits : Cond.selects RX4 yX4_fits yX4_fits ∈ TB := tb_in (i := 701) (by decide +kernel) (by decide +kernel)
theorem se_yX7_takesFrom : Cond.selects RX7 yX7_takesFrom yX7_takesFrom ∈ TB := tb_in (i := 711) (by decide +kernel) (by decide +kernel)
theorem se_yX1_vacate : Cond.selects RX1 yX1_vacate yX1_vacate ∈ TB := tb_in (i := 728) (by decide +kernel) (by decide +kernel)
theorem se_yX5_takeFlag : Cond.selects RX5 yX5_takeFlag yX5_takeFlag ∈ TB := tb_in (i := 740) (by decide +kernel) (by decide +kernel)
theorem se_yX1_timeAfter : Cond.selects RX1 yX1_timeAfter yX1_timeAfter ∈ TB := tb_in (i := 744) (by decide +kernel) (by decide +kernel)
theorem se_yX1_await : Cond.selects RX1 yX1_await yX1_await ∈ TB := tb_in (i := 750) (by decide +kernel) (by decide +kernel)
theorem se_yX1_tellNext : Cond.selects RX1 yX1_tellNext yX1_tellNext ∈ TB := tb_in (i := 754) (by decide +kernel) (by decide +kernel)
theorem se_yX1_tellEach : Cond.selects RX1 yX1_tellEach yX1_tellEach ∈ TB := tb_in (i := 758) (by decide +kernel) (by decide +kernel)
theorem se_yX2_push : Cond.selects RX2 yX2_push yX2_push ∈ TB := tb_in (i := 786) (by decide +kernel) (by decide +kernel)
theorem se_yX6_note : Cond.selects RX6 yX6_note yX6_note ∈ TB := tb_in (i := 793) (by decide +kernel) (by decide +kernel)
theorem se_yX2_latestFor : Cond.selects RX2 yX2_latestFor yX2_latestFor ∈ TB := tb_in (i := 802) (by decide +kernel) (by decide +kernel)
theorem se_yX6_countFailure : Cond.selects RX6 yX6_countFailure yX6_countFailure ∈ TB := tb_in (i := 807) (by decide +kernel) (by decide +kernel)
theorem se_yX1_end : Cond.selects RX1 yX1_end yX1_end ∈ TB := tb_in (i := 811) (by decide +kernel) (by decide +kernel)
theorem se_yX2_placeOf : Cond.selects RX2 yX2_placeOf yX2_placeOf ∈ TB := tb_in (i := 816) (by decide +kernel) (by decide +kernel)
theorem se_yX8_run : Cond.selects RX8 yX8_run yX8_run ∈ TB := tb_in (i := 822) (by decide +kernel) (by decide +kernel)
theorem se_yX8_told : Cond.selects RX8 yX8_told yX8_told ∈ TB := tb_in (i := 826) (by decide +kernel) (by decide +kernel)
theorem se_yX8_register : Cond.selects RX8 yX8_register yX8_register ∈ TB := tb_in (i := 830) (by decide +kernel) (by decide +kernel)
theorem se_yX8_hand : Cond.selects RX8 yX8_hand yX8_hand ∈ TB := tb_in (i := 835) (by decide +kernel) (by decide +kernel)
theorem se_yX8_ring : Cond.selects RX8 yX8_ring yX8_ring ∈ TB := tb_in (i := 840) (by decide +kernel) (by decide +kernel)
theorem se_yX1_inRing : Cond.selects RX1 yX1_inRing yX1_inRing ∈ TB := tb_in (i := 844) (by decide +kernel) (by decide +kernel)
theorem se_yX8_log : Cond.selects RX8 yX8_log yX8_log ∈ TB := tb_in (i := 860) (by decide +kernel) (by decide +kernel)
theorem se_yX6_logged : Cond.selects RX6 yX6_logged yX6_logged ∈ TB := tb_in (i := 864) (by decide +kernel) (by decide +kernel)
theorem se_yX8_count : Cond.selects RX8 yX8_count yX8_count ∈ TB := tb_in (i := 868) (by decide +kernel) (by decide +kernel)
theorem se_yX9_thing : Cond.selects RX9 yX9_thing yX9_thing ∈ TB := tb_in (i := 1016) (by decide +kernel) (by decide +kernel)
theorem se_yX9_of : Cond.selects RX9 yX9_of yX9_of ∈ TB := tb_in (i := 1027) (by decide +kernel) (by decide +kernel)
theorem se_yX9_item : Cond.selects RX9 yX9_item yX9_item ∈ TB := tb_in (i := 1043) (by decide +kernel) (by decide +kernel)
theorem se_yX9_weigh : Cond.selects RX9 yX9_weigh yX9_weigh ∈ TB := tb_in (i := 1047) (by decide +kernel) (by decide +kernel)
theorem se_yX9_trace : Cond.selects RX9 yX9_trace yX9_trace ∈ TB := tb_in (i := 1059) (by decide +kernel) (by decide +kernel)
theorem se_yX9_act : Cond.selects RX9 yX9_act yX9_act ∈ TB := tb_in (i := 1063) (by decide +kernel) (by decide +kernel)
theorem se_yX9_wipe : Cond.selects RX9 yX9_wipe yX9_wipe ∈ TB := tb_in (i := 1078) (by decide +kernel) (by decide +kernel)
theorem se_yX9_thread : Cond.selects RX9 yX9_thread yX9_thread ∈ TB := tb_in (i := 1082) (by decide +kernel) (by decide +kernel)
theorem se_yX9_set : Cond.selects RX9 yX9_set yX9_set ∈ TB := tb_in (i := 1086) (by decide +kernel) (by decide +kernel)
theorem se_yX9_give : Cond.selects RX9 yX9_give yX9_give ∈ TB := tb_in (i := 1094) (by decide +kernel) (by decide +kernel)
theorem se_yX9_start : Cond.selects RX9 yX9_start yX9_start ∈ TB := tb_in (i := 1098) (by decide +kernel) (by decide +kernel)
theorem se_yX9_broken : Cond.selects RX9 yX9_broken yX9_broken ∈ TB := tb_in (i := 1102) (by decide +kernel) (by decide +kernel)
theorem se_yX9_rule : Cond.selects RX9 yX9_rule yX9_rule ∈ TB := tb_in (i := 1110) (by decide +kernel) (by decide +kernel)
theorem se_yX9_order : Cond.selects RX9 yX9_order yX9_order ∈ TB := tb_in (i := 1114) (by decide +kernel) (by decide +kernel)
theorem se_yX9_turn : Cond.selects RX9 yX9_turn yX9_turn ∈ TB := tb_in (i := 1118) (by decide +kernel) (by decide +kernel)
theorem se_yX9_run : Cond.selects RX9 yX9_run yX9_run ∈ TB := tb_in (i := 1211) (by decide +kernel) (by decide +kernel)
theorem se_yX9_told : Cond.selects RX9 yX9_told yX9_told ∈ TB := tb_in (i := 1215) (by decide +kernel) (by decide +kernel)
theorem se_yX9_register : Cond.selects RX9 yX9_register yX9_register ∈ TB := tb_in (i := 1219) (by decide +kernel) (by decide +kernel)
theorem se_yX9_hand : Cond.selects RX9 yX9_hand yX9_hand ∈ TB := tb_in (i := 1223) (by decide +kernel) (by decide +kernel)
theorem se_yX9_ring : Cond.selects RX9 yX9_ring yX9_ring ∈ TB := tb_in (i := 1227) (by decide +kernel) (by decide +kernel)
theorem se_yX9_log : Cond.selects RX9 yX9_log yX9_log ∈ TB := tb_in (i := 1235) (by decide +kernel) (by decide +kernel)
theorem se_yX9_count : Cond.selects RX9 yX9_count yX9_count ∈ TB := tb_in (i := 1239) (by decide +kernel) (by decide +kernel)
theorem inX0 : ∀ w ∈ wsX00, w ∈ TB := by decide +kernel
theorem inX1 : ∀ w ∈ wsX10, w ∈ TB := by decide +kernel
theorem inX2 : ∀ w ∈ wsX20, w ∈ TB := by decide +kernel
theorem inX3 : ∀ w ∈ wsX30, w ∈ TB := by decide +kernel
theorem inX4 : ∀ w ∈ wsX40, w ∈ TB := by decide +kernel
theorem inX5 : ∀ w ∈ wsX50, w ∈ TB := by decide +kernel
theorem inX6 : ∀ w ∈ wsX60, w ∈ TB := by decide +kernel
theorem inX7 : ∀ w ∈ wsX70, w ∈ TB := by decide +kernel
theorem inX8 : ∀ w ∈ wsX80, w ∈ TB := by decide +kernel
theorem inX9 : ∀ w ∈ wsX90, w ∈ TB := by decide +kernel
