section
/-- a private method of a class that the tables say can be made, by its rows of tables_1 -/
def lw_okq (q : MethodName × Nat) : Prop := (q.1.cls ≠ "java/lang/invoke/MethodHandle" ∧ q.1.cls ≠ "java/lang/invoke/VarHandle") ∧ Cond.instantiable q.1.cls q.2 ∈ tables_1 ∧ Cond.privateMethod q.1 ∈ tables_1 ∧ Cond.instanceMethod q.1 ∈ tables_1
theorem lw_p0 : lw_okq (⟨"java/lang/Throwable", "fillInStackTrace", "(I)Ljava/lang/Throwable;"⟩, 6) := ⟨⟨by decide +kernel, by decide +kernel⟩, List.mem_of_getElem? (i := 213) (by decide +kernel), List.mem_of_getElem? (i := 211) (by decide +kernel), List.mem_of_getElem? (i := 212) (by decide +kernel)⟩
theorem lw_p1 : lw_okq (⟨"AntiDesk$Reader", "takes", "(C)Z"⟩, 10) := ⟨⟨by decide +kernel, by decide +kernel⟩, List.mem_of_getElem? (i := 68) (by decide +kernel), List.mem_of_getElem? (i := 282) (by decide +kernel), List.mem_of_getElem? (i := 283) (by decide +kernel)⟩
theorem lw_p2 : lw_okq (⟨"AntiDesk$Reader", "next", "()C"⟩, 10) := ⟨⟨by decide +kernel, by decide +kernel⟩, List.mem_of_getElem? (i := 68) (by decide +kernel), List.mem_of_getElem? (i := 286) (by decide +kernel), List.mem_of_getElem? (i := 287) (by decide +kernel)⟩
theorem lw_p3 : lw_okq (⟨"AntiDesk$Reader", "readTerm", "(Z)Z"⟩, 10) := ⟨⟨by decide +kernel, by decide +kernel⟩, List.mem_of_getElem? (i := 68) (by decide +kernel), List.mem_of_getElem? (i := 290) (by decide +kernel), List.mem_of_getElem? (i := 291) (by decide +kernel)⟩
theorem lw_p4 : lw_okq (⟨"AntiDesk$Reader", "readCoefficient", "()Z"⟩, 10) := ⟨⟨by decide +kernel, by decide +kernel⟩, List.mem_of_getElem? (i := 68) (by decide +kernel), List.mem_of_getElem? (i := 294) (by decide +kernel), List.mem_of_getElem? (i := 295) (by decide +kernel)⟩
theorem lw_p5 : lw_okq (⟨"AntiDesk$Reader", "readNumber", "(II)I"⟩, 10) := ⟨⟨by decide +kernel, by decide +kernel⟩, List.mem_of_getElem? (i := 68) (by decide +kernel), List.mem_of_getElem? (i := 301) (by decide +kernel), List.mem_of_getElem? (i := 302) (by decide +kernel)⟩
theorem lw_p6 : lw_okq (⟨"AntiDesk$Reader", "refuse", "(II)Z"⟩, 10) := ⟨⟨by decide +kernel, by decide +kernel⟩, List.mem_of_getElem? (i := 68) (by decide +kernel), List.mem_of_getElem? (i := 305) (by decide +kernel), List.mem_of_getElem? (i := 306) (by decide +kernel)⟩
theorem lw_p7 : lw_okq (⟨"AntiDesk$Reader", "readPower", "()Z"⟩, 10) := ⟨⟨by decide +kernel, by decide +kernel⟩, List.mem_of_getElem? (i := 68) (by decide +kernel), List.mem_of_getElem? (i := 313) (by decide +kernel), List.mem_of_getElem? (i := 314) (by decide +kernel)⟩
theorem lw_p8 : lw_okq (⟨"AntiDesk$Reader", "readFunction", "()Z"⟩, 10) := ⟨⟨by decide +kernel, by decide +kernel⟩, List.mem_of_getElem? (i := 68) (by decide +kernel), List.mem_of_getElem? (i := 317) (by decide +kernel), List.mem_of_getElem? (i := 318) (by decide +kernel)⟩
theorem lw_p9 : lw_okq (⟨"AntiDesk$Reader", "readLogPower", "()Z"⟩, 10) := ⟨⟨by decide +kernel, by decide +kernel⟩, List.mem_of_getElem? (i := 68) (by decide +kernel), List.mem_of_getElem? (i := 321) (by decide +kernel), List.mem_of_getElem? (i := 322) (by decide +kernel)⟩
theorem lw_p10 : lw_okq (⟨"AntiDesk$Reader", "expect", "(C)Z"⟩, 10) := ⟨⟨by decide +kernel, by decide +kernel⟩, List.mem_of_getElem? (i := 68) (by decide +kernel), List.mem_of_getElem? (i := 325) (by decide +kernel), List.mem_of_getElem? (i := 326) (by decide +kernel)⟩
theorem lw_p11 : lw_okq (⟨"AntiDesk$Reader", "readMultiple", "()Z"⟩, 10) := ⟨⟨by decide +kernel, by decide +kernel⟩, List.mem_of_getElem? (i := 68) (by decide +kernel), List.mem_of_getElem? (i := 329) (by decide +kernel), List.mem_of_getElem? (i := 330) (by decide +kernel)⟩
theorem lw_p12 : lw_okq (⟨"AntiDesk$Reader", "addTerm", "()Z"⟩, 10) := ⟨⟨by decide +kernel, by decide +kernel⟩, List.mem_of_getElem? (i := 68) (by decide +kernel), List.mem_of_getElem? (i := 333) (by decide +kernel), List.mem_of_getElem? (i := 334) (by decide +kernel)⟩
theorem lw_p13 : lw_okq (⟨"AntiDesk$Sum", "addUp", "(IJJ)V"⟩, 6) := ⟨⟨by decide +kernel, by decide +kernel⟩, List.mem_of_getElem? (i := 25) (by decide +kernel), List.mem_of_getElem? (i := 344) (by decide +kernel), List.mem_of_getElem? (i := 345) (by decide +kernel)⟩
theorem lw_p14 : lw_okq (⟨"AntiDesk$Sum", "placeFor", "(I)I"⟩, 6) := ⟨⟨by decide +kernel, by decide +kernel⟩, List.mem_of_getElem? (i := 25) (by decide +kernel), List.mem_of_getElem? (i := 348) (by decide +kernel), List.mem_of_getElem? (i := 349) (by decide +kernel)⟩
theorem lw_p15 : lw_okq (⟨"AntiDesk$Sum", "closeAt", "(I)V"⟩, 6) := ⟨⟨by decide +kernel, by decide +kernel⟩, List.mem_of_getElem? (i := 25) (by decide +kernel), List.mem_of_getElem? (i := 352) (by decide +kernel), List.mem_of_getElem? (i := 353) (by decide +kernel)⟩
def lw_privs_1 : List (MethodName × Nat) := [(⟨"java/lang/Throwable", "fillInStackTrace", "(I)Ljava/lang/Throwable;"⟩, 6), (⟨"AntiDesk$Reader", "takes", "(C)Z"⟩, 10), (⟨"AntiDesk$Reader", "next", "()C"⟩, 10), (⟨"AntiDesk$Reader", "readTerm", "(Z)Z"⟩, 10), (⟨"AntiDesk$Reader", "readCoefficient", "()Z"⟩, 10), (⟨"AntiDesk$Reader", "readNumber", "(II)I"⟩, 10), (⟨"AntiDesk$Reader", "refuse", "(II)Z"⟩, 10), (⟨"AntiDesk$Reader", "readPower", "()Z"⟩, 10), (⟨"AntiDesk$Reader", "readFunction", "()Z"⟩, 10), (⟨"AntiDesk$Reader", "readLogPower", "()Z"⟩, 10), (⟨"AntiDesk$Reader", "expect", "(C)Z"⟩, 10), (⟨"AntiDesk$Reader", "readMultiple", "()Z"⟩, 10), (⟨"AntiDesk$Reader", "addTerm", "()Z"⟩, 10), (⟨"AntiDesk$Sum", "addUp", "(IJJ)V"⟩, 6), (⟨"AntiDesk$Sum", "placeFor", "(I)I"⟩, 6), (⟨"AntiDesk$Sum", "closeAt", "(I)V"⟩, 6)]
theorem lw_r1 : ∀ q ∈ lw_privs_1, lw_okq q := List.forall_mem_cons.mpr ⟨lw_p0, List.forall_mem_cons.mpr ⟨lw_p1, List.forall_mem_cons.mpr ⟨lw_p2, List.forall_mem_cons.mpr ⟨lw_p3, List.forall_mem_cons.mpr ⟨lw_p4, List.forall_mem_cons.mpr ⟨lw_p5, List.forall_mem_cons.mpr ⟨lw_p6, List.forall_mem_cons.mpr ⟨lw_p7, List.forall_mem_cons.mpr ⟨lw_p8, List.forall_mem_cons.mpr ⟨lw_p9, List.forall_mem_cons.mpr ⟨lw_p10, List.forall_mem_cons.mpr ⟨lw_p11, List.forall_mem_cons.mpr ⟨lw_p12, List.forall_mem_cons.mpr ⟨lw_p13, List.forall_mem_cons.mpr ⟨lw_p14, List.forall_mem_cons.mpr ⟨lw_p15, fun _ h => absurd h List.not_mem_nil⟩⟩⟩⟩⟩⟩⟩⟩⟩⟩⟩⟩⟩⟩⟩⟩
theorem lw_p16 : lw_okq (⟨"AntiDesk$Sum", "openAt", "(I)Z"⟩, 6) := ⟨⟨by decide +kernel, by decide +kernel⟩, List.mem_of_getElem? (i := 25) (by decide +kernel), List.mem_of_getElem? (i := 356) (by decide +kernel), List.mem_of_getElem? (i := 357) (by decide +kernel)⟩
theorem lw_p17 : lw_okq (⟨"AntiDesk$Sum", "setReduced", "(IJJ)V"⟩, 6) := ⟨⟨by decide +kernel, by decide +kernel⟩, List.mem_of_getElem? (i := 25) (by decide +kernel), List.mem_of_getElem? (i := 360) (by decide +kernel), List.mem_of_getElem? (i := 361) (by decide +kernel)⟩
theorem lw_p18 : lw_okq (⟨"AntiDesk$Sum", "isWithin", "(JJII)Z"⟩, 6) := ⟨⟨by decide +kernel, by decide +kernel⟩, List.mem_of_getElem? (i := 25) (by decide +kernel), List.mem_of_getElem? (i := 376) (by decide +kernel), List.mem_of_getElem? (i := 377) (by decide +kernel)⟩
theorem lw_p19 : lw_okq (⟨"AntiDesk", "settle", "(I)I"⟩, 6) := ⟨⟨by decide +kernel, by decide +kernel⟩, List.mem_of_getElem? (i := 16) (by decide +kernel), List.mem_of_getElem? (i := 395) (by decide +kernel), List.mem_of_getElem? (i := 396) (by decide +kernel)⟩
theorem lw_p20 : lw_okq (⟨"AntiDesk$Writer", "writeTerm", "(LAntiDesk$Sum;I)V"⟩, 2) := ⟨⟨by decide +kernel, by decide +kernel⟩, List.mem_of_getElem? (i := 105) (by decide +kernel), List.mem_of_getElem? (i := 423) (by decide +kernel), List.mem_of_getElem? (i := 424) (by decide +kernel)⟩
theorem lw_p21 : lw_okq (⟨"AntiDesk$Writer", "append", "(C)V"⟩, 2) := ⟨⟨by decide +kernel, by decide +kernel⟩, List.mem_of_getElem? (i := 105) (by decide +kernel), List.mem_of_getElem? (i := 431) (by decide +kernel), List.mem_of_getElem? (i := 432) (by decide +kernel)⟩
theorem lw_p22 : lw_okq (⟨"AntiDesk$Writer", "writeCoefficient", "(JJZ)V"⟩, 2) := ⟨⟨by decide +kernel, by decide +kernel⟩, List.mem_of_getElem? (i := 105) (by decide +kernel), List.mem_of_getElem? (i := 445) (by decide +kernel), List.mem_of_getElem? (i := 446) (by decide +kernel)⟩
theorem lw_p23 : lw_okq (⟨"AntiDesk$Writer", "writeNumber", "(J)V"⟩, 2) := ⟨⟨by decide +kernel, by decide +kernel⟩, List.mem_of_getElem? (i := 105) (by decide +kernel), List.mem_of_getElem? (i := 449) (by decide +kernel), List.mem_of_getElem? (i := 450) (by decide +kernel)⟩
theorem lw_p24 : lw_okq (⟨"AntiDesk$Writer", "writePower", "(I)V"⟩, 2) := ⟨⟨by decide +kernel, by decide +kernel⟩, List.mem_of_getElem? (i := 105) (by decide +kernel), List.mem_of_getElem? (i := 456) (by decide +kernel), List.mem_of_getElem? (i := 457) (by decide +kernel)⟩
theorem lw_p25 : lw_okq (⟨"AntiDesk$Writer", "writeExponent", "(I)V"⟩, 2) := ⟨⟨by decide +kernel, by decide +kernel⟩, List.mem_of_getElem? (i := 105) (by decide +kernel), List.mem_of_getElem? (i := 460) (by decide +kernel), List.mem_of_getElem? (i := 461) (by decide +kernel)⟩
theorem lw_p26 : lw_okq (⟨"AntiDesk$Writer", "writeFunction", "(II)V"⟩, 2) := ⟨⟨by decide +kernel, by decide +kernel⟩, List.mem_of_getElem? (i := 105) (by decide +kernel), List.mem_of_getElem? (i := 465) (by decide +kernel), List.mem_of_getElem? (i := 466) (by decide +kernel)⟩
theorem lw_p27 : lw_okq (⟨"AntiDesk$Writer", "writeMultiple", "(I)V"⟩, 2) := ⟨⟨by decide +kernel, by decide +kernel⟩, List.mem_of_getElem? (i := 105) (by decide +kernel), List.mem_of_getElem? (i := 469) (by decide +kernel), List.mem_of_getElem? (i := 470) (by decide +kernel)⟩
theorem lw_p28 : lw_okq (⟨"AntiDeskModel", "putCell", "(II)V"⟩, 13) := ⟨⟨by decide +kernel, by decide +kernel⟩, List.mem_of_getElem? (i := 612) (by decide +kernel), List.mem_of_getElem? (i := 666) (by decide +kernel), List.mem_of_getElem? (i := 667) (by decide +kernel)⟩
theorem lw_p29 : lw_okq (⟨"AntiDeskModel", "refused", "(I)Z"⟩, 13) := ⟨⟨by decide +kernel, by decide +kernel⟩, List.mem_of_getElem? (i := 612) (by decide +kernel), List.mem_of_getElem? (i := 670) (by decide +kernel), List.mem_of_getElem? (i := 671) (by decide +kernel)⟩
theorem lw_p30 : lw_okq (⟨"AntiDeskModel", "empty", "(I)V"⟩, 13) := ⟨⟨by decide +kernel, by decide +kernel⟩, List.mem_of_getElem? (i := 612) (by decide +kernel), List.mem_of_getElem? (i := 685) (by decide +kernel), List.mem_of_getElem? (i := 686) (by decide +kernel)⟩
theorem lw_p31 : lw_okq (⟨"AntiDeskModel", "takes", "(C)Z"⟩, 13) := ⟨⟨by decide +kernel, by decide +kernel⟩, List.mem_of_getElem? (i := 612) (by decide +kernel), List.mem_of_getElem? (i := 689) (by decide +kernel), List.mem_of_getElem? (i := 690) (by decide +kernel)⟩
def lw_privs_2 : List (MethodName × Nat) := [(⟨"AntiDesk$Sum", "openAt", "(I)Z"⟩, 6), (⟨"AntiDesk$Sum", "setReduced", "(IJJ)V"⟩, 6), (⟨"AntiDesk$Sum", "isWithin", "(JJII)Z"⟩, 6), (⟨"AntiDesk", "settle", "(I)I"⟩, 6), (⟨"AntiDesk$Writer", "writeTerm", "(LAntiDesk$Sum;I)V"⟩, 2), (⟨"AntiDesk$Writer", "append", "(C)V"⟩, 2), (⟨"AntiDesk$Writer", "writeCoefficient", "(JJZ)V"⟩, 2), (⟨"AntiDesk$Writer", "writeNumber", "(J)V"⟩, 2), (⟨"AntiDesk$Writer", "writePower", "(I)V"⟩, 2), (⟨"AntiDesk$Writer", "writeExponent", "(I)V"⟩, 2), (⟨"AntiDesk$Writer", "writeFunction", "(II)V"⟩, 2), (⟨"AntiDesk$Writer", "writeMultiple", "(I)V"⟩, 2), (⟨"AntiDeskModel", "putCell", "(II)V"⟩, 13), (⟨"AntiDeskModel", "refused", "(I)Z"⟩, 13), (⟨"AntiDeskModel", "empty", "(I)V"⟩, 13), (⟨"AntiDeskModel", "takes", "(C)Z"⟩, 13)]
theorem lw_r2 : ∀ q ∈ lw_privs_2, lw_okq q := List.forall_mem_cons.mpr ⟨lw_p16, List.forall_mem_cons.mpr ⟨lw_p17, List.forall_mem_cons.mpr ⟨lw_p18, List.forall_mem_cons.mpr ⟨lw_p19, List.forall_mem_cons.mpr ⟨lw_p20, List.forall_mem_cons.mpr ⟨lw_p21, List.forall_mem_cons.mpr ⟨lw_p22, List.forall_mem_cons.mpr ⟨lw_p23, List.forall_mem_cons.mpr ⟨lw_p24, List.forall_mem_cons.mpr ⟨lw_p25, List.forall_mem_cons.mpr ⟨lw_p26, List.forall_mem_cons.mpr ⟨lw_p27, List.forall_mem_cons.mpr ⟨lw_p28, List.forall_mem_cons.mpr ⟨lw_p29, List.forall_mem_cons.mpr ⟨lw_p30, List.forall_mem_cons.mpr ⟨lw_p31, fun _ h => absurd h List.not_mem_nil⟩⟩⟩⟩⟩⟩⟩⟩⟩⟩⟩⟩⟩⟩⟩⟩
theorem lw_p32 : lw_okq (⟨"AntiDeskModel", "next", "()C"⟩, 13) := ⟨⟨by decide +kernel, by decide +kernel⟩, List.mem_of_getElem? (i := 612) (by decide +kernel), List.mem_of_getElem? (i := 693) (by decide +kernel), List.mem_of_getElem? (i := 694) (by decide +kernel)⟩
theorem lw_p33 : lw_okq (⟨"AntiDeskModel", "readTerm", "(Z)V"⟩, 13) := ⟨⟨by decide +kernel, by decide +kernel⟩, List.mem_of_getElem? (i := 612) (by decide +kernel), List.mem_of_getElem? (i := 697) (by decide +kernel), List.mem_of_getElem? (i := 698) (by decide +kernel)⟩
theorem lw_p34 : lw_okq (⟨"AntiDeskModel", "readNumber", "(II)I"⟩, 13) := ⟨⟨by decide +kernel, by decide +kernel⟩, List.mem_of_getElem? (i := 612) (by decide +kernel), List.mem_of_getElem? (i := 704) (by decide +kernel), List.mem_of_getElem? (i := 705) (by decide +kernel)⟩
theorem lw_p35 : lw_okq (⟨"AntiDeskModel", "wrong", "(II)V"⟩, 13) := ⟨⟨by decide +kernel, by decide +kernel⟩, List.mem_of_getElem? (i := 612) (by decide +kernel), List.mem_of_getElem? (i := 708) (by decide +kernel), List.mem_of_getElem? (i := 709) (by decide +kernel)⟩
theorem lw_p36 : lw_okq (⟨"AntiDeskModel", "want", "(C)V"⟩, 13) := ⟨⟨by decide +kernel, by decide +kernel⟩, List.mem_of_getElem? (i := 612) (by decide +kernel), List.mem_of_getElem? (i := 712) (by decide +kernel), List.mem_of_getElem? (i := 713) (by decide +kernel)⟩
theorem lw_p37 : lw_okq (⟨"AntiDeskModel", "addTerm", "(IIIIJJ)V"⟩, 13) := ⟨⟨by decide +kernel, by decide +kernel⟩, List.mem_of_getElem? (i := 612) (by decide +kernel), List.mem_of_getElem? (i := 719) (by decide +kernel), List.mem_of_getElem? (i := 720) (by decide +kernel)⟩
theorem lw_p38 : lw_okq (⟨"AntiDeskModel", "checkAll", "()V"⟩, 13) := ⟨⟨by decide +kernel, by decide +kernel⟩, List.mem_of_getElem? (i := 612) (by decide +kernel), List.mem_of_getElem? (i := 726) (by decide +kernel), List.mem_of_getElem? (i := 727) (by decide +kernel)⟩
theorem lw_p39 : lw_okq (⟨"AntiDeskModel", "isOut", "(I)Z"⟩, 13) := ⟨⟨by decide +kernel, by decide +kernel⟩, List.mem_of_getElem? (i := 612) (by decide +kernel), List.mem_of_getElem? (i := 730) (by decide +kernel), List.mem_of_getElem? (i := 731) (by decide +kernel)⟩
theorem lw_p40 : lw_okq (⟨"AntiDeskModel", "finish", "(I)I"⟩, 13) := ⟨⟨by decide +kernel, by decide +kernel⟩, List.mem_of_getElem? (i := 612) (by decide +kernel), List.mem_of_getElem? (i := 737) (by decide +kernel), List.mem_of_getElem? (i := 738) (by decide +kernel)⟩
theorem lw_p41 : lw_okq (⟨"AntiDeskModel", "fits", "(I)Z"⟩, 13) := ⟨⟨by decide +kernel, by decide +kernel⟩, List.mem_of_getElem? (i := 612) (by decide +kernel), List.mem_of_getElem? (i := 741) (by decide +kernel), List.mem_of_getElem? (i := 742) (by decide +kernel)⟩
theorem lw_p42 : lw_okq (⟨"AntiDeskModel", "termsOf", "(I)I"⟩, 13) := ⟨⟨by decide +kernel, by decide +kernel⟩, List.mem_of_getElem? (i := 612) (by decide +kernel), List.mem_of_getElem? (i := 745) (by decide +kernel), List.mem_of_getElem? (i := 746) (by decide +kernel)⟩
theorem lw_p43 : lw_okq (⟨"AntiDeskModel", "copy", "(II)V"⟩, 13) := ⟨⟨by decide +kernel, by decide +kernel⟩, List.mem_of_getElem? (i := 612) (by decide +kernel), List.mem_of_getElem? (i := 749) (by decide +kernel), List.mem_of_getElem? (i := 750) (by decide +kernel)⟩
theorem lw_p44 : lw_okq (⟨"AntiDeskModel", "putTerm", "(IIJJ)V"⟩, 13) := ⟨⟨by decide +kernel, by decide +kernel⟩, List.mem_of_getElem? (i := 612) (by decide +kernel), List.mem_of_getElem? (i := 761) (by decide +kernel), List.mem_of_getElem? (i := 762) (by decide +kernel)⟩
theorem lw_p45 : lw_okq (⟨"AntiDeskModel", "put", "(C)V"⟩, 13) := ⟨⟨by decide +kernel, by decide +kernel⟩, List.mem_of_getElem? (i := 612) (by decide +kernel), List.mem_of_getElem? (i := 765) (by decide +kernel), List.mem_of_getElem? (i := 766) (by decide +kernel)⟩
theorem lw_p46 : lw_okq (⟨"AntiDeskModel", "putNumber", "(J)V"⟩, 13) := ⟨⟨by decide +kernel, by decide +kernel⟩, List.mem_of_getElem? (i := 612) (by decide +kernel), List.mem_of_getElem? (i := 769) (by decide +kernel), List.mem_of_getElem? (i := 770) (by decide +kernel)⟩
theorem lw_p47 : lw_okq (⟨"AntiDeskModel", "putFunction", "(I)V"⟩, 13) := ⟨⟨by decide +kernel, by decide +kernel⟩, List.mem_of_getElem? (i := 612) (by decide +kernel), List.mem_of_getElem? (i := 776) (by decide +kernel), List.mem_of_getElem? (i := 777) (by decide +kernel)⟩
def lw_privs_3 : List (MethodName × Nat) := [(⟨"AntiDeskModel", "next", "()C"⟩, 13), (⟨"AntiDeskModel", "readTerm", "(Z)V"⟩, 13), (⟨"AntiDeskModel", "readNumber", "(II)I"⟩, 13), (⟨"AntiDeskModel", "wrong", "(II)V"⟩, 13), (⟨"AntiDeskModel", "want", "(C)V"⟩, 13), (⟨"AntiDeskModel", "addTerm", "(IIIIJJ)V"⟩, 13), (⟨"AntiDeskModel", "checkAll", "()V"⟩, 13), (⟨"AntiDeskModel", "isOut", "(I)Z"⟩, 13), (⟨"AntiDeskModel", "finish", "(I)I"⟩, 13), (⟨"AntiDeskModel", "fits", "(I)Z"⟩, 13), (⟨"AntiDeskModel", "termsOf", "(I)I"⟩, 13), (⟨"AntiDeskModel", "copy", "(II)V"⟩, 13), (⟨"AntiDeskModel", "putTerm", "(IIJJ)V"⟩, 13), (⟨"AntiDeskModel", "put", "(C)V"⟩, 13), (⟨"AntiDeskModel", "putNumber", "(J)V"⟩, 13), (⟨"AntiDeskModel", "putFunction", "(I)V"⟩, 13)]
theorem lw_r3 : ∀ q ∈ lw_privs_3, lw_okq q := List.forall_mem_cons.mpr ⟨lw_p32, List.forall_mem_cons.mpr ⟨lw_p33, List.forall_mem_cons.mpr ⟨lw_p34, List.forall_mem_cons.mpr ⟨lw_p35, List.forall_mem_cons.mpr ⟨lw_p36, List.forall_mem_cons.mpr ⟨lw_p37, List.forall_mem_cons.mpr ⟨lw_p38, List.forall_mem_cons.mpr ⟨lw_p39, List.forall_mem_cons.mpr ⟨lw_p40, List.forall_mem_cons.mpr ⟨lw_p41, List.forall_mem_cons.mpr ⟨lw_p42, List.forall_mem_cons.mpr ⟨lw_p43, List.forall_mem_cons.mpr ⟨lw_p44, List.forall_mem_cons.mpr ⟨lw_p45, List.forall_mem_cons.mpr ⟨lw_p46, List.forall_mem_cons.mpr ⟨lw_p47, fun _ h => absurd h List.not_mem_nil⟩⟩⟩⟩⟩⟩⟩⟩⟩⟩⟩⟩⟩⟩⟩⟩
theorem lw_p48 : lw_okq (⟨"AntiDeskModel", "isSmall", "(I)Z"⟩, 13) := ⟨⟨by decide +kernel, by decide +kernel⟩, List.mem_of_getElem? (i := 612) (by decide +kernel), List.mem_of_getElem? (i := 794) (by decide +kernel), List.mem_of_getElem? (i := 795) (by decide +kernel)⟩
theorem lw_p49 : lw_okq (⟨"AntiDeskModel", "multiply", "(IIIJJ)V"⟩, 13) := ⟨⟨by decide +kernel, by decide +kernel⟩, List.mem_of_getElem? (i := 612) (by decide +kernel), List.mem_of_getElem? (i := 808) (by decide +kernel), List.mem_of_getElem? (i := 809) (by decide +kernel)⟩
theorem lw_p50 : lw_okq (⟨"AntiDeskModel", "integrateLog", "(II)V"⟩, 13) := ⟨⟨by decide +kernel, by decide +kernel⟩, List.mem_of_getElem? (i := 612) (by decide +kernel), List.mem_of_getElem? (i := 821) (by decide +kernel), List.mem_of_getElem? (i := 822) (by decide +kernel)⟩
theorem lw_p51 : lw_okq (⟨"AntiDeskModel", "lay", "(IIIJJ)V"⟩, 13) := ⟨⟨by decide +kernel, by decide +kernel⟩, List.mem_of_getElem? (i := 612) (by decide +kernel), List.mem_of_getElem? (i := 825) (by decide +kernel), List.mem_of_getElem? (i := 826) (by decide +kernel)⟩
theorem lw_p52 : lw_okq (⟨"AntiDeskModel", "scale", "(JJ)V"⟩, 13) := ⟨⟨by decide +kernel, by decide +kernel⟩, List.mem_of_getElem? (i := 612) (by decide +kernel), List.mem_of_getElem? (i := 829) (by decide +kernel), List.mem_of_getElem? (i := 830) (by decide +kernel)⟩
theorem lw_p53 : lw_okq (⟨"AntiDeskModel", "integrateOther", "(III)V"⟩, 13) := ⟨⟨by decide +kernel, by decide +kernel⟩, List.mem_of_getElem? (i := 612) (by decide +kernel), List.mem_of_getElem? (i := 833) (by decide +kernel), List.mem_of_getElem? (i := 834) (by decide +kernel)⟩
def lw_privs_4 : List (MethodName × Nat) := [(⟨"AntiDeskModel", "isSmall", "(I)Z"⟩, 13), (⟨"AntiDeskModel", "multiply", "(IIIJJ)V"⟩, 13), (⟨"AntiDeskModel", "integrateLog", "(II)V"⟩, 13), (⟨"AntiDeskModel", "lay", "(IIIJJ)V"⟩, 13), (⟨"AntiDeskModel", "scale", "(JJ)V"⟩, 13), (⟨"AntiDeskModel", "integrateOther", "(III)V"⟩, 13)]
theorem lw_r4 : ∀ q ∈ lw_privs_4, lw_okq q := List.forall_mem_cons.mpr ⟨lw_p48, List.forall_mem_cons.mpr ⟨lw_p49, List.forall_mem_cons.mpr ⟨lw_p50, List.forall_mem_cons.mpr ⟨lw_p51, List.forall_mem_cons.mpr ⟨lw_p52, List.forall_mem_cons.mpr ⟨lw_p53, fun _ h => absurd h List.not_mem_nil⟩⟩⟩⟩⟩⟩
def lw_privs : List (MethodName × Nat) := lw_privs_1 ++ (lw_privs_2 ++ (lw_privs_3 ++ (lw_privs_4)))
def lw_tbl : List Cond := k2_sels lw_privs ++ tables_1
theorem lw_privs_ok : ∀ q ∈ lw_privs, lw_okq q := by
  show ∀ q ∈ lw_privs_1 ++ (lw_privs_2 ++ (lw_privs_3 ++ (lw_privs_4))), lw_okq q
  exact List.forall_mem_append.mpr ⟨lw_r1, List.forall_mem_append.mpr ⟨lw_r2, List.forall_mem_append.mpr ⟨lw_r3, lw_r4⟩⟩⟩
end
section
def RX0 : String := "AntiDesk$Calculus"
def TX0 : u_T := fun k => match k with
  | _ => ("", "", "", false)
def tyX0 : Nat → FieldType := fun k => match k with
  | _ => .int
abbrev wsX00 : List Cond := u_ws RX0 TX0 0
theorem nmX0 : ∀ a, a < 0 → ∀ b, b < 0 → a ≠ b → (TX0 a).2.1 ≠ (TX0 b).2.1 := by decide +kernel
theorem tyX0_ok : ∀ k, k < 0 → parseFieldDescriptor (TX0 k).2.2.1 = some (tyX0 k) := by decide +kernel
abbrev cX0_turned : ByteArray := prog_2_method_2_code
def yX0_turned : MethodName := ⟨RX0, "turned", "(I)I"⟩
abbrev cX0_signDerived : ByteArray := prog_2_method_3_code
def yX0_signDerived : MethodName := ⟨RX0, "signDerived", "(I)I"⟩
abbrev cX0_signIntegrated : ByteArray := prog_2_method_4_code
def yX0_signIntegrated : MethodName := ⟨RX0, "signIntegrated", "(I)I"⟩
abbrev cX0_putDerivative : ByteArray := prog_2_method_5_code
def yX0_putDerivative : MethodName := ⟨RX0, "putDerivative", "(LAntiDesk$Sum;LAntiDesk$Sum;)V"⟩
abbrev cX0_putIntegral : ByteArray := prog_2_method_6_code
def yX0_putIntegral : MethodName := ⟨RX0, "putIntegral", "(LAntiDesk$Sum;LAntiDesk$Sum;LAntiDesk$Sum;)V"⟩
abbrev cX0_integrateLog : ByteArray := prog_2_method_7_code
def yX0_integrateLog : MethodName := ⟨RX0, "integrateLog", "(LAntiDesk$Sum;IIJJ)V"⟩
abbrev cX0_lowerPower : ByteArray := prog_2_method_8_code
def yX0_lowerPower : MethodName := ⟨RX0, "lowerPower", "(LAntiDesk$Sum;IIIJJ)V"⟩
abbrev cX0_raisePower : ByteArray := prog_2_method_9_code
def yX0_raisePower : MethodName := ⟨RX0, "raisePower", "(LAntiDesk$Sum;LAntiDesk$Sum;IIIJJ)V"⟩
def RX1 : String := "AntiDesk$Line"
def TX1 : u_T := fun k => match k with
  | 0 => ("AntiDesk$Line", "characters", "[C", true)
  | _ => ("AntiDesk$Line", "length", "I", false)
def tyX1 : Nat → FieldType := fun k => match k with
  | 0 => .array .char
  | _ => .int
abbrev wsX10 : List Cond := u_ws RX1 TX1 2
theorem nmX1 : ∀ a, a < 2 → ∀ b, b < 2 → a ≠ b → (TX1 a).2.1 ≠ (TX1 b).2.1 := by decide +kernel
theorem tyX1_ok : ∀ k, k < 2 → parseFieldDescriptor (TX1 k).2.2.1 = some (tyX1 k) := by decide +kernel
abbrev cX1_init : ByteArray := prog_3_method_1_code
def yX1_init : MethodName := ⟨RX1, "<init>", "()V"⟩
abbrev cX1_charactersIn : ByteArray := prog_3_method_2_code
def yX1_charactersIn : MethodName := ⟨RX1, "charactersIn", "(I)I"⟩
abbrev cX1_append : ByteArray := prog_3_method_3_code
def yX1_append : MethodName := ⟨RX1, "append", "(I)V"⟩
abbrev cX1_clear : ByteArray := prog_3_method_4_code
def yX1_clear : MethodName := ⟨RX1, "clear", "()V"⟩
abbrev cX1_length : ByteArray := prog_3_method_5_code
def yX1_length : MethodName := ⟨RX1, "length", "()I"⟩
abbrev cX1_charAt : ByteArray := prog_3_method_6_code
def yX1_charAt : MethodName := ⟨RX1, "charAt", "(I)C"⟩
def RX2 : String := "AntiDesk$Product"
def TX2 : u_T := fun k => match k with
  | _ => ("", "", "", false)
def tyX2 : Nat → FieldType := fun k => match k with
  | _ => .int
abbrev wsX20 : List Cond := u_ws RX2 TX2 0
theorem nmX2 : ∀ a, a < 0 → ∀ b, b < 0 → a ≠ b → (TX2 a).2.1 ≠ (TX2 b).2.1 := by decide +kernel
theorem tyX2_ok : ∀ k, k < 0 → parseFieldDescriptor (TX2 k).2.2.1 = some (tyX2 k) := by decide +kernel
abbrev cX2_canBeTold : ByteArray := prog_4_method_2_code
def yX2_canBeTold : MethodName := ⟨RX2, "canBeTold", "(LAntiDesk$Sum;LAntiDesk$Sum;)Z"⟩
abbrev cX2_canMeet : ByteArray := prog_4_method_3_code
def yX2_canMeet : MethodName := ⟨RX2, "canMeet", "(II)Z"⟩
abbrev cX2_isWave : ByteArray := prog_4_method_4_code
def yX2_isWave : MethodName := ⟨RX2, "isWave", "(I)Z"⟩
abbrev cX2_putProduct : ByteArray := prog_4_method_5_code
def yX2_putProduct : MethodName := ⟨RX2, "putProduct", "(LAntiDesk$Sum;LAntiDesk$Sum;LAntiDesk$Sum;)V"⟩
abbrev cX2_putJoined : ByteArray := prog_4_method_6_code
def yX2_putJoined : MethodName := ⟨RX2, "putJoined", "(LAntiDesk$Sum;LAntiDesk$Sum;ILAntiDesk$Sum;I)V"⟩
abbrev cX2_putWaves : ByteArray := prog_4_method_7_code
def yX2_putWaves : MethodName := ⟨RX2, "putWaves", "(LAntiDesk$Sum;LAntiDesk$Sum;ILAntiDesk$Sum;I)V"⟩
def RX3 : String := "AntiDesk$Reader"
def TX3 : u_T := fun k => match k with
  | 0 => ("AntiDesk$Reader", "line", "LAntiDesk$Line;", true)
  | 1 => ("AntiDesk$Reader", "sum", "LAntiDesk$Sum;", true)
  | 2 => ("AntiDesk$Reader", "at", "I", false)
  | 3 => ("AntiDesk$Reader", "fault", "I", false)
  | 4 => ("AntiDesk$Reader", "faultPlace", "I", false)
  | 5 => ("AntiDesk$Reader", "top", "J", false)
  | 6 => ("AntiDesk$Reader", "bottom", "J", false)
  | 7 => ("AntiDesk$Reader", "power", "I", false)
  | 8 => ("AntiDesk$Reader", "kind", "I", false)
  | _ => ("AntiDesk$Reader", "argument", "I", false)
def tyX3 : Nat → FieldType := fun k => match k with
  | 0 => .object "AntiDesk$Line"
  | 1 => .object "AntiDesk$Sum"
  | 2 => .int
  | 3 => .int
  | 4 => .int
  | 5 => .long
  | 6 => .long
  | 7 => .int
  | 8 => .int
  | _ => .int
abbrev wsX30 : List Cond := u_ws RX3 TX3 10
theorem nmX3 : ∀ a, a < 10 → ∀ b, b < 10 → a ≠ b → (TX3 a).2.1 ≠ (TX3 b).2.1 := by decide +kernel
theorem tyX3_ok : ∀ k, k < 10 → parseFieldDescriptor (TX3 k).2.2.1 = some (tyX3 k) := by decide +kernel
abbrev cX3_init : ByteArray := prog_5_method_1_code
def yX3_init : MethodName := ⟨RX3, "<init>", "(LAntiDesk$Line;LAntiDesk$Sum;)V"⟩
abbrev cX3_faultPlace : ByteArray := prog_5_method_2_code
def yX3_faultPlace : MethodName := ⟨RX3, "faultPlace", "()I"⟩
abbrev cX3_readLine : ByteArray := prog_5_method_3_code
def yX3_readLine : MethodName := ⟨RX3, "readLine", "()I"⟩
abbrev cX3_addTerm : ByteArray := prog_5_method_4_code
def yX3_addTerm : MethodName := ⟨RX3, "addTerm", "()Z"⟩
abbrev cX3_readTerm : ByteArray := prog_5_method_5_code
def yX3_readTerm : MethodName := ⟨RX3, "readTerm", "(Z)Z"⟩
abbrev cX3_readCoefficient : ByteArray := prog_5_method_6_code
def yX3_readCoefficient : MethodName := ⟨RX3, "readCoefficient", "()Z"⟩
abbrev cX3_readPower : ByteArray := prog_5_method_7_code
def yX3_readPower : MethodName := ⟨RX3, "readPower", "()Z"⟩
abbrev cX3_readFunction : ByteArray := prog_5_method_8_code
def yX3_readFunction : MethodName := ⟨RX3, "readFunction", "()Z"⟩
abbrev cX3_readLogPower : ByteArray := prog_5_method_9_code
def yX3_readLogPower : MethodName := ⟨RX3, "readLogPower", "()Z"⟩
abbrev cX3_readMultiple : ByteArray := prog_5_method_10_code
def yX3_readMultiple : MethodName := ⟨RX3, "readMultiple", "()Z"⟩
abbrev cX3_readNumber : ByteArray := prog_5_method_11_code
def yX3_readNumber : MethodName := ⟨RX3, "readNumber", "(II)I"⟩
abbrev cX3_expect : ByteArray := prog_5_method_12_code
def yX3_expect : MethodName := ⟨RX3, "expect", "(C)Z"⟩
abbrev cX3_takes : ByteArray := prog_5_method_13_code
def yX3_takes : MethodName := ⟨RX3, "takes", "(C)Z"⟩
abbrev cX3_next : ByteArray := prog_5_method_14_code
def yX3_next : MethodName := ⟨RX3, "next", "()C"⟩
abbrev cX3_refuse : ByteArray := prog_5_method_15_code
def yX3_refuse : MethodName := ⟨RX3, "refuse", "(II)Z"⟩
abbrev cX3_isDigit : ByteArray := prog_5_method_16_code
def yX3_isDigit : MethodName := ⟨RX3, "isDigit", "(C)Z"⟩
def RX4 : String := "AntiDesk$Sum"
def TX4 : u_T := fun k => match k with
  | 0 => ("AntiDesk$Sum", "room", "I", true)
  | 1 => ("AntiDesk$Sum", "keys", "[I", true)
  | 2 => ("AntiDesk$Sum", "tops", "[J", true)
  | 3 => ("AntiDesk$Sum", "bottoms", "[J", true)
  | 4 => ("AntiDesk$Sum", "size", "I", false)
  | _ => ("AntiDesk$Sum", "overflown", "Z", false)
def tyX4 : Nat → FieldType := fun k => match k with
  | 0 => .int
  | 1 => .array .int
  | 2 => .array .long
  | 3 => .array .long
  | 4 => .int
  | _ => .boolean
abbrev wsX40 : List Cond := u_ws RX4 TX4 6
theorem nmX4 : ∀ a, a < 6 → ∀ b, b < 6 → a ≠ b → (TX4 a).2.1 ≠ (TX4 b).2.1 := by decide +kernel
theorem tyX4_ok : ∀ k, k < 6 → parseFieldDescriptor (TX4 k).2.2.1 = some (tyX4 k) := by decide +kernel
abbrev cX4_init : ByteArray := prog_6_method_1_code
def yX4_init : MethodName := ⟨RX4, "<init>", "(I)V"⟩
abbrev cX4_keyOf : ByteArray := prog_6_method_2_code
def yX4_keyOf : MethodName := ⟨RX4, "keyOf", "(III)I"⟩
abbrev cX4_clear : ByteArray := prog_6_method_3_code
def yX4_clear : MethodName := ⟨RX4, "clear", "()V"⟩
abbrev cX4_size : ByteArray := prog_6_method_4_code
def yX4_size : MethodName := ⟨RX4, "size", "()I"⟩
abbrev cX4_has : ByteArray := prog_6_method_5_code
def yX4_has : MethodName := ⟨RX4, "has", "(I)Z"⟩
abbrev cX4_topAt : ByteArray := prog_6_method_6_code
def yX4_topAt : MethodName := ⟨RX4, "topAt", "(I)J"⟩
abbrev cX4_bottomAt : ByteArray := prog_6_method_7_code
def yX4_bottomAt : MethodName := ⟨RX4, "bottomAt", "(I)J"⟩
abbrev cX4_kindAt : ByteArray := prog_6_method_8_code
def yX4_kindAt : MethodName := ⟨RX4, "kindAt", "(I)I"⟩
abbrev cX4_argumentAt : ByteArray := prog_6_method_9_code
def yX4_argumentAt : MethodName := ⟨RX4, "argumentAt", "(I)I"⟩
abbrev cX4_powerAt : ByteArray := prog_6_method_10_code
def yX4_powerAt : MethodName := ⟨RX4, "powerAt", "(I)I"⟩
abbrev cX4_put : ByteArray := prog_6_method_11_code
def yX4_put : MethodName := ⟨RX4, "put", "(IIIJJ)V"⟩
abbrev cX4_putAll : ByteArray := prog_6_method_12_code
def yX4_putAll : MethodName := ⟨RX4, "putAll", "(LAntiDesk$Sum;JJ)V"⟩
abbrev cX4_addUp : ByteArray := prog_6_method_13_code
def yX4_addUp : MethodName := ⟨RX4, "addUp", "(IJJ)V"⟩
abbrev cX4_placeFor : ByteArray := prog_6_method_14_code
def yX4_placeFor : MethodName := ⟨RX4, "placeFor", "(I)I"⟩
abbrev cX4_openAt : ByteArray := prog_6_method_15_code
def yX4_openAt : MethodName := ⟨RX4, "openAt", "(I)Z"⟩
abbrev cX4_closeAt : ByteArray := prog_6_method_16_code
def yX4_closeAt : MethodName := ⟨RX4, "closeAt", "(I)V"⟩
abbrev cX4_setReduced : ByteArray := prog_6_method_17_code
def yX4_setReduced : MethodName := ⟨RX4, "setReduced", "(IJJ)V"⟩
abbrev cX4_commonDivisor : ByteArray := prog_6_method_18_code
def yX4_commonDivisor : MethodName := ⟨RX4, "commonDivisor", "(JJ)J"⟩
abbrev cX4_fits : ByteArray := prog_6_method_19_code
def yX4_fits : MethodName := ⟨RX4, "fits", "()Z"⟩
abbrev cX4_isSmall : ByteArray := prog_6_method_20_code
def yX4_isSmall : MethodName := ⟨RX4, "isSmall", "()Z"⟩
abbrev cX4_isWithin : ByteArray := prog_6_method_21_code
def yX4_isWithin : MethodName := ⟨RX4, "isWithin", "(JJII)Z"⟩
abbrev cX4_become : ByteArray := prog_6_method_22_code
def yX4_become : MethodName := ⟨RX4, "become", "(LAntiDesk$Sum;)V"⟩
abbrev cX4_matches : ByteArray := prog_6_method_23_code
def yX4_matches : MethodName := ⟨RX4, "matches", "(LAntiDesk$Sum;)Z"⟩
def RX5 : String := "AntiDesk$Writer"
def TX5 : u_T := fun k => match k with
  | 0 => ("AntiDesk$Writer", "characters", "[C", true)
  | _ => ("AntiDesk$Writer", "length", "I", false)
def tyX5 : Nat → FieldType := fun k => match k with
  | 0 => .array .char
  | _ => .int
abbrev wsX50 : List Cond := u_ws RX5 TX5 2
theorem nmX5 : ∀ a, a < 2 → ∀ b, b < 2 → a ≠ b → (TX5 a).2.1 ≠ (TX5 b).2.1 := by decide +kernel
theorem tyX5_ok : ∀ k, k < 2 → parseFieldDescriptor (TX5 k).2.2.1 = some (tyX5 k) := by decide +kernel
abbrev cX5_init : ByteArray := prog_7_method_1_code
def yX5_init : MethodName := ⟨RX5, "<init>", "()V"⟩
abbrev cX5_length : ByteArray := prog_7_method_2_code
def yX5_length : MethodName := ⟨RX5, "length", "()I"⟩
abbrev cX5_charAt : ByteArray := prog_7_method_3_code
def yX5_charAt : MethodName := ⟨RX5, "charAt", "(I)C"⟩
abbrev cX5_writeSum : ByteArray := prog_7_method_4_code
def yX5_writeSum : MethodName := ⟨RX5, "writeSum", "(LAntiDesk$Sum;)V"⟩
abbrev cX5_writeTerm : ByteArray := prog_7_method_5_code
def yX5_writeTerm : MethodName := ⟨RX5, "writeTerm", "(LAntiDesk$Sum;I)V"⟩
abbrev cX5_writeCoefficient : ByteArray := prog_7_method_6_code
def yX5_writeCoefficient : MethodName := ⟨RX5, "writeCoefficient", "(JJZ)V"⟩
abbrev cX5_writePower : ByteArray := prog_7_method_7_code
def yX5_writePower : MethodName := ⟨RX5, "writePower", "(I)V"⟩
abbrev cX5_writeExponent : ByteArray := prog_7_method_8_code
def yX5_writeExponent : MethodName := ⟨RX5, "writeExponent", "(I)V"⟩
abbrev cX5_writeFunction : ByteArray := prog_7_method_9_code
def yX5_writeFunction : MethodName := ⟨RX5, "writeFunction", "(II)V"⟩
abbrev cX5_writeMultiple : ByteArray := prog_7_method_10_code
def yX5_writeMultiple : MethodName := ⟨RX5, "writeMultiple", "(I)V"⟩
abbrev cX5_writeNumber : ByteArray := prog_7_method_11_code
def yX5_writeNumber : MethodName := ⟨RX5, "writeNumber", "(J)V"⟩
abbrev cX5_append : ByteArray := prog_7_method_12_code
def yX5_append : MethodName := ⟨RX5, "append", "(C)V"⟩
def RX6 : String := "AntiDesk"
def TX6 : u_T := fun k => match k with
  | 0 => ("AntiDesk", "slots", "[LAntiDesk$Sum;", true)
  | 1 => ("AntiDesk", "work", "LAntiDesk$Sum;", true)
  | 2 => ("AntiDesk", "left", "LAntiDesk$Sum;", true)
  | 3 => ("AntiDesk", "line", "LAntiDesk$Line;", true)
  | 4 => ("AntiDesk", "reader", "LAntiDesk$Reader;", true)
  | _ => ("AntiDesk", "writer", "LAntiDesk$Writer;", true)
def tyX6 : Nat → FieldType := fun k => match k with
  | 0 => .array (.object "AntiDesk$Sum")
  | 1 => .object "AntiDesk$Sum"
  | 2 => .object "AntiDesk$Sum"
  | 3 => .object "AntiDesk$Line"
  | 4 => .object "AntiDesk$Reader"
  | _ => .object "AntiDesk$Writer"
abbrev wsX60 : List Cond := u_ws RX6 TX6 6
theorem nmX6 : ∀ a, a < 6 → ∀ b, b < 6 → a ≠ b → (TX6 a).2.1 ≠ (TX6 b).2.1 := by decide +kernel
theorem tyX6_ok : ∀ k, k < 6 → parseFieldDescriptor (TX6 k).2.2.1 = some (tyX6 k) := by decide +kernel
abbrev cX6_init : ByteArray := prog_1_method_1_code
def yX6_init : MethodName := ⟨RX6, "<init>", "()V"⟩
abbrev cX6_type : ByteArray := prog_1_method_2_code
def yX6_type : MethodName := ⟨RX6, "type", "(IIIII)I"⟩
abbrev cX6_erase : ByteArray := prog_1_method_3_code
def yX6_erase : MethodName := ⟨RX6, "erase", "()I"⟩
abbrev cX6_read : ByteArray := prog_1_method_4_code
def yX6_read : MethodName := ⟨RX6, "read", "(I)I"⟩
abbrev cX6_place : ByteArray := prog_1_method_5_code
def yX6_place : MethodName := ⟨RX6, "place", "()I"⟩
abbrev cX6_write : ByteArray := prog_1_method_6_code
def yX6_write : MethodName := ⟨RX6, "write", "(I)I"⟩
abbrev cX6_output : ByteArray := prog_1_method_7_code
def yX6_output : MethodName := ⟨RX6, "output", "(I)C"⟩
abbrev cX6_add : ByteArray := prog_1_method_8_code
def yX6_add : MethodName := ⟨RX6, "add", "(IIIII)I"⟩
abbrev cX6_times : ByteArray := prog_1_method_9_code
def yX6_times : MethodName := ⟨RX6, "times", "(III)I"⟩
abbrev cX6_derive : ByteArray := prog_1_method_10_code
def yX6_derive : MethodName := ⟨RX6, "derive", "(II)I"⟩
abbrev cX6_integrate : ByteArray := prog_1_method_11_code
def yX6_integrate : MethodName := ⟨RX6, "integrate", "(III)I"⟩
abbrev cX6_same : ByteArray := prog_1_method_12_code
def yX6_same : MethodName := ⟨RX6, "same", "(II)Z"⟩
abbrev cX6_terms : ByteArray := prog_1_method_13_code
def yX6_terms : MethodName := ⟨RX6, "terms", "(I)I"⟩
abbrev cX6_term : ByteArray := prog_1_method_14_code
def yX6_term : MethodName := ⟨RX6, "term", "(III)J"⟩
abbrev cX6_isSlot : ByteArray := prog_1_method_15_code
def yX6_isSlot : MethodName := ⟨RX6, "isSlot", "(I)Z"⟩
abbrev cX6_settle : ByteArray := prog_1_method_16_code
def yX6_settle : MethodName := ⟨RX6, "settle", "(I)I"⟩
def RX7 : String := "AntiDeskModel"
def TX7 : u_T := fun k => match k with
  | 0 => ("AntiDeskModel", "refusal", "I", false)
  | 1 => ("AntiDeskModel", "line", "[C", true)
  | 2 => ("AntiDeskModel", "lineSize", "I", false)
  | 3 => ("AntiDeskModel", "out", "[C", true)
  | 4 => ("AntiDeskModel", "outSize", "I", false)
  | 5 => ("AntiDeskModel", "wrongPlace", "I", false)
  | 6 => ("AntiDeskModel", "up", "[J", true)
  | 7 => ("AntiDeskModel", "down", "[J", true)
  | 8 => ("AntiDeskModel", "isFull", "Z", false)
  | 9 => ("AntiDeskModel", "at", "I", false)
  | 10 => ("AntiDeskModel", "fault", "I", false)
  | 11 => ("AntiDeskModel", "top", "J", false)
  | _ => ("AntiDeskModel", "bottom", "J", false)
def tyX7 : Nat → FieldType := fun k => match k with
  | 0 => .int
  | 1 => .array .char
  | 2 => .int
  | 3 => .array .char
  | 4 => .int
  | 5 => .int
  | 6 => .array .long
  | 7 => .array .long
  | 8 => .boolean
  | 9 => .int
  | 10 => .int
  | 11 => .long
  | _ => .long
abbrev wsX70 : List Cond := u_ws RX7 TX7 13
theorem nmX7 : ∀ a, a < 13 → ∀ b, b < 13 → a ≠ b → (TX7 a).2.1 ≠ (TX7 b).2.1 := by decide +kernel
theorem tyX7_ok : ∀ k, k < 13 → parseFieldDescriptor (TX7 k).2.2.1 = some (tyX7 k) := by decide +kernel
abbrev cX7_init : ByteArray := prog_9_method_1_code
def yX7_init : MethodName := ⟨RX7, "<init>", "()V"⟩
abbrev cX7_thrown : ByteArray := prog_9_method_2_code
def yX7_thrown : MethodName := ⟨RX7, "thrown", "()I"⟩
abbrev cX7_refused : ByteArray := prog_9_method_3_code
def yX7_refused : MethodName := ⟨RX7, "refused", "(I)Z"⟩
abbrev cX7_isSlot : ByteArray := prog_9_method_4_code
def yX7_isSlot : MethodName := ⟨RX7, "isSlot", "(I)Z"⟩
abbrev cX7_kindOf : ByteArray := prog_9_method_5_code
def yX7_kindOf : MethodName := ⟨RX7, "kindOf", "(I)I"⟩
abbrev cX7_countOf : ByteArray := prog_9_method_6_code
def yX7_countOf : MethodName := ⟨RX7, "countOf", "(I)I"⟩
abbrev cX7_functionOf : ByteArray := prog_9_method_7_code
def yX7_functionOf : MethodName := ⟨RX7, "functionOf", "(II)I"⟩
abbrev cX7_gcd : ByteArray := prog_9_method_8_code
def yX7_gcd : MethodName := ⟨RX7, "gcd", "(JJ)J"⟩
abbrev cX7_empty : ByteArray := prog_9_method_9_code
def yX7_empty : MethodName := ⟨RX7, "empty", "(I)V"⟩
abbrev cX7_addTerm : ByteArray := prog_9_method_10_code
def yX7_addTerm : MethodName := ⟨RX7, "addTerm", "(IIIIJJ)V"⟩
abbrev cX7_isOut : ByteArray := prog_9_method_11_code
def yX7_isOut : MethodName := ⟨RX7, "isOut", "(I)Z"⟩
abbrev cX7_termsOf : ByteArray := prog_9_method_12_code
def yX7_termsOf : MethodName := ⟨RX7, "termsOf", "(I)I"⟩
abbrev cX7_fits : ByteArray := prog_9_method_13_code
def yX7_fits : MethodName := ⟨RX7, "fits", "(I)Z"⟩
abbrev cX7_copy : ByteArray := prog_9_method_14_code
def yX7_copy : MethodName := ⟨RX7, "copy", "(II)V"⟩
abbrev cX7_finish : ByteArray := prog_9_method_15_code
def yX7_finish : MethodName := ⟨RX7, "finish", "(I)I"⟩
abbrev cX7_isSmall : ByteArray := prog_9_method_16_code
def yX7_isSmall : MethodName := ⟨RX7, "isSmall", "(I)Z"⟩
abbrev cX7_putCell : ByteArray := prog_9_method_17_code
def yX7_putCell : MethodName := ⟨RX7, "putCell", "(II)V"⟩
abbrev cX7_type : ByteArray := prog_9_method_18_code
def yX7_type : MethodName := ⟨RX7, "type", "(IIIII)I"⟩
abbrev cX7_erase : ByteArray := prog_9_method_19_code
def yX7_erase : MethodName := ⟨RX7, "erase", "()I"⟩
abbrev cX7_next : ByteArray := prog_9_method_20_code
def yX7_next : MethodName := ⟨RX7, "next", "()C"⟩
abbrev cX7_isDigit : ByteArray := prog_9_method_21_code
def yX7_isDigit : MethodName := ⟨RX7, "isDigit", "(C)Z"⟩
abbrev cX7_wrong : ByteArray := prog_9_method_22_code
def yX7_wrong : MethodName := ⟨RX7, "wrong", "(II)V"⟩
abbrev cX7_takes : ByteArray := prog_9_method_23_code
def yX7_takes : MethodName := ⟨RX7, "takes", "(C)Z"⟩
abbrev cX7_want : ByteArray := prog_9_method_24_code
def yX7_want : MethodName := ⟨RX7, "want", "(C)V"⟩
abbrev cX7_readNumber : ByteArray := prog_9_method_25_code
def yX7_readNumber : MethodName := ⟨RX7, "readNumber", "(II)I"⟩
abbrev cX7_readTerm : ByteArray := prog_9_method_26_code
def yX7_readTerm : MethodName := ⟨RX7, "readTerm", "(Z)V"⟩
abbrev cX7_checkAll : ByteArray := prog_9_method_27_code
def yX7_checkAll : MethodName := ⟨RX7, "checkAll", "()V"⟩
abbrev cX7_read : ByteArray := prog_9_method_28_code
def yX7_read : MethodName := ⟨RX7, "read", "(I)I"⟩
abbrev cX7_place : ByteArray := prog_9_method_29_code
def yX7_place : MethodName := ⟨RX7, "place", "()I"⟩
abbrev cX7_put : ByteArray := prog_9_method_30_code
def yX7_put : MethodName := ⟨RX7, "put", "(C)V"⟩
abbrev cX7_putNumber : ByteArray := prog_9_method_31_code
def yX7_putNumber : MethodName := ⟨RX7, "putNumber", "(J)V"⟩
abbrev cX7_putFunction : ByteArray := prog_9_method_32_code
def yX7_putFunction : MethodName := ⟨RX7, "putFunction", "(I)V"⟩
abbrev cX7_putTerm : ByteArray := prog_9_method_33_code
def yX7_putTerm : MethodName := ⟨RX7, "putTerm", "(IIJJ)V"⟩
abbrev cX7_write : ByteArray := prog_9_method_34_code
def yX7_write : MethodName := ⟨RX7, "write", "(I)I"⟩
abbrev cX7_output : ByteArray := prog_9_method_35_code
def yX7_output : MethodName := ⟨RX7, "output", "(I)C"⟩
abbrev cX7_add : ByteArray := prog_9_method_36_code
def yX7_add : MethodName := ⟨RX7, "add", "(IIIII)I"⟩
abbrev cX7_clash : ByteArray := prog_9_method_37_code
def yX7_clash : MethodName := ⟨RX7, "clash", "(II)Z"⟩
abbrev cX7_multiply : ByteArray := prog_9_method_38_code
def yX7_multiply : MethodName := ⟨RX7, "multiply", "(IIIJJ)V"⟩
abbrev cX7_times : ByteArray := prog_9_method_39_code
def yX7_times : MethodName := ⟨RX7, "times", "(III)I"⟩
abbrev cX7_derive : ByteArray := prog_9_method_40_code
def yX7_derive : MethodName := ⟨RX7, "derive", "(II)I"⟩
abbrev cX7_scale : ByteArray := prog_9_method_41_code
def yX7_scale : MethodName := ⟨RX7, "scale", "(JJ)V"⟩
abbrev cX7_lay : ByteArray := prog_9_method_42_code
def yX7_lay : MethodName := ⟨RX7, "lay", "(IIIJJ)V"⟩
abbrev cX7_integrateLog : ByteArray := prog_9_method_43_code
def yX7_integrateLog : MethodName := ⟨RX7, "integrateLog", "(II)V"⟩
abbrev cX7_integrateOther : ByteArray := prog_9_method_44_code
def yX7_integrateOther : MethodName := ⟨RX7, "integrateOther", "(III)V"⟩
abbrev cX7_integrate : ByteArray := prog_9_method_45_code
def yX7_integrate : MethodName := ⟨RX7, "integrate", "(III)I"⟩
abbrev cX7_same : ByteArray := prog_9_method_46_code
def yX7_same : MethodName := ⟨RX7, "same", "(II)Z"⟩
abbrev cX7_terms : ByteArray := prog_9_method_47_code
def yX7_terms : MethodName := ⟨RX7, "terms", "(I)I"⟩
abbrev cX7_term : ByteArray := prog_9_method_48_code
def yX7_term : MethodName := ⟨RX7, "term", "(III)J"⟩
def RJ9 : String := "java/lang/Math"
def TJ9 : u_T := fun k => match k with
  | _ => ("", "", "", false)
def tyJ9 : Nat → FieldType := fun k => match k with
  | _ => .int
abbrev wsJ90 : List Cond := u_ws RJ9 TJ9 0
theorem nmJ9 : ∀ a, a < 0 → ∀ b, b < 0 → a ≠ b → (TJ9 a).2.1 ≠ (TJ9 b).2.1 := by decide +kernel
theorem tyJ9_ok : ∀ k, k < 0 → parseFieldDescriptor (TJ9 k).2.2.1 = some (tyJ9 k) := by decide +kernel
abbrev cJ9_abs_0f7a4 : ByteArray := prog_13_method_59_code
def yJ9_abs_0f7a4 : MethodName := ⟨RJ9, "abs", "(I)I"⟩
abbrev cJ9_abs_067f4 : ByteArray := prog_13_method_61_code
def yJ9_abs_067f4 : MethodName := ⟨RJ9, "abs", "(J)J"⟩
abbrev cJ9_max_7cf53 : ByteArray := prog_13_method_65_code
def yJ9_max_7cf53 : MethodName := ⟨RJ9, "max", "(II)I"⟩
abbrev cJ9_min_7cf53 : ByteArray := prog_13_method_69_code
def yJ9_min_7cf53 : MethodName := ⟨RJ9, "min", "(II)I"⟩
def RJ0 : String := "java/lang/String"
def TJ0 : u_T := fun k => match k with
  | _ => ("", "", "", false)
def tyJ0 : Nat → FieldType := fun k => match k with
  | _ => .int
abbrev wsJ00 : List Cond := u_ws RJ0 TJ0 0
theorem nmJ0 : ∀ a, a < 0 → ∀ b, b < 0 → a ≠ b → (TJ0 a).2.1 ≠ (TJ0 b).2.1 := by decide +kernel
theorem tyJ0_ok : ∀ k, k < 0 → parseFieldDescriptor (TJ0 k).2.2.1 = some (tyJ0 k) := by decide +kernel
def RL : String := "AntiDeskLaw"
abbrev cL_type : ByteArray := method_3_code
def yL_type : MethodName := ⟨RL, "type", "(LAntiDesk;IIIII[J)I"⟩
abbrev cL_read : ByteArray := method_4_code
def yL_read : MethodName := ⟨RL, "read", "(LAntiDesk;I[J)I"⟩
abbrev cL_write : ByteArray := method_5_code
def yL_write : MethodName := ⟨RL, "write", "(LAntiDesk;I[J)I"⟩
abbrev cL_add : ByteArray := method_6_code
def yL_add : MethodName := ⟨RL, "add", "(LAntiDesk;IIIII[J)I"⟩
abbrev cL_times : ByteArray := method_7_code
def yL_times : MethodName := ⟨RL, "times", "(LAntiDesk;III[J)I"⟩
abbrev cL_derive : ByteArray := method_8_code
def yL_derive : MethodName := ⟨RL, "derive", "(LAntiDesk;II[J)I"⟩
abbrev cL_integrate : ByteArray := method_9_code
def yL_integrate : MethodName := ⟨RL, "integrate", "(LAntiDesk;III[J)I"⟩
abbrev cL_same : ByteArray := method_10_code
def yL_same : MethodName := ⟨RL, "same", "(LAntiDesk;II[J)I"⟩
abbrev cL_terms : ByteArray := method_11_code
def yL_terms : MethodName := ⟨RL, "terms", "(LAntiDesk;I[J)I"⟩
abbrev cL_term : ByteArray := method_12_code
def yL_term : MethodName := ⟨RL, "term", "(LAntiDesk;III[J)I"⟩
abbrev cL_law : ByteArray := code
def yL_law : MethodName := ⟨RL, "law", "([I)Z"⟩
abbrev vwCl : List vw_C := [(RX1, TX1, 2), (RX3, TX3, 10), (RX4, TX4, 6), (RX5, TX5, 2), (RX6, TX6, 6), (RX7, TX7, 13)]
/-- the good words of the tables: every contract asks for these, and its own code first -/
def wd : List Cond := lw_tbl.filter goodWord
theorem wd_of {w : Cond} (h : w ∈ lw_tbl) (hg : goodWord w = true) : w ∈ wd := List.mem_filter.mpr ⟨h, hg⟩
theorem wd_0 {w : Cond} (h : w ∈ k2_sels lw_privs) (hg : goodWord w = true) : w ∈ wd := wd_of (List.mem_append_left _ h) hg
theorem wd_t {w : Cond} (h : w ∈ tables_1) (hg : goodWord w = true) : w ∈ wd := wd_of (List.mem_append_right _ h) hg
theorem wd_1 {w : Cond} (h : w ∈ tables_1_1) (hg : goodWord w = true) : w ∈ wd := wd_t (List.mem_append_left _ h) hg
theorem wd_2 {w : Cond} (h : w ∈ tables_1_2) (hg : goodWord w = true) : w ∈ wd := wd_t (List.mem_append_right _ (List.mem_append_left _ h)) hg
theorem wd_3 {w : Cond} (h : w ∈ tables_1_3) (hg : goodWord w = true) : w ∈ wd := wd_t (List.mem_append_right _ (List.mem_append_right _ (List.mem_append_left _ h))) hg
theorem wd_4 {w : Cond} (h : w ∈ tables_1_4) (hg : goodWord w = true) : w ∈ wd := wd_t (List.mem_append_right _ (List.mem_append_right _ (List.mem_append_right _ h))) hg
end
section
theorem wi_1 : Cond.selects RX3 yX3_takes yX3_takes ∈ wd := wd_0 (List.mem_of_getElem? (i := 1) (by decide +kernel)) rfl
theorem wi_2 : Cond.selects RX3 yX3_next yX3_next ∈ wd := wd_0 (List.mem_of_getElem? (i := 2) (by decide +kernel)) rfl
theorem wi_3 : Cond.selects RX3 yX3_readTerm yX3_readTerm ∈ wd := wd_0 (List.mem_of_getElem? (i := 3) (by decide +kernel)) rfl
theorem wi_4 : Cond.selects RX3 yX3_readCoefficient yX3_readCoefficient ∈ wd := wd_0 (List.mem_of_getElem? (i := 4) (by decide +kernel)) rfl
theorem wi_5 : Cond.selects RX3 yX3_readNumber yX3_readNumber ∈ wd := wd_0 (List.mem_of_getElem? (i := 5) (by decide +kernel)) rfl
theorem wi_6 : Cond.selects RX3 yX3_refuse yX3_refuse ∈ wd := wd_0 (List.mem_of_getElem? (i := 6) (by decide +kernel)) rfl
theorem wi_7 : Cond.selects RX3 yX3_readPower yX3_readPower ∈ wd := wd_0 (List.mem_of_getElem? (i := 7) (by decide +kernel)) rfl
theorem wi_8 : Cond.selects RX3 yX3_readFunction yX3_readFunction ∈ wd := wd_0 (List.mem_of_getElem? (i := 8) (by decide +kernel)) rfl
theorem wi_9 : Cond.selects RX3 yX3_readLogPower yX3_readLogPower ∈ wd := wd_0 (List.mem_of_getElem? (i := 9) (by decide +kernel)) rfl
theorem wi_10 : Cond.selects RX3 yX3_expect yX3_expect ∈ wd := wd_0 (List.mem_of_getElem? (i := 10) (by decide +kernel)) rfl
theorem wi_11 : Cond.selects RX3 yX3_readMultiple yX3_readMultiple ∈ wd := wd_0 (List.mem_of_getElem? (i := 11) (by decide +kernel)) rfl
theorem wi_12 : Cond.selects RX3 yX3_addTerm yX3_addTerm ∈ wd := wd_0 (List.mem_of_getElem? (i := 12) (by decide +kernel)) rfl
theorem wi_13 : Cond.selects RX4 yX4_addUp yX4_addUp ∈ wd := wd_0 (List.mem_of_getElem? (i := 13) (by decide +kernel)) rfl
theorem wi_14 : Cond.selects RX4 yX4_placeFor yX4_placeFor ∈ wd := wd_0 (List.mem_of_getElem? (i := 14) (by decide +kernel)) rfl
theorem wi_15 : Cond.selects RX4 yX4_closeAt yX4_closeAt ∈ wd := wd_0 (List.mem_of_getElem? (i := 15) (by decide +kernel)) rfl
theorem wi_16 : Cond.selects RX4 yX4_openAt yX4_openAt ∈ wd := wd_0 (List.mem_of_getElem? (i := 16) (by decide +kernel)) rfl
theorem wi_17 : Cond.selects RX4 yX4_setReduced yX4_setReduced ∈ wd := wd_0 (List.mem_of_getElem? (i := 17) (by decide +kernel)) rfl
theorem wi_18 : Cond.selects RX4 yX4_isWithin yX4_isWithin ∈ wd := wd_0 (List.mem_of_getElem? (i := 18) (by decide +kernel)) rfl
theorem wi_19 : Cond.selects RX6 yX6_settle yX6_settle ∈ wd := wd_0 (List.mem_of_getElem? (i := 19) (by decide +kernel)) rfl
theorem wi_20 : Cond.selects RX5 yX5_writeTerm yX5_writeTerm ∈ wd := wd_0 (List.mem_of_getElem? (i := 20) (by decide +kernel)) rfl
theorem wi_21 : Cond.selects RX5 yX5_append yX5_append ∈ wd := wd_0 (List.mem_of_getElem? (i := 21) (by decide +kernel)) rfl
theorem wi_22 : Cond.selects RX5 yX5_writeCoefficient yX5_writeCoefficient ∈ wd := wd_0 (List.mem_of_getElem? (i := 22) (by decide +kernel)) rfl
theorem wi_23 : Cond.selects RX5 yX5_writeNumber yX5_writeNumber ∈ wd := wd_0 (List.mem_of_getElem? (i := 23) (by decide +kernel)) rfl
theorem wi_24 : Cond.selects RX5 yX5_writePower yX5_writePower ∈ wd := wd_0 (List.mem_of_getElem? (i := 24) (by decide +kernel)) rfl
theorem wi_25 : Cond.selects RX5 yX5_writeExponent yX5_writeExponent ∈ wd := wd_0 (List.mem_of_getElem? (i := 25) (by decide +kernel)) rfl
theorem wi_26 : Cond.selects RX5 yX5_writeFunction yX5_writeFunction ∈ wd := wd_0 (List.mem_of_getElem? (i := 26) (by decide +kernel)) rfl
theorem wi_27 : Cond.selects RX5 yX5_writeMultiple yX5_writeMultiple ∈ wd := wd_0 (List.mem_of_getElem? (i := 27) (by decide +kernel)) rfl
theorem wi_28 : Cond.selects RX7 yX7_putCell yX7_putCell ∈ wd := wd_0 (List.mem_of_getElem? (i := 28) (by decide +kernel)) rfl
theorem wi_29 : Cond.selects RX7 yX7_refused yX7_refused ∈ wd := wd_0 (List.mem_of_getElem? (i := 29) (by decide +kernel)) rfl
theorem wi_30 : Cond.selects RX7 yX7_empty yX7_empty ∈ wd := wd_0 (List.mem_of_getElem? (i := 30) (by decide +kernel)) rfl
theorem wi_31 : Cond.selects RX7 yX7_takes yX7_takes ∈ wd := wd_0 (List.mem_of_getElem? (i := 31) (by decide +kernel)) rfl
theorem wi_32 : Cond.selects RX7 yX7_next yX7_next ∈ wd := wd_0 (List.mem_of_getElem? (i := 32) (by decide +kernel)) rfl
theorem wi_33 : Cond.selects RX7 yX7_readTerm yX7_readTerm ∈ wd := wd_0 (List.mem_of_getElem? (i := 33) (by decide +kernel)) rfl
theorem wi_34 : Cond.selects RX7 yX7_readNumber yX7_readNumber ∈ wd := wd_0 (List.mem_of_getElem? (i := 34) (by decide +kernel)) rfl
theorem wi_35 : Cond.selects RX7 yX7_wrong yX7_wrong ∈ wd := wd_0 (List.mem_of_getElem? (i := 35) (by decide +kernel)) rfl
theorem wi_36 : Cond.selects RX7 yX7_want yX7_want ∈ wd := wd_0 (List.mem_of_getElem? (i := 36) (by decide +kernel)) rfl
theorem wi_37 : Cond.selects RX7 yX7_addTerm yX7_addTerm ∈ wd := wd_0 (List.mem_of_getElem? (i := 37) (by decide +kernel)) rfl
theorem wi_38 : Cond.selects RX7 yX7_checkAll yX7_checkAll ∈ wd := wd_0 (List.mem_of_getElem? (i := 38) (by decide +kernel)) rfl
theorem wi_39 : Cond.selects RX7 yX7_isOut yX7_isOut ∈ wd := wd_0 (List.mem_of_getElem? (i := 39) (by decide +kernel)) rfl
theorem wi_40 : Cond.selects RX7 yX7_finish yX7_finish ∈ wd := wd_0 (List.mem_of_getElem? (i := 40) (by decide +kernel)) rfl
theorem wi_41 : Cond.selects RX7 yX7_fits yX7_fits ∈ wd := wd_0 (List.mem_of_getElem? (i := 41) (by decide +kernel)) rfl
theorem wi_42 : Cond.selects RX7 yX7_termsOf yX7_termsOf ∈ wd := wd_0 (List.mem_of_getElem? (i := 42) (by decide +kernel)) rfl
theorem wi_43 : Cond.selects RX7 yX7_copy yX7_copy ∈ wd := wd_0 (List.mem_of_getElem? (i := 43) (by decide +kernel)) rfl
theorem wi_44 : Cond.selects RX7 yX7_putTerm yX7_putTerm ∈ wd := wd_0 (List.mem_of_getElem? (i := 44) (by decide +kernel)) rfl
theorem wi_45 : Cond.selects RX7 yX7_put yX7_put ∈ wd := wd_0 (List.mem_of_getElem? (i := 45) (by decide +kernel)) rfl
theorem wi_46 : Cond.selects RX7 yX7_putNumber yX7_putNumber ∈ wd := wd_0 (List.mem_of_getElem? (i := 46) (by decide +kernel)) rfl
theorem wi_47 : Cond.selects RX7 yX7_putFunction yX7_putFunction ∈ wd := wd_0 (List.mem_of_getElem? (i := 47) (by decide +kernel)) rfl
theorem wi_48 : Cond.selects RX7 yX7_isSmall yX7_isSmall ∈ wd := wd_0 (List.mem_of_getElem? (i := 48) (by decide +kernel)) rfl
theorem wi_49 : Cond.selects RX7 yX7_multiply yX7_multiply ∈ wd := wd_0 (List.mem_of_getElem? (i := 49) (by decide +kernel)) rfl
theorem wi_50 : Cond.selects RX7 yX7_integrateLog yX7_integrateLog ∈ wd := wd_0 (List.mem_of_getElem? (i := 50) (by decide +kernel)) rfl
theorem wi_51 : Cond.selects RX7 yX7_lay yX7_lay ∈ wd := wd_0 (List.mem_of_getElem? (i := 51) (by decide +kernel)) rfl
theorem wi_52 : Cond.selects RX7 yX7_scale yX7_scale ∈ wd := wd_0 (List.mem_of_getElem? (i := 52) (by decide +kernel)) rfl
theorem wi_53 : Cond.selects RX7 yX7_integrateOther yX7_integrateOther ∈ wd := wd_0 (List.mem_of_getElem? (i := 53) (by decide +kernel)) rfl
theorem wi_54 : Cond.initialized RL ∈ wd := wd_1 (List.mem_of_getElem? (i := 0) (by decide +kernel)) rfl
theorem wi_55 : Cond.initialized RX6 ∈ wd := wd_1 (List.mem_of_getElem? (i := 1) (by decide +kernel)) rfl
theorem wi_56 : Cond.initialized RX4 ∈ wd := wd_1 (List.mem_of_getElem? (i := 2) (by decide +kernel)) rfl
theorem wi_57 : Cond.initialized RX1 ∈ wd := wd_1 (List.mem_of_getElem? (i := 3) (by decide +kernel)) rfl
theorem wi_58 : Cond.initialized RX3 ∈ wd := wd_1 (List.mem_of_getElem? (i := 4) (by decide +kernel)) rfl
theorem wi_59 : Cond.initialized RX5 ∈ wd := wd_1 (List.mem_of_getElem? (i := 5) (by decide +kernel)) rfl
theorem wi_60 : Cond.initialized RX7 ∈ wd := wd_1 (List.mem_of_getElem? (i := 6) (by decide +kernel)) rfl
theorem wi_61 : Cond.initialized "java/lang/Throwable" ∈ wd := wd_1 (List.mem_of_getElem? (i := 7) (by decide +kernel)) rfl
theorem wi_62 : Cond.initialized "java/lang/Exception" ∈ wd := wd_1 (List.mem_of_getElem? (i := 8) (by decide +kernel)) rfl
theorem wi_63 : Cond.initialized "java/lang/RuntimeException" ∈ wd := wd_1 (List.mem_of_getElem? (i := 9) (by decide +kernel)) rfl
theorem wi_64 : Cond.initialized "java/lang/IllegalStateException" ∈ wd := wd_1 (List.mem_of_getElem? (i := 10) (by decide +kernel)) rfl
theorem wi_65 : Cond.initialized "java/lang/IllegalArgumentException" ∈ wd := wd_1 (List.mem_of_getElem? (i := 11) (by decide +kernel)) rfl
theorem wi_66 : Cond.initialized RJ9 ∈ wd := wd_1 (List.mem_of_getElem? (i := 12) (by decide +kernel)) rfl
theorem wi_67 : Cond.initialized RX2 ∈ wd := wd_1 (List.mem_of_getElem? (i := 13) (by decide +kernel)) rfl
theorem wi_68 : Cond.initialized RX0 ∈ wd := wd_1 (List.mem_of_getElem? (i := 14) (by decide +kernel)) rfl
theorem wi_69 : Cond.classLink RL 8 RX6 ∈ wd := wd_1 (List.mem_of_getElem? (i := 15) (by decide +kernel)) rfl
theorem wi_70 : Cond.instantiable RX6 6 ∈ wd := wd_1 (List.mem_of_getElem? (i := 16) (by decide +kernel)) rfl
theorem wi_71 : Cond.methodLink RL 49 yX6_init ∈ wd := wd_1 (List.mem_of_getElem? (i := 17) (by decide +kernel)) rfl
theorem wi_72 : Cond.instanceMethod yX6_init ∈ wd := wd_1 (List.mem_of_getElem? (i := 18) (by decide +kernel)) rfl
theorem wi_73 : Cond.code yX6_init cX6_init 2 none ∈ wd := wd_1 (List.mem_of_getElem? (i := 19) (rfl)) rfl
theorem wi_77 : Cond.classLink RX6 9 RX4 ∈ wd := wd_1 (List.mem_of_getElem? (i := 23) (by decide +kernel)) rfl
theorem wi_79 : Cond.instantiable RX4 6 ∈ wd := wd_1 (List.mem_of_getElem? (i := 25) (by decide +kernel)) rfl
theorem wi_80 : Cond.methodLink RX6 15 yX4_init ∈ wd := wd_1 (List.mem_of_getElem? (i := 26) (by decide +kernel)) rfl
theorem wi_81 : Cond.instanceMethod yX4_init ∈ wd := wd_1 (List.mem_of_getElem? (i := 27) (by decide +kernel)) rfl
theorem wi_82 : Cond.code yX4_init cX4_init 2 none ∈ wd := wd_1 (List.mem_of_getElem? (i := 28) (rfl)) rfl
theorem wi_84 : Cond.fieldLink RX4 9 "AntiDesk$Sum" "room" "I" ∈ wd := wd_1 (List.mem_of_getElem? (i := 30) (by decide +kernel)) rfl
theorem wi_85 : Cond.fieldLink RX4 15 "AntiDesk$Sum" "keys" "[I" ∈ wd := wd_1 (List.mem_of_getElem? (i := 31) (by decide +kernel)) rfl
theorem wi_86 : Cond.fieldLink RX4 19 "AntiDesk$Sum" "tops" "[J" ∈ wd := wd_1 (List.mem_of_getElem? (i := 32) (by decide +kernel)) rfl
theorem wi_87 : Cond.fieldLink RX4 23 "AntiDesk$Sum" "bottoms" "[J" ∈ wd := wd_1 (List.mem_of_getElem? (i := 33) (by decide +kernel)) rfl
theorem wi_88 : Cond.fieldLink RX4 26 "AntiDesk$Sum" "size" "I" ∈ wd := wd_1 (List.mem_of_getElem? (i := 34) (by decide +kernel)) rfl
theorem wi_89 : Cond.fieldLink RX4 29 "AntiDesk$Sum" "overflown" "Z" ∈ wd := wd_1 (List.mem_of_getElem? (i := 35) (by decide +kernel)) rfl
theorem wi_103 : Cond.arrayClass .int ∈ wd := wd_1 (List.mem_of_getElem? (i := 49) (by decide +kernel)) rfl
theorem wi_104 : Cond.arrayClass .long ∈ wd := wd_1 (List.mem_of_getElem? (i := 50) (by decide +kernel)) rfl
theorem wi_105 : Cond.classLink RX6 25 RX1 ∈ wd := wd_1 (List.mem_of_getElem? (i := 51) (by decide +kernel)) rfl
theorem wi_106 : Cond.instantiable RX1 2 ∈ wd := wd_1 (List.mem_of_getElem? (i := 52) (by decide +kernel)) rfl
theorem wi_108 : Cond.instanceMethod yX1_init ∈ wd := wd_1 (List.mem_of_getElem? (i := 54) (by decide +kernel)) rfl
theorem wi_109 : Cond.code yX1_init cX1_init 1 none ∈ wd := wd_1 (List.mem_of_getElem? (i := 55) (rfl)) rfl
theorem wi_111 : Cond.fieldLink RX1 9 "AntiDesk$Line" "characters" "[C" ∈ wd := wd_1 (List.mem_of_getElem? (i := 57) (by decide +kernel)) rfl
theorem wi_113 : Cond.fieldLink RX1 15 "AntiDesk$Line" "length" "I" ∈ wd := wd_1 (List.mem_of_getElem? (i := 59) (by decide +kernel)) rfl
theorem wi_120 : Cond.arrayClass .char ∈ wd := wd_1 (List.mem_of_getElem? (i := 66) (by decide +kernel)) rfl
theorem wi_121 : Cond.classLink RX6 32 RX3 ∈ wd := wd_1 (List.mem_of_getElem? (i := 67) (by decide +kernel)) rfl
theorem wi_122 : Cond.instantiable RX3 10 ∈ wd := wd_1 (List.mem_of_getElem? (i := 68) (by decide +kernel)) rfl
theorem wi_123 : Cond.methodLink RX6 34 yX3_init ∈ wd := wd_1 (List.mem_of_getElem? (i := 69) (by decide +kernel)) rfl
theorem wi_124 : Cond.instanceMethod yX3_init ∈ wd := wd_1 (List.mem_of_getElem? (i := 70) (by decide +kernel)) rfl
theorem wi_125 : Cond.code yX3_init cX3_init 3 none ∈ wd := wd_1 (List.mem_of_getElem? (i := 71) (rfl)) rfl
theorem wi_127 : Cond.fieldLink RX3 37 "AntiDesk$Reader" "line" "LAntiDesk$Line;" ∈ wd := wd_1 (List.mem_of_getElem? (i := 73) (by decide +kernel)) rfl
theorem wi_128 : Cond.fieldLink RX3 41 "AntiDesk$Reader" "sum" "LAntiDesk$Sum;" ∈ wd := wd_1 (List.mem_of_getElem? (i := 74) (by decide +kernel)) rfl
theorem wi_129 : Cond.fieldLink RX3 9 "AntiDesk$Reader" "at" "I" ∈ wd := wd_1 (List.mem_of_getElem? (i := 75) (by decide +kernel)) rfl
theorem wi_130 : Cond.fieldLink RX3 15 "AntiDesk$Reader" "fault" "I" ∈ wd := wd_1 (List.mem_of_getElem? (i := 76) (by decide +kernel)) rfl
theorem wi_131 : Cond.fieldLink RX3 18 "AntiDesk$Reader" "faultPlace" "I" ∈ wd := wd_1 (List.mem_of_getElem? (i := 77) (by decide +kernel)) rfl
theorem wi_132 : Cond.fieldLink RX3 21 "AntiDesk$Reader" "top" "J" ∈ wd := wd_1 (List.mem_of_getElem? (i := 78) (by decide +kernel)) rfl
theorem wi_133 : Cond.fieldLink RX3 25 "AntiDesk$Reader" "bottom" "J" ∈ wd := wd_1 (List.mem_of_getElem? (i := 79) (by decide +kernel)) rfl
theorem wi_134 : Cond.fieldLink RX3 28 "AntiDesk$Reader" "power" "I" ∈ wd := wd_1 (List.mem_of_getElem? (i := 80) (by decide +kernel)) rfl
theorem wi_135 : Cond.fieldLink RX3 31 "AntiDesk$Reader" "kind" "I" ∈ wd := wd_1 (List.mem_of_getElem? (i := 81) (by decide +kernel)) rfl
theorem wi_136 : Cond.fieldLink RX3 34 "AntiDesk$Reader" "argument" "I" ∈ wd := wd_1 (List.mem_of_getElem? (i := 82) (by decide +kernel)) rfl
theorem wi_158 : Cond.classLink RX6 41 RX5 ∈ wd := wd_1 (List.mem_of_getElem? (i := 104) (by decide +kernel)) rfl
theorem wi_159 : Cond.instantiable RX5 2 ∈ wd := wd_1 (List.mem_of_getElem? (i := 105) (by decide +kernel)) rfl
theorem wi_161 : Cond.instanceMethod yX5_init ∈ wd := wd_1 (List.mem_of_getElem? (i := 107) (by decide +kernel)) rfl
theorem wi_162 : Cond.code yX5_init cX5_init 1 none ∈ wd := wd_1 (List.mem_of_getElem? (i := 108) (rfl)) rfl
theorem wi_164 : Cond.fieldLink RX5 9 "AntiDesk$Writer" "characters" "[C" ∈ wd := wd_1 (List.mem_of_getElem? (i := 110) (by decide +kernel)) rfl
theorem wi_165 : Cond.fieldLink RX5 15 "AntiDesk$Writer" "length" "I" ∈ wd := wd_1 (List.mem_of_getElem? (i := 111) (by decide +kernel)) rfl
theorem wi_171 : Cond.fieldLink RX6 11 "AntiDesk" "slots" "[LAntiDesk$Sum;" ∈ wd := wd_1 (List.mem_of_getElem? (i := 117) (by decide +kernel)) rfl
theorem wi_172 : Cond.fieldLink RX6 18 "AntiDesk" "work" "LAntiDesk$Sum;" ∈ wd := wd_1 (List.mem_of_getElem? (i := 118) (by decide +kernel)) rfl
theorem wi_173 : Cond.fieldLink RX6 22 "AntiDesk" "left" "LAntiDesk$Sum;" ∈ wd := wd_1 (List.mem_of_getElem? (i := 119) (by decide +kernel)) rfl
theorem wi_174 : Cond.fieldLink RX6 28 "AntiDesk" "line" "LAntiDesk$Line;" ∈ wd := wd_1 (List.mem_of_getElem? (i := 120) (by decide +kernel)) rfl
theorem wi_175 : Cond.fieldLink RX6 37 "AntiDesk" "reader" "LAntiDesk$Reader;" ∈ wd := wd_1 (List.mem_of_getElem? (i := 121) (by decide +kernel)) rfl
theorem wi_176 : Cond.fieldLink RX6 44 "AntiDesk" "writer" "LAntiDesk$Writer;" ∈ wd := wd_1 (List.mem_of_getElem? (i := 122) (by decide +kernel)) rfl
theorem wi_190 : Cond.methodLink RL 63 yX6_erase ∈ wd := wd_1 (List.mem_of_getElem? (i := 136) (by decide +kernel)) rfl
theorem wi_191 : Cond.instanceMethod yX6_erase ∈ wd := wd_1 (List.mem_of_getElem? (i := 137) (by decide +kernel)) rfl
theorem wi_192 : Cond.selects RX6 yX6_erase yX6_erase ∈ wd := wd_1 (List.mem_of_getElem? (i := 138) (by decide +kernel)) rfl
theorem wi_193 : Cond.code yX6_erase cX6_erase 2 (some .int) ∈ wd := wd_1 (List.mem_of_getElem? (i := 139) (rfl)) rfl
theorem wi_194 : Cond.methodLink RX6 52 yX1_length ∈ wd := wd_1 (List.mem_of_getElem? (i := 140) (by decide +kernel)) rfl
theorem wi_195 : Cond.instanceMethod yX1_length ∈ wd := wd_1 (List.mem_of_getElem? (i := 141) (by decide +kernel)) rfl
theorem wi_196 : Cond.selects RX1 yX1_length yX1_length ∈ wd := wd_1 (List.mem_of_getElem? (i := 142) (by decide +kernel)) rfl
theorem wi_197 : Cond.code yX1_length cX1_length 1 (some .int) ∈ wd := wd_1 (List.mem_of_getElem? (i := 143) (rfl)) rfl
theorem wi_198 : Cond.methodLink RX6 66 yX1_clear ∈ wd := wd_1 (List.mem_of_getElem? (i := 144) (by decide +kernel)) rfl
theorem wi_199 : Cond.instanceMethod yX1_clear ∈ wd := wd_1 (List.mem_of_getElem? (i := 145) (by decide +kernel)) rfl
theorem wi_200 : Cond.selects RX1 yX1_clear yX1_clear ∈ wd := wd_1 (List.mem_of_getElem? (i := 146) (by decide +kernel)) rfl
theorem wi_201 : Cond.code yX1_clear cX1_clear 1 none ∈ wd := wd_1 (List.mem_of_getElem? (i := 147) (rfl)) rfl
theorem wi_202 : Cond.methodLink RL 71 yX6_place ∈ wd := wd_1 (List.mem_of_getElem? (i := 148) (by decide +kernel)) rfl
theorem wi_203 : Cond.instanceMethod yX6_place ∈ wd := wd_1 (List.mem_of_getElem? (i := 149) (by decide +kernel)) rfl
theorem wi_204 : Cond.selects RX6 yX6_place yX6_place ∈ wd := wd_1 (List.mem_of_getElem? (i := 150) (by decide +kernel)) rfl
theorem wi_205 : Cond.code yX6_place cX6_place 1 (some .int) ∈ wd := wd_1 (List.mem_of_getElem? (i := 151) (rfl)) rfl
theorem wi_206 : Cond.methodLink RX6 84 yX3_faultPlace ∈ wd := wd_1 (List.mem_of_getElem? (i := 152) (by decide +kernel)) rfl
theorem wi_207 : Cond.instanceMethod yX3_faultPlace ∈ wd := wd_1 (List.mem_of_getElem? (i := 153) (by decide +kernel)) rfl
theorem wi_208 : Cond.selects RX3 yX3_faultPlace yX3_faultPlace ∈ wd := wd_1 (List.mem_of_getElem? (i := 154) (by decide +kernel)) rfl
theorem wi_209 : Cond.code yX3_faultPlace cX3_faultPlace 1 (some .int) ∈ wd := wd_1 (List.mem_of_getElem? (i := 155) (rfl)) rfl
theorem wi_210 : Cond.methodLink RL 78 yX6_output ∈ wd := wd_1 (List.mem_of_getElem? (i := 156) (by decide +kernel)) rfl
theorem wi_211 : Cond.instanceMethod yX6_output ∈ wd := wd_1 (List.mem_of_getElem? (i := 157) (by decide +kernel)) rfl
theorem wi_212 : Cond.selects RX6 yX6_output yX6_output ∈ wd := wd_1 (List.mem_of_getElem? (i := 158) (by decide +kernel)) rfl
theorem wi_213 : Cond.code yX6_output cX6_output 2 (some .char) ∈ wd := wd_1 (List.mem_of_getElem? (i := 159) (rfl)) rfl
theorem wi_214 : Cond.methodLink RX6 92 yX5_charAt ∈ wd := wd_1 (List.mem_of_getElem? (i := 160) (by decide +kernel)) rfl
theorem wi_215 : Cond.instanceMethod yX5_charAt ∈ wd := wd_1 (List.mem_of_getElem? (i := 161) (by decide +kernel)) rfl
theorem wi_216 : Cond.selects RX5 yX5_charAt yX5_charAt ∈ wd := wd_1 (List.mem_of_getElem? (i := 162) (by decide +kernel)) rfl
theorem wi_217 : Cond.code yX5_charAt cX5_charAt 2 (some .char) ∈ wd := wd_1 (List.mem_of_getElem? (i := 163) (rfl)) rfl
theorem wi_218 : Cond.methodLink RL 53 yL_type ∈ wd := wd_1 (List.mem_of_getElem? (i := 164) (by decide +kernel)) rfl
theorem wi_219 : Cond.static yL_type ∈ wd := wd_1 (List.mem_of_getElem? (i := 165) (by decide +kernel)) rfl
theorem wi_221 : Cond.classLink RL 13 "java/lang/IllegalStateException" ∈ wd := wd_1 (List.mem_of_getElem? (i := 167) (by decide +kernel)) rfl
theorem wi_222 : Cond.methodLink RL 7 yX6_type ∈ wd := wd_1 (List.mem_of_getElem? (i := 168) (by decide +kernel)) rfl
theorem wi_223 : Cond.instanceMethod yX6_type ∈ wd := wd_1 (List.mem_of_getElem? (i := 169) (by decide +kernel)) rfl
theorem wi_224 : Cond.selects RX6 yX6_type yX6_type ∈ wd := wd_1 (List.mem_of_getElem? (i := 170) (by decide +kernel)) rfl
theorem wi_225 : Cond.code yX6_type cX6_type 7 (some .int) ∈ wd := wd_1 (List.mem_of_getElem? (i := 171) (rfl)) rfl
theorem wi_226 : Cond.methodLink RX6 48 yX1_charactersIn ∈ wd := wd_1 (List.mem_of_getElem? (i := 172) (by decide +kernel)) rfl
theorem wi_227 : Cond.static yX1_charactersIn ∈ wd := wd_1 (List.mem_of_getElem? (i := 173) (by decide +kernel)) rfl
theorem wi_228 : Cond.code yX1_charactersIn cX1_charactersIn 3 (some .int) ∈ wd := wd_1 (List.mem_of_getElem? (i := 174) (rfl)) rfl
theorem wi_229 : Cond.classLink RX6 56 "java/lang/IllegalStateException" ∈ wd := wd_1 (List.mem_of_getElem? (i := 175) (by decide +kernel)) rfl
theorem wi_230 : Cond.instantiable "java/lang/IllegalStateException" 6 ∈ wd := wd_1 (List.mem_of_getElem? (i := 176) (by decide +kernel)) rfl
theorem wi_250 : Cond.fieldLink "java/lang/Throwable" 198 "java/lang/Throwable" "backtrace" "Ljava/lang/Object;" ∈ wd := wd_1 (List.mem_of_getElem? (i := 196) (by decide +kernel)) rfl
theorem wi_255 : Cond.fieldLink "java/lang/Throwable" 13 "java/lang/Throwable" "UNASSIGNED_STACK" "[Ljava/lang/StackTraceElement;" ∈ wd := wd_1 (List.mem_of_getElem? (i := 201) (by decide +kernel)) rfl
theorem wi_257 : Cond.fieldLink "java/lang/Throwable" 20 "java/lang/Throwable" "SUPPRESSED_SENTINEL" "Ljava/util/List;" ∈ wd := wd_1 (List.mem_of_getElem? (i := 203) (by decide +kernel)) rfl
theorem wi_267 : Cond.instantiable "java/lang/Throwable" 6 ∈ wd := wd_1 (List.mem_of_getElem? (i := 213) (by decide +kernel)) rfl
theorem wi_282 : Cond.fieldLink "java/lang/Throwable" 198 "java/lang/Throwable" "backtrace" "Ljava/lang/Object;" ∈ wd := wd_1 (List.mem_of_getElem? (i := 228) (by decide +kernel)) rfl
theorem wi_283 : Cond.fieldLink "java/lang/Throwable" 31 "java/lang/Throwable" "detailMessage" "Ljava/lang/String;" ∈ wd := wd_1 (List.mem_of_getElem? (i := 229) (by decide +kernel)) rfl
theorem wi_284 : Cond.fieldLink "java/lang/Throwable" 7 "java/lang/Throwable" "cause" "Ljava/lang/Throwable;" ∈ wd := wd_1 (List.mem_of_getElem? (i := 230) (by decide +kernel)) rfl
theorem wi_285 : Cond.fieldLink "java/lang/Throwable" 17 "java/lang/Throwable" "stackTrace" "[Ljava/lang/StackTraceElement;" ∈ wd := wd_1 (List.mem_of_getElem? (i := 231) (by decide +kernel)) rfl
theorem wi_286 : Cond.fieldLink "java/lang/Throwable" 24 "java/lang/Throwable" "suppressedExceptions" "Ljava/util/List;" ∈ wd := wd_1 (List.mem_of_getElem? (i := 232) (by decide +kernel)) rfl
theorem wi_295 : Cond.arrayClass .byte ∈ wd := wd_2 (List.mem_of_getElem? (i := 1) (by decide +kernel)) rfl
theorem wi_296 : Cond.methodLink RX6 63 yX1_append ∈ wd := wd_2 (List.mem_of_getElem? (i := 2) (by decide +kernel)) rfl
theorem wi_297 : Cond.instanceMethod yX1_append ∈ wd := wd_2 (List.mem_of_getElem? (i := 3) (by decide +kernel)) rfl
theorem wi_298 : Cond.selects RX1 yX1_append yX1_append ∈ wd := wd_2 (List.mem_of_getElem? (i := 4) (by decide +kernel)) rfl
theorem wi_299 : Cond.code yX1_append cX1_append 4 none ∈ wd := wd_2 (List.mem_of_getElem? (i := 5) (rfl)) rfl
theorem wi_300 : Cond.methodLink RL 67 yL_read ∈ wd := wd_2 (List.mem_of_getElem? (i := 6) (by decide +kernel)) rfl
theorem wi_301 : Cond.static yL_read ∈ wd := wd_2 (List.mem_of_getElem? (i := 7) (by decide +kernel)) rfl
theorem wi_303 : Cond.classLink RL 19 "java/lang/IllegalArgumentException" ∈ wd := wd_2 (List.mem_of_getElem? (i := 9) (by decide +kernel)) rfl
theorem wi_304 : Cond.methodLink RL 15 yX6_read ∈ wd := wd_2 (List.mem_of_getElem? (i := 10) (by decide +kernel)) rfl
theorem wi_305 : Cond.instanceMethod yX6_read ∈ wd := wd_2 (List.mem_of_getElem? (i := 11) (by decide +kernel)) rfl
theorem wi_306 : Cond.selects RX6 yX6_read yX6_read ∈ wd := wd_2 (List.mem_of_getElem? (i := 12) (by decide +kernel)) rfl
theorem wi_307 : Cond.code yX6_read cX6_read 3 (some .int) ∈ wd := wd_2 (List.mem_of_getElem? (i := 13) (rfl)) rfl
theorem wi_308 : Cond.methodLink RX6 69 yX6_isSlot ∈ wd := wd_2 (List.mem_of_getElem? (i := 14) (by decide +kernel)) rfl
theorem wi_309 : Cond.static yX6_isSlot ∈ wd := wd_2 (List.mem_of_getElem? (i := 15) (by decide +kernel)) rfl
theorem wi_310 : Cond.code yX6_isSlot cX6_isSlot 1 (some .boolean) ∈ wd := wd_2 (List.mem_of_getElem? (i := 16) (rfl)) rfl
theorem wi_311 : Cond.classLink RX6 73 "java/lang/IllegalArgumentException" ∈ wd := wd_2 (List.mem_of_getElem? (i := 17) (by decide +kernel)) rfl
theorem wi_312 : Cond.instantiable "java/lang/IllegalArgumentException" 6 ∈ wd := wd_2 (List.mem_of_getElem? (i := 18) (by decide +kernel)) rfl
theorem wi_327 : Cond.methodLink RX6 78 yX3_readLine ∈ wd := wd_2 (List.mem_of_getElem? (i := 33) (by decide +kernel)) rfl
theorem wi_328 : Cond.instanceMethod yX3_readLine ∈ wd := wd_2 (List.mem_of_getElem? (i := 34) (by decide +kernel)) rfl
theorem wi_329 : Cond.selects RX3 yX3_readLine yX3_readLine ∈ wd := wd_2 (List.mem_of_getElem? (i := 35) (by decide +kernel)) rfl
theorem wi_330 : Cond.code yX3_readLine cX3_readLine 4 (some .int) ∈ wd := wd_2 (List.mem_of_getElem? (i := 36) (rfl)) rfl
theorem wi_331 : Cond.methodLink RX3 45 yX4_clear ∈ wd := wd_2 (List.mem_of_getElem? (i := 37) (by decide +kernel)) rfl
theorem wi_332 : Cond.instanceMethod yX4_clear ∈ wd := wd_2 (List.mem_of_getElem? (i := 38) (by decide +kernel)) rfl
theorem wi_333 : Cond.selects RX4 yX4_clear yX4_clear ∈ wd := wd_2 (List.mem_of_getElem? (i := 39) (by decide +kernel)) rfl
theorem wi_334 : Cond.code yX4_clear cX4_clear 1 none ∈ wd := wd_2 (List.mem_of_getElem? (i := 40) (rfl)) rfl
theorem wi_335 : Cond.methodLink RX3 50 yX3_takes ∈ wd := wd_2 (List.mem_of_getElem? (i := 41) (by decide +kernel)) rfl
theorem wi_337 : Cond.instanceMethod yX3_takes ∈ wd := wd_2 (List.mem_of_getElem? (i := 43) (by decide +kernel)) rfl
theorem wi_338 : Cond.code yX3_takes cX3_takes 2 (some .boolean) ∈ wd := wd_2 (List.mem_of_getElem? (i := 44) (rfl)) rfl
theorem wi_339 : Cond.methodLink RX3 62 yX3_next ∈ wd := wd_2 (List.mem_of_getElem? (i := 45) (by decide +kernel)) rfl
theorem wi_341 : Cond.instanceMethod yX3_next ∈ wd := wd_2 (List.mem_of_getElem? (i := 47) (by decide +kernel)) rfl
theorem wi_342 : Cond.code yX3_next cX3_next 1 (some .char) ∈ wd := wd_2 (List.mem_of_getElem? (i := 48) (rfl)) rfl
theorem wi_343 : Cond.methodLink RX3 54 yX3_readTerm ∈ wd := wd_2 (List.mem_of_getElem? (i := 49) (by decide +kernel)) rfl
theorem wi_345 : Cond.instanceMethod yX3_readTerm ∈ wd := wd_2 (List.mem_of_getElem? (i := 51) (by decide +kernel)) rfl
theorem wi_346 : Cond.code yX3_readTerm cX3_readTerm 3 (some .boolean) ∈ wd := wd_2 (List.mem_of_getElem? (i := 52) (rfl)) rfl
theorem wi_347 : Cond.methodLink RX3 77 yX3_readCoefficient ∈ wd := wd_2 (List.mem_of_getElem? (i := 53) (by decide +kernel)) rfl
theorem wi_349 : Cond.instanceMethod yX3_readCoefficient ∈ wd := wd_2 (List.mem_of_getElem? (i := 55) (by decide +kernel)) rfl
theorem wi_350 : Cond.code yX3_readCoefficient cX3_readCoefficient 2 (some .boolean) ∈ wd := wd_2 (List.mem_of_getElem? (i := 56) (rfl)) rfl
theorem wi_351 : Cond.methodLink RX3 86 yX3_isDigit ∈ wd := wd_2 (List.mem_of_getElem? (i := 57) (by decide +kernel)) rfl
theorem wi_352 : Cond.static yX3_isDigit ∈ wd := wd_2 (List.mem_of_getElem? (i := 58) (by decide +kernel)) rfl
theorem wi_353 : Cond.code yX3_isDigit cX3_isDigit 1 (some .boolean) ∈ wd := wd_2 (List.mem_of_getElem? (i := 59) (rfl)) rfl
theorem wi_354 : Cond.methodLink RX3 89 yX3_readNumber ∈ wd := wd_2 (List.mem_of_getElem? (i := 60) (by decide +kernel)) rfl
theorem wi_356 : Cond.instanceMethod yX3_readNumber ∈ wd := wd_2 (List.mem_of_getElem? (i := 62) (by decide +kernel)) rfl
theorem wi_357 : Cond.code yX3_readNumber cX3_readNumber 6 (some .int) ∈ wd := wd_2 (List.mem_of_getElem? (i := 63) (rfl)) rfl
theorem wi_358 : Cond.methodLink RX3 66 yX3_refuse ∈ wd := wd_2 (List.mem_of_getElem? (i := 64) (by decide +kernel)) rfl
theorem wi_360 : Cond.instanceMethod yX3_refuse ∈ wd := wd_2 (List.mem_of_getElem? (i := 66) (by decide +kernel)) rfl
theorem wi_361 : Cond.code yX3_refuse cX3_refuse 3 (some .boolean) ∈ wd := wd_2 (List.mem_of_getElem? (i := 67) (rfl)) rfl
theorem wi_362 : Cond.methodLink RX3 102 yX1_charAt ∈ wd := wd_2 (List.mem_of_getElem? (i := 68) (by decide +kernel)) rfl
theorem wi_363 : Cond.instanceMethod yX1_charAt ∈ wd := wd_2 (List.mem_of_getElem? (i := 69) (by decide +kernel)) rfl
theorem wi_364 : Cond.selects RX1 yX1_charAt yX1_charAt ∈ wd := wd_2 (List.mem_of_getElem? (i := 70) (by decide +kernel)) rfl
theorem wi_365 : Cond.code yX1_charAt cX1_charAt 2 (some .char) ∈ wd := wd_2 (List.mem_of_getElem? (i := 71) (rfl)) rfl
theorem wi_366 : Cond.methodLink RX3 80 yX3_readPower ∈ wd := wd_2 (List.mem_of_getElem? (i := 72) (by decide +kernel)) rfl
theorem wi_368 : Cond.instanceMethod yX3_readPower ∈ wd := wd_2 (List.mem_of_getElem? (i := 74) (by decide +kernel)) rfl
theorem wi_369 : Cond.code yX3_readPower cX3_readPower 3 (some .boolean) ∈ wd := wd_2 (List.mem_of_getElem? (i := 75) (rfl)) rfl
theorem wi_370 : Cond.methodLink RX3 83 yX3_readFunction ∈ wd := wd_2 (List.mem_of_getElem? (i := 76) (by decide +kernel)) rfl
theorem wi_372 : Cond.instanceMethod yX3_readFunction ∈ wd := wd_2 (List.mem_of_getElem? (i := 78) (by decide +kernel)) rfl
theorem wi_373 : Cond.code yX3_readFunction cX3_readFunction 1 (some .boolean) ∈ wd := wd_2 (List.mem_of_getElem? (i := 79) (rfl)) rfl
theorem wi_374 : Cond.methodLink RX3 93 yX3_readLogPower ∈ wd := wd_2 (List.mem_of_getElem? (i := 80) (by decide +kernel)) rfl
theorem wi_376 : Cond.instanceMethod yX3_readLogPower ∈ wd := wd_2 (List.mem_of_getElem? (i := 82) (by decide +kernel)) rfl
theorem wi_377 : Cond.code yX3_readLogPower cX3_readLogPower 1 (some .boolean) ∈ wd := wd_2 (List.mem_of_getElem? (i := 83) (rfl)) rfl
theorem wi_378 : Cond.methodLink RX3 96 yX3_expect ∈ wd := wd_2 (List.mem_of_getElem? (i := 84) (by decide +kernel)) rfl
theorem wi_380 : Cond.instanceMethod yX3_expect ∈ wd := wd_2 (List.mem_of_getElem? (i := 86) (by decide +kernel)) rfl
theorem wi_381 : Cond.code yX3_expect cX3_expect 2 (some .boolean) ∈ wd := wd_2 (List.mem_of_getElem? (i := 87) (rfl)) rfl
theorem wi_382 : Cond.methodLink RX3 99 yX3_readMultiple ∈ wd := wd_2 (List.mem_of_getElem? (i := 88) (by decide +kernel)) rfl
theorem wi_384 : Cond.instanceMethod yX3_readMultiple ∈ wd := wd_2 (List.mem_of_getElem? (i := 90) (by decide +kernel)) rfl
theorem wi_385 : Cond.code yX3_readMultiple cX3_readMultiple 3 (some .boolean) ∈ wd := wd_2 (List.mem_of_getElem? (i := 91) (rfl)) rfl
theorem wi_386 : Cond.methodLink RX3 58 yX3_addTerm ∈ wd := wd_2 (List.mem_of_getElem? (i := 92) (by decide +kernel)) rfl
theorem wi_388 : Cond.instanceMethod yX3_addTerm ∈ wd := wd_2 (List.mem_of_getElem? (i := 94) (by decide +kernel)) rfl
theorem wi_389 : Cond.code yX3_addTerm cX3_addTerm 1 (some .boolean) ∈ wd := wd_2 (List.mem_of_getElem? (i := 95) (rfl)) rfl
theorem wi_390 : Cond.methodLink RX3 70 yX4_put ∈ wd := wd_2 (List.mem_of_getElem? (i := 96) (by decide +kernel)) rfl
theorem wi_391 : Cond.instanceMethod yX4_put ∈ wd := wd_2 (List.mem_of_getElem? (i := 97) (by decide +kernel)) rfl
theorem wi_392 : Cond.selects RX4 yX4_put yX4_put ∈ wd := wd_2 (List.mem_of_getElem? (i := 98) (by decide +kernel)) rfl
theorem wi_393 : Cond.code yX4_put cX4_put 9 none ∈ wd := wd_2 (List.mem_of_getElem? (i := 99) (rfl)) rfl
theorem wi_394 : Cond.methodLink RX4 37 yX4_keyOf ∈ wd := wd_2 (List.mem_of_getElem? (i := 100) (by decide +kernel)) rfl
theorem wi_395 : Cond.static yX4_keyOf ∈ wd := wd_2 (List.mem_of_getElem? (i := 101) (by decide +kernel)) rfl
theorem wi_396 : Cond.code yX4_keyOf cX4_keyOf 3 (some .int) ∈ wd := wd_2 (List.mem_of_getElem? (i := 102) (rfl)) rfl
theorem wi_397 : Cond.methodLink RX4 41 yX4_addUp ∈ wd := wd_2 (List.mem_of_getElem? (i := 103) (by decide +kernel)) rfl
theorem wi_399 : Cond.instanceMethod yX4_addUp ∈ wd := wd_2 (List.mem_of_getElem? (i := 105) (by decide +kernel)) rfl
theorem wi_400 : Cond.code yX4_addUp cX4_addUp 12 none ∈ wd := wd_2 (List.mem_of_getElem? (i := 106) (rfl)) rfl
theorem wi_401 : Cond.methodLink RX4 45 yX4_placeFor ∈ wd := wd_2 (List.mem_of_getElem? (i := 107) (by decide +kernel)) rfl
theorem wi_403 : Cond.instanceMethod yX4_placeFor ∈ wd := wd_2 (List.mem_of_getElem? (i := 109) (by decide +kernel)) rfl
theorem wi_404 : Cond.code yX4_placeFor cX4_placeFor 3 (some .int) ∈ wd := wd_2 (List.mem_of_getElem? (i := 110) (rfl)) rfl
theorem wi_405 : Cond.methodLink RX4 49 yX4_closeAt ∈ wd := wd_2 (List.mem_of_getElem? (i := 111) (by decide +kernel)) rfl
theorem wi_407 : Cond.instanceMethod yX4_closeAt ∈ wd := wd_2 (List.mem_of_getElem? (i := 113) (by decide +kernel)) rfl
theorem wi_408 : Cond.code yX4_closeAt cX4_closeAt 3 none ∈ wd := wd_2 (List.mem_of_getElem? (i := 114) (rfl)) rfl
theorem wi_409 : Cond.methodLink RX4 53 yX4_openAt ∈ wd := wd_2 (List.mem_of_getElem? (i := 115) (by decide +kernel)) rfl
theorem wi_411 : Cond.instanceMethod yX4_openAt ∈ wd := wd_2 (List.mem_of_getElem? (i := 117) (by decide +kernel)) rfl
theorem wi_412 : Cond.code yX4_openAt cX4_openAt 3 (some .boolean) ∈ wd := wd_2 (List.mem_of_getElem? (i := 118) (rfl)) rfl
theorem wi_413 : Cond.methodLink RX4 56 yX4_setReduced ∈ wd := wd_2 (List.mem_of_getElem? (i := 119) (by decide +kernel)) rfl
theorem wi_415 : Cond.instanceMethod yX4_setReduced ∈ wd := wd_2 (List.mem_of_getElem? (i := 121) (by decide +kernel)) rfl
theorem wi_416 : Cond.code yX4_setReduced cX4_setReduced 10 none ∈ wd := wd_2 (List.mem_of_getElem? (i := 122) (rfl)) rfl
theorem wi_417 : Cond.methodLink RX4 59 yJ9_abs_067f4 ∈ wd := wd_2 (List.mem_of_getElem? (i := 123) (by decide +kernel)) rfl
theorem wi_418 : Cond.static yJ9_abs_067f4 ∈ wd := wd_2 (List.mem_of_getElem? (i := 124) (by decide +kernel)) rfl
theorem wi_419 : Cond.code yJ9_abs_067f4 cJ9_abs_067f4 2 (some .long) ∈ wd := wd_2 (List.mem_of_getElem? (i := 125) (rfl)) rfl
theorem wi_420 : Cond.methodLink RX4 65 yX4_commonDivisor ∈ wd := wd_2 (List.mem_of_getElem? (i := 126) (by decide +kernel)) rfl
theorem wi_421 : Cond.static yX4_commonDivisor ∈ wd := wd_2 (List.mem_of_getElem? (i := 127) (by decide +kernel)) rfl
theorem wi_422 : Cond.code yX4_commonDivisor cX4_commonDivisor 7 (some .long) ∈ wd := wd_2 (List.mem_of_getElem? (i := 128) (rfl)) rfl
theorem wi_423 : Cond.methodLink RX3 74 yX4_fits ∈ wd := wd_2 (List.mem_of_getElem? (i := 129) (by decide +kernel)) rfl
theorem wi_424 : Cond.instanceMethod yX4_fits ∈ wd := wd_2 (List.mem_of_getElem? (i := 130) (by decide +kernel)) rfl
theorem wi_425 : Cond.selects RX4 yX4_fits yX4_fits ∈ wd := wd_2 (List.mem_of_getElem? (i := 131) (by decide +kernel)) rfl
theorem wi_426 : Cond.code yX4_fits cX4_fits 1 (some .boolean) ∈ wd := wd_2 (List.mem_of_getElem? (i := 132) (rfl)) rfl
theorem wi_427 : Cond.constantLong RX4 69 (10000000000) ∈ wd := wd_2 (List.mem_of_getElem? (i := 133) (by decide +kernel)) rfl
theorem wi_428 : Cond.constantLong RX4 71 (100000) ∈ wd := wd_2 (List.mem_of_getElem? (i := 134) (by decide +kernel)) rfl
theorem wi_429 : Cond.methodLink RX4 73 yX4_isWithin ∈ wd := wd_2 (List.mem_of_getElem? (i := 135) (by decide +kernel)) rfl
theorem wi_431 : Cond.instanceMethod yX4_isWithin ∈ wd := wd_2 (List.mem_of_getElem? (i := 137) (by decide +kernel)) rfl
theorem wi_432 : Cond.code yX4_isWithin cX4_isWithin 8 (some .boolean) ∈ wd := wd_2 (List.mem_of_getElem? (i := 138) (rfl)) rfl
theorem wi_433 : Cond.methodLink RX4 81 yX4_powerAt ∈ wd := wd_2 (List.mem_of_getElem? (i := 139) (by decide +kernel)) rfl
theorem wi_434 : Cond.instanceMethod yX4_powerAt ∈ wd := wd_2 (List.mem_of_getElem? (i := 140) (by decide +kernel)) rfl
theorem wi_435 : Cond.selects RX4 yX4_powerAt yX4_powerAt ∈ wd := wd_2 (List.mem_of_getElem? (i := 141) (by decide +kernel)) rfl
theorem wi_436 : Cond.code yX4_powerAt cX4_powerAt 2 (some .int) ∈ wd := wd_2 (List.mem_of_getElem? (i := 142) (rfl)) rfl
theorem wi_437 : Cond.methodLink RX4 33 yX4_has ∈ wd := wd_2 (List.mem_of_getElem? (i := 143) (by decide +kernel)) rfl
theorem wi_438 : Cond.instanceMethod yX4_has ∈ wd := wd_2 (List.mem_of_getElem? (i := 144) (by decide +kernel)) rfl
theorem wi_439 : Cond.selects RX4 yX4_has yX4_has ∈ wd := wd_2 (List.mem_of_getElem? (i := 145) (by decide +kernel)) rfl
theorem wi_440 : Cond.code yX4_has cX4_has 2 (some .boolean) ∈ wd := wd_2 (List.mem_of_getElem? (i := 146) (rfl)) rfl
theorem wi_441 : Cond.methodLink RX4 84 yJ9_abs_0f7a4 ∈ wd := wd_2 (List.mem_of_getElem? (i := 147) (by decide +kernel)) rfl
theorem wi_442 : Cond.static yJ9_abs_0f7a4 ∈ wd := wd_2 (List.mem_of_getElem? (i := 148) (by decide +kernel)) rfl
theorem wi_443 : Cond.code yJ9_abs_0f7a4 cJ9_abs_0f7a4 1 (some .int) ∈ wd := wd_2 (List.mem_of_getElem? (i := 149) (rfl)) rfl
theorem wi_444 : Cond.methodLink RX4 86 yX4_argumentAt ∈ wd := wd_2 (List.mem_of_getElem? (i := 150) (by decide +kernel)) rfl
theorem wi_445 : Cond.instanceMethod yX4_argumentAt ∈ wd := wd_2 (List.mem_of_getElem? (i := 151) (by decide +kernel)) rfl
theorem wi_446 : Cond.selects RX4 yX4_argumentAt yX4_argumentAt ∈ wd := wd_2 (List.mem_of_getElem? (i := 152) (by decide +kernel)) rfl
theorem wi_447 : Cond.code yX4_argumentAt cX4_argumentAt 2 (some .int) ∈ wd := wd_2 (List.mem_of_getElem? (i := 153) (rfl)) rfl
theorem wi_448 : Cond.methodLink RX6 81 yX6_settle ∈ wd := wd_2 (List.mem_of_getElem? (i := 154) (by decide +kernel)) rfl
theorem wi_450 : Cond.instanceMethod yX6_settle ∈ wd := wd_2 (List.mem_of_getElem? (i := 156) (by decide +kernel)) rfl
theorem wi_451 : Cond.code yX6_settle cX6_settle 2 (some .int) ∈ wd := wd_2 (List.mem_of_getElem? (i := 157) (rfl)) rfl
theorem wi_452 : Cond.methodLink RX6 135 yX4_fits ∈ wd := wd_2 (List.mem_of_getElem? (i := 158) (by decide +kernel)) rfl
theorem wi_453 : Cond.methodLink RX6 138 yX4_become ∈ wd := wd_2 (List.mem_of_getElem? (i := 159) (by decide +kernel)) rfl
theorem wi_454 : Cond.instanceMethod yX4_become ∈ wd := wd_2 (List.mem_of_getElem? (i := 160) (by decide +kernel)) rfl
theorem wi_455 : Cond.selects RX4 yX4_become yX4_become ∈ wd := wd_2 (List.mem_of_getElem? (i := 161) (by decide +kernel)) rfl
theorem wi_456 : Cond.code yX4_become cX4_become 3 none ∈ wd := wd_2 (List.mem_of_getElem? (i := 162) (rfl)) rfl
theorem wi_457 : Cond.methodLink RX4 89 yJ9_min_7cf53 ∈ wd := wd_2 (List.mem_of_getElem? (i := 163) (by decide +kernel)) rfl
theorem wi_458 : Cond.static yJ9_min_7cf53 ∈ wd := wd_2 (List.mem_of_getElem? (i := 164) (by decide +kernel)) rfl
theorem wi_459 : Cond.code yJ9_min_7cf53 cJ9_min_7cf53 2 (some .int) ∈ wd := wd_2 (List.mem_of_getElem? (i := 165) (rfl)) rfl
theorem wi_460 : Cond.methodLink RX6 111 yX4_size ∈ wd := wd_2 (List.mem_of_getElem? (i := 166) (by decide +kernel)) rfl
theorem wi_461 : Cond.instanceMethod yX4_size ∈ wd := wd_2 (List.mem_of_getElem? (i := 167) (by decide +kernel)) rfl
theorem wi_462 : Cond.selects RX4 yX4_size yX4_size ∈ wd := wd_2 (List.mem_of_getElem? (i := 168) (by decide +kernel)) rfl
theorem wi_463 : Cond.code yX4_size cX4_size 1 (some .int) ∈ wd := wd_2 (List.mem_of_getElem? (i := 169) (rfl)) rfl
theorem wi_464 : Cond.methodLink RL 75 yL_write ∈ wd := wd_2 (List.mem_of_getElem? (i := 170) (by decide +kernel)) rfl
theorem wi_465 : Cond.static yL_write ∈ wd := wd_2 (List.mem_of_getElem? (i := 171) (by decide +kernel)) rfl
theorem wi_467 : Cond.methodLink RL 21 yX6_write ∈ wd := wd_2 (List.mem_of_getElem? (i := 173) (by decide +kernel)) rfl
theorem wi_468 : Cond.instanceMethod yX6_write ∈ wd := wd_2 (List.mem_of_getElem? (i := 174) (by decide +kernel)) rfl
theorem wi_469 : Cond.selects RX6 yX6_write yX6_write ∈ wd := wd_2 (List.mem_of_getElem? (i := 175) (by decide +kernel)) rfl
theorem wi_470 : Cond.code yX6_write cX6_write 2 (some .int) ∈ wd := wd_2 (List.mem_of_getElem? (i := 176) (rfl)) rfl
theorem wi_471 : Cond.methodLink RX6 87 yX5_writeSum ∈ wd := wd_2 (List.mem_of_getElem? (i := 177) (by decide +kernel)) rfl
theorem wi_472 : Cond.instanceMethod yX5_writeSum ∈ wd := wd_2 (List.mem_of_getElem? (i := 178) (by decide +kernel)) rfl
theorem wi_473 : Cond.selects RX5 yX5_writeSum yX5_writeSum ∈ wd := wd_2 (List.mem_of_getElem? (i := 179) (by decide +kernel)) rfl
theorem wi_474 : Cond.code yX5_writeSum cX5_writeSum 3 none ∈ wd := wd_2 (List.mem_of_getElem? (i := 180) (rfl)) rfl
theorem wi_475 : Cond.methodLink RX5 19 yX4_size ∈ wd := wd_2 (List.mem_of_getElem? (i := 181) (by decide +kernel)) rfl
theorem wi_476 : Cond.methodLink RX5 25 yX5_writeTerm ∈ wd := wd_2 (List.mem_of_getElem? (i := 182) (by decide +kernel)) rfl
theorem wi_478 : Cond.instanceMethod yX5_writeTerm ∈ wd := wd_2 (List.mem_of_getElem? (i := 184) (by decide +kernel)) rfl
theorem wi_479 : Cond.code yX5_writeTerm cX5_writeTerm 4 none ∈ wd := wd_2 (List.mem_of_getElem? (i := 185) (rfl)) rfl
theorem wi_480 : Cond.methodLink RX5 33 yX4_topAt ∈ wd := wd_2 (List.mem_of_getElem? (i := 186) (by decide +kernel)) rfl
theorem wi_481 : Cond.instanceMethod yX4_topAt ∈ wd := wd_2 (List.mem_of_getElem? (i := 187) (by decide +kernel)) rfl
theorem wi_482 : Cond.selects RX4 yX4_topAt yX4_topAt ∈ wd := wd_2 (List.mem_of_getElem? (i := 188) (by decide +kernel)) rfl
theorem wi_483 : Cond.code yX4_topAt cX4_topAt 2 (some .long) ∈ wd := wd_2 (List.mem_of_getElem? (i := 189) (rfl)) rfl
theorem wi_484 : Cond.methodLink RX5 29 yX5_append ∈ wd := wd_2 (List.mem_of_getElem? (i := 190) (by decide +kernel)) rfl
theorem wi_486 : Cond.instanceMethod yX5_append ∈ wd := wd_2 (List.mem_of_getElem? (i := 192) (by decide +kernel)) rfl
theorem wi_487 : Cond.code yX5_append cX5_append 2 none ∈ wd := wd_2 (List.mem_of_getElem? (i := 193) (rfl)) rfl
theorem wi_488 : Cond.methodLink RX5 37 yX4_kindAt ∈ wd := wd_2 (List.mem_of_getElem? (i := 194) (by decide +kernel)) rfl
theorem wi_489 : Cond.instanceMethod yX4_kindAt ∈ wd := wd_2 (List.mem_of_getElem? (i := 195) (by decide +kernel)) rfl
theorem wi_490 : Cond.selects RX4 yX4_kindAt yX4_kindAt ∈ wd := wd_2 (List.mem_of_getElem? (i := 196) (by decide +kernel)) rfl
theorem wi_491 : Cond.code yX4_kindAt cX4_kindAt 2 (some .int) ∈ wd := wd_2 (List.mem_of_getElem? (i := 197) (rfl)) rfl
theorem wi_492 : Cond.methodLink RX5 41 yX4_powerAt ∈ wd := wd_2 (List.mem_of_getElem? (i := 198) (by decide +kernel)) rfl
theorem wi_493 : Cond.methodLink RX5 44 yJ9_abs_067f4 ∈ wd := wd_2 (List.mem_of_getElem? (i := 199) (by decide +kernel)) rfl
theorem wi_494 : Cond.methodLink RX5 50 yX4_bottomAt ∈ wd := wd_2 (List.mem_of_getElem? (i := 200) (by decide +kernel)) rfl
theorem wi_495 : Cond.instanceMethod yX4_bottomAt ∈ wd := wd_2 (List.mem_of_getElem? (i := 201) (by decide +kernel)) rfl
theorem wi_496 : Cond.selects RX4 yX4_bottomAt yX4_bottomAt ∈ wd := wd_2 (List.mem_of_getElem? (i := 202) (by decide +kernel)) rfl
theorem wi_497 : Cond.code yX4_bottomAt cX4_bottomAt 2 (some .long) ∈ wd := wd_2 (List.mem_of_getElem? (i := 203) (rfl)) rfl
theorem wi_498 : Cond.methodLink RX5 53 yX5_writeCoefficient ∈ wd := wd_2 (List.mem_of_getElem? (i := 204) (by decide +kernel)) rfl
theorem wi_500 : Cond.instanceMethod yX5_writeCoefficient ∈ wd := wd_2 (List.mem_of_getElem? (i := 206) (by decide +kernel)) rfl
theorem wi_501 : Cond.code yX5_writeCoefficient cX5_writeCoefficient 6 none ∈ wd := wd_2 (List.mem_of_getElem? (i := 207) (rfl)) rfl
theorem wi_502 : Cond.methodLink RX5 68 yX5_writeNumber ∈ wd := wd_2 (List.mem_of_getElem? (i := 208) (by decide +kernel)) rfl
theorem wi_504 : Cond.instanceMethod yX5_writeNumber ∈ wd := wd_2 (List.mem_of_getElem? (i := 210) (by decide +kernel)) rfl
theorem wi_505 : Cond.code yX5_writeNumber cX5_writeNumber 8 none ∈ wd := wd_2 (List.mem_of_getElem? (i := 211) (rfl)) rfl
theorem wi_506 : Cond.constantLong RX5 78 (10000000000) ∈ wd := wd_2 (List.mem_of_getElem? (i := 212) (by decide +kernel)) rfl
theorem wi_507 : Cond.constantLong RX5 80 (48) ∈ wd := wd_2 (List.mem_of_getElem? (i := 213) (by decide +kernel)) rfl
theorem wi_508 : Cond.constantLong RX5 82 (10) ∈ wd := wd_2 (List.mem_of_getElem? (i := 214) (by decide +kernel)) rfl
theorem wi_509 : Cond.methodLink RX5 57 yX5_writePower ∈ wd := wd_2 (List.mem_of_getElem? (i := 215) (by decide +kernel)) rfl
theorem wi_511 : Cond.instanceMethod yX5_writePower ∈ wd := wd_2 (List.mem_of_getElem? (i := 217) (by decide +kernel)) rfl
theorem wi_512 : Cond.code yX5_writePower cX5_writePower 2 none ∈ wd := wd_2 (List.mem_of_getElem? (i := 218) (rfl)) rfl
theorem wi_513 : Cond.methodLink RX5 72 yX5_writeExponent ∈ wd := wd_2 (List.mem_of_getElem? (i := 219) (by decide +kernel)) rfl
theorem wi_515 : Cond.instanceMethod yX5_writeExponent ∈ wd := wd_2 (List.mem_of_getElem? (i := 221) (by decide +kernel)) rfl
theorem wi_516 : Cond.code yX5_writeExponent cX5_writeExponent 2 none ∈ wd := wd_2 (List.mem_of_getElem? (i := 222) (rfl)) rfl
theorem wi_517 : Cond.methodLink RX5 61 yX4_argumentAt ∈ wd := wd_2 (List.mem_of_getElem? (i := 223) (by decide +kernel)) rfl
theorem wi_518 : Cond.methodLink RX5 64 yX5_writeFunction ∈ wd := wd_2 (List.mem_of_getElem? (i := 224) (by decide +kernel)) rfl
theorem wi_520 : Cond.instanceMethod yX5_writeFunction ∈ wd := wd_2 (List.mem_of_getElem? (i := 226) (by decide +kernel)) rfl
theorem wi_521 : Cond.code yX5_writeFunction cX5_writeFunction 3 none ∈ wd := wd_2 (List.mem_of_getElem? (i := 227) (rfl)) rfl
theorem wi_522 : Cond.methodLink RX5 75 yX5_writeMultiple ∈ wd := wd_2 (List.mem_of_getElem? (i := 228) (by decide +kernel)) rfl
theorem wi_524 : Cond.instanceMethod yX5_writeMultiple ∈ wd := wd_2 (List.mem_of_getElem? (i := 230) (by decide +kernel)) rfl
theorem wi_525 : Cond.code yX5_writeMultiple cX5_writeMultiple 2 none ∈ wd := wd_2 (List.mem_of_getElem? (i := 231) (rfl)) rfl
theorem wi_526 : Cond.methodLink RX6 91 yX5_length ∈ wd := wd_2 (List.mem_of_getElem? (i := 232) (by decide +kernel)) rfl
theorem wi_527 : Cond.instanceMethod yX5_length ∈ wd := wd_2 (List.mem_of_getElem? (i := 233) (by decide +kernel)) rfl
theorem wi_528 : Cond.selects RX5 yX5_length yX5_length ∈ wd := wd_2 (List.mem_of_getElem? (i := 234) (by decide +kernel)) rfl
theorem wi_529 : Cond.code yX5_length cX5_length 1 (some .int) ∈ wd := wd_2 (List.mem_of_getElem? (i := 235) (rfl)) rfl
theorem wi_530 : Cond.methodLink RL 83 yL_add ∈ wd := wd_2 (List.mem_of_getElem? (i := 236) (by decide +kernel)) rfl
theorem wi_531 : Cond.static yL_add ∈ wd := wd_2 (List.mem_of_getElem? (i := 237) (by decide +kernel)) rfl
theorem wi_533 : Cond.methodLink RL 24 yX6_add ∈ wd := wd_2 (List.mem_of_getElem? (i := 239) (by decide +kernel)) rfl
theorem wi_534 : Cond.instanceMethod yX6_add ∈ wd := wd_3 (List.mem_of_getElem? (i := 0) (by decide +kernel)) rfl
theorem wi_535 : Cond.selects RX6 yX6_add yX6_add ∈ wd := wd_3 (List.mem_of_getElem? (i := 1) (by decide +kernel)) rfl
theorem wi_536 : Cond.code yX6_add cX6_add 6 (some .int) ∈ wd := wd_3 (List.mem_of_getElem? (i := 2) (rfl)) rfl
theorem wi_538 : Cond.methodLink RX6 98 yX4_isSmall ∈ wd := wd_3 (List.mem_of_getElem? (i := 4) (by decide +kernel)) rfl
theorem wi_539 : Cond.instanceMethod yX4_isSmall ∈ wd := wd_3 (List.mem_of_getElem? (i := 5) (by decide +kernel)) rfl
theorem wi_540 : Cond.selects RX4 yX4_isSmall yX4_isSmall ∈ wd := wd_3 (List.mem_of_getElem? (i := 6) (by decide +kernel)) rfl
theorem wi_541 : Cond.code yX4_isSmall cX4_isSmall 1 (some .boolean) ∈ wd := wd_3 (List.mem_of_getElem? (i := 7) (rfl)) rfl
theorem wi_542 : Cond.constantLong RX4 77 (100) ∈ wd := wd_3 (List.mem_of_getElem? (i := 8) (by decide +kernel)) rfl
theorem wi_543 : Cond.constantLong RX4 79 (6) ∈ wd := wd_3 (List.mem_of_getElem? (i := 9) (by decide +kernel)) rfl
theorem wi_545 : Cond.methodLink RX6 104 yX4_clear ∈ wd := wd_3 (List.mem_of_getElem? (i := 11) (by decide +kernel)) rfl
theorem wi_546 : Cond.methodLink RX6 105 yX4_putAll ∈ wd := wd_3 (List.mem_of_getElem? (i := 12) (by decide +kernel)) rfl
theorem wi_547 : Cond.instanceMethod yX4_putAll ∈ wd := wd_3 (List.mem_of_getElem? (i := 13) (by decide +kernel)) rfl
theorem wi_548 : Cond.selects RX4 yX4_putAll yX4_putAll ∈ wd := wd_3 (List.mem_of_getElem? (i := 14) (by decide +kernel)) rfl
theorem wi_549 : Cond.code yX4_putAll cX4_putAll 7 none ∈ wd := wd_3 (List.mem_of_getElem? (i := 15) (rfl)) rfl
theorem wi_550 : Cond.methodLink RL 86 yL_times ∈ wd := wd_3 (List.mem_of_getElem? (i := 16) (by decide +kernel)) rfl
theorem wi_551 : Cond.static yL_times ∈ wd := wd_3 (List.mem_of_getElem? (i := 17) (by decide +kernel)) rfl
theorem wi_553 : Cond.methodLink RL 27 yX6_times ∈ wd := wd_3 (List.mem_of_getElem? (i := 19) (by decide +kernel)) rfl
theorem wi_554 : Cond.instanceMethod yX6_times ∈ wd := wd_3 (List.mem_of_getElem? (i := 20) (by decide +kernel)) rfl
theorem wi_555 : Cond.selects RX6 yX6_times yX6_times ∈ wd := wd_3 (List.mem_of_getElem? (i := 21) (by decide +kernel)) rfl
theorem wi_556 : Cond.code yX6_times cX6_times 4 (some .int) ∈ wd := wd_3 (List.mem_of_getElem? (i := 22) (rfl)) rfl
theorem wi_558 : Cond.methodLink RX6 114 yX2_canBeTold ∈ wd := wd_3 (List.mem_of_getElem? (i := 24) (by decide +kernel)) rfl
theorem wi_559 : Cond.static yX2_canBeTold ∈ wd := wd_3 (List.mem_of_getElem? (i := 25) (by decide +kernel)) rfl
theorem wi_560 : Cond.code yX2_canBeTold cX2_canBeTold 4 (some .boolean) ∈ wd := wd_3 (List.mem_of_getElem? (i := 26) (rfl)) rfl
theorem wi_561 : Cond.methodLink RX2 9 yX4_size ∈ wd := wd_3 (List.mem_of_getElem? (i := 27) (by decide +kernel)) rfl
theorem wi_562 : Cond.methodLink RX2 15 yX4_kindAt ∈ wd := wd_3 (List.mem_of_getElem? (i := 28) (by decide +kernel)) rfl
theorem wi_563 : Cond.methodLink RX2 19 yX2_canMeet ∈ wd := wd_3 (List.mem_of_getElem? (i := 29) (by decide +kernel)) rfl
theorem wi_564 : Cond.static yX2_canMeet ∈ wd := wd_3 (List.mem_of_getElem? (i := 30) (by decide +kernel)) rfl
theorem wi_565 : Cond.code yX2_canMeet cX2_canMeet 2 (some .boolean) ∈ wd := wd_3 (List.mem_of_getElem? (i := 31) (rfl)) rfl
theorem wi_566 : Cond.methodLink RX2 25 yX2_isWave ∈ wd := wd_3 (List.mem_of_getElem? (i := 32) (by decide +kernel)) rfl
theorem wi_567 : Cond.static yX2_isWave ∈ wd := wd_3 (List.mem_of_getElem? (i := 33) (by decide +kernel)) rfl
theorem wi_568 : Cond.code yX2_isWave cX2_isWave 1 (some .boolean) ∈ wd := wd_3 (List.mem_of_getElem? (i := 34) (rfl)) rfl
theorem wi_569 : Cond.methodLink RX6 120 yX2_putProduct ∈ wd := wd_3 (List.mem_of_getElem? (i := 35) (by decide +kernel)) rfl
theorem wi_570 : Cond.static yX2_putProduct ∈ wd := wd_3 (List.mem_of_getElem? (i := 36) (by decide +kernel)) rfl
theorem wi_571 : Cond.code yX2_putProduct cX2_putProduct 5 none ∈ wd := wd_3 (List.mem_of_getElem? (i := 37) (rfl)) rfl
theorem wi_572 : Cond.methodLink RX2 29 yX2_putWaves ∈ wd := wd_3 (List.mem_of_getElem? (i := 38) (by decide +kernel)) rfl
theorem wi_573 : Cond.static yX2_putWaves ∈ wd := wd_3 (List.mem_of_getElem? (i := 39) (by decide +kernel)) rfl
theorem wi_574 : Cond.code yX2_putWaves cX2_putWaves 15 none ∈ wd := wd_3 (List.mem_of_getElem? (i := 40) (rfl)) rfl
theorem wi_575 : Cond.methodLink RX2 45 yX4_powerAt ∈ wd := wd_3 (List.mem_of_getElem? (i := 41) (by decide +kernel)) rfl
theorem wi_576 : Cond.methodLink RX2 48 yX4_topAt ∈ wd := wd_3 (List.mem_of_getElem? (i := 42) (by decide +kernel)) rfl
theorem wi_577 : Cond.constantLong RX2 59 (2) ∈ wd := wd_3 (List.mem_of_getElem? (i := 43) (by decide +kernel)) rfl
theorem wi_578 : Cond.methodLink RX2 52 yX4_bottomAt ∈ wd := wd_3 (List.mem_of_getElem? (i := 44) (by decide +kernel)) rfl
theorem wi_579 : Cond.methodLink RX2 42 yX4_argumentAt ∈ wd := wd_3 (List.mem_of_getElem? (i := 45) (by decide +kernel)) rfl
theorem wi_580 : Cond.methodLink RX2 55 yX4_put ∈ wd := wd_3 (List.mem_of_getElem? (i := 46) (by decide +kernel)) rfl
theorem wi_581 : Cond.methodLink RX2 33 yX2_putJoined ∈ wd := wd_3 (List.mem_of_getElem? (i := 47) (by decide +kernel)) rfl
theorem wi_582 : Cond.static yX2_putJoined ∈ wd := wd_3 (List.mem_of_getElem? (i := 48) (by decide +kernel)) rfl
theorem wi_583 : Cond.code yX2_putJoined cX2_putJoined 5 none ∈ wd := wd_3 (List.mem_of_getElem? (i := 49) (rfl)) rfl
theorem wi_584 : Cond.methodLink RX2 36 yJ9_max_7cf53 ∈ wd := wd_3 (List.mem_of_getElem? (i := 50) (by decide +kernel)) rfl
theorem wi_585 : Cond.static yJ9_max_7cf53 ∈ wd := wd_3 (List.mem_of_getElem? (i := 51) (by decide +kernel)) rfl
theorem wi_586 : Cond.code yJ9_max_7cf53 cJ9_max_7cf53 2 (some .int) ∈ wd := wd_3 (List.mem_of_getElem? (i := 52) (rfl)) rfl
theorem wi_587 : Cond.methodLink RL 90 yL_derive ∈ wd := wd_3 (List.mem_of_getElem? (i := 53) (by decide +kernel)) rfl
theorem wi_588 : Cond.static yL_derive ∈ wd := wd_3 (List.mem_of_getElem? (i := 54) (by decide +kernel)) rfl
theorem wi_590 : Cond.methodLink RL 31 yX6_derive ∈ wd := wd_3 (List.mem_of_getElem? (i := 56) (by decide +kernel)) rfl
theorem wi_591 : Cond.instanceMethod yX6_derive ∈ wd := wd_3 (List.mem_of_getElem? (i := 57) (by decide +kernel)) rfl
theorem wi_592 : Cond.selects RX6 yX6_derive yX6_derive ∈ wd := wd_3 (List.mem_of_getElem? (i := 58) (by decide +kernel)) rfl
theorem wi_593 : Cond.code yX6_derive cX6_derive 3 (some .int) ∈ wd := wd_3 (List.mem_of_getElem? (i := 59) (rfl)) rfl
theorem wi_594 : Cond.methodLink RX6 124 yX0_putDerivative ∈ wd := wd_3 (List.mem_of_getElem? (i := 60) (by decide +kernel)) rfl
theorem wi_595 : Cond.static yX0_putDerivative ∈ wd := wd_3 (List.mem_of_getElem? (i := 61) (by decide +kernel)) rfl
theorem wi_596 : Cond.code yX0_putDerivative cX0_putDerivative 10 none ∈ wd := wd_3 (List.mem_of_getElem? (i := 62) (rfl)) rfl
theorem wi_597 : Cond.methodLink RX0 9 yX4_size ∈ wd := wd_3 (List.mem_of_getElem? (i := 63) (by decide +kernel)) rfl
theorem wi_598 : Cond.methodLink RX0 15 yX4_kindAt ∈ wd := wd_3 (List.mem_of_getElem? (i := 64) (by decide +kernel)) rfl
theorem wi_599 : Cond.methodLink RX0 19 yX4_argumentAt ∈ wd := wd_3 (List.mem_of_getElem? (i := 65) (by decide +kernel)) rfl
theorem wi_600 : Cond.methodLink RX0 22 yX4_powerAt ∈ wd := wd_3 (List.mem_of_getElem? (i := 66) (by decide +kernel)) rfl
theorem wi_601 : Cond.methodLink RX0 25 yX4_topAt ∈ wd := wd_3 (List.mem_of_getElem? (i := 67) (by decide +kernel)) rfl
theorem wi_602 : Cond.methodLink RX0 29 yX4_bottomAt ∈ wd := wd_3 (List.mem_of_getElem? (i := 68) (by decide +kernel)) rfl
theorem wi_603 : Cond.methodLink RX0 32 yX4_put ∈ wd := wd_3 (List.mem_of_getElem? (i := 69) (by decide +kernel)) rfl
theorem wi_604 : Cond.methodLink RX0 36 yX0_turned ∈ wd := wd_3 (List.mem_of_getElem? (i := 70) (by decide +kernel)) rfl
theorem wi_605 : Cond.static yX0_turned ∈ wd := wd_3 (List.mem_of_getElem? (i := 71) (by decide +kernel)) rfl
theorem wi_606 : Cond.code yX0_turned cX0_turned 1 (some .int) ∈ wd := wd_3 (List.mem_of_getElem? (i := 72) (rfl)) rfl
theorem wi_607 : Cond.methodLink RX0 41 yX0_signDerived ∈ wd := wd_3 (List.mem_of_getElem? (i := 73) (by decide +kernel)) rfl
theorem wi_608 : Cond.static yX0_signDerived ∈ wd := wd_3 (List.mem_of_getElem? (i := 74) (by decide +kernel)) rfl
theorem wi_609 : Cond.code yX0_signDerived cX0_signDerived 1 (some .int) ∈ wd := wd_3 (List.mem_of_getElem? (i := 75) (rfl)) rfl
theorem wi_610 : Cond.methodLink RL 94 yL_integrate ∈ wd := wd_3 (List.mem_of_getElem? (i := 76) (by decide +kernel)) rfl
theorem wi_611 : Cond.static yL_integrate ∈ wd := wd_3 (List.mem_of_getElem? (i := 77) (by decide +kernel)) rfl
theorem wi_613 : Cond.methodLink RL 35 yX6_integrate ∈ wd := wd_3 (List.mem_of_getElem? (i := 79) (by decide +kernel)) rfl
theorem wi_614 : Cond.instanceMethod yX6_integrate ∈ wd := wd_3 (List.mem_of_getElem? (i := 80) (by decide +kernel)) rfl
theorem wi_615 : Cond.selects RX6 yX6_integrate yX6_integrate ∈ wd := wd_3 (List.mem_of_getElem? (i := 81) (by decide +kernel)) rfl
theorem wi_616 : Cond.code yX6_integrate cX6_integrate 4 (some .int) ∈ wd := wd_3 (List.mem_of_getElem? (i := 82) (rfl)) rfl
theorem wi_618 : Cond.methodLink RX6 132 yX0_putIntegral ∈ wd := wd_3 (List.mem_of_getElem? (i := 84) (by decide +kernel)) rfl
theorem wi_619 : Cond.static yX0_putIntegral ∈ wd := wd_3 (List.mem_of_getElem? (i := 85) (by decide +kernel)) rfl
theorem wi_620 : Cond.code yX0_putIntegral cX0_putIntegral 11 none ∈ wd := wd_3 (List.mem_of_getElem? (i := 86) (rfl)) rfl
theorem wi_621 : Cond.methodLink RX0 44 yX0_integrateLog ∈ wd := wd_3 (List.mem_of_getElem? (i := 87) (by decide +kernel)) rfl
theorem wi_622 : Cond.static yX0_integrateLog ∈ wd := wd_3 (List.mem_of_getElem? (i := 88) (by decide +kernel)) rfl
theorem wi_623 : Cond.code yX0_integrateLog cX0_integrateLog 12 none ∈ wd := wd_3 (List.mem_of_getElem? (i := 89) (rfl)) rfl
theorem wi_624 : Cond.methodLink RX0 48 yX0_lowerPower ∈ wd := wd_3 (List.mem_of_getElem? (i := 90) (by decide +kernel)) rfl
theorem wi_625 : Cond.static yX0_lowerPower ∈ wd := wd_3 (List.mem_of_getElem? (i := 91) (by decide +kernel)) rfl
theorem wi_626 : Cond.code yX0_lowerPower cX0_lowerPower 14 none ∈ wd := wd_3 (List.mem_of_getElem? (i := 92) (rfl)) rfl
theorem wi_627 : Cond.methodLink RX0 56 yX0_signIntegrated ∈ wd := wd_3 (List.mem_of_getElem? (i := 93) (by decide +kernel)) rfl
theorem wi_628 : Cond.static yX0_signIntegrated ∈ wd := wd_3 (List.mem_of_getElem? (i := 94) (by decide +kernel)) rfl
theorem wi_629 : Cond.code yX0_signIntegrated cX0_signIntegrated 1 (some .int) ∈ wd := wd_3 (List.mem_of_getElem? (i := 95) (rfl)) rfl
theorem wi_630 : Cond.methodLink RX0 52 yX0_raisePower ∈ wd := wd_3 (List.mem_of_getElem? (i := 96) (by decide +kernel)) rfl
theorem wi_631 : Cond.static yX0_raisePower ∈ wd := wd_3 (List.mem_of_getElem? (i := 97) (by decide +kernel)) rfl
theorem wi_632 : Cond.code yX0_raisePower cX0_raisePower 15 none ∈ wd := wd_3 (List.mem_of_getElem? (i := 98) (rfl)) rfl
theorem wi_633 : Cond.methodLink RL 97 yL_same ∈ wd := wd_3 (List.mem_of_getElem? (i := 99) (by decide +kernel)) rfl
theorem wi_634 : Cond.static yL_same ∈ wd := wd_3 (List.mem_of_getElem? (i := 100) (by decide +kernel)) rfl
theorem wi_636 : Cond.methodLink RL 38 yX6_same ∈ wd := wd_3 (List.mem_of_getElem? (i := 102) (by decide +kernel)) rfl
theorem wi_637 : Cond.instanceMethod yX6_same ∈ wd := wd_3 (List.mem_of_getElem? (i := 103) (by decide +kernel)) rfl
theorem wi_638 : Cond.selects RX6 yX6_same yX6_same ∈ wd := wd_3 (List.mem_of_getElem? (i := 104) (by decide +kernel)) rfl
theorem wi_639 : Cond.code yX6_same cX6_same 3 (some .boolean) ∈ wd := wd_3 (List.mem_of_getElem? (i := 105) (rfl)) rfl
theorem wi_640 : Cond.methodLink RX6 141 yX4_matches ∈ wd := wd_3 (List.mem_of_getElem? (i := 106) (by decide +kernel)) rfl
theorem wi_641 : Cond.instanceMethod yX4_matches ∈ wd := wd_3 (List.mem_of_getElem? (i := 107) (by decide +kernel)) rfl
theorem wi_642 : Cond.selects RX4 yX4_matches yX4_matches ∈ wd := wd_3 (List.mem_of_getElem? (i := 108) (by decide +kernel)) rfl
theorem wi_643 : Cond.code yX4_matches cX4_matches 3 (some .boolean) ∈ wd := wd_3 (List.mem_of_getElem? (i := 109) (rfl)) rfl
theorem wi_644 : Cond.methodLink RL 100 yL_terms ∈ wd := wd_3 (List.mem_of_getElem? (i := 110) (by decide +kernel)) rfl
theorem wi_645 : Cond.static yL_terms ∈ wd := wd_3 (List.mem_of_getElem? (i := 111) (by decide +kernel)) rfl
theorem wi_647 : Cond.methodLink RL 42 yX6_terms ∈ wd := wd_3 (List.mem_of_getElem? (i := 113) (by decide +kernel)) rfl
theorem wi_648 : Cond.instanceMethod yX6_terms ∈ wd := wd_3 (List.mem_of_getElem? (i := 114) (by decide +kernel)) rfl
theorem wi_649 : Cond.selects RX6 yX6_terms yX6_terms ∈ wd := wd_3 (List.mem_of_getElem? (i := 115) (by decide +kernel)) rfl
theorem wi_650 : Cond.code yX6_terms cX6_terms 2 (some .int) ∈ wd := wd_3 (List.mem_of_getElem? (i := 116) (rfl)) rfl
theorem wi_651 : Cond.methodLink RL 103 yL_term ∈ wd := wd_3 (List.mem_of_getElem? (i := 117) (by decide +kernel)) rfl
theorem wi_652 : Cond.static yL_term ∈ wd := wd_3 (List.mem_of_getElem? (i := 118) (by decide +kernel)) rfl
theorem wi_654 : Cond.methodLink RL 45 yX6_term ∈ wd := wd_3 (List.mem_of_getElem? (i := 120) (by decide +kernel)) rfl
theorem wi_655 : Cond.instanceMethod yX6_term ∈ wd := wd_3 (List.mem_of_getElem? (i := 121) (by decide +kernel)) rfl
theorem wi_656 : Cond.selects RX6 yX6_term yX6_term ∈ wd := wd_3 (List.mem_of_getElem? (i := 122) (by decide +kernel)) rfl
theorem wi_657 : Cond.code yX6_term cX6_term 5 (some .long) ∈ wd := wd_3 (List.mem_of_getElem? (i := 123) (rfl)) rfl
theorem wi_659 : Cond.methodLink RX6 147 yX4_has ∈ wd := wd_3 (List.mem_of_getElem? (i := 125) (by decide +kernel)) rfl
theorem wi_660 : Cond.methodLink RX6 150 yX4_topAt ∈ wd := wd_3 (List.mem_of_getElem? (i := 126) (by decide +kernel)) rfl
theorem wi_661 : Cond.methodLink RX6 154 yX4_bottomAt ∈ wd := wd_3 (List.mem_of_getElem? (i := 127) (by decide +kernel)) rfl
theorem wi_662 : Cond.methodLink RX6 157 yX4_kindAt ∈ wd := wd_3 (List.mem_of_getElem? (i := 128) (by decide +kernel)) rfl
theorem wi_663 : Cond.methodLink RX6 160 yX4_argumentAt ∈ wd := wd_3 (List.mem_of_getElem? (i := 129) (by decide +kernel)) rfl
theorem wi_664 : Cond.methodLink RX6 163 yX4_powerAt ∈ wd := wd_3 (List.mem_of_getElem? (i := 130) (by decide +kernel)) rfl
theorem wi_665 : Cond.classLink RL 50 RX7 ∈ wd := wd_3 (List.mem_of_getElem? (i := 131) (by decide +kernel)) rfl
theorem wi_666 : Cond.instantiable RX7 13 ∈ wd := wd_3 (List.mem_of_getElem? (i := 132) (by decide +kernel)) rfl
theorem wi_667 : Cond.methodLink RL 52 yX7_init ∈ wd := wd_3 (List.mem_of_getElem? (i := 133) (by decide +kernel)) rfl
theorem wi_668 : Cond.instanceMethod yX7_init ∈ wd := wd_3 (List.mem_of_getElem? (i := 134) (by decide +kernel)) rfl
theorem wi_669 : Cond.code yX7_init cX7_init 2 none ∈ wd := wd_3 (List.mem_of_getElem? (i := 135) (rfl)) rfl
theorem wi_671 : Cond.fieldLink RX7 27 "AntiDeskModel" "refusal" "I" ∈ wd := wd_3 (List.mem_of_getElem? (i := 137) (by decide +kernel)) rfl
theorem wi_672 : Cond.fieldLink RX7 7 "AntiDeskModel" "line" "[C" ∈ wd := wd_3 (List.mem_of_getElem? (i := 138) (by decide +kernel)) rfl
theorem wi_673 : Cond.fieldLink RX7 72 "AntiDeskModel" "lineSize" "I" ∈ wd := wd_3 (List.mem_of_getElem? (i := 139) (by decide +kernel)) rfl
theorem wi_674 : Cond.fieldLink RX7 13 "AntiDeskModel" "out" "[C" ∈ wd := wd_3 (List.mem_of_getElem? (i := 140) (by decide +kernel)) rfl
theorem wi_675 : Cond.fieldLink RX7 129 "AntiDeskModel" "outSize" "I" ∈ wd := wd_3 (List.mem_of_getElem? (i := 141) (by decide +kernel)) rfl
theorem wi_676 : Cond.fieldLink RX7 16 "AntiDeskModel" "wrongPlace" "I" ∈ wd := wd_3 (List.mem_of_getElem? (i := 142) (by decide +kernel)) rfl
theorem wi_677 : Cond.fieldLink RX7 20 "AntiDeskModel" "up" "[J" ∈ wd := wd_3 (List.mem_of_getElem? (i := 143) (by decide +kernel)) rfl
theorem wi_678 : Cond.fieldLink RX7 24 "AntiDeskModel" "down" "[J" ∈ wd := wd_3 (List.mem_of_getElem? (i := 144) (by decide +kernel)) rfl
theorem wi_679 : Cond.fieldLink RX7 30 "AntiDeskModel" "isFull" "Z" ∈ wd := wd_3 (List.mem_of_getElem? (i := 145) (by decide +kernel)) rfl
theorem wi_680 : Cond.fieldLink RX7 81 "AntiDeskModel" "at" "I" ∈ wd := wd_3 (List.mem_of_getElem? (i := 146) (by decide +kernel)) rfl
theorem wi_681 : Cond.fieldLink RX7 84 "AntiDeskModel" "fault" "I" ∈ wd := wd_3 (List.mem_of_getElem? (i := 147) (by decide +kernel)) rfl
theorem wi_682 : Cond.fieldLink RX7 168 "AntiDeskModel" "top" "J" ∈ wd := wd_3 (List.mem_of_getElem? (i := 148) (by decide +kernel)) rfl
theorem wi_683 : Cond.fieldLink RX7 172 "AntiDeskModel" "bottom" "J" ∈ wd := wd_3 (List.mem_of_getElem? (i := 149) (by decide +kernel)) rfl
theorem wi_711 : Cond.methodLink RL 59 yX7_thrown ∈ wd := wd_3 (List.mem_of_getElem? (i := 177) (by decide +kernel)) rfl
theorem wi_712 : Cond.instanceMethod yX7_thrown ∈ wd := wd_3 (List.mem_of_getElem? (i := 178) (by decide +kernel)) rfl
theorem wi_713 : Cond.selects RX7 yX7_thrown yX7_thrown ∈ wd := wd_3 (List.mem_of_getElem? (i := 179) (by decide +kernel)) rfl
theorem wi_714 : Cond.code yX7_thrown cX7_thrown 1 (some .int) ∈ wd := wd_3 (List.mem_of_getElem? (i := 180) (rfl)) rfl
theorem wi_715 : Cond.methodLink RL 58 yX7_type ∈ wd := wd_3 (List.mem_of_getElem? (i := 181) (by decide +kernel)) rfl
theorem wi_716 : Cond.instanceMethod yX7_type ∈ wd := wd_3 (List.mem_of_getElem? (i := 182) (by decide +kernel)) rfl
theorem wi_717 : Cond.selects RX7 yX7_type yX7_type ∈ wd := wd_3 (List.mem_of_getElem? (i := 183) (by decide +kernel)) rfl
theorem wi_718 : Cond.code yX7_type cX7_type 10 (some .int) ∈ wd := wd_3 (List.mem_of_getElem? (i := 184) (rfl)) rfl
theorem wi_719 : Cond.methodLink RX7 75 yX7_putCell ∈ wd := wd_3 (List.mem_of_getElem? (i := 185) (by decide +kernel)) rfl
theorem wi_721 : Cond.instanceMethod yX7_putCell ∈ wd := wd_3 (List.mem_of_getElem? (i := 187) (by decide +kernel)) rfl
theorem wi_722 : Cond.code yX7_putCell cX7_putCell 4 none ∈ wd := wd_3 (List.mem_of_getElem? (i := 188) (rfl)) rfl
theorem wi_723 : Cond.methodLink RX7 78 yX7_refused ∈ wd := wd_3 (List.mem_of_getElem? (i := 189) (by decide +kernel)) rfl
theorem wi_725 : Cond.instanceMethod yX7_refused ∈ wd := wd_3 (List.mem_of_getElem? (i := 191) (by decide +kernel)) rfl
theorem wi_726 : Cond.code yX7_refused cX7_refused 2 (some .boolean) ∈ wd := wd_3 (List.mem_of_getElem? (i := 192) (rfl)) rfl
theorem wi_727 : Cond.methodLink RL 66 yX7_erase ∈ wd := wd_3 (List.mem_of_getElem? (i := 193) (by decide +kernel)) rfl
theorem wi_728 : Cond.instanceMethod yX7_erase ∈ wd := wd_3 (List.mem_of_getElem? (i := 194) (by decide +kernel)) rfl
theorem wi_729 : Cond.selects RX7 yX7_erase yX7_erase ∈ wd := wd_3 (List.mem_of_getElem? (i := 195) (by decide +kernel)) rfl
theorem wi_730 : Cond.code yX7_erase cX7_erase 2 (some .int) ∈ wd := wd_3 (List.mem_of_getElem? (i := 196) (rfl)) rfl
theorem wi_731 : Cond.methodLink RL 70 yX7_read ∈ wd := wd_3 (List.mem_of_getElem? (i := 197) (by decide +kernel)) rfl
theorem wi_732 : Cond.instanceMethod yX7_read ∈ wd := wd_3 (List.mem_of_getElem? (i := 198) (by decide +kernel)) rfl
theorem wi_733 : Cond.selects RX7 yX7_read yX7_read ∈ wd := wd_3 (List.mem_of_getElem? (i := 199) (by decide +kernel)) rfl
theorem wi_734 : Cond.code yX7_read cX7_read 4 (some .int) ∈ wd := wd_3 (List.mem_of_getElem? (i := 200) (rfl)) rfl
theorem wi_735 : Cond.methodLink RX7 115 yX7_isSlot ∈ wd := wd_3 (List.mem_of_getElem? (i := 201) (by decide +kernel)) rfl
theorem wi_736 : Cond.static yX7_isSlot ∈ wd := wd_3 (List.mem_of_getElem? (i := 202) (by decide +kernel)) rfl
theorem wi_737 : Cond.code yX7_isSlot cX7_isSlot 1 (some .boolean) ∈ wd := wd_3 (List.mem_of_getElem? (i := 203) (rfl)) rfl
theorem wi_738 : Cond.methodLink RX7 118 yX7_empty ∈ wd := wd_3 (List.mem_of_getElem? (i := 204) (by decide +kernel)) rfl
theorem wi_740 : Cond.instanceMethod yX7_empty ∈ wd := wd_3 (List.mem_of_getElem? (i := 206) (by decide +kernel)) rfl
theorem wi_741 : Cond.code yX7_empty cX7_empty 3 none ∈ wd := wd_3 (List.mem_of_getElem? (i := 207) (rfl)) rfl
theorem wi_742 : Cond.methodLink RX7 91 yX7_takes ∈ wd := wd_3 (List.mem_of_getElem? (i := 208) (by decide +kernel)) rfl
theorem wi_744 : Cond.instanceMethod yX7_takes ∈ wd := wd_3 (List.mem_of_getElem? (i := 210) (by decide +kernel)) rfl
theorem wi_745 : Cond.code yX7_takes cX7_takes 2 (some .boolean) ∈ wd := wd_3 (List.mem_of_getElem? (i := 211) (rfl)) rfl
theorem wi_746 : Cond.methodLink RX7 87 yX7_next ∈ wd := wd_3 (List.mem_of_getElem? (i := 212) (by decide +kernel)) rfl
theorem wi_748 : Cond.instanceMethod yX7_next ∈ wd := wd_3 (List.mem_of_getElem? (i := 214) (by decide +kernel)) rfl
theorem wi_749 : Cond.code yX7_next cX7_next 1 (some .char) ∈ wd := wd_3 (List.mem_of_getElem? (i := 215) (rfl)) rfl
theorem wi_750 : Cond.methodLink RX7 122 yX7_readTerm ∈ wd := wd_3 (List.mem_of_getElem? (i := 216) (by decide +kernel)) rfl
theorem wi_752 : Cond.instanceMethod yX7_readTerm ∈ wd := wd_3 (List.mem_of_getElem? (i := 218) (by decide +kernel)) rfl
theorem wi_753 : Cond.code yX7_readTerm cX7_readTerm 12 none ∈ wd := wd_3 (List.mem_of_getElem? (i := 219) (rfl)) rfl
theorem wi_754 : Cond.methodLink RX7 98 yX7_isDigit ∈ wd := wd_3 (List.mem_of_getElem? (i := 220) (by decide +kernel)) rfl
theorem wi_755 : Cond.static yX7_isDigit ∈ wd := wd_3 (List.mem_of_getElem? (i := 221) (by decide +kernel)) rfl
theorem wi_756 : Cond.code yX7_isDigit cX7_isDigit 1 (some .boolean) ∈ wd := wd_3 (List.mem_of_getElem? (i := 222) (rfl)) rfl
theorem wi_757 : Cond.methodLink RX7 101 yX7_readNumber ∈ wd := wd_3 (List.mem_of_getElem? (i := 223) (by decide +kernel)) rfl
theorem wi_759 : Cond.instanceMethod yX7_readNumber ∈ wd := wd_3 (List.mem_of_getElem? (i := 225) (by decide +kernel)) rfl
theorem wi_760 : Cond.code yX7_readNumber cX7_readNumber 7 (some .int) ∈ wd := wd_3 (List.mem_of_getElem? (i := 226) (rfl)) rfl
theorem wi_761 : Cond.methodLink RX7 95 yX7_wrong ∈ wd := wd_3 (List.mem_of_getElem? (i := 227) (by decide +kernel)) rfl
theorem wi_763 : Cond.instanceMethod yX7_wrong ∈ wd := wd_3 (List.mem_of_getElem? (i := 229) (by decide +kernel)) rfl
theorem wi_764 : Cond.code yX7_wrong cX7_wrong 3 none ∈ wd := wd_3 (List.mem_of_getElem? (i := 230) (rfl)) rfl
theorem wi_765 : Cond.methodLink RX7 104 yX7_want ∈ wd := wd_3 (List.mem_of_getElem? (i := 231) (by decide +kernel)) rfl
theorem wi_767 : Cond.instanceMethod yX7_want ∈ wd := wd_3 (List.mem_of_getElem? (i := 233) (by decide +kernel)) rfl
theorem wi_768 : Cond.code yX7_want cX7_want 2 none ∈ wd := wd_3 (List.mem_of_getElem? (i := 234) (rfl)) rfl
theorem wi_769 : Cond.methodLink RX7 38 yX7_gcd ∈ wd := wd_3 (List.mem_of_getElem? (i := 235) (by decide +kernel)) rfl
theorem wi_770 : Cond.static yX7_gcd ∈ wd := wd_3 (List.mem_of_getElem? (i := 236) (by decide +kernel)) rfl
theorem wi_771 : Cond.code yX7_gcd cX7_gcd 10 (some .long) ∈ wd := wd_3 (List.mem_of_getElem? (i := 237) (rfl)) rfl
theorem wi_772 : Cond.methodLink RX7 108 yX7_addTerm ∈ wd := wd_3 (List.mem_of_getElem? (i := 238) (by decide +kernel)) rfl
theorem wi_774 : Cond.instanceMethod yX7_addTerm ∈ wd := wd_4 (List.mem_of_getElem? (i := 0) (by decide +kernel)) rfl
theorem wi_775 : Cond.code yX7_addTerm cX7_addTerm 20 none ∈ wd := wd_4 (List.mem_of_getElem? (i := 1) (rfl)) rfl
theorem wi_776 : Cond.methodLink RX7 34 yX7_functionOf ∈ wd := wd_4 (List.mem_of_getElem? (i := 2) (by decide +kernel)) rfl
theorem wi_777 : Cond.static yX7_functionOf ∈ wd := wd_4 (List.mem_of_getElem? (i := 3) (by decide +kernel)) rfl
theorem wi_778 : Cond.code yX7_functionOf cX7_functionOf 2 (some .int) ∈ wd := wd_4 (List.mem_of_getElem? (i := 4) (rfl)) rfl
theorem wi_779 : Cond.methodLink RX7 112 yX7_checkAll ∈ wd := wd_4 (List.mem_of_getElem? (i := 5) (by decide +kernel)) rfl
theorem wi_781 : Cond.instanceMethod yX7_checkAll ∈ wd := wd_4 (List.mem_of_getElem? (i := 7) (by decide +kernel)) rfl
theorem wi_782 : Cond.code yX7_checkAll cX7_checkAll 2 none ∈ wd := wd_4 (List.mem_of_getElem? (i := 8) (rfl)) rfl
theorem wi_783 : Cond.methodLink RX7 52 yX7_isOut ∈ wd := wd_4 (List.mem_of_getElem? (i := 9) (by decide +kernel)) rfl
theorem wi_785 : Cond.instanceMethod yX7_isOut ∈ wd := wd_4 (List.mem_of_getElem? (i := 11) (by decide +kernel)) rfl
theorem wi_786 : Cond.code yX7_isOut cX7_isOut 2 (some .boolean) ∈ wd := wd_4 (List.mem_of_getElem? (i := 12) (rfl)) rfl
theorem wi_787 : Cond.constantLong RX7 42 (10000000000) ∈ wd := wd_4 (List.mem_of_getElem? (i := 13) (by decide +kernel)) rfl
theorem wi_788 : Cond.constantLong RX7 44 (-10000000000) ∈ wd := wd_4 (List.mem_of_getElem? (i := 14) (by decide +kernel)) rfl
theorem wi_789 : Cond.constantLong RX7 46 (100000) ∈ wd := wd_4 (List.mem_of_getElem? (i := 15) (by decide +kernel)) rfl
theorem wi_790 : Cond.methodLink RX7 126 yX7_finish ∈ wd := wd_4 (List.mem_of_getElem? (i := 16) (by decide +kernel)) rfl
theorem wi_792 : Cond.instanceMethod yX7_finish ∈ wd := wd_4 (List.mem_of_getElem? (i := 18) (by decide +kernel)) rfl
theorem wi_793 : Cond.code yX7_finish cX7_finish 2 (some .int) ∈ wd := wd_4 (List.mem_of_getElem? (i := 19) (rfl)) rfl
theorem wi_794 : Cond.methodLink RX7 56 yX7_fits ∈ wd := wd_4 (List.mem_of_getElem? (i := 20) (by decide +kernel)) rfl
theorem wi_796 : Cond.instanceMethod yX7_fits ∈ wd := wd_4 (List.mem_of_getElem? (i := 22) (by decide +kernel)) rfl
theorem wi_797 : Cond.code yX7_fits cX7_fits 4 (some .boolean) ∈ wd := wd_4 (List.mem_of_getElem? (i := 23) (rfl)) rfl
theorem wi_798 : Cond.methodLink RX7 48 yX7_termsOf ∈ wd := wd_4 (List.mem_of_getElem? (i := 24) (by decide +kernel)) rfl
theorem wi_800 : Cond.instanceMethod yX7_termsOf ∈ wd := wd_4 (List.mem_of_getElem? (i := 26) (by decide +kernel)) rfl
theorem wi_801 : Cond.code yX7_termsOf cX7_termsOf 4 (some .int) ∈ wd := wd_4 (List.mem_of_getElem? (i := 27) (rfl)) rfl
theorem wi_802 : Cond.methodLink RX7 59 yX7_copy ∈ wd := wd_4 (List.mem_of_getElem? (i := 28) (by decide +kernel)) rfl
theorem wi_804 : Cond.instanceMethod yX7_copy ∈ wd := wd_4 (List.mem_of_getElem? (i := 30) (by decide +kernel)) rfl
theorem wi_805 : Cond.code yX7_copy cX7_copy 4 none ∈ wd := wd_4 (List.mem_of_getElem? (i := 31) (rfl)) rfl
theorem wi_806 : Cond.methodLink RL 74 yX7_place ∈ wd := wd_4 (List.mem_of_getElem? (i := 32) (by decide +kernel)) rfl
theorem wi_807 : Cond.instanceMethod yX7_place ∈ wd := wd_4 (List.mem_of_getElem? (i := 33) (by decide +kernel)) rfl
theorem wi_808 : Cond.selects RX7 yX7_place yX7_place ∈ wd := wd_4 (List.mem_of_getElem? (i := 34) (by decide +kernel)) rfl
theorem wi_809 : Cond.code yX7_place cX7_place 1 (some .int) ∈ wd := wd_4 (List.mem_of_getElem? (i := 35) (rfl)) rfl
theorem wi_810 : Cond.methodLink RL 77 yX7_write ∈ wd := wd_4 (List.mem_of_getElem? (i := 36) (by decide +kernel)) rfl
theorem wi_811 : Cond.instanceMethod yX7_write ∈ wd := wd_4 (List.mem_of_getElem? (i := 37) (by decide +kernel)) rfl
theorem wi_812 : Cond.selects RX7 yX7_write yX7_write ∈ wd := wd_4 (List.mem_of_getElem? (i := 38) (by decide +kernel)) rfl
theorem wi_813 : Cond.code yX7_write cX7_write 5 (some .int) ∈ wd := wd_4 (List.mem_of_getElem? (i := 39) (rfl)) rfl
theorem wi_814 : Cond.methodLink RX7 151 yX7_putTerm ∈ wd := wd_4 (List.mem_of_getElem? (i := 40) (by decide +kernel)) rfl
theorem wi_816 : Cond.instanceMethod yX7_putTerm ∈ wd := wd_4 (List.mem_of_getElem? (i := 42) (by decide +kernel)) rfl
theorem wi_817 : Cond.code yX7_putTerm cX7_putTerm 9 none ∈ wd := wd_4 (List.mem_of_getElem? (i := 43) (rfl)) rfl
theorem wi_818 : Cond.methodLink RX7 138 yX7_put ∈ wd := wd_4 (List.mem_of_getElem? (i := 44) (by decide +kernel)) rfl
theorem wi_820 : Cond.instanceMethod yX7_put ∈ wd := wd_4 (List.mem_of_getElem? (i := 46) (by decide +kernel)) rfl
theorem wi_821 : Cond.code yX7_put cX7_put 2 none ∈ wd := wd_4 (List.mem_of_getElem? (i := 47) (rfl)) rfl
theorem wi_822 : Cond.methodLink RX7 144 yX7_putNumber ∈ wd := wd_4 (List.mem_of_getElem? (i := 48) (by decide +kernel)) rfl
theorem wi_824 : Cond.instanceMethod yX7_putNumber ∈ wd := wd_4 (List.mem_of_getElem? (i := 50) (by decide +kernel)) rfl
theorem wi_825 : Cond.code yX7_putNumber cX7_putNumber 7 none ∈ wd := wd_4 (List.mem_of_getElem? (i := 51) (rfl)) rfl
theorem wi_826 : Cond.constantLong RX7 132 (9) ∈ wd := wd_4 (List.mem_of_getElem? (i := 52) (by decide +kernel)) rfl
theorem wi_827 : Cond.constantLong RX7 134 (10) ∈ wd := wd_4 (List.mem_of_getElem? (i := 53) (by decide +kernel)) rfl
theorem wi_828 : Cond.constantLong RX7 136 (48) ∈ wd := wd_4 (List.mem_of_getElem? (i := 54) (by decide +kernel)) rfl
theorem wi_829 : Cond.methodLink RX7 148 yX7_putFunction ∈ wd := wd_4 (List.mem_of_getElem? (i := 55) (by decide +kernel)) rfl
theorem wi_831 : Cond.instanceMethod yX7_putFunction ∈ wd := wd_4 (List.mem_of_getElem? (i := 57) (by decide +kernel)) rfl
theorem wi_832 : Cond.code yX7_putFunction cX7_putFunction 5 none ∈ wd := wd_4 (List.mem_of_getElem? (i := 58) (rfl)) rfl
theorem wi_833 : Cond.methodLink RX7 141 yX7_kindOf ∈ wd := wd_4 (List.mem_of_getElem? (i := 59) (by decide +kernel)) rfl
theorem wi_834 : Cond.static yX7_kindOf ∈ wd := wd_4 (List.mem_of_getElem? (i := 60) (by decide +kernel)) rfl
theorem wi_835 : Cond.code yX7_kindOf cX7_kindOf 1 (some .int) ∈ wd := wd_4 (List.mem_of_getElem? (i := 61) (rfl)) rfl
theorem wi_836 : Cond.methodLink RX7 63 yX7_countOf ∈ wd := wd_4 (List.mem_of_getElem? (i := 62) (by decide +kernel)) rfl
theorem wi_837 : Cond.static yX7_countOf ∈ wd := wd_4 (List.mem_of_getElem? (i := 63) (by decide +kernel)) rfl
theorem wi_838 : Cond.code yX7_countOf cX7_countOf 1 (some .int) ∈ wd := wd_4 (List.mem_of_getElem? (i := 64) (rfl)) rfl
theorem wi_839 : Cond.methodLink RL 82 yX7_output ∈ wd := wd_4 (List.mem_of_getElem? (i := 65) (by decide +kernel)) rfl
theorem wi_840 : Cond.instanceMethod yX7_output ∈ wd := wd_4 (List.mem_of_getElem? (i := 66) (by decide +kernel)) rfl
theorem wi_841 : Cond.selects RX7 yX7_output yX7_output ∈ wd := wd_4 (List.mem_of_getElem? (i := 67) (by decide +kernel)) rfl
theorem wi_842 : Cond.code yX7_output cX7_output 2 (some .char) ∈ wd := wd_4 (List.mem_of_getElem? (i := 68) (rfl)) rfl
theorem wi_843 : Cond.methodLink RL 85 yX7_add ∈ wd := wd_4 (List.mem_of_getElem? (i := 69) (by decide +kernel)) rfl
theorem wi_844 : Cond.instanceMethod yX7_add ∈ wd := wd_4 (List.mem_of_getElem? (i := 70) (by decide +kernel)) rfl
theorem wi_845 : Cond.selects RX7 yX7_add yX7_add ∈ wd := wd_4 (List.mem_of_getElem? (i := 71) (by decide +kernel)) rfl
theorem wi_846 : Cond.code yX7_add cX7_add 16 (some .int) ∈ wd := wd_4 (List.mem_of_getElem? (i := 72) (rfl)) rfl
theorem wi_847 : Cond.methodLink RX7 155 yX7_isSmall ∈ wd := wd_4 (List.mem_of_getElem? (i := 73) (by decide +kernel)) rfl
theorem wi_849 : Cond.instanceMethod yX7_isSmall ∈ wd := wd_4 (List.mem_of_getElem? (i := 75) (by decide +kernel)) rfl
theorem wi_850 : Cond.code yX7_isSmall cX7_isSmall 7 (some .boolean) ∈ wd := wd_4 (List.mem_of_getElem? (i := 76) (rfl)) rfl
theorem wi_851 : Cond.constantLong RX7 66 (100) ∈ wd := wd_4 (List.mem_of_getElem? (i := 77) (by decide +kernel)) rfl
theorem wi_852 : Cond.constantLong RX7 68 (-100) ∈ wd := wd_4 (List.mem_of_getElem? (i := 78) (by decide +kernel)) rfl
theorem wi_853 : Cond.constantLong RX7 70 (6) ∈ wd := wd_4 (List.mem_of_getElem? (i := 79) (by decide +kernel)) rfl
theorem wi_854 : Cond.methodLink RL 89 yX7_times ∈ wd := wd_4 (List.mem_of_getElem? (i := 80) (by decide +kernel)) rfl
theorem wi_855 : Cond.instanceMethod yX7_times ∈ wd := wd_4 (List.mem_of_getElem? (i := 81) (by decide +kernel)) rfl
theorem wi_856 : Cond.selects RX7 yX7_times yX7_times ∈ wd := wd_4 (List.mem_of_getElem? (i := 82) (by decide +kernel)) rfl
theorem wi_857 : Cond.code yX7_times cX7_times 10 (some .int) ∈ wd := wd_4 (List.mem_of_getElem? (i := 83) (rfl)) rfl
theorem wi_858 : Cond.methodLink RX7 160 yX7_clash ∈ wd := wd_4 (List.mem_of_getElem? (i := 84) (by decide +kernel)) rfl
theorem wi_859 : Cond.static yX7_clash ∈ wd := wd_4 (List.mem_of_getElem? (i := 85) (by decide +kernel)) rfl
theorem wi_860 : Cond.code yX7_clash cX7_clash 2 (some .boolean) ∈ wd := wd_4 (List.mem_of_getElem? (i := 86) (rfl)) rfl
theorem wi_861 : Cond.methodLink RX7 164 yX7_multiply ∈ wd := wd_4 (List.mem_of_getElem? (i := 87) (by decide +kernel)) rfl
theorem wi_863 : Cond.instanceMethod yX7_multiply ∈ wd := wd_4 (List.mem_of_getElem? (i := 89) (by decide +kernel)) rfl
theorem wi_864 : Cond.code yX7_multiply cX7_multiply 14 none ∈ wd := wd_4 (List.mem_of_getElem? (i := 90) (rfl)) rfl
theorem wi_865 : Cond.constantLong RX7 158 (2) ∈ wd := wd_4 (List.mem_of_getElem? (i := 91) (by decide +kernel)) rfl
theorem wi_866 : Cond.methodLink RL 93 yX7_derive ∈ wd := wd_4 (List.mem_of_getElem? (i := 92) (by decide +kernel)) rfl
theorem wi_867 : Cond.instanceMethod yX7_derive ∈ wd := wd_4 (List.mem_of_getElem? (i := 93) (by decide +kernel)) rfl
theorem wi_868 : Cond.selects RX7 yX7_derive yX7_derive ∈ wd := wd_4 (List.mem_of_getElem? (i := 94) (by decide +kernel)) rfl
theorem wi_869 : Cond.code yX7_derive cX7_derive 11 (some .int) ∈ wd := wd_4 (List.mem_of_getElem? (i := 95) (rfl)) rfl
theorem wi_870 : Cond.methodLink RL 96 yX7_integrate ∈ wd := wd_4 (List.mem_of_getElem? (i := 96) (by decide +kernel)) rfl
theorem wi_871 : Cond.instanceMethod yX7_integrate ∈ wd := wd_4 (List.mem_of_getElem? (i := 97) (by decide +kernel)) rfl
theorem wi_872 : Cond.selects RX7 yX7_integrate yX7_integrate ∈ wd := wd_4 (List.mem_of_getElem? (i := 98) (by decide +kernel)) rfl
theorem wi_873 : Cond.code yX7_integrate cX7_integrate 8 (some .int) ∈ wd := wd_4 (List.mem_of_getElem? (i := 99) (rfl)) rfl
theorem wi_874 : Cond.methodLink RX7 184 yX7_integrateLog ∈ wd := wd_4 (List.mem_of_getElem? (i := 100) (by decide +kernel)) rfl
theorem wi_876 : Cond.instanceMethod yX7_integrateLog ∈ wd := wd_4 (List.mem_of_getElem? (i := 102) (by decide +kernel)) rfl
theorem wi_877 : Cond.code yX7_integrateLog cX7_integrateLog 4 none ∈ wd := wd_4 (List.mem_of_getElem? (i := 103) (rfl)) rfl
theorem wi_878 : Cond.methodLink RX7 179 yX7_lay ∈ wd := wd_4 (List.mem_of_getElem? (i := 104) (by decide +kernel)) rfl
theorem wi_880 : Cond.instanceMethod yX7_lay ∈ wd := wd_4 (List.mem_of_getElem? (i := 106) (by decide +kernel)) rfl
theorem wi_881 : Cond.code yX7_lay cX7_lay 12 none ∈ wd := wd_4 (List.mem_of_getElem? (i := 107) (rfl)) rfl
theorem wi_882 : Cond.methodLink RX7 175 yX7_scale ∈ wd := wd_4 (List.mem_of_getElem? (i := 108) (by decide +kernel)) rfl
theorem wi_884 : Cond.instanceMethod yX7_scale ∈ wd := wd_4 (List.mem_of_getElem? (i := 110) (by decide +kernel)) rfl
theorem wi_885 : Cond.code yX7_scale cX7_scale 11 none ∈ wd := wd_4 (List.mem_of_getElem? (i := 111) (rfl)) rfl
theorem wi_886 : Cond.methodLink RX7 187 yX7_integrateOther ∈ wd := wd_4 (List.mem_of_getElem? (i := 112) (by decide +kernel)) rfl
theorem wi_888 : Cond.instanceMethod yX7_integrateOther ∈ wd := wd_4 (List.mem_of_getElem? (i := 114) (by decide +kernel)) rfl
theorem wi_889 : Cond.code yX7_integrateOther cX7_integrateOther 6 none ∈ wd := wd_4 (List.mem_of_getElem? (i := 115) (rfl)) rfl
theorem wi_890 : Cond.constantLong RX7 182 (-1) ∈ wd := wd_4 (List.mem_of_getElem? (i := 116) (by decide +kernel)) rfl
theorem wi_891 : Cond.methodLink RL 99 yX7_same ∈ wd := wd_4 (List.mem_of_getElem? (i := 117) (by decide +kernel)) rfl
theorem wi_892 : Cond.instanceMethod yX7_same ∈ wd := wd_4 (List.mem_of_getElem? (i := 118) (by decide +kernel)) rfl
theorem wi_893 : Cond.selects RX7 yX7_same yX7_same ∈ wd := wd_4 (List.mem_of_getElem? (i := 119) (by decide +kernel)) rfl
theorem wi_894 : Cond.code yX7_same cX7_same 5 (some .boolean) ∈ wd := wd_4 (List.mem_of_getElem? (i := 120) (rfl)) rfl
theorem wi_895 : Cond.methodLink RL 102 yX7_terms ∈ wd := wd_4 (List.mem_of_getElem? (i := 121) (by decide +kernel)) rfl
theorem wi_896 : Cond.instanceMethod yX7_terms ∈ wd := wd_4 (List.mem_of_getElem? (i := 122) (by decide +kernel)) rfl
theorem wi_897 : Cond.selects RX7 yX7_terms yX7_terms ∈ wd := wd_4 (List.mem_of_getElem? (i := 123) (by decide +kernel)) rfl
theorem wi_898 : Cond.code yX7_terms cX7_terms 2 (some .int) ∈ wd := wd_4 (List.mem_of_getElem? (i := 124) (rfl)) rfl
theorem wi_899 : Cond.methodLink RL 105 yX7_term ∈ wd := wd_4 (List.mem_of_getElem? (i := 125) (by decide +kernel)) rfl
theorem wi_900 : Cond.instanceMethod yX7_term ∈ wd := wd_4 (List.mem_of_getElem? (i := 126) (by decide +kernel)) rfl
theorem wi_901 : Cond.selects RX7 yX7_term yX7_term ∈ wd := wd_4 (List.mem_of_getElem? (i := 127) (by decide +kernel)) rfl
theorem wi_902 : Cond.code yX7_term cX7_term 8 (some .long) ∈ wd := wd_4 (List.mem_of_getElem? (i := 128) (rfl)) rfl
theorem fin_X1 : ∀ w ∈ u_ws RX1 TX1 2, w ∈ wd := by
  intro w hw
  obtain ⟨k, hk, rfl⟩ := List.mem_map.mp hw
  have hk := List.mem_range.mp hk
  match k, hk with
  | 0, _ => exact wd_1 (List.mem_of_getElem? (i := 61) (by decide +kernel)) rfl
  | 1, _ => exact wd_1 (List.mem_of_getElem? (i := 63) (by decide +kernel)) rfl
  | k + 2, h => exact absurd h (by omega)
theorem fin_X3 : ∀ w ∈ u_ws RX3 TX3 10, w ∈ wd := by
  intro w hw
  obtain ⟨k, hk, rfl⟩ := List.mem_map.mp hw
  have hk := List.mem_range.mp hk
  match k, hk with
  | 0, _ => exact wd_1 (List.mem_of_getElem? (i := 83) (by decide +kernel)) rfl
  | 1, _ => exact wd_1 (List.mem_of_getElem? (i := 85) (by decide +kernel)) rfl
  | 2, _ => exact wd_1 (List.mem_of_getElem? (i := 87) (by decide +kernel)) rfl
  | 3, _ => exact wd_1 (List.mem_of_getElem? (i := 89) (by decide +kernel)) rfl
  | 4, _ => exact wd_1 (List.mem_of_getElem? (i := 91) (by decide +kernel)) rfl
  | 5, _ => exact wd_1 (List.mem_of_getElem? (i := 93) (by decide +kernel)) rfl
  | 6, _ => exact wd_1 (List.mem_of_getElem? (i := 95) (by decide +kernel)) rfl
  | 7, _ => exact wd_1 (List.mem_of_getElem? (i := 97) (by decide +kernel)) rfl
  | 8, _ => exact wd_1 (List.mem_of_getElem? (i := 99) (by decide +kernel)) rfl
  | 9, _ => exact wd_1 (List.mem_of_getElem? (i := 101) (by decide +kernel)) rfl
  | k + 10, h => exact absurd h (by omega)
theorem fin_X4 : ∀ w ∈ u_ws RX4 TX4 6, w ∈ wd := by
  intro w hw
  obtain ⟨k, hk, rfl⟩ := List.mem_map.mp hw
  have hk := List.mem_range.mp hk
  match k, hk with
  | 0, _ => exact wd_1 (List.mem_of_getElem? (i := 36) (by decide +kernel)) rfl
  | 1, _ => exact wd_1 (List.mem_of_getElem? (i := 38) (by decide +kernel)) rfl
  | 2, _ => exact wd_1 (List.mem_of_getElem? (i := 40) (by decide +kernel)) rfl
  | 3, _ => exact wd_1 (List.mem_of_getElem? (i := 42) (by decide +kernel)) rfl
  | 4, _ => exact wd_1 (List.mem_of_getElem? (i := 44) (by decide +kernel)) rfl
  | 5, _ => exact wd_1 (List.mem_of_getElem? (i := 46) (by decide +kernel)) rfl
  | k + 6, h => exact absurd h (by omega)
theorem fin_X5 : ∀ w ∈ u_ws RX5 TX5 2, w ∈ wd := by
  intro w hw
  obtain ⟨k, hk, rfl⟩ := List.mem_map.mp hw
  have hk := List.mem_range.mp hk
  match k, hk with
  | 0, _ => exact wd_1 (List.mem_of_getElem? (i := 112) (by decide +kernel)) rfl
  | 1, _ => exact wd_1 (List.mem_of_getElem? (i := 114) (by decide +kernel)) rfl
  | k + 2, h => exact absurd h (by omega)
theorem fin_X6 : ∀ w ∈ u_ws RX6 TX6 6, w ∈ wd := by
  intro w hw
  obtain ⟨k, hk, rfl⟩ := List.mem_map.mp hw
  have hk := List.mem_range.mp hk
  match k, hk with
  | 0, _ => exact wd_1 (List.mem_of_getElem? (i := 123) (by decide +kernel)) rfl
  | 1, _ => exact wd_1 (List.mem_of_getElem? (i := 125) (by decide +kernel)) rfl
  | 2, _ => exact wd_1 (List.mem_of_getElem? (i := 127) (by decide +kernel)) rfl
  | 3, _ => exact wd_1 (List.mem_of_getElem? (i := 129) (by decide +kernel)) rfl
  | 4, _ => exact wd_1 (List.mem_of_getElem? (i := 131) (by decide +kernel)) rfl
  | 5, _ => exact wd_1 (List.mem_of_getElem? (i := 133) (by decide +kernel)) rfl
  | k + 6, h => exact absurd h (by omega)
theorem fin_X7 : ∀ w ∈ u_ws RX7 TX7 13, w ∈ wd := by
  intro w hw
  obtain ⟨k, hk, rfl⟩ := List.mem_map.mp hw
  have hk := List.mem_range.mp hk
  match k, hk with
  | 0, _ => exact wd_3 (List.mem_of_getElem? (i := 150) (by decide +kernel)) rfl
  | 1, _ => exact wd_3 (List.mem_of_getElem? (i := 152) (by decide +kernel)) rfl
  | 2, _ => exact wd_3 (List.mem_of_getElem? (i := 154) (by decide +kernel)) rfl
  | 3, _ => exact wd_3 (List.mem_of_getElem? (i := 156) (by decide +kernel)) rfl
  | 4, _ => exact wd_3 (List.mem_of_getElem? (i := 158) (by decide +kernel)) rfl
  | 5, _ => exact wd_3 (List.mem_of_getElem? (i := 160) (by decide +kernel)) rfl
  | 6, _ => exact wd_3 (List.mem_of_getElem? (i := 162) (by decide +kernel)) rfl
  | 7, _ => exact wd_3 (List.mem_of_getElem? (i := 164) (by decide +kernel)) rfl
  | 8, _ => exact wd_3 (List.mem_of_getElem? (i := 166) (by decide +kernel)) rfl
  | 9, _ => exact wd_3 (List.mem_of_getElem? (i := 168) (by decide +kernel)) rfl
  | 10, _ => exact wd_3 (List.mem_of_getElem? (i := 170) (by decide +kernel)) rfl
  | 11, _ => exact wd_3 (List.mem_of_getElem? (i := 172) (by decide +kernel)) rfl
  | 12, _ => exact wd_3 (List.mem_of_getElem? (i := 174) (by decide +kernel)) rfl
  | k + 13, h => exact absurd h (by omega)
end
section
theorem dX0_turned_0 : decode cX0_turned 0 = .ok (.iload_n 0, 1) := by decide +kernel
theorem dX0_turned_1 : decode cX0_turned 1 = .ok (.iconst 3, 1) := by decide +kernel
theorem dX0_turned_2 : decode cX0_turned 2 = .ok (.if_icmp .ne 7, 3) := by decide +kernel
theorem dX0_turned_5 : decode cX0_turned 5 = .ok (.iconst 4, 1) := by decide +kernel
theorem dX0_turned_6 : decode cX0_turned 6 = .ok (.goto 13, 3) := by decide +kernel
theorem dX0_turned_9 : decode cX0_turned 9 = .ok (.iload_n 0, 1) := by decide +kernel
theorem dX0_turned_10 : decode cX0_turned 10 = .ok (.iconst 4, 1) := by decide +kernel
theorem dX0_turned_11 : decode cX0_turned 11 = .ok (.if_icmp .ne 7, 3) := by decide +kernel
theorem dX0_turned_14 : decode cX0_turned 14 = .ok (.iconst 3, 1) := by decide +kernel
theorem dX0_turned_15 : decode cX0_turned 15 = .ok (.goto 4, 3) := by decide +kernel
theorem dX0_turned_18 : decode cX0_turned 18 = .ok (.iload_n 0, 1) := by decide +kernel
theorem dX0_turned_19 : decode cX0_turned 19 = .ok (.ireturn, 1) := by decide +kernel
theorem dX0_signDerived_0 : decode cX0_signDerived 0 = .ok (.iload_n 0, 1) := by decide +kernel
theorem dX0_signDerived_1 : decode cX0_signDerived 1 = .ok (.iconst 4, 1) := by decide +kernel
theorem dX0_signDerived_2 : decode cX0_signDerived 2 = .ok (.if_icmp .ne 7, 3) := by decide +kernel
theorem dX0_signDerived_5 : decode cX0_signDerived 5 = .ok (.iconst (-1), 1) := by decide +kernel
theorem dX0_signDerived_6 : decode cX0_signDerived 6 = .ok (.goto 4, 3) := by decide +kernel
theorem dX0_signDerived_9 : decode cX0_signDerived 9 = .ok (.iconst 1, 1) := by decide +kernel
theorem dX0_signDerived_10 : decode cX0_signDerived 10 = .ok (.ireturn, 1) := by decide +kernel
theorem dX0_signIntegrated_0 : decode cX0_signIntegrated 0 = .ok (.iload_n 0, 1) := by decide +kernel
theorem dX0_signIntegrated_1 : decode cX0_signIntegrated 1 = .ok (.iconst 3, 1) := by decide +kernel
theorem dX0_signIntegrated_2 : decode cX0_signIntegrated 2 = .ok (.if_icmp .ne 7, 3) := by decide +kernel
theorem dX0_signIntegrated_5 : decode cX0_signIntegrated 5 = .ok (.iconst (-1), 1) := by decide +kernel
theorem dX0_signIntegrated_6 : decode cX0_signIntegrated 6 = .ok (.goto 4, 3) := by decide +kernel
theorem dX0_signIntegrated_9 : decode cX0_signIntegrated 9 = .ok (.iconst 1, 1) := by decide +kernel
theorem dX0_signIntegrated_10 : decode cX0_signIntegrated 10 = .ok (.ireturn, 1) := by decide +kernel
theorem dX0_putDerivative_0 : decode cX0_putDerivative 0 = .ok (.iconst 0, 1) := by decide +kernel
theorem dX0_putDerivative_1 : decode cX0_putDerivative 1 = .ok (.istore_n 2, 1) := by decide +kernel
theorem dX0_putDerivative_2 : decode cX0_putDerivative 2 = .ok (.iload_n 2, 1) := by decide +kernel
theorem dX0_putDerivative_3 : decode cX0_putDerivative 3 = .ok (.aload_n 1, 1) := by decide +kernel
theorem dX0_putDerivative_4 : decode cX0_putDerivative 4 = .ok (.invokevirtual 9, 3) := by decide +kernel
theorem dX0_putDerivative_7 : decode cX0_putDerivative 7 = .ok (.if_icmp .ge 121, 3) := by decide +kernel
theorem dX0_putDerivative_10 : decode cX0_putDerivative 10 = .ok (.aload_n 1, 1) := by decide +kernel
theorem dX0_putDerivative_11 : decode cX0_putDerivative 11 = .ok (.iload_n 2, 1) := by decide +kernel
theorem dX0_putDerivative_12 : decode cX0_putDerivative 12 = .ok (.invokevirtual 15, 3) := by decide +kernel
theorem dX0_putDerivative_15 : decode cX0_putDerivative 15 = .ok (.istore_n 3, 1) := by decide +kernel
theorem dX0_putDerivative_16 : decode cX0_putDerivative 16 = .ok (.aload_n 1, 1) := by decide +kernel
theorem dX0_putDerivative_17 : decode cX0_putDerivative 17 = .ok (.iload_n 2, 1) := by decide +kernel
theorem dX0_putDerivative_18 : decode cX0_putDerivative 18 = .ok (.invokevirtual 19, 3) := by decide +kernel
theorem dX0_putDerivative_21 : decode cX0_putDerivative 21 = .ok (.istore 4, 2) := by decide +kernel
theorem dX0_putDerivative_23 : decode cX0_putDerivative 23 = .ok (.aload_n 1, 1) := by decide +kernel
theorem dX0_putDerivative_24 : decode cX0_putDerivative 24 = .ok (.iload_n 2, 1) := by decide +kernel
theorem dX0_putDerivative_25 : decode cX0_putDerivative 25 = .ok (.invokevirtual 22, 3) := by decide +kernel
theorem dX0_putDerivative_28 : decode cX0_putDerivative 28 = .ok (.istore 5, 2) := by decide +kernel
theorem dX0_putDerivative_30 : decode cX0_putDerivative 30 = .ok (.aload_n 1, 1) := by decide +kernel
theorem dX0_putDerivative_31 : decode cX0_putDerivative 31 = .ok (.iload_n 2, 1) := by decide +kernel
theorem dX0_putDerivative_32 : decode cX0_putDerivative 32 = .ok (.invokevirtual 25, 3) := by decide +kernel
theorem dX0_putDerivative_35 : decode cX0_putDerivative 35 = .ok (.lstore 6, 2) := by decide +kernel
theorem dX0_putDerivative_37 : decode cX0_putDerivative 37 = .ok (.aload_n 1, 1) := by decide +kernel
theorem dX0_putDerivative_38 : decode cX0_putDerivative 38 = .ok (.iload_n 2, 1) := by decide +kernel
theorem dX0_putDerivative_39 : decode cX0_putDerivative 39 = .ok (.invokevirtual 29, 3) := by decide +kernel
theorem dX0_putDerivative_42 : decode cX0_putDerivative 42 = .ok (.lstore 8, 2) := by decide +kernel
theorem dX0_putDerivative_44 : decode cX0_putDerivative 44 = .ok (.aload_n 0, 1) := by decide +kernel
theorem dX0_putDerivative_45 : decode cX0_putDerivative 45 = .ok (.iload_n 3, 1) := by decide +kernel
theorem dX0_putDerivative_46 : decode cX0_putDerivative 46 = .ok (.iload 4, 2) := by decide +kernel
theorem dX0_putDerivative_48 : decode cX0_putDerivative 48 = .ok (.iload 5, 2) := by decide +kernel
theorem dX0_putDerivative_50 : decode cX0_putDerivative 50 = .ok (.iconst 1, 1) := by decide +kernel
theorem dX0_putDerivative_51 : decode cX0_putDerivative 51 = .ok (.isub, 1) := by decide +kernel
theorem dX0_putDerivative_52 : decode cX0_putDerivative 52 = .ok (.lload 6, 2) := by decide +kernel
theorem dX0_putDerivative_54 : decode cX0_putDerivative 54 = .ok (.iload 5, 2) := by decide +kernel
theorem dX0_putDerivative_56 : decode cX0_putDerivative 56 = .ok (.i2l, 1) := by decide +kernel
theorem dX0_putDerivative_57 : decode cX0_putDerivative 57 = .ok (.lmul, 1) := by decide +kernel
theorem dX0_putDerivative_58 : decode cX0_putDerivative 58 = .ok (.lload 8, 2) := by decide +kernel
theorem dX0_putDerivative_60 : decode cX0_putDerivative 60 = .ok (.invokevirtual 32, 3) := by decide +kernel
theorem dX0_putDerivative_63 : decode cX0_putDerivative 63 = .ok (.iload_n 3, 1) := by decide +kernel
theorem dX0_putDerivative_64 : decode cX0_putDerivative 64 = .ok (.iconst 1, 1) := by decide +kernel
theorem dX0_putDerivative_65 : decode cX0_putDerivative 65 = .ok (.if_icmp .ne 27, 3) := by decide +kernel
theorem dX0_putDerivative_68 : decode cX0_putDerivative 68 = .ok (.aload_n 0, 1) := by decide +kernel
theorem dX0_putDerivative_69 : decode cX0_putDerivative 69 = .ok (.iconst 1, 1) := by decide +kernel
theorem dX0_putDerivative_70 : decode cX0_putDerivative 70 = .ok (.iload 4, 2) := by decide +kernel
theorem dX0_putDerivative_72 : decode cX0_putDerivative 72 = .ok (.iconst 1, 1) := by decide +kernel
theorem dX0_putDerivative_73 : decode cX0_putDerivative 73 = .ok (.isub, 1) := by decide +kernel
theorem dX0_putDerivative_74 : decode cX0_putDerivative 74 = .ok (.iload 5, 2) := by decide +kernel
theorem dX0_putDerivative_76 : decode cX0_putDerivative 76 = .ok (.iconst 1, 1) := by decide +kernel
theorem dX0_putDerivative_77 : decode cX0_putDerivative 77 = .ok (.isub, 1) := by decide +kernel
theorem dX0_putDerivative_78 : decode cX0_putDerivative 78 = .ok (.lload 6, 2) := by decide +kernel
theorem dX0_putDerivative_80 : decode cX0_putDerivative 80 = .ok (.iload 4, 2) := by decide +kernel
theorem dX0_putDerivative_82 : decode cX0_putDerivative 82 = .ok (.i2l, 1) := by decide +kernel
theorem dX0_putDerivative_83 : decode cX0_putDerivative 83 = .ok (.lmul, 1) := by decide +kernel
theorem dX0_putDerivative_84 : decode cX0_putDerivative 84 = .ok (.lload 8, 2) := by decide +kernel
theorem dX0_putDerivative_86 : decode cX0_putDerivative 86 = .ok (.invokevirtual 32, 3) := by decide +kernel
theorem dX0_putDerivative_89 : decode cX0_putDerivative 89 = .ok (.goto 33, 3) := by decide +kernel
theorem dX0_putDerivative_92 : decode cX0_putDerivative 92 = .ok (.iload_n 3, 1) := by decide +kernel
theorem dX0_putDerivative_93 : decode cX0_putDerivative 93 = .ok (.ifCond .eq 29, 3) := by decide +kernel
theorem dX0_putDerivative_96 : decode cX0_putDerivative 96 = .ok (.aload_n 0, 1) := by decide +kernel
theorem dX0_putDerivative_97 : decode cX0_putDerivative 97 = .ok (.iload_n 3, 1) := by decide +kernel
theorem dX0_putDerivative_98 : decode cX0_putDerivative 98 = .ok (.invokestatic 36, 3) := by decide +kernel
theorem dX0_putDerivative_101 : decode cX0_putDerivative 101 = .ok (.iload 4, 2) := by decide +kernel
theorem dX0_putDerivative_103 : decode cX0_putDerivative 103 = .ok (.iload 5, 2) := by decide +kernel
theorem dX0_putDerivative_105 : decode cX0_putDerivative 105 = .ok (.lload 6, 2) := by decide +kernel
theorem dX0_putDerivative_107 : decode cX0_putDerivative 107 = .ok (.iload 4, 2) := by decide +kernel
theorem dX0_putDerivative_109 : decode cX0_putDerivative 109 = .ok (.i2l, 1) := by decide +kernel
theorem dX0_putDerivative_110 : decode cX0_putDerivative 110 = .ok (.lmul, 1) := by decide +kernel
theorem dX0_putDerivative_111 : decode cX0_putDerivative 111 = .ok (.iload_n 3, 1) := by decide +kernel
theorem dX0_putDerivative_112 : decode cX0_putDerivative 112 = .ok (.invokestatic 41, 3) := by decide +kernel
theorem dX0_putDerivative_115 : decode cX0_putDerivative 115 = .ok (.i2l, 1) := by decide +kernel
theorem dX0_putDerivative_116 : decode cX0_putDerivative 116 = .ok (.lmul, 1) := by decide +kernel
theorem dX0_putDerivative_117 : decode cX0_putDerivative 117 = .ok (.lload 8, 2) := by decide +kernel
theorem dX0_putDerivative_119 : decode cX0_putDerivative 119 = .ok (.invokevirtual 32, 3) := by decide +kernel
theorem dX0_putDerivative_122 : decode cX0_putDerivative 122 = .ok (.iinc 2 1, 3) := by decide +kernel
theorem dX0_putDerivative_125 : decode cX0_putDerivative 125 = .ok (.goto (-123), 3) := by decide +kernel
theorem dX0_putDerivative_128 : decode cX0_putDerivative 128 = .ok (.return_, 1) := by decide +kernel
theorem dX0_putIntegral_0 : decode cX0_putIntegral 0 = .ok (.iconst 0, 1) := by decide +kernel
theorem dX0_putIntegral_1 : decode cX0_putIntegral 1 = .ok (.istore_n 3, 1) := by decide +kernel
theorem dX0_putIntegral_2 : decode cX0_putIntegral 2 = .ok (.iload_n 3, 1) := by decide +kernel
theorem dX0_putIntegral_3 : decode cX0_putIntegral 3 = .ok (.aload_n 2, 1) := by decide +kernel
theorem dX0_putIntegral_4 : decode cX0_putIntegral 4 = .ok (.invokevirtual 9, 3) := by decide +kernel
theorem dX0_putIntegral_7 : decode cX0_putIntegral 7 = .ok (.if_icmp .ge 107, 3) := by decide +kernel
theorem dX0_putIntegral_10 : decode cX0_putIntegral 10 = .ok (.aload_n 2, 1) := by decide +kernel
theorem dX0_putIntegral_11 : decode cX0_putIntegral 11 = .ok (.iload_n 3, 1) := by decide +kernel
theorem dX0_putIntegral_12 : decode cX0_putIntegral 12 = .ok (.invokevirtual 15, 3) := by decide +kernel
theorem dX0_putIntegral_15 : decode cX0_putIntegral 15 = .ok (.istore 4, 2) := by decide +kernel
theorem dX0_putIntegral_17 : decode cX0_putIntegral 17 = .ok (.aload_n 2, 1) := by decide +kernel
theorem dX0_putIntegral_18 : decode cX0_putIntegral 18 = .ok (.iload_n 3, 1) := by decide +kernel
theorem dX0_putIntegral_19 : decode cX0_putIntegral 19 = .ok (.invokevirtual 19, 3) := by decide +kernel
theorem dX0_putIntegral_22 : decode cX0_putIntegral 22 = .ok (.istore 5, 2) := by decide +kernel
theorem dX0_putIntegral_24 : decode cX0_putIntegral 24 = .ok (.aload_n 2, 1) := by decide +kernel
theorem dX0_putIntegral_25 : decode cX0_putIntegral 25 = .ok (.iload_n 3, 1) := by decide +kernel
theorem dX0_putIntegral_26 : decode cX0_putIntegral 26 = .ok (.invokevirtual 22, 3) := by decide +kernel
theorem dX0_putIntegral_29 : decode cX0_putIntegral 29 = .ok (.istore 6, 2) := by decide +kernel
theorem dX0_putIntegral_31 : decode cX0_putIntegral 31 = .ok (.aload_n 2, 1) := by decide +kernel
theorem dX0_putIntegral_32 : decode cX0_putIntegral 32 = .ok (.iload_n 3, 1) := by decide +kernel
theorem dX0_putIntegral_33 : decode cX0_putIntegral 33 = .ok (.invokevirtual 25, 3) := by decide +kernel
theorem dX0_putIntegral_36 : decode cX0_putIntegral 36 = .ok (.lstore 7, 2) := by decide +kernel
theorem dX0_putIntegral_38 : decode cX0_putIntegral 38 = .ok (.aload_n 2, 1) := by decide +kernel
theorem dX0_putIntegral_39 : decode cX0_putIntegral 39 = .ok (.iload_n 3, 1) := by decide +kernel
theorem dX0_putIntegral_40 : decode cX0_putIntegral 40 = .ok (.invokevirtual 29, 3) := by decide +kernel
theorem dX0_putIntegral_43 : decode cX0_putIntegral 43 = .ok (.lstore 9, 2) := by decide +kernel
theorem dX0_putIntegral_45 : decode cX0_putIntegral 45 = .ok (.iload 4, 2) := by decide +kernel
theorem dX0_putIntegral_47 : decode cX0_putIntegral 47 = .ok (.ifCond .eq 9, 3) := by decide +kernel
theorem dX0_putIntegral_50 : decode cX0_putIntegral 50 = .ok (.iload 4, 2) := by decide +kernel
theorem dX0_putIntegral_52 : decode cX0_putIntegral 52 = .ok (.iconst 1, 1) := by decide +kernel
theorem dX0_putIntegral_53 : decode cX0_putIntegral 53 = .ok (.if_icmp .ne 18, 3) := by decide +kernel
theorem dX0_putIntegral_56 : decode cX0_putIntegral 56 = .ok (.aload_n 0, 1) := by decide +kernel
theorem dX0_putIntegral_57 : decode cX0_putIntegral 57 = .ok (.iload 5, 2) := by decide +kernel
theorem dX0_putIntegral_59 : decode cX0_putIntegral 59 = .ok (.iload 6, 2) := by decide +kernel
theorem dX0_putIntegral_61 : decode cX0_putIntegral 61 = .ok (.lload 7, 2) := by decide +kernel
theorem dX0_putIntegral_63 : decode cX0_putIntegral 63 = .ok (.lload 9, 2) := by decide +kernel
theorem dX0_putIntegral_65 : decode cX0_putIntegral 65 = .ok (.invokestatic 44, 3) := by decide +kernel
theorem dX0_putIntegral_68 : decode cX0_putIntegral 68 = .ok (.goto 40, 3) := by decide +kernel
theorem dX0_putIntegral_71 : decode cX0_putIntegral 71 = .ok (.iload 6, 2) := by decide +kernel
theorem dX0_putIntegral_73 : decode cX0_putIntegral 73 = .ok (.ifCond .lt 20, 3) := by decide +kernel
theorem dX0_putIntegral_76 : decode cX0_putIntegral 76 = .ok (.aload_n 0, 1) := by decide +kernel
theorem dX0_putIntegral_77 : decode cX0_putIntegral 77 = .ok (.iload 4, 2) := by decide +kernel
theorem dX0_putIntegral_79 : decode cX0_putIntegral 79 = .ok (.iload 5, 2) := by decide +kernel
theorem dX0_putIntegral_81 : decode cX0_putIntegral 81 = .ok (.iload 6, 2) := by decide +kernel
theorem dX0_putIntegral_83 : decode cX0_putIntegral 83 = .ok (.lload 7, 2) := by decide +kernel
theorem dX0_putIntegral_85 : decode cX0_putIntegral 85 = .ok (.lload 9, 2) := by decide +kernel
theorem dX0_putIntegral_87 : decode cX0_putIntegral 87 = .ok (.invokestatic 48, 3) := by decide +kernel
theorem dX0_putIntegral_90 : decode cX0_putIntegral 90 = .ok (.goto 18, 3) := by decide +kernel
theorem dX0_putIntegral_93 : decode cX0_putIntegral 93 = .ok (.aload_n 0, 1) := by decide +kernel
theorem dX0_putIntegral_94 : decode cX0_putIntegral 94 = .ok (.aload_n 1, 1) := by decide +kernel
theorem dX0_putIntegral_95 : decode cX0_putIntegral 95 = .ok (.iload 4, 2) := by decide +kernel
theorem dX0_putIntegral_97 : decode cX0_putIntegral 97 = .ok (.iload 5, 2) := by decide +kernel
theorem dX0_putIntegral_99 : decode cX0_putIntegral 99 = .ok (.iload 6, 2) := by decide +kernel
theorem dX0_putIntegral_101 : decode cX0_putIntegral 101 = .ok (.lload 7, 2) := by decide +kernel
theorem dX0_putIntegral_103 : decode cX0_putIntegral 103 = .ok (.lload 9, 2) := by decide +kernel
theorem dX0_putIntegral_105 : decode cX0_putIntegral 105 = .ok (.invokestatic 52, 3) := by decide +kernel
theorem dX0_putIntegral_108 : decode cX0_putIntegral 108 = .ok (.iinc 3 1, 3) := by decide +kernel
theorem dX0_putIntegral_111 : decode cX0_putIntegral 111 = .ok (.goto (-109), 3) := by decide +kernel
theorem dX0_putIntegral_114 : decode cX0_putIntegral 114 = .ok (.return_, 1) := by decide +kernel
theorem dX0_integrateLog_0 : decode cX0_integrateLog 0 = .ok (.iload_n 2, 1) := by decide +kernel
theorem dX0_integrateLog_1 : decode cX0_integrateLog 1 = .ok (.iconst (-1), 1) := by decide +kernel
theorem dX0_integrateLog_2 : decode cX0_integrateLog 2 = .ok (.if_icmp .ne 21, 3) := by decide +kernel
theorem dX0_integrateLog_5 : decode cX0_integrateLog 5 = .ok (.aload_n 0, 1) := by decide +kernel
theorem dX0_integrateLog_6 : decode cX0_integrateLog 6 = .ok (.iconst 1, 1) := by decide +kernel
theorem dX0_integrateLog_7 : decode cX0_integrateLog 7 = .ok (.iload_n 1, 1) := by decide +kernel
theorem dX0_integrateLog_8 : decode cX0_integrateLog 8 = .ok (.iconst 1, 1) := by decide +kernel
theorem dX0_integrateLog_9 : decode cX0_integrateLog 9 = .ok (.iadd, 1) := by decide +kernel
theorem dX0_integrateLog_10 : decode cX0_integrateLog 10 = .ok (.iconst 0, 1) := by decide +kernel
theorem dX0_integrateLog_11 : decode cX0_integrateLog 11 = .ok (.lload_n 3, 1) := by decide +kernel
theorem dX0_integrateLog_12 : decode cX0_integrateLog 12 = .ok (.lload 5, 2) := by decide +kernel
theorem dX0_integrateLog_14 : decode cX0_integrateLog 14 = .ok (.iload_n 1, 1) := by decide +kernel
theorem dX0_integrateLog_15 : decode cX0_integrateLog 15 = .ok (.iconst 1, 1) := by decide +kernel
theorem dX0_integrateLog_16 : decode cX0_integrateLog 16 = .ok (.iadd, 1) := by decide +kernel
theorem dX0_integrateLog_17 : decode cX0_integrateLog 17 = .ok (.i2l, 1) := by decide +kernel
theorem dX0_integrateLog_18 : decode cX0_integrateLog 18 = .ok (.lmul, 1) := by decide +kernel
theorem dX0_integrateLog_19 : decode cX0_integrateLog 19 = .ok (.invokevirtual 32, 3) := by decide +kernel
theorem dX0_integrateLog_22 : decode cX0_integrateLog 22 = .ok (.return_, 1) := by decide +kernel
theorem dX0_integrateLog_23 : decode cX0_integrateLog 23 = .ok (.lload_n 3, 1) := by decide +kernel
theorem dX0_integrateLog_24 : decode cX0_integrateLog 24 = .ok (.lstore 7, 2) := by decide +kernel
theorem dX0_integrateLog_26 : decode cX0_integrateLog 26 = .ok (.lload 5, 2) := by decide +kernel
theorem dX0_integrateLog_28 : decode cX0_integrateLog 28 = .ok (.lstore 9, 2) := by decide +kernel
theorem dX0_integrateLog_30 : decode cX0_integrateLog 30 = .ok (.iload_n 1, 1) := by decide +kernel
theorem dX0_integrateLog_31 : decode cX0_integrateLog 31 = .ok (.istore 11, 2) := by decide +kernel
theorem dX0_integrateLog_33 : decode cX0_integrateLog 33 = .ok (.iload 11, 2) := by decide +kernel
theorem dX0_integrateLog_35 : decode cX0_integrateLog 35 = .ok (.ifCond .lt 41, 3) := by decide +kernel
theorem dX0_integrateLog_38 : decode cX0_integrateLog 38 = .ok (.lload 9, 2) := by decide +kernel
theorem dX0_integrateLog_40 : decode cX0_integrateLog 40 = .ok (.iload_n 2, 1) := by decide +kernel
theorem dX0_integrateLog_41 : decode cX0_integrateLog 41 = .ok (.iconst 1, 1) := by decide +kernel
theorem dX0_integrateLog_42 : decode cX0_integrateLog 42 = .ok (.iadd, 1) := by decide +kernel
theorem dX0_integrateLog_43 : decode cX0_integrateLog 43 = .ok (.i2l, 1) := by decide +kernel
theorem dX0_integrateLog_44 : decode cX0_integrateLog 44 = .ok (.lmul, 1) := by decide +kernel
theorem dX0_integrateLog_45 : decode cX0_integrateLog 45 = .ok (.lstore 9, 2) := by decide +kernel
theorem dX0_integrateLog_47 : decode cX0_integrateLog 47 = .ok (.aload_n 0, 1) := by decide +kernel
theorem dX0_integrateLog_48 : decode cX0_integrateLog 48 = .ok (.iconst 1, 1) := by decide +kernel
theorem dX0_integrateLog_49 : decode cX0_integrateLog 49 = .ok (.iload 11, 2) := by decide +kernel
theorem dX0_integrateLog_51 : decode cX0_integrateLog 51 = .ok (.iload_n 2, 1) := by decide +kernel
theorem dX0_integrateLog_52 : decode cX0_integrateLog 52 = .ok (.iconst 1, 1) := by decide +kernel
theorem dX0_integrateLog_53 : decode cX0_integrateLog 53 = .ok (.iadd, 1) := by decide +kernel
theorem dX0_integrateLog_54 : decode cX0_integrateLog 54 = .ok (.lload 7, 2) := by decide +kernel
theorem dX0_integrateLog_56 : decode cX0_integrateLog 56 = .ok (.lload 9, 2) := by decide +kernel
theorem dX0_integrateLog_58 : decode cX0_integrateLog 58 = .ok (.invokevirtual 32, 3) := by decide +kernel
theorem dX0_integrateLog_61 : decode cX0_integrateLog 61 = .ok (.lload 7, 2) := by decide +kernel
theorem dX0_integrateLog_63 : decode cX0_integrateLog 63 = .ok (.iload 11, 2) := by decide +kernel
theorem dX0_integrateLog_65 : decode cX0_integrateLog 65 = .ok (.ineg, 1) := by decide +kernel
theorem dX0_integrateLog_66 : decode cX0_integrateLog 66 = .ok (.i2l, 1) := by decide +kernel
theorem dX0_integrateLog_67 : decode cX0_integrateLog 67 = .ok (.lmul, 1) := by decide +kernel
theorem dX0_integrateLog_68 : decode cX0_integrateLog 68 = .ok (.lstore 7, 2) := by decide +kernel
theorem dX0_integrateLog_70 : decode cX0_integrateLog 70 = .ok (.iinc 11 (-1), 3) := by decide +kernel
theorem dX0_integrateLog_73 : decode cX0_integrateLog 73 = .ok (.goto (-40), 3) := by decide +kernel
theorem dX0_integrateLog_76 : decode cX0_integrateLog 76 = .ok (.return_, 1) := by decide +kernel
theorem dX0_lowerPower_0 : decode cX0_lowerPower 0 = .ok (.iload_n 1, 1) := by decide +kernel
theorem dX0_lowerPower_1 : decode cX0_lowerPower 1 = .ok (.istore 8, 2) := by decide +kernel
theorem dX0_lowerPower_3 : decode cX0_lowerPower 3 = .ok (.lload 4, 2) := by decide +kernel
theorem dX0_lowerPower_5 : decode cX0_lowerPower 5 = .ok (.lstore 9, 2) := by decide +kernel
theorem dX0_lowerPower_7 : decode cX0_lowerPower 7 = .ok (.lload 6, 2) := by decide +kernel
theorem dX0_lowerPower_9 : decode cX0_lowerPower 9 = .ok (.lstore 11, 2) := by decide +kernel
theorem dX0_lowerPower_11 : decode cX0_lowerPower 11 = .ok (.iload_n 3, 1) := by decide +kernel
theorem dX0_lowerPower_12 : decode cX0_lowerPower 12 = .ok (.istore 13, 2) := by decide +kernel
theorem dX0_lowerPower_14 : decode cX0_lowerPower 14 = .ok (.iload 13, 2) := by decide +kernel
theorem dX0_lowerPower_16 : decode cX0_lowerPower 16 = .ok (.ifCond .lt 56, 3) := by decide +kernel
theorem dX0_lowerPower_19 : decode cX0_lowerPower 19 = .ok (.lload 9, 2) := by decide +kernel
theorem dX0_lowerPower_21 : decode cX0_lowerPower 21 = .ok (.iload 8, 2) := by decide +kernel
theorem dX0_lowerPower_23 : decode cX0_lowerPower 23 = .ok (.invokestatic 56, 3) := by decide +kernel
theorem dX0_lowerPower_26 : decode cX0_lowerPower 26 = .ok (.i2l, 1) := by decide +kernel
theorem dX0_lowerPower_27 : decode cX0_lowerPower 27 = .ok (.lmul, 1) := by decide +kernel
theorem dX0_lowerPower_28 : decode cX0_lowerPower 28 = .ok (.lstore 9, 2) := by decide +kernel
theorem dX0_lowerPower_30 : decode cX0_lowerPower 30 = .ok (.lload 11, 2) := by decide +kernel
theorem dX0_lowerPower_32 : decode cX0_lowerPower 32 = .ok (.iload_n 2, 1) := by decide +kernel
theorem dX0_lowerPower_33 : decode cX0_lowerPower 33 = .ok (.i2l, 1) := by decide +kernel
theorem dX0_lowerPower_34 : decode cX0_lowerPower 34 = .ok (.lmul, 1) := by decide +kernel
theorem dX0_lowerPower_35 : decode cX0_lowerPower 35 = .ok (.lstore 11, 2) := by decide +kernel
theorem dX0_lowerPower_37 : decode cX0_lowerPower 37 = .ok (.iload 8, 2) := by decide +kernel
theorem dX0_lowerPower_39 : decode cX0_lowerPower 39 = .ok (.invokestatic 36, 3) := by decide +kernel
theorem dX0_lowerPower_42 : decode cX0_lowerPower 42 = .ok (.istore 8, 2) := by decide +kernel
theorem dX0_lowerPower_44 : decode cX0_lowerPower 44 = .ok (.aload_n 0, 1) := by decide +kernel
theorem dX0_lowerPower_45 : decode cX0_lowerPower 45 = .ok (.iload 8, 2) := by decide +kernel
theorem dX0_lowerPower_47 : decode cX0_lowerPower 47 = .ok (.iload_n 2, 1) := by decide +kernel
theorem dX0_lowerPower_48 : decode cX0_lowerPower 48 = .ok (.iload 13, 2) := by decide +kernel
theorem dX0_lowerPower_50 : decode cX0_lowerPower 50 = .ok (.lload 9, 2) := by decide +kernel
theorem dX0_lowerPower_52 : decode cX0_lowerPower 52 = .ok (.lload 11, 2) := by decide +kernel
theorem dX0_lowerPower_54 : decode cX0_lowerPower 54 = .ok (.invokevirtual 32, 3) := by decide +kernel
theorem dX0_lowerPower_57 : decode cX0_lowerPower 57 = .ok (.lload 9, 2) := by decide +kernel
theorem dX0_lowerPower_59 : decode cX0_lowerPower 59 = .ok (.iload 13, 2) := by decide +kernel
theorem dX0_lowerPower_61 : decode cX0_lowerPower 61 = .ok (.ineg, 1) := by decide +kernel
theorem dX0_lowerPower_62 : decode cX0_lowerPower 62 = .ok (.i2l, 1) := by decide +kernel
theorem dX0_lowerPower_63 : decode cX0_lowerPower 63 = .ok (.lmul, 1) := by decide +kernel
theorem dX0_lowerPower_64 : decode cX0_lowerPower 64 = .ok (.lstore 9, 2) := by decide +kernel
theorem dX0_lowerPower_66 : decode cX0_lowerPower 66 = .ok (.iinc 13 (-1), 3) := by decide +kernel
theorem dX0_lowerPower_69 : decode cX0_lowerPower 69 = .ok (.goto (-55), 3) := by decide +kernel
theorem dX0_lowerPower_72 : decode cX0_lowerPower 72 = .ok (.return_, 1) := by decide +kernel
theorem dX0_raisePower_0 : decode cX0_raisePower 0 = .ok (.iload_n 2, 1) := by decide +kernel
theorem dX0_raisePower_1 : decode cX0_raisePower 1 = .ok (.istore 9, 2) := by decide +kernel
theorem dX0_raisePower_3 : decode cX0_raisePower 3 = .ok (.lload 5, 2) := by decide +kernel
theorem dX0_raisePower_5 : decode cX0_raisePower 5 = .ok (.lstore 10, 2) := by decide +kernel
theorem dX0_raisePower_7 : decode cX0_raisePower 7 = .ok (.lload 7, 2) := by decide +kernel
theorem dX0_raisePower_9 : decode cX0_raisePower 9 = .ok (.lstore 12, 2) := by decide +kernel
theorem dX0_raisePower_11 : decode cX0_raisePower 11 = .ok (.iload 4, 2) := by decide +kernel
theorem dX0_raisePower_13 : decode cX0_raisePower 13 = .ok (.istore 14, 2) := by decide +kernel
theorem dX0_raisePower_15 : decode cX0_raisePower 15 = .ok (.iload 14, 2) := by decide +kernel
theorem dX0_raisePower_17 : decode cX0_raisePower 17 = .ok (.iconst (-1), 1) := by decide +kernel
theorem dX0_raisePower_18 : decode cX0_raisePower 18 = .ok (.if_icmp .ge 55, 3) := by decide +kernel
theorem dX0_raisePower_21 : decode cX0_raisePower 21 = .ok (.lload 12, 2) := by decide +kernel
theorem dX0_raisePower_23 : decode cX0_raisePower 23 = .ok (.iload 14, 2) := by decide +kernel
theorem dX0_raisePower_25 : decode cX0_raisePower 25 = .ok (.iconst 1, 1) := by decide +kernel
theorem dX0_raisePower_26 : decode cX0_raisePower 26 = .ok (.iadd, 1) := by decide +kernel
theorem dX0_raisePower_27 : decode cX0_raisePower 27 = .ok (.i2l, 1) := by decide +kernel
theorem dX0_raisePower_28 : decode cX0_raisePower 28 = .ok (.lmul, 1) := by decide +kernel
theorem dX0_raisePower_29 : decode cX0_raisePower 29 = .ok (.lstore 12, 2) := by decide +kernel
theorem dX0_raisePower_31 : decode cX0_raisePower 31 = .ok (.aload_n 0, 1) := by decide +kernel
theorem dX0_raisePower_32 : decode cX0_raisePower 32 = .ok (.iload 9, 2) := by decide +kernel
theorem dX0_raisePower_34 : decode cX0_raisePower 34 = .ok (.iload_n 3, 1) := by decide +kernel
theorem dX0_raisePower_35 : decode cX0_raisePower 35 = .ok (.iload 14, 2) := by decide +kernel
theorem dX0_raisePower_37 : decode cX0_raisePower 37 = .ok (.iconst 1, 1) := by decide +kernel
theorem dX0_raisePower_38 : decode cX0_raisePower 38 = .ok (.iadd, 1) := by decide +kernel
theorem dX0_raisePower_39 : decode cX0_raisePower 39 = .ok (.lload 10, 2) := by decide +kernel
theorem dX0_raisePower_41 : decode cX0_raisePower 41 = .ok (.lload 12, 2) := by decide +kernel
theorem dX0_raisePower_43 : decode cX0_raisePower 43 = .ok (.invokevirtual 32, 3) := by decide +kernel
theorem dX0_raisePower_46 : decode cX0_raisePower 46 = .ok (.lload 10, 2) := by decide +kernel
theorem dX0_raisePower_48 : decode cX0_raisePower 48 = .ok (.iload_n 3, 1) := by decide +kernel
theorem dX0_raisePower_49 : decode cX0_raisePower 49 = .ok (.ineg, 1) := by decide +kernel
theorem dX0_raisePower_50 : decode cX0_raisePower 50 = .ok (.iload 9, 2) := by decide +kernel
theorem dX0_raisePower_52 : decode cX0_raisePower 52 = .ok (.invokestatic 41, 3) := by decide +kernel
theorem dX0_raisePower_55 : decode cX0_raisePower 55 = .ok (.imul, 1) := by decide +kernel
theorem dX0_raisePower_56 : decode cX0_raisePower 56 = .ok (.i2l, 1) := by decide +kernel
theorem dX0_raisePower_57 : decode cX0_raisePower 57 = .ok (.lmul, 1) := by decide +kernel
theorem dX0_raisePower_58 : decode cX0_raisePower 58 = .ok (.lstore 10, 2) := by decide +kernel
theorem dX0_raisePower_60 : decode cX0_raisePower 60 = .ok (.iload 9, 2) := by decide +kernel
theorem dX0_raisePower_62 : decode cX0_raisePower 62 = .ok (.invokestatic 36, 3) := by decide +kernel
theorem dX0_raisePower_65 : decode cX0_raisePower 65 = .ok (.istore 9, 2) := by decide +kernel
theorem dX0_raisePower_67 : decode cX0_raisePower 67 = .ok (.iinc 14 1, 3) := by decide +kernel
theorem dX0_raisePower_70 : decode cX0_raisePower 70 = .ok (.goto (-55), 3) := by decide +kernel
theorem dX0_raisePower_73 : decode cX0_raisePower 73 = .ok (.aload_n 1, 1) := by decide +kernel
theorem dX0_raisePower_74 : decode cX0_raisePower 74 = .ok (.iload 9, 2) := by decide +kernel
theorem dX0_raisePower_76 : decode cX0_raisePower 76 = .ok (.iload_n 3, 1) := by decide +kernel
theorem dX0_raisePower_77 : decode cX0_raisePower 77 = .ok (.iconst (-1), 1) := by decide +kernel
theorem dX0_raisePower_78 : decode cX0_raisePower 78 = .ok (.lload 10, 2) := by decide +kernel
theorem dX0_raisePower_80 : decode cX0_raisePower 80 = .ok (.lload 12, 2) := by decide +kernel
theorem dX0_raisePower_82 : decode cX0_raisePower 82 = .ok (.invokevirtual 32, 3) := by decide +kernel
theorem dX0_raisePower_85 : decode cX0_raisePower 85 = .ok (.return_, 1) := by decide +kernel
theorem dX1_init_0 : decode cX1_init 0 = .ok (.aload_n 0, 1) := by decide +kernel
theorem dX1_init_1 : decode cX1_init 1 = .ok (.invokespecial 3, 3) := by decide +kernel
theorem dX1_init_4 : decode cX1_init 4 = .ok (.aload_n 0, 1) := by decide +kernel
theorem dX1_init_5 : decode cX1_init 5 = .ok (.bipush 100, 2) := by decide +kernel
theorem dX1_init_7 : decode cX1_init 7 = .ok (.newarray .char, 2) := by decide +kernel
theorem dX1_init_9 : decode cX1_init 9 = .ok (.putfield 9, 3) := by decide +kernel
theorem dX1_init_12 : decode cX1_init 12 = .ok (.aload_n 0, 1) := by decide +kernel
theorem dX1_init_13 : decode cX1_init 13 = .ok (.iconst 0, 1) := by decide +kernel
theorem dX1_init_14 : decode cX1_init 14 = .ok (.putfield 15, 3) := by decide +kernel
theorem dX1_init_17 : decode cX1_init 17 = .ok (.return_, 1) := by decide +kernel
theorem dX1_charactersIn_0 : decode cX1_charactersIn 0 = .ok (.iconst 0, 1) := by decide +kernel
theorem dX1_charactersIn_1 : decode cX1_charactersIn 1 = .ok (.istore_n 1, 1) := by decide +kernel
theorem dX1_charactersIn_2 : decode cX1_charactersIn 2 = .ok (.bipush 24, 2) := by decide +kernel
theorem dX1_charactersIn_4 : decode cX1_charactersIn 4 = .ok (.istore_n 2, 1) := by decide +kernel
theorem dX1_charactersIn_5 : decode cX1_charactersIn 5 = .ok (.iload_n 2, 1) := by decide +kernel
theorem dX1_charactersIn_6 : decode cX1_charactersIn 6 = .ok (.ifCond .lt 22, 3) := by decide +kernel
theorem dX1_charactersIn_9 : decode cX1_charactersIn 9 = .ok (.iload_n 0, 1) := by decide +kernel
theorem dX1_charactersIn_10 : decode cX1_charactersIn 10 = .ok (.iload_n 2, 1) := by decide +kernel
theorem dX1_charactersIn_11 : decode cX1_charactersIn 11 = .ok (.iushr, 1) := by decide +kernel
theorem dX1_charactersIn_12 : decode cX1_charactersIn 12 = .ok (.sipush 255, 3) := by decide +kernel
theorem dX1_charactersIn_15 : decode cX1_charactersIn 15 = .ok (.iand, 1) := by decide +kernel
theorem dX1_charactersIn_16 : decode cX1_charactersIn 16 = .ok (.ifCond .eq 6, 3) := by decide +kernel
theorem dX1_charactersIn_19 : decode cX1_charactersIn 19 = .ok (.iinc 1 1, 3) := by decide +kernel
theorem dX1_charactersIn_22 : decode cX1_charactersIn 22 = .ok (.iinc 2 (-8), 3) := by decide +kernel
theorem dX1_charactersIn_25 : decode cX1_charactersIn 25 = .ok (.goto (-20), 3) := by decide +kernel
theorem dX1_charactersIn_28 : decode cX1_charactersIn 28 = .ok (.iload_n 1, 1) := by decide +kernel
theorem dX1_charactersIn_29 : decode cX1_charactersIn 29 = .ok (.ireturn, 1) := by decide +kernel
theorem dX1_append_0 : decode cX1_append 0 = .ok (.bipush 24, 2) := by decide +kernel
theorem dX1_append_2 : decode cX1_append 2 = .ok (.istore_n 2, 1) := by decide +kernel
theorem dX1_append_3 : decode cX1_append 3 = .ok (.iload_n 2, 1) := by decide +kernel
theorem dX1_append_4 : decode cX1_append 4 = .ok (.ifCond .lt 51, 3) := by decide +kernel
theorem dX1_append_7 : decode cX1_append 7 = .ok (.iload_n 1, 1) := by decide +kernel
theorem dX1_append_8 : decode cX1_append 8 = .ok (.iload_n 2, 1) := by decide +kernel
theorem dX1_append_9 : decode cX1_append 9 = .ok (.iushr, 1) := by decide +kernel
theorem dX1_append_10 : decode cX1_append 10 = .ok (.sipush 255, 3) := by decide +kernel
theorem dX1_append_13 : decode cX1_append 13 = .ok (.iand, 1) := by decide +kernel
theorem dX1_append_14 : decode cX1_append 14 = .ok (.istore_n 3, 1) := by decide +kernel
theorem dX1_append_15 : decode cX1_append 15 = .ok (.iload_n 3, 1) := by decide +kernel
theorem dX1_append_16 : decode cX1_append 16 = .ok (.ifCond .eq 33, 3) := by decide +kernel
theorem dX1_append_19 : decode cX1_append 19 = .ok (.aload_n 0, 1) := by decide +kernel
theorem dX1_append_20 : decode cX1_append 20 = .ok (.getfield 15, 3) := by decide +kernel
theorem dX1_append_23 : decode cX1_append 23 = .ok (.bipush 100, 2) := by decide +kernel
theorem dX1_append_25 : decode cX1_append 25 = .ok (.if_icmp .ge 24, 3) := by decide +kernel
theorem dX1_append_28 : decode cX1_append 28 = .ok (.aload_n 0, 1) := by decide +kernel
theorem dX1_append_29 : decode cX1_append 29 = .ok (.getfield 9, 3) := by decide +kernel
theorem dX1_append_32 : decode cX1_append 32 = .ok (.aload_n 0, 1) := by decide +kernel
theorem dX1_append_33 : decode cX1_append 33 = .ok (.getfield 15, 3) := by decide +kernel
theorem dX1_append_36 : decode cX1_append 36 = .ok (.iload_n 3, 1) := by decide +kernel
theorem dX1_append_37 : decode cX1_append 37 = .ok (.i2c, 1) := by decide +kernel
theorem dX1_append_38 : decode cX1_append 38 = .ok (.castore, 1) := by decide +kernel
theorem dX1_append_39 : decode cX1_append 39 = .ok (.aload_n 0, 1) := by decide +kernel
theorem dX1_append_40 : decode cX1_append 40 = .ok (.dup, 1) := by decide +kernel
theorem dX1_append_41 : decode cX1_append 41 = .ok (.getfield 15, 3) := by decide +kernel
theorem dX1_append_44 : decode cX1_append 44 = .ok (.iconst 1, 1) := by decide +kernel
theorem dX1_append_45 : decode cX1_append 45 = .ok (.iadd, 1) := by decide +kernel
theorem dX1_append_46 : decode cX1_append 46 = .ok (.putfield 15, 3) := by decide +kernel
theorem dX1_append_49 : decode cX1_append 49 = .ok (.iinc 2 (-8), 3) := by decide +kernel
theorem dX1_append_52 : decode cX1_append 52 = .ok (.goto (-49), 3) := by decide +kernel
theorem dX1_append_55 : decode cX1_append 55 = .ok (.return_, 1) := by decide +kernel
theorem dX1_clear_0 : decode cX1_clear 0 = .ok (.aload_n 0, 1) := by decide +kernel
theorem dX1_clear_1 : decode cX1_clear 1 = .ok (.iconst 0, 1) := by decide +kernel
theorem dX1_clear_2 : decode cX1_clear 2 = .ok (.putfield 15, 3) := by decide +kernel
theorem dX1_clear_5 : decode cX1_clear 5 = .ok (.return_, 1) := by decide +kernel
theorem dX1_length_0 : decode cX1_length 0 = .ok (.aload_n 0, 1) := by decide +kernel
theorem dX1_length_1 : decode cX1_length 1 = .ok (.getfield 15, 3) := by decide +kernel
theorem dX1_length_4 : decode cX1_length 4 = .ok (.ireturn, 1) := by decide +kernel
theorem dX1_charAt_0 : decode cX1_charAt 0 = .ok (.iload_n 1, 1) := by decide +kernel
theorem dX1_charAt_1 : decode cX1_charAt 1 = .ok (.ifCond .lt 20, 3) := by decide +kernel
theorem dX1_charAt_4 : decode cX1_charAt 4 = .ok (.iload_n 1, 1) := by decide +kernel
theorem dX1_charAt_5 : decode cX1_charAt 5 = .ok (.aload_n 0, 1) := by decide +kernel
theorem dX1_charAt_6 : decode cX1_charAt 6 = .ok (.getfield 15, 3) := by decide +kernel
theorem dX1_charAt_9 : decode cX1_charAt 9 = .ok (.if_icmp .ge 12, 3) := by decide +kernel
theorem dX1_charAt_12 : decode cX1_charAt 12 = .ok (.aload_n 0, 1) := by decide +kernel
theorem dX1_charAt_13 : decode cX1_charAt 13 = .ok (.getfield 9, 3) := by decide +kernel
theorem dX1_charAt_16 : decode cX1_charAt 16 = .ok (.iload_n 1, 1) := by decide +kernel
theorem dX1_charAt_17 : decode cX1_charAt 17 = .ok (.caload, 1) := by decide +kernel
theorem dX1_charAt_18 : decode cX1_charAt 18 = .ok (.goto 4, 3) := by decide +kernel
theorem dX1_charAt_21 : decode cX1_charAt 21 = .ok (.iconst 0, 1) := by decide +kernel
theorem dX1_charAt_22 : decode cX1_charAt 22 = .ok (.ireturn, 1) := by decide +kernel
theorem dX2_canBeTold_0 : decode cX2_canBeTold 0 = .ok (.iconst 0, 1) := by decide +kernel
theorem dX2_canBeTold_1 : decode cX2_canBeTold 1 = .ok (.istore_n 2, 1) := by decide +kernel
theorem dX2_canBeTold_2 : decode cX2_canBeTold 2 = .ok (.iload_n 2, 1) := by decide +kernel
theorem dX2_canBeTold_3 : decode cX2_canBeTold 3 = .ok (.aload_n 0, 1) := by decide +kernel
theorem dX2_canBeTold_4 : decode cX2_canBeTold 4 = .ok (.invokevirtual 9, 3) := by decide +kernel
theorem dX2_canBeTold_7 : decode cX2_canBeTold 7 = .ok (.if_icmp .ge 43, 3) := by decide +kernel
theorem dX2_canBeTold_10 : decode cX2_canBeTold 10 = .ok (.iconst 0, 1) := by decide +kernel
theorem dX2_canBeTold_11 : decode cX2_canBeTold 11 = .ok (.istore_n 3, 1) := by decide +kernel
theorem dX2_canBeTold_12 : decode cX2_canBeTold 12 = .ok (.iload_n 3, 1) := by decide +kernel
theorem dX2_canBeTold_13 : decode cX2_canBeTold 13 = .ok (.aload_n 1, 1) := by decide +kernel
theorem dX2_canBeTold_14 : decode cX2_canBeTold 14 = .ok (.invokevirtual 9, 3) := by decide +kernel
theorem dX2_canBeTold_17 : decode cX2_canBeTold 17 = .ok (.if_icmp .ge 27, 3) := by decide +kernel
theorem dX2_canBeTold_20 : decode cX2_canBeTold 20 = .ok (.aload_n 0, 1) := by decide +kernel
theorem dX2_canBeTold_21 : decode cX2_canBeTold 21 = .ok (.iload_n 2, 1) := by decide +kernel
theorem dX2_canBeTold_22 : decode cX2_canBeTold 22 = .ok (.invokevirtual 15, 3) := by decide +kernel
theorem dX2_canBeTold_25 : decode cX2_canBeTold 25 = .ok (.aload_n 1, 1) := by decide +kernel
theorem dX2_canBeTold_26 : decode cX2_canBeTold 26 = .ok (.iload_n 3, 1) := by decide +kernel
theorem dX2_canBeTold_27 : decode cX2_canBeTold 27 = .ok (.invokevirtual 15, 3) := by decide +kernel
theorem dX2_canBeTold_30 : decode cX2_canBeTold 30 = .ok (.invokestatic 19, 3) := by decide +kernel
theorem dX2_canBeTold_33 : decode cX2_canBeTold 33 = .ok (.ifCond .ne 5, 3) := by decide +kernel
theorem dX2_canBeTold_36 : decode cX2_canBeTold 36 = .ok (.iconst 0, 1) := by decide +kernel
theorem dX2_canBeTold_37 : decode cX2_canBeTold 37 = .ok (.ireturn, 1) := by decide +kernel
theorem dX2_canBeTold_38 : decode cX2_canBeTold 38 = .ok (.iinc 3 1, 3) := by decide +kernel
theorem dX2_canBeTold_41 : decode cX2_canBeTold 41 = .ok (.goto (-29), 3) := by decide +kernel
theorem dX2_canBeTold_44 : decode cX2_canBeTold 44 = .ok (.iinc 2 1, 3) := by decide +kernel
theorem dX2_canBeTold_47 : decode cX2_canBeTold 47 = .ok (.goto (-45), 3) := by decide +kernel
theorem dX2_canBeTold_50 : decode cX2_canBeTold 50 = .ok (.iconst 1, 1) := by decide +kernel
theorem dX2_canBeTold_51 : decode cX2_canBeTold 51 = .ok (.ireturn, 1) := by decide +kernel
theorem dX2_canMeet_0 : decode cX2_canMeet 0 = .ok (.iload_n 0, 1) := by decide +kernel
theorem dX2_canMeet_1 : decode cX2_canMeet 1 = .ok (.iload_n 1, 1) := by decide +kernel
theorem dX2_canMeet_2 : decode cX2_canMeet 2 = .ok (.if_icmp .eq 25, 3) := by decide +kernel
theorem dX2_canMeet_5 : decode cX2_canMeet 5 = .ok (.iload_n 0, 1) := by decide +kernel
theorem dX2_canMeet_6 : decode cX2_canMeet 6 = .ok (.ifCond .eq 21, 3) := by decide +kernel
theorem dX2_canMeet_9 : decode cX2_canMeet 9 = .ok (.iload_n 1, 1) := by decide +kernel
theorem dX2_canMeet_10 : decode cX2_canMeet 10 = .ok (.ifCond .eq 17, 3) := by decide +kernel
theorem dX2_canMeet_13 : decode cX2_canMeet 13 = .ok (.iload_n 0, 1) := by decide +kernel
theorem dX2_canMeet_14 : decode cX2_canMeet 14 = .ok (.invokestatic 25, 3) := by decide +kernel
theorem dX2_canMeet_17 : decode cX2_canMeet 17 = .ok (.ifCond .eq 14, 3) := by decide +kernel
theorem dX2_canMeet_20 : decode cX2_canMeet 20 = .ok (.iload_n 1, 1) := by decide +kernel
theorem dX2_canMeet_21 : decode cX2_canMeet 21 = .ok (.invokestatic 25, 3) := by decide +kernel
theorem dX2_canMeet_24 : decode cX2_canMeet 24 = .ok (.ifCond .eq 7, 3) := by decide +kernel
theorem dX2_canMeet_27 : decode cX2_canMeet 27 = .ok (.iconst 1, 1) := by decide +kernel
theorem dX2_canMeet_28 : decode cX2_canMeet 28 = .ok (.goto 4, 3) := by decide +kernel
theorem dX2_canMeet_31 : decode cX2_canMeet 31 = .ok (.iconst 0, 1) := by decide +kernel
theorem dX2_canMeet_32 : decode cX2_canMeet 32 = .ok (.ireturn, 1) := by decide +kernel
theorem dX2_isWave_0 : decode cX2_isWave 0 = .ok (.iload_n 0, 1) := by decide +kernel
theorem dX2_isWave_1 : decode cX2_isWave 1 = .ok (.iconst 3, 1) := by decide +kernel
theorem dX2_isWave_2 : decode cX2_isWave 2 = .ok (.if_icmp .eq 8, 3) := by decide +kernel
theorem dX2_isWave_5 : decode cX2_isWave 5 = .ok (.iload_n 0, 1) := by decide +kernel
theorem dX2_isWave_6 : decode cX2_isWave 6 = .ok (.iconst 4, 1) := by decide +kernel
theorem dX2_isWave_7 : decode cX2_isWave 7 = .ok (.if_icmp .ne 7, 3) := by decide +kernel
theorem dX2_isWave_10 : decode cX2_isWave 10 = .ok (.iconst 1, 1) := by decide +kernel
theorem dX2_isWave_11 : decode cX2_isWave 11 = .ok (.goto 4, 3) := by decide +kernel
theorem dX2_isWave_14 : decode cX2_isWave 14 = .ok (.iconst 0, 1) := by decide +kernel
theorem dX2_isWave_15 : decode cX2_isWave 15 = .ok (.ireturn, 1) := by decide +kernel
theorem dX2_putProduct_0 : decode cX2_putProduct 0 = .ok (.iconst 0, 1) := by decide +kernel
theorem dX2_putProduct_1 : decode cX2_putProduct 1 = .ok (.istore_n 3, 1) := by decide +kernel
theorem dX2_putProduct_2 : decode cX2_putProduct 2 = .ok (.iload_n 3, 1) := by decide +kernel
theorem dX2_putProduct_3 : decode cX2_putProduct 3 = .ok (.aload_n 1, 1) := by decide +kernel
theorem dX2_putProduct_4 : decode cX2_putProduct 4 = .ok (.invokevirtual 9, 3) := by decide +kernel
theorem dX2_putProduct_7 : decode cX2_putProduct 7 = .ok (.if_icmp .ge 71, 3) := by decide +kernel
theorem dX2_putProduct_10 : decode cX2_putProduct 10 = .ok (.iconst 0, 1) := by decide +kernel
theorem dX2_putProduct_11 : decode cX2_putProduct 11 = .ok (.istore 4, 2) := by decide +kernel
theorem dX2_putProduct_13 : decode cX2_putProduct 13 = .ok (.iload 4, 2) := by decide +kernel
theorem dX2_putProduct_15 : decode cX2_putProduct 15 = .ok (.aload_n 2, 1) := by decide +kernel
theorem dX2_putProduct_16 : decode cX2_putProduct 16 = .ok (.invokevirtual 9, 3) := by decide +kernel
theorem dX2_putProduct_19 : decode cX2_putProduct 19 = .ok (.if_icmp .ge 53, 3) := by decide +kernel
theorem dX2_putProduct_22 : decode cX2_putProduct 22 = .ok (.aload_n 1, 1) := by decide +kernel
theorem dX2_putProduct_23 : decode cX2_putProduct 23 = .ok (.iload_n 3, 1) := by decide +kernel
theorem dX2_putProduct_24 : decode cX2_putProduct 24 = .ok (.invokevirtual 15, 3) := by decide +kernel
theorem dX2_putProduct_27 : decode cX2_putProduct 27 = .ok (.invokestatic 25, 3) := by decide +kernel
theorem dX2_putProduct_30 : decode cX2_putProduct 30 = .ok (.ifCond .eq 27, 3) := by decide +kernel
theorem dX2_putProduct_33 : decode cX2_putProduct 33 = .ok (.aload_n 2, 1) := by decide +kernel
theorem dX2_putProduct_34 : decode cX2_putProduct 34 = .ok (.iload 4, 2) := by decide +kernel
theorem dX2_putProduct_36 : decode cX2_putProduct 36 = .ok (.invokevirtual 15, 3) := by decide +kernel
theorem dX2_putProduct_39 : decode cX2_putProduct 39 = .ok (.invokestatic 25, 3) := by decide +kernel
theorem dX2_putProduct_42 : decode cX2_putProduct 42 = .ok (.ifCond .eq 15, 3) := by decide +kernel
theorem dX2_putProduct_45 : decode cX2_putProduct 45 = .ok (.aload_n 0, 1) := by decide +kernel
theorem dX2_putProduct_46 : decode cX2_putProduct 46 = .ok (.aload_n 1, 1) := by decide +kernel
theorem dX2_putProduct_47 : decode cX2_putProduct 47 = .ok (.iload_n 3, 1) := by decide +kernel
theorem dX2_putProduct_48 : decode cX2_putProduct 48 = .ok (.aload_n 2, 1) := by decide +kernel
theorem dX2_putProduct_49 : decode cX2_putProduct 49 = .ok (.iload 4, 2) := by decide +kernel
theorem dX2_putProduct_51 : decode cX2_putProduct 51 = .ok (.invokestatic 29, 3) := by decide +kernel
theorem dX2_putProduct_54 : decode cX2_putProduct 54 = .ok (.goto 12, 3) := by decide +kernel
theorem dX2_putProduct_57 : decode cX2_putProduct 57 = .ok (.aload_n 0, 1) := by decide +kernel
theorem dX2_putProduct_58 : decode cX2_putProduct 58 = .ok (.aload_n 1, 1) := by decide +kernel
theorem dX2_putProduct_59 : decode cX2_putProduct 59 = .ok (.iload_n 3, 1) := by decide +kernel
theorem dX2_putProduct_60 : decode cX2_putProduct 60 = .ok (.aload_n 2, 1) := by decide +kernel
theorem dX2_putProduct_61 : decode cX2_putProduct 61 = .ok (.iload 4, 2) := by decide +kernel
theorem dX2_putProduct_63 : decode cX2_putProduct 63 = .ok (.invokestatic 33, 3) := by decide +kernel
theorem dX2_putProduct_66 : decode cX2_putProduct 66 = .ok (.iinc 4 1, 3) := by decide +kernel
theorem dX2_putProduct_69 : decode cX2_putProduct 69 = .ok (.goto (-56), 3) := by decide +kernel
theorem dX2_putProduct_72 : decode cX2_putProduct 72 = .ok (.iinc 3 1, 3) := by decide +kernel
theorem dX2_putProduct_75 : decode cX2_putProduct 75 = .ok (.goto (-73), 3) := by decide +kernel
theorem dX2_putProduct_78 : decode cX2_putProduct 78 = .ok (.return_, 1) := by decide +kernel
theorem dX2_putJoined_0 : decode cX2_putJoined 0 = .ok (.aload_n 0, 1) := by decide +kernel
theorem dX2_putJoined_1 : decode cX2_putJoined 1 = .ok (.aload_n 1, 1) := by decide +kernel
theorem dX2_putJoined_2 : decode cX2_putJoined 2 = .ok (.iload_n 2, 1) := by decide +kernel
theorem dX2_putJoined_3 : decode cX2_putJoined 3 = .ok (.invokevirtual 15, 3) := by decide +kernel
theorem dX2_putJoined_6 : decode cX2_putJoined 6 = .ok (.aload_n 3, 1) := by decide +kernel
theorem dX2_putJoined_7 : decode cX2_putJoined 7 = .ok (.iload 4, 2) := by decide +kernel
theorem dX2_putJoined_9 : decode cX2_putJoined 9 = .ok (.invokevirtual 15, 3) := by decide +kernel
theorem dX2_putJoined_12 : decode cX2_putJoined 12 = .ok (.invokestatic 36, 3) := by decide +kernel
theorem dX2_putJoined_15 : decode cX2_putJoined 15 = .ok (.aload_n 1, 1) := by decide +kernel
theorem dX2_putJoined_16 : decode cX2_putJoined 16 = .ok (.iload_n 2, 1) := by decide +kernel
theorem dX2_putJoined_17 : decode cX2_putJoined 17 = .ok (.invokevirtual 42, 3) := by decide +kernel
theorem dX2_putJoined_20 : decode cX2_putJoined 20 = .ok (.aload_n 3, 1) := by decide +kernel
theorem dX2_putJoined_21 : decode cX2_putJoined 21 = .ok (.iload 4, 2) := by decide +kernel
theorem dX2_putJoined_23 : decode cX2_putJoined 23 = .ok (.invokevirtual 42, 3) := by decide +kernel
theorem dX2_putJoined_26 : decode cX2_putJoined 26 = .ok (.iadd, 1) := by decide +kernel
theorem dX2_putJoined_27 : decode cX2_putJoined 27 = .ok (.aload_n 1, 1) := by decide +kernel
theorem dX2_putJoined_28 : decode cX2_putJoined 28 = .ok (.iload_n 2, 1) := by decide +kernel
theorem dX2_putJoined_29 : decode cX2_putJoined 29 = .ok (.invokevirtual 45, 3) := by decide +kernel
theorem dX2_putJoined_32 : decode cX2_putJoined 32 = .ok (.aload_n 3, 1) := by decide +kernel
theorem dX2_putJoined_33 : decode cX2_putJoined 33 = .ok (.iload 4, 2) := by decide +kernel
theorem dX2_putJoined_35 : decode cX2_putJoined 35 = .ok (.invokevirtual 45, 3) := by decide +kernel
theorem dX2_putJoined_38 : decode cX2_putJoined 38 = .ok (.iadd, 1) := by decide +kernel
theorem dX2_putJoined_39 : decode cX2_putJoined 39 = .ok (.aload_n 1, 1) := by decide +kernel
theorem dX2_putJoined_40 : decode cX2_putJoined 40 = .ok (.iload_n 2, 1) := by decide +kernel
theorem dX2_putJoined_41 : decode cX2_putJoined 41 = .ok (.invokevirtual 48, 3) := by decide +kernel
theorem dX2_putJoined_44 : decode cX2_putJoined 44 = .ok (.aload_n 3, 1) := by decide +kernel
theorem dX2_putJoined_45 : decode cX2_putJoined 45 = .ok (.iload 4, 2) := by decide +kernel
theorem dX2_putJoined_47 : decode cX2_putJoined 47 = .ok (.invokevirtual 48, 3) := by decide +kernel
theorem dX2_putJoined_50 : decode cX2_putJoined 50 = .ok (.lmul, 1) := by decide +kernel
theorem dX2_putJoined_51 : decode cX2_putJoined 51 = .ok (.aload_n 1, 1) := by decide +kernel
theorem dX2_putJoined_52 : decode cX2_putJoined 52 = .ok (.iload_n 2, 1) := by decide +kernel
theorem dX2_putJoined_53 : decode cX2_putJoined 53 = .ok (.invokevirtual 52, 3) := by decide +kernel
theorem dX2_putJoined_56 : decode cX2_putJoined 56 = .ok (.aload_n 3, 1) := by decide +kernel
theorem dX2_putJoined_57 : decode cX2_putJoined 57 = .ok (.iload 4, 2) := by decide +kernel
theorem dX2_putJoined_59 : decode cX2_putJoined 59 = .ok (.invokevirtual 52, 3) := by decide +kernel
theorem dX2_putJoined_62 : decode cX2_putJoined 62 = .ok (.lmul, 1) := by decide +kernel
theorem dX2_putJoined_63 : decode cX2_putJoined 63 = .ok (.invokevirtual 55, 3) := by decide +kernel
theorem dX2_putJoined_66 : decode cX2_putJoined 66 = .ok (.return_, 1) := by decide +kernel
theorem dX2_putWaves_0 : decode cX2_putWaves 0 = .ok (.aload_n 1, 1) := by decide +kernel
theorem dX2_putWaves_1 : decode cX2_putWaves 1 = .ok (.iload_n 2, 1) := by decide +kernel
theorem dX2_putWaves_2 : decode cX2_putWaves 2 = .ok (.invokevirtual 15, 3) := by decide +kernel
theorem dX2_putWaves_5 : decode cX2_putWaves 5 = .ok (.istore 5, 2) := by decide +kernel
theorem dX2_putWaves_7 : decode cX2_putWaves 7 = .ok (.aload_n 3, 1) := by decide +kernel
theorem dX2_putWaves_8 : decode cX2_putWaves 8 = .ok (.iload 4, 2) := by decide +kernel
theorem dX2_putWaves_10 : decode cX2_putWaves 10 = .ok (.invokevirtual 15, 3) := by decide +kernel
theorem dX2_putWaves_13 : decode cX2_putWaves 13 = .ok (.istore 6, 2) := by decide +kernel
theorem dX2_putWaves_15 : decode cX2_putWaves 15 = .ok (.iload 5, 2) := by decide +kernel
theorem dX2_putWaves_17 : decode cX2_putWaves 17 = .ok (.iload 6, 2) := by decide +kernel
theorem dX2_putWaves_19 : decode cX2_putWaves 19 = .ok (.if_icmp .ne 7, 3) := by decide +kernel
theorem dX2_putWaves_22 : decode cX2_putWaves 22 = .ok (.iconst 4, 1) := by decide +kernel
theorem dX2_putWaves_23 : decode cX2_putWaves 23 = .ok (.goto 4, 3) := by decide +kernel
theorem dX2_putWaves_26 : decode cX2_putWaves 26 = .ok (.iconst 3, 1) := by decide +kernel
theorem dX2_putWaves_27 : decode cX2_putWaves 27 = .ok (.istore 7, 2) := by decide +kernel
theorem dX2_putWaves_29 : decode cX2_putWaves 29 = .ok (.aload_n 1, 1) := by decide +kernel
theorem dX2_putWaves_30 : decode cX2_putWaves 30 = .ok (.iload_n 2, 1) := by decide +kernel
theorem dX2_putWaves_31 : decode cX2_putWaves 31 = .ok (.invokevirtual 45, 3) := by decide +kernel
theorem dX2_putWaves_34 : decode cX2_putWaves 34 = .ok (.aload_n 3, 1) := by decide +kernel
theorem dX2_putWaves_35 : decode cX2_putWaves 35 = .ok (.iload 4, 2) := by decide +kernel
theorem dX2_putWaves_37 : decode cX2_putWaves 37 = .ok (.invokevirtual 45, 3) := by decide +kernel
theorem dX2_putWaves_40 : decode cX2_putWaves 40 = .ok (.iadd, 1) := by decide +kernel
theorem dX2_putWaves_41 : decode cX2_putWaves 41 = .ok (.istore 8, 2) := by decide +kernel
theorem dX2_putWaves_43 : decode cX2_putWaves 43 = .ok (.aload_n 1, 1) := by decide +kernel
theorem dX2_putWaves_44 : decode cX2_putWaves 44 = .ok (.iload_n 2, 1) := by decide +kernel
theorem dX2_putWaves_45 : decode cX2_putWaves 45 = .ok (.invokevirtual 48, 3) := by decide +kernel
theorem dX2_putWaves_48 : decode cX2_putWaves 48 = .ok (.aload_n 3, 1) := by decide +kernel
theorem dX2_putWaves_49 : decode cX2_putWaves 49 = .ok (.iload 4, 2) := by decide +kernel
theorem dX2_putWaves_51 : decode cX2_putWaves 51 = .ok (.invokevirtual 48, 3) := by decide +kernel
theorem dX2_putWaves_54 : decode cX2_putWaves 54 = .ok (.lmul, 1) := by decide +kernel
theorem dX2_putWaves_55 : decode cX2_putWaves 55 = .ok (.lstore 9, 2) := by decide +kernel
theorem dX2_putWaves_57 : decode cX2_putWaves 57 = .ok (.ldc2_w 59, 3) := by decide +kernel
theorem dX2_putWaves_60 : decode cX2_putWaves 60 = .ok (.aload_n 1, 1) := by decide +kernel
theorem dX2_putWaves_61 : decode cX2_putWaves 61 = .ok (.iload_n 2, 1) := by decide +kernel
theorem dX2_putWaves_62 : decode cX2_putWaves 62 = .ok (.invokevirtual 52, 3) := by decide +kernel
theorem dX2_putWaves_65 : decode cX2_putWaves 65 = .ok (.lmul, 1) := by decide +kernel
theorem dX2_putWaves_66 : decode cX2_putWaves 66 = .ok (.aload_n 3, 1) := by decide +kernel
theorem dX2_putWaves_67 : decode cX2_putWaves 67 = .ok (.iload 4, 2) := by decide +kernel
theorem dX2_putWaves_69 : decode cX2_putWaves 69 = .ok (.invokevirtual 52, 3) := by decide +kernel
theorem dX2_putWaves_72 : decode cX2_putWaves 72 = .ok (.lmul, 1) := by decide +kernel
theorem dX2_putWaves_73 : decode cX2_putWaves 73 = .ok (.lstore 11, 2) := by decide +kernel
theorem dX2_putWaves_75 : decode cX2_putWaves 75 = .ok (.iload 5, 2) := by decide +kernel
theorem dX2_putWaves_77 : decode cX2_putWaves 77 = .ok (.iconst 3, 1) := by decide +kernel
theorem dX2_putWaves_78 : decode cX2_putWaves 78 = .ok (.if_icmp .ne 13, 3) := by decide +kernel
theorem dX2_putWaves_81 : decode cX2_putWaves 81 = .ok (.iload 6, 2) := by decide +kernel
theorem dX2_putWaves_83 : decode cX2_putWaves 83 = .ok (.iconst 3, 1) := by decide +kernel
theorem dX2_putWaves_84 : decode cX2_putWaves 84 = .ok (.if_icmp .ne 7, 3) := by decide +kernel
theorem dX2_putWaves_87 : decode cX2_putWaves 87 = .ok (.iconst 1, 1) := by decide +kernel
theorem dX2_putWaves_88 : decode cX2_putWaves 88 = .ok (.goto 4, 3) := by decide +kernel
theorem dX2_putWaves_91 : decode cX2_putWaves 91 = .ok (.iconst 0, 1) := by decide +kernel
theorem dX2_putWaves_92 : decode cX2_putWaves 92 = .ok (.istore 13, 2) := by decide +kernel
theorem dX2_putWaves_94 : decode cX2_putWaves 94 = .ok (.iload 5, 2) := by decide +kernel
theorem dX2_putWaves_96 : decode cX2_putWaves 96 = .ok (.iconst 4, 1) := by decide +kernel
theorem dX2_putWaves_97 : decode cX2_putWaves 97 = .ok (.if_icmp .ne 13, 3) := by decide +kernel
theorem dX2_putWaves_100 : decode cX2_putWaves 100 = .ok (.iload 6, 2) := by decide +kernel
theorem dX2_putWaves_102 : decode cX2_putWaves 102 = .ok (.iconst 3, 1) := by decide +kernel
theorem dX2_putWaves_103 : decode cX2_putWaves 103 = .ok (.if_icmp .ne 7, 3) := by decide +kernel
theorem dX2_putWaves_106 : decode cX2_putWaves 106 = .ok (.iconst 1, 1) := by decide +kernel
theorem dX2_putWaves_107 : decode cX2_putWaves 107 = .ok (.goto 4, 3) := by decide +kernel
theorem dX2_putWaves_110 : decode cX2_putWaves 110 = .ok (.iconst 0, 1) := by decide +kernel
theorem dX2_putWaves_111 : decode cX2_putWaves 111 = .ok (.istore 14, 2) := by decide +kernel
theorem dX2_putWaves_113 : decode cX2_putWaves 113 = .ok (.aload_n 0, 1) := by decide +kernel
theorem dX2_putWaves_114 : decode cX2_putWaves 114 = .ok (.iload 7, 2) := by decide +kernel
theorem dX2_putWaves_116 : decode cX2_putWaves 116 = .ok (.aload_n 1, 1) := by decide +kernel
theorem dX2_putWaves_117 : decode cX2_putWaves 117 = .ok (.iload_n 2, 1) := by decide +kernel
theorem dX2_putWaves_118 : decode cX2_putWaves 118 = .ok (.invokevirtual 42, 3) := by decide +kernel
theorem dX2_putWaves_121 : decode cX2_putWaves 121 = .ok (.aload_n 3, 1) := by decide +kernel
theorem dX2_putWaves_122 : decode cX2_putWaves 122 = .ok (.iload 4, 2) := by decide +kernel
theorem dX2_putWaves_124 : decode cX2_putWaves 124 = .ok (.invokevirtual 42, 3) := by decide +kernel
theorem dX2_putWaves_127 : decode cX2_putWaves 127 = .ok (.iadd, 1) := by decide +kernel
theorem dX2_putWaves_128 : decode cX2_putWaves 128 = .ok (.iload 8, 2) := by decide +kernel
theorem dX2_putWaves_130 : decode cX2_putWaves 130 = .ok (.iload 13, 2) := by decide +kernel
theorem dX2_putWaves_132 : decode cX2_putWaves 132 = .ok (.ifCond .eq 9, 3) := by decide +kernel
theorem dX2_putWaves_135 : decode cX2_putWaves 135 = .ok (.lload 9, 2) := by decide +kernel
theorem dX2_putWaves_137 : decode cX2_putWaves 137 = .ok (.lneg, 1) := by decide +kernel
theorem dX2_putWaves_138 : decode cX2_putWaves 138 = .ok (.goto 5, 3) := by decide +kernel
theorem dX2_putWaves_141 : decode cX2_putWaves 141 = .ok (.lload 9, 2) := by decide +kernel
theorem dX2_putWaves_143 : decode cX2_putWaves 143 = .ok (.lload 11, 2) := by decide +kernel
theorem dX2_putWaves_145 : decode cX2_putWaves 145 = .ok (.invokevirtual 55, 3) := by decide +kernel
theorem dX2_putWaves_148 : decode cX2_putWaves 148 = .ok (.aload_n 0, 1) := by decide +kernel
theorem dX2_putWaves_149 : decode cX2_putWaves 149 = .ok (.iload 7, 2) := by decide +kernel
theorem dX2_putWaves_151 : decode cX2_putWaves 151 = .ok (.aload_n 1, 1) := by decide +kernel
theorem dX2_putWaves_152 : decode cX2_putWaves 152 = .ok (.iload_n 2, 1) := by decide +kernel
theorem dX2_putWaves_153 : decode cX2_putWaves 153 = .ok (.invokevirtual 42, 3) := by decide +kernel
theorem dX2_putWaves_156 : decode cX2_putWaves 156 = .ok (.aload_n 3, 1) := by decide +kernel
theorem dX2_putWaves_157 : decode cX2_putWaves 157 = .ok (.iload 4, 2) := by decide +kernel
theorem dX2_putWaves_159 : decode cX2_putWaves 159 = .ok (.invokevirtual 42, 3) := by decide +kernel
theorem dX2_putWaves_162 : decode cX2_putWaves 162 = .ok (.isub, 1) := by decide +kernel
theorem dX2_putWaves_163 : decode cX2_putWaves 163 = .ok (.iload 8, 2) := by decide +kernel
theorem dX2_putWaves_165 : decode cX2_putWaves 165 = .ok (.iload 14, 2) := by decide +kernel
theorem dX2_putWaves_167 : decode cX2_putWaves 167 = .ok (.ifCond .eq 9, 3) := by decide +kernel
theorem dX2_putWaves_170 : decode cX2_putWaves 170 = .ok (.lload 9, 2) := by decide +kernel
theorem dX2_putWaves_172 : decode cX2_putWaves 172 = .ok (.lneg, 1) := by decide +kernel
theorem dX2_putWaves_173 : decode cX2_putWaves 173 = .ok (.goto 5, 3) := by decide +kernel
theorem dX2_putWaves_176 : decode cX2_putWaves 176 = .ok (.lload 9, 2) := by decide +kernel
theorem dX2_putWaves_178 : decode cX2_putWaves 178 = .ok (.lload 11, 2) := by decide +kernel
theorem dX2_putWaves_180 : decode cX2_putWaves 180 = .ok (.invokevirtual 55, 3) := by decide +kernel
theorem dX2_putWaves_183 : decode cX2_putWaves 183 = .ok (.return_, 1) := by decide +kernel
theorem dX3_init_0 : decode cX3_init 0 = .ok (.aload_n 0, 1) := by decide +kernel
theorem dX3_init_1 : decode cX3_init 1 = .ok (.invokespecial 3, 3) := by decide +kernel
theorem dX3_init_4 : decode cX3_init 4 = .ok (.aload_n 0, 1) := by decide +kernel
theorem dX3_init_5 : decode cX3_init 5 = .ok (.iconst 0, 1) := by decide +kernel
theorem dX3_init_6 : decode cX3_init 6 = .ok (.putfield 9, 3) := by decide +kernel
theorem dX3_init_9 : decode cX3_init 9 = .ok (.aload_n 0, 1) := by decide +kernel
theorem dX3_init_10 : decode cX3_init 10 = .ok (.iconst 0, 1) := by decide +kernel
theorem dX3_init_11 : decode cX3_init 11 = .ok (.putfield 15, 3) := by decide +kernel
theorem dX3_init_14 : decode cX3_init 14 = .ok (.aload_n 0, 1) := by decide +kernel
theorem dX3_init_15 : decode cX3_init 15 = .ok (.iconst (-1), 1) := by decide +kernel
theorem dX3_init_16 : decode cX3_init 16 = .ok (.putfield 18, 3) := by decide +kernel
theorem dX3_init_19 : decode cX3_init 19 = .ok (.aload_n 0, 1) := by decide +kernel
theorem dX3_init_20 : decode cX3_init 20 = .ok (.lconst 0, 1) := by decide +kernel
theorem dX3_init_21 : decode cX3_init 21 = .ok (.putfield 21, 3) := by decide +kernel
theorem dX3_init_24 : decode cX3_init 24 = .ok (.aload_n 0, 1) := by decide +kernel
theorem dX3_init_25 : decode cX3_init 25 = .ok (.lconst 1, 1) := by decide +kernel
theorem dX3_init_26 : decode cX3_init 26 = .ok (.putfield 25, 3) := by decide +kernel
theorem dX3_init_29 : decode cX3_init 29 = .ok (.aload_n 0, 1) := by decide +kernel
theorem dX3_init_30 : decode cX3_init 30 = .ok (.iconst 0, 1) := by decide +kernel
theorem dX3_init_31 : decode cX3_init 31 = .ok (.putfield 28, 3) := by decide +kernel
theorem dX3_init_34 : decode cX3_init 34 = .ok (.aload_n 0, 1) := by decide +kernel
theorem dX3_init_35 : decode cX3_init 35 = .ok (.iconst 0, 1) := by decide +kernel
theorem dX3_init_36 : decode cX3_init 36 = .ok (.putfield 31, 3) := by decide +kernel
theorem dX3_init_39 : decode cX3_init 39 = .ok (.aload_n 0, 1) := by decide +kernel
theorem dX3_init_40 : decode cX3_init 40 = .ok (.iconst 0, 1) := by decide +kernel
theorem dX3_init_41 : decode cX3_init 41 = .ok (.putfield 34, 3) := by decide +kernel
theorem dX3_init_44 : decode cX3_init 44 = .ok (.aload_n 0, 1) := by decide +kernel
theorem dX3_init_45 : decode cX3_init 45 = .ok (.aload_n 1, 1) := by decide +kernel
theorem dX3_init_46 : decode cX3_init 46 = .ok (.putfield 37, 3) := by decide +kernel
theorem dX3_init_49 : decode cX3_init 49 = .ok (.aload_n 0, 1) := by decide +kernel
theorem dX3_init_50 : decode cX3_init 50 = .ok (.aload_n 2, 1) := by decide +kernel
theorem dX3_init_51 : decode cX3_init 51 = .ok (.putfield 41, 3) := by decide +kernel
theorem dX3_init_54 : decode cX3_init 54 = .ok (.return_, 1) := by decide +kernel
theorem dX3_faultPlace_0 : decode cX3_faultPlace 0 = .ok (.aload_n 0, 1) := by decide +kernel
theorem dX3_faultPlace_1 : decode cX3_faultPlace 1 = .ok (.getfield 18, 3) := by decide +kernel
theorem dX3_faultPlace_4 : decode cX3_faultPlace 4 = .ok (.ireturn, 1) := by decide +kernel
theorem dX3_readLine_0 : decode cX3_readLine 0 = .ok (.aload_n 0, 1) := by decide +kernel
theorem dX3_readLine_1 : decode cX3_readLine 1 = .ok (.iconst 0, 1) := by decide +kernel
theorem dX3_readLine_2 : decode cX3_readLine 2 = .ok (.putfield 9, 3) := by decide +kernel
theorem dX3_readLine_5 : decode cX3_readLine 5 = .ok (.aload_n 0, 1) := by decide +kernel
theorem dX3_readLine_6 : decode cX3_readLine 6 = .ok (.iconst 0, 1) := by decide +kernel
theorem dX3_readLine_7 : decode cX3_readLine 7 = .ok (.putfield 15, 3) := by decide +kernel
theorem dX3_readLine_10 : decode cX3_readLine 10 = .ok (.aload_n 0, 1) := by decide +kernel
theorem dX3_readLine_11 : decode cX3_readLine 11 = .ok (.iconst (-1), 1) := by decide +kernel
theorem dX3_readLine_12 : decode cX3_readLine 12 = .ok (.putfield 18, 3) := by decide +kernel
theorem dX3_readLine_15 : decode cX3_readLine 15 = .ok (.aload_n 0, 1) := by decide +kernel
theorem dX3_readLine_16 : decode cX3_readLine 16 = .ok (.getfield 41, 3) := by decide +kernel
theorem dX3_readLine_19 : decode cX3_readLine 19 = .ok (.invokevirtual 45, 3) := by decide +kernel
theorem dX3_readLine_22 : decode cX3_readLine 22 = .ok (.iconst 0, 1) := by decide +kernel
theorem dX3_readLine_23 : decode cX3_readLine 23 = .ok (.istore_n 1, 1) := by decide +kernel
theorem dX3_readLine_24 : decode cX3_readLine 24 = .ok (.aload_n 0, 1) := by decide +kernel
theorem dX3_readLine_25 : decode cX3_readLine 25 = .ok (.bipush 45, 2) := by decide +kernel
theorem dX3_readLine_27 : decode cX3_readLine 27 = .ok (.invokevirtual 50, 3) := by decide +kernel
theorem dX3_readLine_30 : decode cX3_readLine 30 = .ok (.istore_n 2, 1) := by decide +kernel
theorem dX3_readLine_31 : decode cX3_readLine 31 = .ok (.iconst 0, 1) := by decide +kernel
theorem dX3_readLine_32 : decode cX3_readLine 32 = .ok (.istore_n 3, 1) := by decide +kernel
theorem dX3_readLine_33 : decode cX3_readLine 33 = .ok (.iload_n 3, 1) := by decide +kernel
theorem dX3_readLine_34 : decode cX3_readLine 34 = .ok (.bipush 100, 2) := by decide +kernel
theorem dX3_readLine_36 : decode cX3_readLine 36 = .ok (.if_icmp .ge 85, 3) := by decide +kernel
theorem dX3_readLine_39 : decode cX3_readLine 39 = .ok (.aload_n 0, 1) := by decide +kernel
theorem dX3_readLine_40 : decode cX3_readLine 40 = .ok (.iload_n 2, 1) := by decide +kernel
theorem dX3_readLine_41 : decode cX3_readLine 41 = .ok (.invokevirtual 54, 3) := by decide +kernel
theorem dX3_readLine_44 : decode cX3_readLine 44 = .ok (.ifCond .ne 8, 3) := by decide +kernel
theorem dX3_readLine_47 : decode cX3_readLine 47 = .ok (.aload_n 0, 1) := by decide +kernel
theorem dX3_readLine_48 : decode cX3_readLine 48 = .ok (.getfield 15, 3) := by decide +kernel
theorem dX3_readLine_51 : decode cX3_readLine 51 = .ok (.ireturn, 1) := by decide +kernel
theorem dX3_readLine_52 : decode cX3_readLine 52 = .ok (.iload_n 1, 1) := by decide +kernel
theorem dX3_readLine_53 : decode cX3_readLine 53 = .ok (.ifCond .ne 10, 3) := by decide +kernel
theorem dX3_readLine_56 : decode cX3_readLine 56 = .ok (.aload_n 0, 1) := by decide +kernel
theorem dX3_readLine_57 : decode cX3_readLine 57 = .ok (.invokevirtual 58, 3) := by decide +kernel
theorem dX3_readLine_60 : decode cX3_readLine 60 = .ok (.ifCond .ne 7, 3) := by decide +kernel
theorem dX3_readLine_63 : decode cX3_readLine 63 = .ok (.iconst 1, 1) := by decide +kernel
theorem dX3_readLine_64 : decode cX3_readLine 64 = .ok (.goto 4, 3) := by decide +kernel
theorem dX3_readLine_67 : decode cX3_readLine 67 = .ok (.iconst 0, 1) := by decide +kernel
theorem dX3_readLine_68 : decode cX3_readLine 68 = .ok (.istore_n 1, 1) := by decide +kernel
theorem dX3_readLine_69 : decode cX3_readLine 69 = .ok (.aload_n 0, 1) := by decide +kernel
theorem dX3_readLine_70 : decode cX3_readLine 70 = .ok (.invokevirtual 62, 3) := by decide +kernel
theorem dX3_readLine_73 : decode cX3_readLine 73 = .ok (.ifCond .ne 6, 3) := by decide +kernel
theorem dX3_readLine_76 : decode cX3_readLine 76 = .ok (.goto 45, 3) := by decide +kernel
theorem dX3_readLine_79 : decode cX3_readLine 79 = .ok (.aload_n 0, 1) := by decide +kernel
theorem dX3_readLine_80 : decode cX3_readLine 80 = .ok (.bipush 45, 2) := by decide +kernel
theorem dX3_readLine_82 : decode cX3_readLine 82 = .ok (.invokevirtual 50, 3) := by decide +kernel
theorem dX3_readLine_85 : decode cX3_readLine 85 = .ok (.istore_n 2, 1) := by decide +kernel
theorem dX3_readLine_86 : decode cX3_readLine 86 = .ok (.iload_n 2, 1) := by decide +kernel
theorem dX3_readLine_87 : decode cX3_readLine 87 = .ok (.ifCond .ne 28, 3) := by decide +kernel
theorem dX3_readLine_90 : decode cX3_readLine 90 = .ok (.aload_n 0, 1) := by decide +kernel
theorem dX3_readLine_91 : decode cX3_readLine 91 = .ok (.bipush 43, 2) := by decide +kernel
theorem dX3_readLine_93 : decode cX3_readLine 93 = .ok (.invokevirtual 50, 3) := by decide +kernel
theorem dX3_readLine_96 : decode cX3_readLine 96 = .ok (.ifCond .ne 19, 3) := by decide +kernel
theorem dX3_readLine_99 : decode cX3_readLine 99 = .ok (.aload_n 0, 1) := by decide +kernel
theorem dX3_readLine_100 : decode cX3_readLine 100 = .ok (.bipush (-2), 2) := by decide +kernel
theorem dX3_readLine_102 : decode cX3_readLine 102 = .ok (.aload_n 0, 1) := by decide +kernel
theorem dX3_readLine_103 : decode cX3_readLine 103 = .ok (.getfield 9, 3) := by decide +kernel
theorem dX3_readLine_106 : decode cX3_readLine 106 = .ok (.invokevirtual 66, 3) := by decide +kernel
theorem dX3_readLine_109 : decode cX3_readLine 109 = .ok (.pop, 1) := by decide +kernel
theorem dX3_readLine_110 : decode cX3_readLine 110 = .ok (.aload_n 0, 1) := by decide +kernel
theorem dX3_readLine_111 : decode cX3_readLine 111 = .ok (.getfield 15, 3) := by decide +kernel
theorem dX3_readLine_114 : decode cX3_readLine 114 = .ok (.ireturn, 1) := by decide +kernel
theorem dX3_readLine_115 : decode cX3_readLine 115 = .ok (.iinc 3 1, 3) := by decide +kernel
theorem dX3_readLine_118 : decode cX3_readLine 118 = .ok (.goto (-85), 3) := by decide +kernel
theorem dX3_readLine_121 : decode cX3_readLine 121 = .ok (.iload_n 1, 1) := by decide +kernel
theorem dX3_readLine_122 : decode cX3_readLine 122 = .ok (.ifCond .eq 8, 3) := by decide +kernel
theorem dX3_readLine_125 : decode cX3_readLine 125 = .ok (.bipush (-4), 2) := by decide +kernel
theorem dX3_readLine_127 : decode cX3_readLine 127 = .ok (.goto 4, 3) := by decide +kernel
theorem dX3_readLine_130 : decode cX3_readLine 130 = .ok (.iconst 0, 1) := by decide +kernel
theorem dX3_readLine_131 : decode cX3_readLine 131 = .ok (.ireturn, 1) := by decide +kernel
theorem dX3_addTerm_0 : decode cX3_addTerm 0 = .ok (.aload_n 0, 1) := by decide +kernel
theorem dX3_addTerm_1 : decode cX3_addTerm 1 = .ok (.getfield 41, 3) := by decide +kernel
theorem dX3_addTerm_4 : decode cX3_addTerm 4 = .ok (.aload_n 0, 1) := by decide +kernel
theorem dX3_addTerm_5 : decode cX3_addTerm 5 = .ok (.getfield 31, 3) := by decide +kernel
theorem dX3_addTerm_8 : decode cX3_addTerm 8 = .ok (.aload_n 0, 1) := by decide +kernel
theorem dX3_addTerm_9 : decode cX3_addTerm 9 = .ok (.getfield 34, 3) := by decide +kernel
theorem dX3_addTerm_12 : decode cX3_addTerm 12 = .ok (.aload_n 0, 1) := by decide +kernel
theorem dX3_addTerm_13 : decode cX3_addTerm 13 = .ok (.getfield 28, 3) := by decide +kernel
theorem dX3_addTerm_16 : decode cX3_addTerm 16 = .ok (.aload_n 0, 1) := by decide +kernel
theorem dX3_addTerm_17 : decode cX3_addTerm 17 = .ok (.getfield 21, 3) := by decide +kernel
theorem dX3_addTerm_20 : decode cX3_addTerm 20 = .ok (.aload_n 0, 1) := by decide +kernel
theorem dX3_addTerm_21 : decode cX3_addTerm 21 = .ok (.getfield 25, 3) := by decide +kernel
theorem dX3_addTerm_24 : decode cX3_addTerm 24 = .ok (.invokevirtual 70, 3) := by decide +kernel
theorem dX3_addTerm_27 : decode cX3_addTerm 27 = .ok (.aload_n 0, 1) := by decide +kernel
theorem dX3_addTerm_28 : decode cX3_addTerm 28 = .ok (.getfield 41, 3) := by decide +kernel
theorem dX3_addTerm_31 : decode cX3_addTerm 31 = .ok (.invokevirtual 74, 3) := by decide +kernel
theorem dX3_addTerm_34 : decode cX3_addTerm 34 = .ok (.ireturn, 1) := by decide +kernel
theorem dX3_readTerm_0 : decode cX3_readTerm 0 = .ok (.aload_n 0, 1) := by decide +kernel
theorem dX3_readTerm_1 : decode cX3_readTerm 1 = .ok (.lconst 1, 1) := by decide +kernel
theorem dX3_readTerm_2 : decode cX3_readTerm 2 = .ok (.putfield 21, 3) := by decide +kernel
theorem dX3_readTerm_5 : decode cX3_readTerm 5 = .ok (.aload_n 0, 1) := by decide +kernel
theorem dX3_readTerm_6 : decode cX3_readTerm 6 = .ok (.lconst 1, 1) := by decide +kernel
theorem dX3_readTerm_7 : decode cX3_readTerm 7 = .ok (.putfield 25, 3) := by decide +kernel
theorem dX3_readTerm_10 : decode cX3_readTerm 10 = .ok (.aload_n 0, 1) := by decide +kernel
theorem dX3_readTerm_11 : decode cX3_readTerm 11 = .ok (.iconst 0, 1) := by decide +kernel
theorem dX3_readTerm_12 : decode cX3_readTerm 12 = .ok (.putfield 28, 3) := by decide +kernel
theorem dX3_readTerm_15 : decode cX3_readTerm 15 = .ok (.aload_n 0, 1) := by decide +kernel
theorem dX3_readTerm_16 : decode cX3_readTerm 16 = .ok (.iconst 0, 1) := by decide +kernel
theorem dX3_readTerm_17 : decode cX3_readTerm 17 = .ok (.putfield 31, 3) := by decide +kernel
theorem dX3_readTerm_20 : decode cX3_readTerm 20 = .ok (.aload_n 0, 1) := by decide +kernel
theorem dX3_readTerm_21 : decode cX3_readTerm 21 = .ok (.iconst 0, 1) := by decide +kernel
theorem dX3_readTerm_22 : decode cX3_readTerm 22 = .ok (.putfield 34, 3) := by decide +kernel
theorem dX3_readTerm_25 : decode cX3_readTerm 25 = .ok (.aload_n 0, 1) := by decide +kernel
theorem dX3_readTerm_26 : decode cX3_readTerm 26 = .ok (.invokevirtual 62, 3) := by decide +kernel
theorem dX3_readTerm_29 : decode cX3_readTerm 29 = .ok (.pop, 1) := by decide +kernel
theorem dX3_readTerm_30 : decode cX3_readTerm 30 = .ok (.aload_n 0, 1) := by decide +kernel
theorem dX3_readTerm_31 : decode cX3_readTerm 31 = .ok (.getfield 9, 3) := by decide +kernel
theorem dX3_readTerm_34 : decode cX3_readTerm 34 = .ok (.istore_n 2, 1) := by decide +kernel
theorem dX3_readTerm_35 : decode cX3_readTerm 35 = .ok (.aload_n 0, 1) := by decide +kernel
theorem dX3_readTerm_36 : decode cX3_readTerm 36 = .ok (.invokevirtual 77, 3) := by decide +kernel
theorem dX3_readTerm_39 : decode cX3_readTerm 39 = .ok (.ifCond .eq 17, 3) := by decide +kernel
theorem dX3_readTerm_42 : decode cX3_readTerm 42 = .ok (.aload_n 0, 1) := by decide +kernel
theorem dX3_readTerm_43 : decode cX3_readTerm 43 = .ok (.invokevirtual 80, 3) := by decide +kernel
theorem dX3_readTerm_46 : decode cX3_readTerm 46 = .ok (.ifCond .eq 10, 3) := by decide +kernel
theorem dX3_readTerm_49 : decode cX3_readTerm 49 = .ok (.aload_n 0, 1) := by decide +kernel
theorem dX3_readTerm_50 : decode cX3_readTerm 50 = .ok (.invokevirtual 83, 3) := by decide +kernel
theorem dX3_readTerm_53 : decode cX3_readTerm 53 = .ok (.ifCond .ne 5, 3) := by decide +kernel
theorem dX3_readTerm_56 : decode cX3_readTerm 56 = .ok (.iconst 0, 1) := by decide +kernel
theorem dX3_readTerm_57 : decode cX3_readTerm 57 = .ok (.ireturn, 1) := by decide +kernel
theorem dX3_readTerm_58 : decode cX3_readTerm 58 = .ok (.aload_n 0, 1) := by decide +kernel
theorem dX3_readTerm_59 : decode cX3_readTerm 59 = .ok (.iload_n 1, 1) := by decide +kernel
theorem dX3_readTerm_60 : decode cX3_readTerm 60 = .ok (.ifCond .eq 11, 3) := by decide +kernel
theorem dX3_readTerm_63 : decode cX3_readTerm 63 = .ok (.aload_n 0, 1) := by decide +kernel
theorem dX3_readTerm_64 : decode cX3_readTerm 64 = .ok (.getfield 21, 3) := by decide +kernel
theorem dX3_readTerm_67 : decode cX3_readTerm 67 = .ok (.lneg, 1) := by decide +kernel
theorem dX3_readTerm_68 : decode cX3_readTerm 68 = .ok (.goto 7, 3) := by decide +kernel
theorem dX3_readTerm_71 : decode cX3_readTerm 71 = .ok (.aload_n 0, 1) := by decide +kernel
theorem dX3_readTerm_72 : decode cX3_readTerm 72 = .ok (.getfield 21, 3) := by decide +kernel
theorem dX3_readTerm_75 : decode cX3_readTerm 75 = .ok (.putfield 21, 3) := by decide +kernel
theorem dX3_readTerm_78 : decode cX3_readTerm 78 = .ok (.aload_n 0, 1) := by decide +kernel
theorem dX3_readTerm_79 : decode cX3_readTerm 79 = .ok (.getfield 9, 3) := by decide +kernel
theorem dX3_readTerm_82 : decode cX3_readTerm 82 = .ok (.iload_n 2, 1) := by decide +kernel
theorem dX3_readTerm_83 : decode cX3_readTerm 83 = .ok (.if_icmp .gt 16, 3) := by decide +kernel
theorem dX3_readTerm_86 : decode cX3_readTerm 86 = .ok (.aload_n 0, 1) := by decide +kernel
theorem dX3_readTerm_87 : decode cX3_readTerm 87 = .ok (.bipush (-2), 2) := by decide +kernel
theorem dX3_readTerm_89 : decode cX3_readTerm 89 = .ok (.aload_n 0, 1) := by decide +kernel
theorem dX3_readTerm_90 : decode cX3_readTerm 90 = .ok (.getfield 9, 3) := by decide +kernel
theorem dX3_readTerm_93 : decode cX3_readTerm 93 = .ok (.invokevirtual 66, 3) := by decide +kernel
theorem dX3_readTerm_96 : decode cX3_readTerm 96 = .ok (.ifCond .eq 7, 3) := by decide +kernel
theorem dX3_readTerm_99 : decode cX3_readTerm 99 = .ok (.iconst 1, 1) := by decide +kernel
theorem dX3_readTerm_100 : decode cX3_readTerm 100 = .ok (.goto 4, 3) := by decide +kernel
theorem dX3_readTerm_103 : decode cX3_readTerm 103 = .ok (.iconst 0, 1) := by decide +kernel
theorem dX3_readTerm_104 : decode cX3_readTerm 104 = .ok (.ireturn, 1) := by decide +kernel
theorem dX3_readCoefficient_0 : decode cX3_readCoefficient 0 = .ok (.aload_n 0, 1) := by decide +kernel
theorem dX3_readCoefficient_1 : decode cX3_readCoefficient 1 = .ok (.invokevirtual 62, 3) := by decide +kernel
theorem dX3_readCoefficient_4 : decode cX3_readCoefficient 4 = .ok (.invokestatic 86, 3) := by decide +kernel
theorem dX3_readCoefficient_7 : decode cX3_readCoefficient 7 = .ok (.ifCond .ne 5, 3) := by decide +kernel
theorem dX3_readCoefficient_10 : decode cX3_readCoefficient 10 = .ok (.iconst 1, 1) := by decide +kernel
theorem dX3_readCoefficient_11 : decode cX3_readCoefficient 11 = .ok (.ireturn, 1) := by decide +kernel
theorem dX3_readCoefficient_12 : decode cX3_readCoefficient 12 = .ok (.aload_n 0, 1) := by decide +kernel
theorem dX3_readCoefficient_13 : decode cX3_readCoefficient 13 = .ok (.aload_n 0, 1) := by decide +kernel
theorem dX3_readCoefficient_14 : decode cX3_readCoefficient 14 = .ok (.iconst 0, 1) := by decide +kernel
theorem dX3_readCoefficient_15 : decode cX3_readCoefficient 15 = .ok (.sipush 999, 3) := by decide +kernel
theorem dX3_readCoefficient_18 : decode cX3_readCoefficient 18 = .ok (.invokevirtual 89, 3) := by decide +kernel
theorem dX3_readCoefficient_21 : decode cX3_readCoefficient 21 = .ok (.i2l, 1) := by decide +kernel
theorem dX3_readCoefficient_22 : decode cX3_readCoefficient 22 = .ok (.putfield 21, 3) := by decide +kernel
theorem dX3_readCoefficient_25 : decode cX3_readCoefficient 25 = .ok (.aload_n 0, 1) := by decide +kernel
theorem dX3_readCoefficient_26 : decode cX3_readCoefficient 26 = .ok (.bipush 47, 2) := by decide +kernel
theorem dX3_readCoefficient_28 : decode cX3_readCoefficient 28 = .ok (.invokevirtual 50, 3) := by decide +kernel
theorem dX3_readCoefficient_31 : decode cX3_readCoefficient 31 = .ok (.ifCond .eq 25, 3) := by decide +kernel
theorem dX3_readCoefficient_34 : decode cX3_readCoefficient 34 = .ok (.aload_n 0, 1) := by decide +kernel
theorem dX3_readCoefficient_35 : decode cX3_readCoefficient 35 = .ok (.iconst 1, 1) := by decide +kernel
theorem dX3_readCoefficient_36 : decode cX3_readCoefficient 36 = .ok (.sipush 999, 3) := by decide +kernel
theorem dX3_readCoefficient_39 : decode cX3_readCoefficient 39 = .ok (.invokevirtual 89, 3) := by decide +kernel
theorem dX3_readCoefficient_42 : decode cX3_readCoefficient 42 = .ok (.istore_n 1, 1) := by decide +kernel
theorem dX3_readCoefficient_43 : decode cX3_readCoefficient 43 = .ok (.iload_n 1, 1) := by decide +kernel
theorem dX3_readCoefficient_44 : decode cX3_readCoefficient 44 = .ok (.iconst (-1), 1) := by decide +kernel
theorem dX3_readCoefficient_45 : decode cX3_readCoefficient 45 = .ok (.if_icmp .ne 5, 3) := by decide +kernel
theorem dX3_readCoefficient_48 : decode cX3_readCoefficient 48 = .ok (.iconst 0, 1) := by decide +kernel
theorem dX3_readCoefficient_49 : decode cX3_readCoefficient 49 = .ok (.ireturn, 1) := by decide +kernel
theorem dX3_readCoefficient_50 : decode cX3_readCoefficient 50 = .ok (.aload_n 0, 1) := by decide +kernel
theorem dX3_readCoefficient_51 : decode cX3_readCoefficient 51 = .ok (.iload_n 1, 1) := by decide +kernel
theorem dX3_readCoefficient_52 : decode cX3_readCoefficient 52 = .ok (.i2l, 1) := by decide +kernel
theorem dX3_readCoefficient_53 : decode cX3_readCoefficient 53 = .ok (.putfield 25, 3) := by decide +kernel
theorem dX3_readCoefficient_56 : decode cX3_readCoefficient 56 = .ok (.iconst 1, 1) := by decide +kernel
theorem dX3_readCoefficient_57 : decode cX3_readCoefficient 57 = .ok (.ireturn, 1) := by decide +kernel
theorem dX3_readPower_0 : decode cX3_readPower 0 = .ok (.aload_n 0, 1) := by decide +kernel
theorem dX3_readPower_1 : decode cX3_readPower 1 = .ok (.bipush 120, 2) := by decide +kernel
theorem dX3_readPower_3 : decode cX3_readPower 3 = .ok (.invokevirtual 50, 3) := by decide +kernel
theorem dX3_readPower_6 : decode cX3_readPower 6 = .ok (.ifCond .ne 5, 3) := by decide +kernel
theorem dX3_readPower_9 : decode cX3_readPower 9 = .ok (.iconst 1, 1) := by decide +kernel
theorem dX3_readPower_10 : decode cX3_readPower 10 = .ok (.ireturn, 1) := by decide +kernel
theorem dX3_readPower_11 : decode cX3_readPower 11 = .ok (.aload_n 0, 1) := by decide +kernel
theorem dX3_readPower_12 : decode cX3_readPower 12 = .ok (.iconst 1, 1) := by decide +kernel
theorem dX3_readPower_13 : decode cX3_readPower 13 = .ok (.putfield 28, 3) := by decide +kernel
theorem dX3_readPower_16 : decode cX3_readPower 16 = .ok (.aload_n 0, 1) := by decide +kernel
theorem dX3_readPower_17 : decode cX3_readPower 17 = .ok (.bipush 94, 2) := by decide +kernel
theorem dX3_readPower_19 : decode cX3_readPower 19 = .ok (.invokevirtual 50, 3) := by decide +kernel
theorem dX3_readPower_22 : decode cX3_readPower 22 = .ok (.ifCond .eq 39, 3) := by decide +kernel
theorem dX3_readPower_25 : decode cX3_readPower 25 = .ok (.aload_n 0, 1) := by decide +kernel
theorem dX3_readPower_26 : decode cX3_readPower 26 = .ok (.bipush 45, 2) := by decide +kernel
theorem dX3_readPower_28 : decode cX3_readPower 28 = .ok (.invokevirtual 50, 3) := by decide +kernel
theorem dX3_readPower_31 : decode cX3_readPower 31 = .ok (.istore_n 1, 1) := by decide +kernel
theorem dX3_readPower_32 : decode cX3_readPower 32 = .ok (.aload_n 0, 1) := by decide +kernel
theorem dX3_readPower_33 : decode cX3_readPower 33 = .ok (.iconst 0, 1) := by decide +kernel
theorem dX3_readPower_34 : decode cX3_readPower 34 = .ok (.bipush 12, 2) := by decide +kernel
theorem dX3_readPower_36 : decode cX3_readPower 36 = .ok (.invokevirtual 89, 3) := by decide +kernel
theorem dX3_readPower_39 : decode cX3_readPower 39 = .ok (.istore_n 2, 1) := by decide +kernel
theorem dX3_readPower_40 : decode cX3_readPower 40 = .ok (.iload_n 2, 1) := by decide +kernel
theorem dX3_readPower_41 : decode cX3_readPower 41 = .ok (.iconst (-1), 1) := by decide +kernel
theorem dX3_readPower_42 : decode cX3_readPower 42 = .ok (.if_icmp .ne 5, 3) := by decide +kernel
theorem dX3_readPower_45 : decode cX3_readPower 45 = .ok (.iconst 0, 1) := by decide +kernel
theorem dX3_readPower_46 : decode cX3_readPower 46 = .ok (.ireturn, 1) := by decide +kernel
theorem dX3_readPower_47 : decode cX3_readPower 47 = .ok (.aload_n 0, 1) := by decide +kernel
theorem dX3_readPower_48 : decode cX3_readPower 48 = .ok (.iload_n 1, 1) := by decide +kernel
theorem dX3_readPower_49 : decode cX3_readPower 49 = .ok (.ifCond .eq 8, 3) := by decide +kernel
theorem dX3_readPower_52 : decode cX3_readPower 52 = .ok (.iload_n 2, 1) := by decide +kernel
theorem dX3_readPower_53 : decode cX3_readPower 53 = .ok (.ineg, 1) := by decide +kernel
theorem dX3_readPower_54 : decode cX3_readPower 54 = .ok (.goto 4, 3) := by decide +kernel
theorem dX3_readPower_57 : decode cX3_readPower 57 = .ok (.iload_n 2, 1) := by decide +kernel
theorem dX3_readPower_58 : decode cX3_readPower 58 = .ok (.putfield 28, 3) := by decide +kernel
theorem dX3_readPower_61 : decode cX3_readPower 61 = .ok (.iconst 1, 1) := by decide +kernel
theorem dX3_readPower_62 : decode cX3_readPower 62 = .ok (.ireturn, 1) := by decide +kernel
theorem dX3_readFunction_0 : decode cX3_readFunction 0 = .ok (.aload_n 0, 1) := by decide +kernel
theorem dX3_readFunction_1 : decode cX3_readFunction 1 = .ok (.bipush 108, 2) := by decide +kernel
theorem dX3_readFunction_3 : decode cX3_readFunction 3 = .ok (.invokevirtual 50, 3) := by decide +kernel
theorem dX3_readFunction_6 : decode cX3_readFunction 6 = .ok (.ifCond .eq 13, 3) := by decide +kernel
theorem dX3_readFunction_9 : decode cX3_readFunction 9 = .ok (.aload_n 0, 1) := by decide +kernel
theorem dX3_readFunction_10 : decode cX3_readFunction 10 = .ok (.iconst 1, 1) := by decide +kernel
theorem dX3_readFunction_11 : decode cX3_readFunction 11 = .ok (.putfield 31, 3) := by decide +kernel
theorem dX3_readFunction_14 : decode cX3_readFunction 14 = .ok (.aload_n 0, 1) := by decide +kernel
theorem dX3_readFunction_15 : decode cX3_readFunction 15 = .ok (.invokevirtual 93, 3) := by decide +kernel
theorem dX3_readFunction_18 : decode cX3_readFunction 18 = .ok (.ireturn, 1) := by decide +kernel
theorem dX3_readFunction_19 : decode cX3_readFunction 19 = .ok (.aload_n 0, 1) := by decide +kernel
theorem dX3_readFunction_20 : decode cX3_readFunction 20 = .ok (.bipush 101, 2) := by decide +kernel
theorem dX3_readFunction_22 : decode cX3_readFunction 22 = .ok (.invokevirtual 50, 3) := by decide +kernel
theorem dX3_readFunction_25 : decode cX3_readFunction 25 = .ok (.ifCond .eq 11, 3) := by decide +kernel
theorem dX3_readFunction_28 : decode cX3_readFunction 28 = .ok (.aload_n 0, 1) := by decide +kernel
theorem dX3_readFunction_29 : decode cX3_readFunction 29 = .ok (.iconst 2, 1) := by decide +kernel
theorem dX3_readFunction_30 : decode cX3_readFunction 30 = .ok (.putfield 31, 3) := by decide +kernel
theorem dX3_readFunction_33 : decode cX3_readFunction 33 = .ok (.goto 39, 3) := by decide +kernel
theorem dX3_readFunction_36 : decode cX3_readFunction 36 = .ok (.aload_n 0, 1) := by decide +kernel
theorem dX3_readFunction_37 : decode cX3_readFunction 37 = .ok (.bipush 115, 2) := by decide +kernel
theorem dX3_readFunction_39 : decode cX3_readFunction 39 = .ok (.invokevirtual 50, 3) := by decide +kernel
theorem dX3_readFunction_42 : decode cX3_readFunction 42 = .ok (.ifCond .eq 11, 3) := by decide +kernel
theorem dX3_readFunction_45 : decode cX3_readFunction 45 = .ok (.aload_n 0, 1) := by decide +kernel
theorem dX3_readFunction_46 : decode cX3_readFunction 46 = .ok (.iconst 3, 1) := by decide +kernel
theorem dX3_readFunction_47 : decode cX3_readFunction 47 = .ok (.putfield 31, 3) := by decide +kernel
theorem dX3_readFunction_50 : decode cX3_readFunction 50 = .ok (.goto 22, 3) := by decide +kernel
theorem dX3_readFunction_53 : decode cX3_readFunction 53 = .ok (.aload_n 0, 1) := by decide +kernel
theorem dX3_readFunction_54 : decode cX3_readFunction 54 = .ok (.bipush 99, 2) := by decide +kernel
theorem dX3_readFunction_56 : decode cX3_readFunction 56 = .ok (.invokevirtual 50, 3) := by decide +kernel
theorem dX3_readFunction_59 : decode cX3_readFunction 59 = .ok (.ifCond .eq 11, 3) := by decide +kernel
theorem dX3_readFunction_62 : decode cX3_readFunction 62 = .ok (.aload_n 0, 1) := by decide +kernel
theorem dX3_readFunction_63 : decode cX3_readFunction 63 = .ok (.iconst 4, 1) := by decide +kernel
theorem dX3_readFunction_64 : decode cX3_readFunction 64 = .ok (.putfield 31, 3) := by decide +kernel
theorem dX3_readFunction_67 : decode cX3_readFunction 67 = .ok (.goto 5, 3) := by decide +kernel
theorem dX3_readFunction_70 : decode cX3_readFunction 70 = .ok (.iconst 1, 1) := by decide +kernel
theorem dX3_readFunction_71 : decode cX3_readFunction 71 = .ok (.ireturn, 1) := by decide +kernel
theorem dX3_readFunction_72 : decode cX3_readFunction 72 = .ok (.aload_n 0, 1) := by decide +kernel
theorem dX3_readFunction_73 : decode cX3_readFunction 73 = .ok (.bipush 40, 2) := by decide +kernel
theorem dX3_readFunction_75 : decode cX3_readFunction 75 = .ok (.invokevirtual 96, 3) := by decide +kernel
theorem dX3_readFunction_78 : decode cX3_readFunction 78 = .ok (.ifCond .eq 32, 3) := by decide +kernel
theorem dX3_readFunction_81 : decode cX3_readFunction 81 = .ok (.aload_n 0, 1) := by decide +kernel
theorem dX3_readFunction_82 : decode cX3_readFunction 82 = .ok (.invokevirtual 99, 3) := by decide +kernel
theorem dX3_readFunction_85 : decode cX3_readFunction 85 = .ok (.ifCond .eq 25, 3) := by decide +kernel
theorem dX3_readFunction_88 : decode cX3_readFunction 88 = .ok (.aload_n 0, 1) := by decide +kernel
theorem dX3_readFunction_89 : decode cX3_readFunction 89 = .ok (.bipush 120, 2) := by decide +kernel
theorem dX3_readFunction_91 : decode cX3_readFunction 91 = .ok (.invokevirtual 96, 3) := by decide +kernel
theorem dX3_readFunction_94 : decode cX3_readFunction 94 = .ok (.ifCond .eq 16, 3) := by decide +kernel
theorem dX3_readFunction_97 : decode cX3_readFunction 97 = .ok (.aload_n 0, 1) := by decide +kernel
theorem dX3_readFunction_98 : decode cX3_readFunction 98 = .ok (.bipush 41, 2) := by decide +kernel
theorem dX3_readFunction_100 : decode cX3_readFunction 100 = .ok (.invokevirtual 96, 3) := by decide +kernel
theorem dX3_readFunction_103 : decode cX3_readFunction 103 = .ok (.ifCond .eq 7, 3) := by decide +kernel
theorem dX3_readFunction_106 : decode cX3_readFunction 106 = .ok (.iconst 1, 1) := by decide +kernel
theorem dX3_readFunction_107 : decode cX3_readFunction 107 = .ok (.goto 4, 3) := by decide +kernel
theorem dX3_readFunction_110 : decode cX3_readFunction 110 = .ok (.iconst 0, 1) := by decide +kernel
theorem dX3_readFunction_111 : decode cX3_readFunction 111 = .ok (.ireturn, 1) := by decide +kernel
theorem dX3_readLogPower_0 : decode cX3_readLogPower 0 = .ok (.aload_n 0, 1) := by decide +kernel
theorem dX3_readLogPower_1 : decode cX3_readLogPower 1 = .ok (.iconst 1, 1) := by decide +kernel
theorem dX3_readLogPower_2 : decode cX3_readLogPower 2 = .ok (.putfield 34, 3) := by decide +kernel
theorem dX3_readLogPower_5 : decode cX3_readLogPower 5 = .ok (.aload_n 0, 1) := by decide +kernel
theorem dX3_readLogPower_6 : decode cX3_readLogPower 6 = .ok (.bipush 94, 2) := by decide +kernel
theorem dX3_readLogPower_8 : decode cX3_readLogPower 8 = .ok (.invokevirtual 50, 3) := by decide +kernel
theorem dX3_readLogPower_11 : decode cX3_readLogPower 11 = .ok (.ifCond .eq 14, 3) := by decide +kernel
theorem dX3_readLogPower_14 : decode cX3_readLogPower 14 = .ok (.aload_n 0, 1) := by decide +kernel
theorem dX3_readLogPower_15 : decode cX3_readLogPower 15 = .ok (.aload_n 0, 1) := by decide +kernel
theorem dX3_readLogPower_16 : decode cX3_readLogPower 16 = .ok (.iconst 0, 1) := by decide +kernel
theorem dX3_readLogPower_17 : decode cX3_readLogPower 17 = .ok (.bipush 9, 2) := by decide +kernel
theorem dX3_readLogPower_19 : decode cX3_readLogPower 19 = .ok (.invokevirtual 89, 3) := by decide +kernel
theorem dX3_readLogPower_22 : decode cX3_readLogPower 22 = .ok (.putfield 34, 3) := by decide +kernel
theorem dX3_readLogPower_25 : decode cX3_readLogPower 25 = .ok (.aload_n 0, 1) := by decide +kernel
theorem dX3_readLogPower_26 : decode cX3_readLogPower 26 = .ok (.getfield 34, 3) := by decide +kernel
theorem dX3_readLogPower_29 : decode cX3_readLogPower 29 = .ok (.iconst (-1), 1) := by decide +kernel
theorem dX3_readLogPower_30 : decode cX3_readLogPower 30 = .ok (.if_icmp .eq 7, 3) := by decide +kernel
theorem dX3_readLogPower_33 : decode cX3_readLogPower 33 = .ok (.iconst 1, 1) := by decide +kernel
theorem dX3_readLogPower_34 : decode cX3_readLogPower 34 = .ok (.goto 4, 3) := by decide +kernel
theorem dX3_readLogPower_37 : decode cX3_readLogPower 37 = .ok (.iconst 0, 1) := by decide +kernel
theorem dX3_readLogPower_38 : decode cX3_readLogPower 38 = .ok (.ireturn, 1) := by decide +kernel
theorem dX3_readMultiple_0 : decode cX3_readMultiple 0 = .ok (.aload_n 0, 1) := by decide +kernel
theorem dX3_readMultiple_1 : decode cX3_readMultiple 1 = .ok (.bipush 45, 2) := by decide +kernel
theorem dX3_readMultiple_3 : decode cX3_readMultiple 3 = .ok (.invokevirtual 50, 3) := by decide +kernel
theorem dX3_readMultiple_6 : decode cX3_readMultiple 6 = .ok (.istore_n 1, 1) := by decide +kernel
theorem dX3_readMultiple_7 : decode cX3_readMultiple 7 = .ok (.iconst 1, 1) := by decide +kernel
theorem dX3_readMultiple_8 : decode cX3_readMultiple 8 = .ok (.istore_n 2, 1) := by decide +kernel
theorem dX3_readMultiple_9 : decode cX3_readMultiple 9 = .ok (.aload_n 0, 1) := by decide +kernel
theorem dX3_readMultiple_10 : decode cX3_readMultiple 10 = .ok (.invokevirtual 62, 3) := by decide +kernel
theorem dX3_readMultiple_13 : decode cX3_readMultiple 13 = .ok (.invokestatic 86, 3) := by decide +kernel
theorem dX3_readMultiple_16 : decode cX3_readMultiple 16 = .ok (.ifCond .eq 18, 3) := by decide +kernel
theorem dX3_readMultiple_19 : decode cX3_readMultiple 19 = .ok (.aload_n 0, 1) := by decide +kernel
theorem dX3_readMultiple_20 : decode cX3_readMultiple 20 = .ok (.iconst 0, 1) := by decide +kernel
theorem dX3_readMultiple_21 : decode cX3_readMultiple 21 = .ok (.bipush 9, 2) := by decide +kernel
theorem dX3_readMultiple_23 : decode cX3_readMultiple 23 = .ok (.invokevirtual 89, 3) := by decide +kernel
theorem dX3_readMultiple_26 : decode cX3_readMultiple 26 = .ok (.istore_n 2, 1) := by decide +kernel
theorem dX3_readMultiple_27 : decode cX3_readMultiple 27 = .ok (.iload_n 2, 1) := by decide +kernel
theorem dX3_readMultiple_28 : decode cX3_readMultiple 28 = .ok (.iconst (-1), 1) := by decide +kernel
theorem dX3_readMultiple_29 : decode cX3_readMultiple 29 = .ok (.if_icmp .ne 5, 3) := by decide +kernel
theorem dX3_readMultiple_32 : decode cX3_readMultiple 32 = .ok (.iconst 0, 1) := by decide +kernel
theorem dX3_readMultiple_33 : decode cX3_readMultiple 33 = .ok (.ireturn, 1) := by decide +kernel
theorem dX3_readMultiple_34 : decode cX3_readMultiple 34 = .ok (.aload_n 0, 1) := by decide +kernel
theorem dX3_readMultiple_35 : decode cX3_readMultiple 35 = .ok (.iload_n 1, 1) := by decide +kernel
theorem dX3_readMultiple_36 : decode cX3_readMultiple 36 = .ok (.ifCond .eq 8, 3) := by decide +kernel
theorem dX3_readMultiple_39 : decode cX3_readMultiple 39 = .ok (.iload_n 2, 1) := by decide +kernel
theorem dX3_readMultiple_40 : decode cX3_readMultiple 40 = .ok (.ineg, 1) := by decide +kernel
theorem dX3_readMultiple_41 : decode cX3_readMultiple 41 = .ok (.goto 4, 3) := by decide +kernel
theorem dX3_readMultiple_44 : decode cX3_readMultiple 44 = .ok (.iload_n 2, 1) := by decide +kernel
theorem dX3_readMultiple_45 : decode cX3_readMultiple 45 = .ok (.putfield 34, 3) := by decide +kernel
theorem dX3_readMultiple_48 : decode cX3_readMultiple 48 = .ok (.iconst 1, 1) := by decide +kernel
theorem dX3_readMultiple_49 : decode cX3_readMultiple 49 = .ok (.ireturn, 1) := by decide +kernel
theorem dX3_readNumber_0 : decode cX3_readNumber 0 = .ok (.aload_n 0, 1) := by decide +kernel
theorem dX3_readNumber_1 : decode cX3_readNumber 1 = .ok (.invokevirtual 62, 3) := by decide +kernel
theorem dX3_readNumber_4 : decode cX3_readNumber 4 = .ok (.invokestatic 86, 3) := by decide +kernel
theorem dX3_readNumber_7 : decode cX3_readNumber 7 = .ok (.ifCond .ne 16, 3) := by decide +kernel
theorem dX3_readNumber_10 : decode cX3_readNumber 10 = .ok (.aload_n 0, 1) := by decide +kernel
theorem dX3_readNumber_11 : decode cX3_readNumber 11 = .ok (.bipush (-2), 2) := by decide +kernel
theorem dX3_readNumber_13 : decode cX3_readNumber 13 = .ok (.aload_n 0, 1) := by decide +kernel
theorem dX3_readNumber_14 : decode cX3_readNumber 14 = .ok (.getfield 9, 3) := by decide +kernel
theorem dX3_readNumber_17 : decode cX3_readNumber 17 = .ok (.invokevirtual 66, 3) := by decide +kernel
theorem dX3_readNumber_20 : decode cX3_readNumber 20 = .ok (.pop, 1) := by decide +kernel
theorem dX3_readNumber_21 : decode cX3_readNumber 21 = .ok (.iconst (-1), 1) := by decide +kernel
theorem dX3_readNumber_22 : decode cX3_readNumber 22 = .ok (.ireturn, 1) := by decide +kernel
theorem dX3_readNumber_23 : decode cX3_readNumber 23 = .ok (.aload_n 0, 1) := by decide +kernel
theorem dX3_readNumber_24 : decode cX3_readNumber 24 = .ok (.getfield 9, 3) := by decide +kernel
theorem dX3_readNumber_27 : decode cX3_readNumber 27 = .ok (.istore_n 3, 1) := by decide +kernel
theorem dX3_readNumber_28 : decode cX3_readNumber 28 = .ok (.iconst 0, 1) := by decide +kernel
theorem dX3_readNumber_29 : decode cX3_readNumber 29 = .ok (.istore 4, 2) := by decide +kernel
theorem dX3_readNumber_31 : decode cX3_readNumber 31 = .ok (.iconst 0, 1) := by decide +kernel
theorem dX3_readNumber_32 : decode cX3_readNumber 32 = .ok (.istore 5, 2) := by decide +kernel
theorem dX3_readNumber_34 : decode cX3_readNumber 34 = .ok (.iload 5, 2) := by decide +kernel
theorem dX3_readNumber_36 : decode cX3_readNumber 36 = .ok (.iconst 3, 1) := by decide +kernel
theorem dX3_readNumber_37 : decode cX3_readNumber 37 = .ok (.if_icmp .ge 58, 3) := by decide +kernel
theorem dX3_readNumber_40 : decode cX3_readNumber 40 = .ok (.aload_n 0, 1) := by decide +kernel
theorem dX3_readNumber_41 : decode cX3_readNumber 41 = .ok (.getfield 37, 3) := by decide +kernel
theorem dX3_readNumber_44 : decode cX3_readNumber 44 = .ok (.aload_n 0, 1) := by decide +kernel
theorem dX3_readNumber_45 : decode cX3_readNumber 45 = .ok (.getfield 9, 3) := by decide +kernel
theorem dX3_readNumber_48 : decode cX3_readNumber 48 = .ok (.invokevirtual 102, 3) := by decide +kernel
theorem dX3_readNumber_51 : decode cX3_readNumber 51 = .ok (.invokestatic 86, 3) := by decide +kernel
theorem dX3_readNumber_54 : decode cX3_readNumber 54 = .ok (.ifCond .eq 41, 3) := by decide +kernel
theorem dX3_readNumber_57 : decode cX3_readNumber 57 = .ok (.bipush 10, 2) := by decide +kernel
theorem dX3_readNumber_59 : decode cX3_readNumber 59 = .ok (.iload 4, 2) := by decide +kernel
theorem dX3_readNumber_61 : decode cX3_readNumber 61 = .ok (.imul, 1) := by decide +kernel
theorem dX3_readNumber_62 : decode cX3_readNumber 62 = .ok (.aload_n 0, 1) := by decide +kernel
theorem dX3_readNumber_63 : decode cX3_readNumber 63 = .ok (.getfield 37, 3) := by decide +kernel
theorem dX3_readNumber_66 : decode cX3_readNumber 66 = .ok (.aload_n 0, 1) := by decide +kernel
theorem dX3_readNumber_67 : decode cX3_readNumber 67 = .ok (.getfield 9, 3) := by decide +kernel
theorem dX3_readNumber_70 : decode cX3_readNumber 70 = .ok (.invokevirtual 102, 3) := by decide +kernel
theorem dX3_readNumber_73 : decode cX3_readNumber 73 = .ok (.bipush 48, 2) := by decide +kernel
theorem dX3_readNumber_75 : decode cX3_readNumber 75 = .ok (.isub, 1) := by decide +kernel
theorem dX3_readNumber_76 : decode cX3_readNumber 76 = .ok (.iadd, 1) := by decide +kernel
theorem dX3_readNumber_77 : decode cX3_readNumber 77 = .ok (.istore 4, 2) := by decide +kernel
theorem dX3_readNumber_79 : decode cX3_readNumber 79 = .ok (.aload_n 0, 1) := by decide +kernel
theorem dX3_readNumber_80 : decode cX3_readNumber 80 = .ok (.dup, 1) := by decide +kernel
theorem dX3_readNumber_81 : decode cX3_readNumber 81 = .ok (.getfield 9, 3) := by decide +kernel
theorem dX3_readNumber_84 : decode cX3_readNumber 84 = .ok (.iconst 1, 1) := by decide +kernel
theorem dX3_readNumber_85 : decode cX3_readNumber 85 = .ok (.iadd, 1) := by decide +kernel
theorem dX3_readNumber_86 : decode cX3_readNumber 86 = .ok (.putfield 9, 3) := by decide +kernel
theorem dX3_readNumber_89 : decode cX3_readNumber 89 = .ok (.iinc 5 1, 3) := by decide +kernel
theorem dX3_readNumber_92 : decode cX3_readNumber 92 = .ok (.goto (-58), 3) := by decide +kernel
theorem dX3_readNumber_95 : decode cX3_readNumber 95 = .ok (.iload 4, 2) := by decide +kernel
theorem dX3_readNumber_97 : decode cX3_readNumber 97 = .ok (.iload_n 1, 1) := by decide +kernel
theorem dX3_readNumber_98 : decode cX3_readNumber 98 = .ok (.if_icmp .lt 9, 3) := by decide +kernel
theorem dX3_readNumber_101 : decode cX3_readNumber 101 = .ok (.iload 4, 2) := by decide +kernel
theorem dX3_readNumber_103 : decode cX3_readNumber 103 = .ok (.iload_n 2, 1) := by decide +kernel
theorem dX3_readNumber_104 : decode cX3_readNumber 104 = .ok (.if_icmp .le 13, 3) := by decide +kernel
theorem dX3_readNumber_107 : decode cX3_readNumber 107 = .ok (.aload_n 0, 1) := by decide +kernel
theorem dX3_readNumber_108 : decode cX3_readNumber 108 = .ok (.bipush (-3), 2) := by decide +kernel
theorem dX3_readNumber_110 : decode cX3_readNumber 110 = .ok (.iload_n 3, 1) := by decide +kernel
theorem dX3_readNumber_111 : decode cX3_readNumber 111 = .ok (.invokevirtual 66, 3) := by decide +kernel
theorem dX3_readNumber_114 : decode cX3_readNumber 114 = .ok (.pop, 1) := by decide +kernel
theorem dX3_readNumber_115 : decode cX3_readNumber 115 = .ok (.iconst (-1), 1) := by decide +kernel
theorem dX3_readNumber_116 : decode cX3_readNumber 116 = .ok (.ireturn, 1) := by decide +kernel
theorem dX3_readNumber_117 : decode cX3_readNumber 117 = .ok (.iload 4, 2) := by decide +kernel
theorem dX3_readNumber_119 : decode cX3_readNumber 119 = .ok (.ireturn, 1) := by decide +kernel
theorem dX3_expect_0 : decode cX3_expect 0 = .ok (.aload_n 0, 1) := by decide +kernel
theorem dX3_expect_1 : decode cX3_expect 1 = .ok (.iload_n 1, 1) := by decide +kernel
theorem dX3_expect_2 : decode cX3_expect 2 = .ok (.invokevirtual 50, 3) := by decide +kernel
theorem dX3_expect_5 : decode cX3_expect 5 = .ok (.ifCond .ne 16, 3) := by decide +kernel
theorem dX3_expect_8 : decode cX3_expect 8 = .ok (.aload_n 0, 1) := by decide +kernel
theorem dX3_expect_9 : decode cX3_expect 9 = .ok (.bipush (-2), 2) := by decide +kernel
theorem dX3_expect_11 : decode cX3_expect 11 = .ok (.aload_n 0, 1) := by decide +kernel
theorem dX3_expect_12 : decode cX3_expect 12 = .ok (.getfield 9, 3) := by decide +kernel
theorem dX3_expect_15 : decode cX3_expect 15 = .ok (.invokevirtual 66, 3) := by decide +kernel
theorem dX3_expect_18 : decode cX3_expect 18 = .ok (.ifCond .eq 7, 3) := by decide +kernel
theorem dX3_expect_21 : decode cX3_expect 21 = .ok (.iconst 1, 1) := by decide +kernel
theorem dX3_expect_22 : decode cX3_expect 22 = .ok (.goto 4, 3) := by decide +kernel
theorem dX3_expect_25 : decode cX3_expect 25 = .ok (.iconst 0, 1) := by decide +kernel
theorem dX3_expect_26 : decode cX3_expect 26 = .ok (.ireturn, 1) := by decide +kernel
theorem dX3_takes_0 : decode cX3_takes 0 = .ok (.aload_n 0, 1) := by decide +kernel
theorem dX3_takes_1 : decode cX3_takes 1 = .ok (.invokevirtual 62, 3) := by decide +kernel
theorem dX3_takes_4 : decode cX3_takes 4 = .ok (.iload_n 1, 1) := by decide +kernel
theorem dX3_takes_5 : decode cX3_takes 5 = .ok (.if_icmp .eq 5, 3) := by decide +kernel
theorem dX3_takes_8 : decode cX3_takes 8 = .ok (.iconst 0, 1) := by decide +kernel
theorem dX3_takes_9 : decode cX3_takes 9 = .ok (.ireturn, 1) := by decide +kernel
theorem dX3_takes_10 : decode cX3_takes 10 = .ok (.aload_n 0, 1) := by decide +kernel
theorem dX3_takes_11 : decode cX3_takes 11 = .ok (.dup, 1) := by decide +kernel
theorem dX3_takes_12 : decode cX3_takes 12 = .ok (.getfield 9, 3) := by decide +kernel
theorem dX3_takes_15 : decode cX3_takes 15 = .ok (.iconst 1, 1) := by decide +kernel
theorem dX3_takes_16 : decode cX3_takes 16 = .ok (.iadd, 1) := by decide +kernel
theorem dX3_takes_17 : decode cX3_takes 17 = .ok (.putfield 9, 3) := by decide +kernel
theorem dX3_takes_20 : decode cX3_takes 20 = .ok (.iconst 1, 1) := by decide +kernel
theorem dX3_takes_21 : decode cX3_takes 21 = .ok (.ireturn, 1) := by decide +kernel
theorem dX3_next_0 : decode cX3_next 0 = .ok (.aload_n 0, 1) := by decide +kernel
theorem dX3_next_1 : decode cX3_next 1 = .ok (.getfield 9, 3) := by decide +kernel
theorem dX3_next_4 : decode cX3_next 4 = .ok (.aload_n 0, 1) := by decide +kernel
theorem dX3_next_5 : decode cX3_next 5 = .ok (.getfield 37, 3) := by decide +kernel
theorem dX3_next_8 : decode cX3_next 8 = .ok (.getfield 108, 3) := by decide +kernel
theorem dX3_next_11 : decode cX3_next 11 = .ok (.if_icmp .ge 33, 3) := by decide +kernel
theorem dX3_next_14 : decode cX3_next 14 = .ok (.aload_n 0, 1) := by decide +kernel
theorem dX3_next_15 : decode cX3_next 15 = .ok (.getfield 37, 3) := by decide +kernel
theorem dX3_next_18 : decode cX3_next 18 = .ok (.getfield 111, 3) := by decide +kernel
theorem dX3_next_21 : decode cX3_next 21 = .ok (.aload_n 0, 1) := by decide +kernel
theorem dX3_next_22 : decode cX3_next 22 = .ok (.getfield 9, 3) := by decide +kernel
theorem dX3_next_25 : decode cX3_next 25 = .ok (.caload, 1) := by decide +kernel
theorem dX3_next_26 : decode cX3_next 26 = .ok (.bipush 32, 2) := by decide +kernel
theorem dX3_next_28 : decode cX3_next 28 = .ok (.if_icmp .ne 16, 3) := by decide +kernel
theorem dX3_next_31 : decode cX3_next 31 = .ok (.aload_n 0, 1) := by decide +kernel
theorem dX3_next_32 : decode cX3_next 32 = .ok (.dup, 1) := by decide +kernel
theorem dX3_next_33 : decode cX3_next 33 = .ok (.getfield 9, 3) := by decide +kernel
theorem dX3_next_36 : decode cX3_next 36 = .ok (.iconst 1, 1) := by decide +kernel
theorem dX3_next_37 : decode cX3_next 37 = .ok (.iadd, 1) := by decide +kernel
theorem dX3_next_38 : decode cX3_next 38 = .ok (.putfield 9, 3) := by decide +kernel
theorem dX3_next_41 : decode cX3_next 41 = .ok (.goto (-41), 3) := by decide +kernel
theorem dX3_next_44 : decode cX3_next 44 = .ok (.aload_n 0, 1) := by decide +kernel
theorem dX3_next_45 : decode cX3_next 45 = .ok (.getfield 9, 3) := by decide +kernel
theorem dX3_next_48 : decode cX3_next 48 = .ok (.aload_n 0, 1) := by decide +kernel
theorem dX3_next_49 : decode cX3_next 49 = .ok (.getfield 37, 3) := by decide +kernel
theorem dX3_next_52 : decode cX3_next 52 = .ok (.getfield 108, 3) := by decide +kernel
theorem dX3_next_55 : decode cX3_next 55 = .ok (.if_icmp .ge 18, 3) := by decide +kernel
theorem dX3_next_58 : decode cX3_next 58 = .ok (.aload_n 0, 1) := by decide +kernel
theorem dX3_next_59 : decode cX3_next 59 = .ok (.getfield 37, 3) := by decide +kernel
theorem dX3_next_62 : decode cX3_next 62 = .ok (.getfield 111, 3) := by decide +kernel
theorem dX3_next_65 : decode cX3_next 65 = .ok (.aload_n 0, 1) := by decide +kernel
theorem dX3_next_66 : decode cX3_next 66 = .ok (.getfield 9, 3) := by decide +kernel
theorem dX3_next_69 : decode cX3_next 69 = .ok (.caload, 1) := by decide +kernel
theorem dX3_next_70 : decode cX3_next 70 = .ok (.goto 4, 3) := by decide +kernel
theorem dX3_next_73 : decode cX3_next 73 = .ok (.iconst 0, 1) := by decide +kernel
theorem dX3_next_74 : decode cX3_next 74 = .ok (.ireturn, 1) := by decide +kernel
theorem dX3_refuse_0 : decode cX3_refuse 0 = .ok (.aload_n 0, 1) := by decide +kernel
theorem dX3_refuse_1 : decode cX3_refuse 1 = .ok (.iload_n 1, 1) := by decide +kernel
theorem dX3_refuse_2 : decode cX3_refuse 2 = .ok (.putfield 15, 3) := by decide +kernel
theorem dX3_refuse_5 : decode cX3_refuse 5 = .ok (.aload_n 0, 1) := by decide +kernel
theorem dX3_refuse_6 : decode cX3_refuse 6 = .ok (.iload_n 2, 1) := by decide +kernel
theorem dX3_refuse_7 : decode cX3_refuse 7 = .ok (.putfield 18, 3) := by decide +kernel
theorem dX3_refuse_10 : decode cX3_refuse 10 = .ok (.iconst 0, 1) := by decide +kernel
theorem dX3_refuse_11 : decode cX3_refuse 11 = .ok (.ireturn, 1) := by decide +kernel
theorem dX3_isDigit_0 : decode cX3_isDigit 0 = .ok (.iload_n 0, 1) := by decide +kernel
theorem dX3_isDigit_1 : decode cX3_isDigit 1 = .ok (.bipush 48, 2) := by decide +kernel
theorem dX3_isDigit_3 : decode cX3_isDigit 3 = .ok (.if_icmp .lt 13, 3) := by decide +kernel
theorem dX3_isDigit_6 : decode cX3_isDigit 6 = .ok (.iload_n 0, 1) := by decide +kernel
theorem dX3_isDigit_7 : decode cX3_isDigit 7 = .ok (.bipush 57, 2) := by decide +kernel
theorem dX3_isDigit_9 : decode cX3_isDigit 9 = .ok (.if_icmp .gt 7, 3) := by decide +kernel
theorem dX3_isDigit_12 : decode cX3_isDigit 12 = .ok (.iconst 1, 1) := by decide +kernel
theorem dX3_isDigit_13 : decode cX3_isDigit 13 = .ok (.goto 4, 3) := by decide +kernel
theorem dX3_isDigit_16 : decode cX3_isDigit 16 = .ok (.iconst 0, 1) := by decide +kernel
theorem dX3_isDigit_17 : decode cX3_isDigit 17 = .ok (.ireturn, 1) := by decide +kernel
theorem dX4_init_0 : decode cX4_init 0 = .ok (.aload_n 0, 1) := by decide +kernel
theorem dX4_init_1 : decode cX4_init 1 = .ok (.invokespecial 3, 3) := by decide +kernel
theorem dX4_init_4 : decode cX4_init 4 = .ok (.aload_n 0, 1) := by decide +kernel
theorem dX4_init_5 : decode cX4_init 5 = .ok (.iload_n 1, 1) := by decide +kernel
theorem dX4_init_6 : decode cX4_init 6 = .ok (.putfield 9, 3) := by decide +kernel
theorem dX4_init_9 : decode cX4_init 9 = .ok (.aload_n 0, 1) := by decide +kernel
theorem dX4_init_10 : decode cX4_init 10 = .ok (.iload_n 1, 1) := by decide +kernel
theorem dX4_init_11 : decode cX4_init 11 = .ok (.newarray .int, 2) := by decide +kernel
theorem dX4_init_13 : decode cX4_init 13 = .ok (.putfield 15, 3) := by decide +kernel
theorem dX4_init_16 : decode cX4_init 16 = .ok (.aload_n 0, 1) := by decide +kernel
theorem dX4_init_17 : decode cX4_init 17 = .ok (.iload_n 1, 1) := by decide +kernel
theorem dX4_init_18 : decode cX4_init 18 = .ok (.newarray .long, 2) := by decide +kernel
theorem dX4_init_20 : decode cX4_init 20 = .ok (.putfield 19, 3) := by decide +kernel
theorem dX4_init_23 : decode cX4_init 23 = .ok (.aload_n 0, 1) := by decide +kernel
theorem dX4_init_24 : decode cX4_init 24 = .ok (.iload_n 1, 1) := by decide +kernel
theorem dX4_init_25 : decode cX4_init 25 = .ok (.newarray .long, 2) := by decide +kernel
theorem dX4_init_27 : decode cX4_init 27 = .ok (.putfield 23, 3) := by decide +kernel
theorem dX4_init_30 : decode cX4_init 30 = .ok (.aload_n 0, 1) := by decide +kernel
theorem dX4_init_31 : decode cX4_init 31 = .ok (.iconst 0, 1) := by decide +kernel
theorem dX4_init_32 : decode cX4_init 32 = .ok (.putfield 26, 3) := by decide +kernel
theorem dX4_init_35 : decode cX4_init 35 = .ok (.aload_n 0, 1) := by decide +kernel
theorem dX4_init_36 : decode cX4_init 36 = .ok (.iconst 0, 1) := by decide +kernel
theorem dX4_init_37 : decode cX4_init 37 = .ok (.putfield 29, 3) := by decide +kernel
theorem dX4_init_40 : decode cX4_init 40 = .ok (.return_, 1) := by decide +kernel
theorem dX4_keyOf_0 : decode cX4_keyOf 0 = .ok (.iload_n 0, 1) := by decide +kernel
theorem dX4_keyOf_1 : decode cX4_keyOf 1 = .ok (.bipush 11, 2) := by decide +kernel
theorem dX4_keyOf_3 : decode cX4_keyOf 3 = .ok (.ishl, 1) := by decide +kernel
theorem dX4_keyOf_4 : decode cX4_keyOf 4 = .ok (.iload_n 1, 1) := by decide +kernel
theorem dX4_keyOf_5 : decode cX4_keyOf 5 = .ok (.bipush 16, 2) := by decide +kernel
theorem dX4_keyOf_7 : decode cX4_keyOf 7 = .ok (.iadd, 1) := by decide +kernel
theorem dX4_keyOf_8 : decode cX4_keyOf 8 = .ok (.bipush 6, 2) := by decide +kernel
theorem dX4_keyOf_10 : decode cX4_keyOf 10 = .ok (.ishl, 1) := by decide +kernel
theorem dX4_keyOf_11 : decode cX4_keyOf 11 = .ok (.ior, 1) := by decide +kernel
theorem dX4_keyOf_12 : decode cX4_keyOf 12 = .ok (.bipush 31, 2) := by decide +kernel
theorem dX4_keyOf_14 : decode cX4_keyOf 14 = .ok (.iload_n 2, 1) := by decide +kernel
theorem dX4_keyOf_15 : decode cX4_keyOf 15 = .ok (.isub, 1) := by decide +kernel
theorem dX4_keyOf_16 : decode cX4_keyOf 16 = .ok (.ior, 1) := by decide +kernel
theorem dX4_keyOf_17 : decode cX4_keyOf 17 = .ok (.ireturn, 1) := by decide +kernel
theorem dX4_clear_0 : decode cX4_clear 0 = .ok (.aload_n 0, 1) := by decide +kernel
theorem dX4_clear_1 : decode cX4_clear 1 = .ok (.iconst 0, 1) := by decide +kernel
theorem dX4_clear_2 : decode cX4_clear 2 = .ok (.putfield 26, 3) := by decide +kernel
theorem dX4_clear_5 : decode cX4_clear 5 = .ok (.aload_n 0, 1) := by decide +kernel
theorem dX4_clear_6 : decode cX4_clear 6 = .ok (.iconst 0, 1) := by decide +kernel
theorem dX4_clear_7 : decode cX4_clear 7 = .ok (.putfield 29, 3) := by decide +kernel
theorem dX4_clear_10 : decode cX4_clear 10 = .ok (.return_, 1) := by decide +kernel
theorem dX4_size_0 : decode cX4_size 0 = .ok (.aload_n 0, 1) := by decide +kernel
theorem dX4_size_1 : decode cX4_size 1 = .ok (.getfield 26, 3) := by decide +kernel
theorem dX4_size_4 : decode cX4_size 4 = .ok (.ireturn, 1) := by decide +kernel
theorem dX4_has_0 : decode cX4_has 0 = .ok (.iload_n 1, 1) := by decide +kernel
theorem dX4_has_1 : decode cX4_has 1 = .ok (.ifCond .lt 15, 3) := by decide +kernel
theorem dX4_has_4 : decode cX4_has 4 = .ok (.iload_n 1, 1) := by decide +kernel
theorem dX4_has_5 : decode cX4_has 5 = .ok (.aload_n 0, 1) := by decide +kernel
theorem dX4_has_6 : decode cX4_has 6 = .ok (.getfield 26, 3) := by decide +kernel
theorem dX4_has_9 : decode cX4_has 9 = .ok (.if_icmp .ge 7, 3) := by decide +kernel
theorem dX4_has_12 : decode cX4_has 12 = .ok (.iconst 1, 1) := by decide +kernel
theorem dX4_has_13 : decode cX4_has 13 = .ok (.goto 4, 3) := by decide +kernel
theorem dX4_has_16 : decode cX4_has 16 = .ok (.iconst 0, 1) := by decide +kernel
theorem dX4_has_17 : decode cX4_has 17 = .ok (.ireturn, 1) := by decide +kernel
theorem dX4_topAt_0 : decode cX4_topAt 0 = .ok (.aload_n 0, 1) := by decide +kernel
theorem dX4_topAt_1 : decode cX4_topAt 1 = .ok (.iload_n 1, 1) := by decide +kernel
theorem dX4_topAt_2 : decode cX4_topAt 2 = .ok (.invokevirtual 33, 3) := by decide +kernel
theorem dX4_topAt_5 : decode cX4_topAt 5 = .ok (.ifCond .eq 12, 3) := by decide +kernel
theorem dX4_topAt_8 : decode cX4_topAt 8 = .ok (.aload_n 0, 1) := by decide +kernel
theorem dX4_topAt_9 : decode cX4_topAt 9 = .ok (.getfield 19, 3) := by decide +kernel
theorem dX4_topAt_12 : decode cX4_topAt 12 = .ok (.iload_n 1, 1) := by decide +kernel
theorem dX4_topAt_13 : decode cX4_topAt 13 = .ok (.laload, 1) := by decide +kernel
theorem dX4_topAt_14 : decode cX4_topAt 14 = .ok (.goto 4, 3) := by decide +kernel
theorem dX4_topAt_17 : decode cX4_topAt 17 = .ok (.lconst 0, 1) := by decide +kernel
theorem dX4_topAt_18 : decode cX4_topAt 18 = .ok (.lreturn, 1) := by decide +kernel
theorem dX4_bottomAt_0 : decode cX4_bottomAt 0 = .ok (.aload_n 0, 1) := by decide +kernel
theorem dX4_bottomAt_1 : decode cX4_bottomAt 1 = .ok (.iload_n 1, 1) := by decide +kernel
theorem dX4_bottomAt_2 : decode cX4_bottomAt 2 = .ok (.invokevirtual 33, 3) := by decide +kernel
theorem dX4_bottomAt_5 : decode cX4_bottomAt 5 = .ok (.ifCond .eq 12, 3) := by decide +kernel
theorem dX4_bottomAt_8 : decode cX4_bottomAt 8 = .ok (.aload_n 0, 1) := by decide +kernel
theorem dX4_bottomAt_9 : decode cX4_bottomAt 9 = .ok (.getfield 23, 3) := by decide +kernel
theorem dX4_bottomAt_12 : decode cX4_bottomAt 12 = .ok (.iload_n 1, 1) := by decide +kernel
theorem dX4_bottomAt_13 : decode cX4_bottomAt 13 = .ok (.laload, 1) := by decide +kernel
theorem dX4_bottomAt_14 : decode cX4_bottomAt 14 = .ok (.goto 4, 3) := by decide +kernel
theorem dX4_bottomAt_17 : decode cX4_bottomAt 17 = .ok (.lconst 1, 1) := by decide +kernel
theorem dX4_bottomAt_18 : decode cX4_bottomAt 18 = .ok (.lreturn, 1) := by decide +kernel
theorem dX4_kindAt_0 : decode cX4_kindAt 0 = .ok (.aload_n 0, 1) := by decide +kernel
theorem dX4_kindAt_1 : decode cX4_kindAt 1 = .ok (.iload_n 1, 1) := by decide +kernel
theorem dX4_kindAt_2 : decode cX4_kindAt 2 = .ok (.invokevirtual 33, 3) := by decide +kernel
theorem dX4_kindAt_5 : decode cX4_kindAt 5 = .ok (.ifCond .eq 15, 3) := by decide +kernel
theorem dX4_kindAt_8 : decode cX4_kindAt 8 = .ok (.aload_n 0, 1) := by decide +kernel
theorem dX4_kindAt_9 : decode cX4_kindAt 9 = .ok (.getfield 15, 3) := by decide +kernel
theorem dX4_kindAt_12 : decode cX4_kindAt 12 = .ok (.iload_n 1, 1) := by decide +kernel
theorem dX4_kindAt_13 : decode cX4_kindAt 13 = .ok (.iaload, 1) := by decide +kernel
theorem dX4_kindAt_14 : decode cX4_kindAt 14 = .ok (.bipush 11, 2) := by decide +kernel
theorem dX4_kindAt_16 : decode cX4_kindAt 16 = .ok (.ishr, 1) := by decide +kernel
theorem dX4_kindAt_17 : decode cX4_kindAt 17 = .ok (.goto 4, 3) := by decide +kernel
theorem dX4_kindAt_20 : decode cX4_kindAt 20 = .ok (.iconst 0, 1) := by decide +kernel
theorem dX4_kindAt_21 : decode cX4_kindAt 21 = .ok (.ireturn, 1) := by decide +kernel
theorem dX4_argumentAt_0 : decode cX4_argumentAt 0 = .ok (.aload_n 0, 1) := by decide +kernel
theorem dX4_argumentAt_1 : decode cX4_argumentAt 1 = .ok (.iload_n 1, 1) := by decide +kernel
theorem dX4_argumentAt_2 : decode cX4_argumentAt 2 = .ok (.invokevirtual 33, 3) := by decide +kernel
theorem dX4_argumentAt_5 : decode cX4_argumentAt 5 = .ok (.ifCond .eq 21, 3) := by decide +kernel
theorem dX4_argumentAt_8 : decode cX4_argumentAt 8 = .ok (.aload_n 0, 1) := by decide +kernel
theorem dX4_argumentAt_9 : decode cX4_argumentAt 9 = .ok (.getfield 15, 3) := by decide +kernel
theorem dX4_argumentAt_12 : decode cX4_argumentAt 12 = .ok (.iload_n 1, 1) := by decide +kernel
theorem dX4_argumentAt_13 : decode cX4_argumentAt 13 = .ok (.iaload, 1) := by decide +kernel
theorem dX4_argumentAt_14 : decode cX4_argumentAt 14 = .ok (.bipush 6, 2) := by decide +kernel
theorem dX4_argumentAt_16 : decode cX4_argumentAt 16 = .ok (.ishr, 1) := by decide +kernel
theorem dX4_argumentAt_17 : decode cX4_argumentAt 17 = .ok (.bipush 31, 2) := by decide +kernel
theorem dX4_argumentAt_19 : decode cX4_argumentAt 19 = .ok (.iand, 1) := by decide +kernel
theorem dX4_argumentAt_20 : decode cX4_argumentAt 20 = .ok (.bipush 16, 2) := by decide +kernel
theorem dX4_argumentAt_22 : decode cX4_argumentAt 22 = .ok (.isub, 1) := by decide +kernel
theorem dX4_argumentAt_23 : decode cX4_argumentAt 23 = .ok (.goto 4, 3) := by decide +kernel
theorem dX4_argumentAt_26 : decode cX4_argumentAt 26 = .ok (.iconst 0, 1) := by decide +kernel
theorem dX4_argumentAt_27 : decode cX4_argumentAt 27 = .ok (.ireturn, 1) := by decide +kernel
theorem dX4_powerAt_0 : decode cX4_powerAt 0 = .ok (.aload_n 0, 1) := by decide +kernel
theorem dX4_powerAt_1 : decode cX4_powerAt 1 = .ok (.iload_n 1, 1) := by decide +kernel
theorem dX4_powerAt_2 : decode cX4_powerAt 2 = .ok (.invokevirtual 33, 3) := by decide +kernel
theorem dX4_powerAt_5 : decode cX4_powerAt 5 = .ok (.ifCond .eq 18, 3) := by decide +kernel
theorem dX4_powerAt_8 : decode cX4_powerAt 8 = .ok (.bipush 31, 2) := by decide +kernel
theorem dX4_powerAt_10 : decode cX4_powerAt 10 = .ok (.aload_n 0, 1) := by decide +kernel
theorem dX4_powerAt_11 : decode cX4_powerAt 11 = .ok (.getfield 15, 3) := by decide +kernel
theorem dX4_powerAt_14 : decode cX4_powerAt 14 = .ok (.iload_n 1, 1) := by decide +kernel
theorem dX4_powerAt_15 : decode cX4_powerAt 15 = .ok (.iaload, 1) := by decide +kernel
theorem dX4_powerAt_16 : decode cX4_powerAt 16 = .ok (.bipush 63, 2) := by decide +kernel
theorem dX4_powerAt_18 : decode cX4_powerAt 18 = .ok (.iand, 1) := by decide +kernel
theorem dX4_powerAt_19 : decode cX4_powerAt 19 = .ok (.isub, 1) := by decide +kernel
theorem dX4_powerAt_20 : decode cX4_powerAt 20 = .ok (.goto 4, 3) := by decide +kernel
theorem dX4_powerAt_23 : decode cX4_powerAt 23 = .ok (.iconst 0, 1) := by decide +kernel
theorem dX4_powerAt_24 : decode cX4_powerAt 24 = .ok (.ireturn, 1) := by decide +kernel
theorem dX4_put_0 : decode cX4_put 0 = .ok (.iload_n 1, 1) := by decide +kernel
theorem dX4_put_1 : decode cX4_put 1 = .ok (.iconst 3, 1) := by decide +kernel
theorem dX4_put_2 : decode cX4_put 2 = .ok (.if_icmp .eq 8, 3) := by decide +kernel
theorem dX4_put_5 : decode cX4_put 5 = .ok (.iload_n 1, 1) := by decide +kernel
theorem dX4_put_6 : decode cX4_put 6 = .ok (.iconst 4, 1) := by decide +kernel
theorem dX4_put_7 : decode cX4_put 7 = .ok (.if_icmp .ne 7, 3) := by decide +kernel
theorem dX4_put_10 : decode cX4_put 10 = .ok (.iconst 1, 1) := by decide +kernel
theorem dX4_put_11 : decode cX4_put 11 = .ok (.goto 4, 3) := by decide +kernel
theorem dX4_put_14 : decode cX4_put 14 = .ok (.iconst 0, 1) := by decide +kernel
theorem dX4_put_15 : decode cX4_put 15 = .ok (.istore 8, 2) := by decide +kernel
theorem dX4_put_17 : decode cX4_put 17 = .ok (.iload_n 2, 1) := by decide +kernel
theorem dX4_put_18 : decode cX4_put 18 = .ok (.ifCond .ne 25, 3) := by decide +kernel
theorem dX4_put_21 : decode cX4_put 21 = .ok (.iload_n 1, 1) := by decide +kernel
theorem dX4_put_22 : decode cX4_put 22 = .ok (.iconst 3, 1) := by decide +kernel
theorem dX4_put_23 : decode cX4_put 23 = .ok (.if_icmp .eq 72, 3) := by decide +kernel
theorem dX4_put_26 : decode cX4_put 26 = .ok (.aload_n 0, 1) := by decide +kernel
theorem dX4_put_27 : decode cX4_put 27 = .ok (.iconst 0, 1) := by decide +kernel
theorem dX4_put_28 : decode cX4_put 28 = .ok (.iconst 0, 1) := by decide +kernel
theorem dX4_put_29 : decode cX4_put 29 = .ok (.iload_n 3, 1) := by decide +kernel
theorem dX4_put_30 : decode cX4_put 30 = .ok (.invokestatic 37, 3) := by decide +kernel
theorem dX4_put_33 : decode cX4_put 33 = .ok (.lload 4, 2) := by decide +kernel
theorem dX4_put_35 : decode cX4_put 35 = .ok (.lload 6, 2) := by decide +kernel
theorem dX4_put_37 : decode cX4_put 37 = .ok (.invokevirtual 41, 3) := by decide +kernel
theorem dX4_put_40 : decode cX4_put 40 = .ok (.goto 55, 3) := by decide +kernel
theorem dX4_put_43 : decode cX4_put 43 = .ok (.iload 8, 2) := by decide +kernel
theorem dX4_put_45 : decode cX4_put 45 = .ok (.ifCond .eq 36, 3) := by decide +kernel
theorem dX4_put_48 : decode cX4_put 48 = .ok (.iload_n 2, 1) := by decide +kernel
theorem dX4_put_49 : decode cX4_put 49 = .ok (.ifCond .ge 32, 3) := by decide +kernel
theorem dX4_put_52 : decode cX4_put 52 = .ok (.aload_n 0, 1) := by decide +kernel
theorem dX4_put_53 : decode cX4_put 53 = .ok (.iload_n 1, 1) := by decide +kernel
theorem dX4_put_54 : decode cX4_put 54 = .ok (.iload_n 2, 1) := by decide +kernel
theorem dX4_put_55 : decode cX4_put 55 = .ok (.ineg, 1) := by decide +kernel
theorem dX4_put_56 : decode cX4_put 56 = .ok (.iload_n 3, 1) := by decide +kernel
theorem dX4_put_57 : decode cX4_put 57 = .ok (.invokestatic 37, 3) := by decide +kernel
theorem dX4_put_60 : decode cX4_put 60 = .ok (.iload_n 1, 1) := by decide +kernel
theorem dX4_put_61 : decode cX4_put 61 = .ok (.iconst 3, 1) := by decide +kernel
theorem dX4_put_62 : decode cX4_put 62 = .ok (.if_icmp .ne 9, 3) := by decide +kernel
theorem dX4_put_65 : decode cX4_put 65 = .ok (.lload 4, 2) := by decide +kernel
theorem dX4_put_67 : decode cX4_put 67 = .ok (.lneg, 1) := by decide +kernel
theorem dX4_put_68 : decode cX4_put 68 = .ok (.goto 5, 3) := by decide +kernel
theorem dX4_put_71 : decode cX4_put 71 = .ok (.lload 4, 2) := by decide +kernel
theorem dX4_put_73 : decode cX4_put 73 = .ok (.lload 6, 2) := by decide +kernel
theorem dX4_put_75 : decode cX4_put 75 = .ok (.invokevirtual 41, 3) := by decide +kernel
theorem dX4_put_78 : decode cX4_put 78 = .ok (.goto 17, 3) := by decide +kernel
theorem dX4_put_81 : decode cX4_put 81 = .ok (.aload_n 0, 1) := by decide +kernel
theorem dX4_put_82 : decode cX4_put 82 = .ok (.iload_n 1, 1) := by decide +kernel
theorem dX4_put_83 : decode cX4_put 83 = .ok (.iload_n 2, 1) := by decide +kernel
theorem dX4_put_84 : decode cX4_put 84 = .ok (.iload_n 3, 1) := by decide +kernel
theorem dX4_put_85 : decode cX4_put 85 = .ok (.invokestatic 37, 3) := by decide +kernel
theorem dX4_put_88 : decode cX4_put 88 = .ok (.lload 4, 2) := by decide +kernel
theorem dX4_put_90 : decode cX4_put 90 = .ok (.lload 6, 2) := by decide +kernel
theorem dX4_put_92 : decode cX4_put 92 = .ok (.invokevirtual 41, 3) := by decide +kernel
theorem dX4_put_95 : decode cX4_put 95 = .ok (.return_, 1) := by decide +kernel
theorem dX4_putAll_0 : decode cX4_putAll 0 = .ok (.iconst 0, 1) := by decide +kernel
theorem dX4_putAll_1 : decode cX4_putAll 1 = .ok (.istore 6, 2) := by decide +kernel
theorem dX4_putAll_3 : decode cX4_putAll 3 = .ok (.iload 6, 2) := by decide +kernel
theorem dX4_putAll_5 : decode cX4_putAll 5 = .ok (.aload_n 1, 1) := by decide +kernel
theorem dX4_putAll_6 : decode cX4_putAll 6 = .ok (.getfield 26, 3) := by decide +kernel
theorem dX4_putAll_9 : decode cX4_putAll 9 = .ok (.if_icmp .ge 39, 3) := by decide +kernel
theorem dX4_putAll_12 : decode cX4_putAll 12 = .ok (.aload_n 0, 1) := by decide +kernel
theorem dX4_putAll_13 : decode cX4_putAll 13 = .ok (.aload_n 1, 1) := by decide +kernel
theorem dX4_putAll_14 : decode cX4_putAll 14 = .ok (.getfield 15, 3) := by decide +kernel
theorem dX4_putAll_17 : decode cX4_putAll 17 = .ok (.iload 6, 2) := by decide +kernel
theorem dX4_putAll_19 : decode cX4_putAll 19 = .ok (.iaload, 1) := by decide +kernel
theorem dX4_putAll_20 : decode cX4_putAll 20 = .ok (.aload_n 1, 1) := by decide +kernel
theorem dX4_putAll_21 : decode cX4_putAll 21 = .ok (.getfield 19, 3) := by decide +kernel
theorem dX4_putAll_24 : decode cX4_putAll 24 = .ok (.iload 6, 2) := by decide +kernel
theorem dX4_putAll_26 : decode cX4_putAll 26 = .ok (.laload, 1) := by decide +kernel
theorem dX4_putAll_27 : decode cX4_putAll 27 = .ok (.lload_n 2, 1) := by decide +kernel
theorem dX4_putAll_28 : decode cX4_putAll 28 = .ok (.lmul, 1) := by decide +kernel
theorem dX4_putAll_29 : decode cX4_putAll 29 = .ok (.aload_n 1, 1) := by decide +kernel
theorem dX4_putAll_30 : decode cX4_putAll 30 = .ok (.getfield 23, 3) := by decide +kernel
theorem dX4_putAll_33 : decode cX4_putAll 33 = .ok (.iload 6, 2) := by decide +kernel
theorem dX4_putAll_35 : decode cX4_putAll 35 = .ok (.laload, 1) := by decide +kernel
theorem dX4_putAll_36 : decode cX4_putAll 36 = .ok (.lload 4, 2) := by decide +kernel
theorem dX4_putAll_38 : decode cX4_putAll 38 = .ok (.lmul, 1) := by decide +kernel
theorem dX4_putAll_39 : decode cX4_putAll 39 = .ok (.invokevirtual 41, 3) := by decide +kernel
theorem dX4_putAll_42 : decode cX4_putAll 42 = .ok (.iinc 6 1, 3) := by decide +kernel
theorem dX4_putAll_45 : decode cX4_putAll 45 = .ok (.goto (-42), 3) := by decide +kernel
theorem dX4_putAll_48 : decode cX4_putAll 48 = .ok (.return_, 1) := by decide +kernel
theorem dX4_addUp_0 : decode cX4_addUp 0 = .ok (.aload_n 0, 1) := by decide +kernel
theorem dX4_addUp_1 : decode cX4_addUp 1 = .ok (.iload_n 1, 1) := by decide +kernel
theorem dX4_addUp_2 : decode cX4_addUp 2 = .ok (.invokevirtual 45, 3) := by decide +kernel
theorem dX4_addUp_5 : decode cX4_addUp 5 = .ok (.istore 6, 2) := by decide +kernel
theorem dX4_addUp_7 : decode cX4_addUp 7 = .ok (.iload 6, 2) := by decide +kernel
theorem dX4_addUp_9 : decode cX4_addUp 9 = .ok (.aload_n 0, 1) := by decide +kernel
theorem dX4_addUp_10 : decode cX4_addUp 10 = .ok (.getfield 26, 3) := by decide +kernel
theorem dX4_addUp_13 : decode cX4_addUp 13 = .ok (.if_icmp .ge 18, 3) := by decide +kernel
theorem dX4_addUp_16 : decode cX4_addUp 16 = .ok (.aload_n 0, 1) := by decide +kernel
theorem dX4_addUp_17 : decode cX4_addUp 17 = .ok (.getfield 15, 3) := by decide +kernel
theorem dX4_addUp_20 : decode cX4_addUp 20 = .ok (.iload 6, 2) := by decide +kernel
theorem dX4_addUp_22 : decode cX4_addUp 22 = .ok (.iaload, 1) := by decide +kernel
theorem dX4_addUp_23 : decode cX4_addUp 23 = .ok (.iload_n 1, 1) := by decide +kernel
theorem dX4_addUp_24 : decode cX4_addUp 24 = .ok (.if_icmp .ne 7, 3) := by decide +kernel
theorem dX4_addUp_27 : decode cX4_addUp 27 = .ok (.iconst 1, 1) := by decide +kernel
theorem dX4_addUp_28 : decode cX4_addUp 28 = .ok (.goto 4, 3) := by decide +kernel
theorem dX4_addUp_31 : decode cX4_addUp 31 = .ok (.iconst 0, 1) := by decide +kernel
theorem dX4_addUp_32 : decode cX4_addUp 32 = .ok (.istore 7, 2) := by decide +kernel
theorem dX4_addUp_34 : decode cX4_addUp 34 = .ok (.iload 7, 2) := by decide +kernel
theorem dX4_addUp_36 : decode cX4_addUp 36 = .ok (.ifCond .eq 26, 3) := by decide +kernel
theorem dX4_addUp_39 : decode cX4_addUp 39 = .ok (.aload_n 0, 1) := by decide +kernel
theorem dX4_addUp_40 : decode cX4_addUp 40 = .ok (.getfield 19, 3) := by decide +kernel
theorem dX4_addUp_43 : decode cX4_addUp 43 = .ok (.iload 6, 2) := by decide +kernel
theorem dX4_addUp_45 : decode cX4_addUp 45 = .ok (.laload, 1) := by decide +kernel
theorem dX4_addUp_46 : decode cX4_addUp 46 = .ok (.lload 4, 2) := by decide +kernel
theorem dX4_addUp_48 : decode cX4_addUp 48 = .ok (.lmul, 1) := by decide +kernel
theorem dX4_addUp_49 : decode cX4_addUp 49 = .ok (.lload_n 2, 1) := by decide +kernel
theorem dX4_addUp_50 : decode cX4_addUp 50 = .ok (.aload_n 0, 1) := by decide +kernel
theorem dX4_addUp_51 : decode cX4_addUp 51 = .ok (.getfield 23, 3) := by decide +kernel
theorem dX4_addUp_54 : decode cX4_addUp 54 = .ok (.iload 6, 2) := by decide +kernel
theorem dX4_addUp_56 : decode cX4_addUp 56 = .ok (.laload, 1) := by decide +kernel
theorem dX4_addUp_57 : decode cX4_addUp 57 = .ok (.lmul, 1) := by decide +kernel
theorem dX4_addUp_58 : decode cX4_addUp 58 = .ok (.ladd, 1) := by decide +kernel
theorem dX4_addUp_59 : decode cX4_addUp 59 = .ok (.goto 4, 3) := by decide +kernel
theorem dX4_addUp_62 : decode cX4_addUp 62 = .ok (.lload_n 2, 1) := by decide +kernel
theorem dX4_addUp_63 : decode cX4_addUp 63 = .ok (.lstore 8, 2) := by decide +kernel
theorem dX4_addUp_65 : decode cX4_addUp 65 = .ok (.iload 7, 2) := by decide +kernel
theorem dX4_addUp_67 : decode cX4_addUp 67 = .ok (.ifCond .eq 16, 3) := by decide +kernel
theorem dX4_addUp_70 : decode cX4_addUp 70 = .ok (.aload_n 0, 1) := by decide +kernel
theorem dX4_addUp_71 : decode cX4_addUp 71 = .ok (.getfield 23, 3) := by decide +kernel
theorem dX4_addUp_74 : decode cX4_addUp 74 = .ok (.iload 6, 2) := by decide +kernel
theorem dX4_addUp_76 : decode cX4_addUp 76 = .ok (.laload, 1) := by decide +kernel
theorem dX4_addUp_77 : decode cX4_addUp 77 = .ok (.lload 4, 2) := by decide +kernel
theorem dX4_addUp_79 : decode cX4_addUp 79 = .ok (.lmul, 1) := by decide +kernel
theorem dX4_addUp_80 : decode cX4_addUp 80 = .ok (.goto 5, 3) := by decide +kernel
theorem dX4_addUp_83 : decode cX4_addUp 83 = .ok (.lload 4, 2) := by decide +kernel
theorem dX4_addUp_85 : decode cX4_addUp 85 = .ok (.lstore 10, 2) := by decide +kernel
theorem dX4_addUp_87 : decode cX4_addUp 87 = .ok (.lload 8, 2) := by decide +kernel
theorem dX4_addUp_89 : decode cX4_addUp 89 = .ok (.lconst 0, 1) := by decide +kernel
theorem dX4_addUp_90 : decode cX4_addUp 90 = .ok (.lcmp, 1) := by decide +kernel
theorem dX4_addUp_91 : decode cX4_addUp 91 = .ok (.ifCond .ne 15, 3) := by decide +kernel
theorem dX4_addUp_94 : decode cX4_addUp 94 = .ok (.iload 7, 2) := by decide +kernel
theorem dX4_addUp_96 : decode cX4_addUp 96 = .ok (.ifCond .eq 9, 3) := by decide +kernel
theorem dX4_addUp_99 : decode cX4_addUp 99 = .ok (.aload_n 0, 1) := by decide +kernel
theorem dX4_addUp_100 : decode cX4_addUp 100 = .ok (.iload 6, 2) := by decide +kernel
theorem dX4_addUp_102 : decode cX4_addUp 102 = .ok (.invokevirtual 49, 3) := by decide +kernel
theorem dX4_addUp_105 : decode cX4_addUp 105 = .ok (.return_, 1) := by decide +kernel
theorem dX4_addUp_106 : decode cX4_addUp 106 = .ok (.iload 7, 2) := by decide +kernel
theorem dX4_addUp_108 : decode cX4_addUp 108 = .ok (.ifCond .ne 18, 3) := by decide +kernel
theorem dX4_addUp_111 : decode cX4_addUp 111 = .ok (.aload_n 0, 1) := by decide +kernel
theorem dX4_addUp_112 : decode cX4_addUp 112 = .ok (.iload 6, 2) := by decide +kernel
theorem dX4_addUp_114 : decode cX4_addUp 114 = .ok (.invokevirtual 53, 3) := by decide +kernel
theorem dX4_addUp_117 : decode cX4_addUp 117 = .ok (.ifCond .ne 9, 3) := by decide +kernel
theorem dX4_addUp_120 : decode cX4_addUp 120 = .ok (.aload_n 0, 1) := by decide +kernel
theorem dX4_addUp_121 : decode cX4_addUp 121 = .ok (.iconst 1, 1) := by decide +kernel
theorem dX4_addUp_122 : decode cX4_addUp 122 = .ok (.putfield 29, 3) := by decide +kernel
theorem dX4_addUp_125 : decode cX4_addUp 125 = .ok (.return_, 1) := by decide +kernel
theorem dX4_addUp_126 : decode cX4_addUp 126 = .ok (.aload_n 0, 1) := by decide +kernel
theorem dX4_addUp_127 : decode cX4_addUp 127 = .ok (.getfield 15, 3) := by decide +kernel
theorem dX4_addUp_130 : decode cX4_addUp 130 = .ok (.iload 6, 2) := by decide +kernel
theorem dX4_addUp_132 : decode cX4_addUp 132 = .ok (.iload_n 1, 1) := by decide +kernel
theorem dX4_addUp_133 : decode cX4_addUp 133 = .ok (.iastore, 1) := by decide +kernel
theorem dX4_addUp_134 : decode cX4_addUp 134 = .ok (.aload_n 0, 1) := by decide +kernel
theorem dX4_addUp_135 : decode cX4_addUp 135 = .ok (.iload 6, 2) := by decide +kernel
theorem dX4_addUp_137 : decode cX4_addUp 137 = .ok (.lload 8, 2) := by decide +kernel
theorem dX4_addUp_139 : decode cX4_addUp 139 = .ok (.lload 10, 2) := by decide +kernel
theorem dX4_addUp_141 : decode cX4_addUp 141 = .ok (.invokevirtual 56, 3) := by decide +kernel
theorem dX4_addUp_144 : decode cX4_addUp 144 = .ok (.return_, 1) := by decide +kernel
theorem dX4_placeFor_0 : decode cX4_placeFor 0 = .ok (.iconst 0, 1) := by decide +kernel
theorem dX4_placeFor_1 : decode cX4_placeFor 1 = .ok (.istore_n 2, 1) := by decide +kernel
theorem dX4_placeFor_2 : decode cX4_placeFor 2 = .ok (.iload_n 2, 1) := by decide +kernel
theorem dX4_placeFor_3 : decode cX4_placeFor 3 = .ok (.aload_n 0, 1) := by decide +kernel
theorem dX4_placeFor_4 : decode cX4_placeFor 4 = .ok (.getfield 26, 3) := by decide +kernel
theorem dX4_placeFor_7 : decode cX4_placeFor 7 = .ok (.if_icmp .ge 19, 3) := by decide +kernel
theorem dX4_placeFor_10 : decode cX4_placeFor 10 = .ok (.aload_n 0, 1) := by decide +kernel
theorem dX4_placeFor_11 : decode cX4_placeFor 11 = .ok (.getfield 15, 3) := by decide +kernel
theorem dX4_placeFor_14 : decode cX4_placeFor 14 = .ok (.iload_n 2, 1) := by decide +kernel
theorem dX4_placeFor_15 : decode cX4_placeFor 15 = .ok (.iaload, 1) := by decide +kernel
theorem dX4_placeFor_16 : decode cX4_placeFor 16 = .ok (.iload_n 1, 1) := by decide +kernel
theorem dX4_placeFor_17 : decode cX4_placeFor 17 = .ok (.if_icmp .ge 9, 3) := by decide +kernel
theorem dX4_placeFor_20 : decode cX4_placeFor 20 = .ok (.iinc 2 1, 3) := by decide +kernel
theorem dX4_placeFor_23 : decode cX4_placeFor 23 = .ok (.goto (-21), 3) := by decide +kernel
theorem dX4_placeFor_26 : decode cX4_placeFor 26 = .ok (.iload_n 2, 1) := by decide +kernel
theorem dX4_placeFor_27 : decode cX4_placeFor 27 = .ok (.ireturn, 1) := by decide +kernel
theorem dX4_openAt_0 : decode cX4_openAt 0 = .ok (.aload_n 0, 1) := by decide +kernel
theorem dX4_openAt_1 : decode cX4_openAt 1 = .ok (.getfield 26, 3) := by decide +kernel
theorem dX4_openAt_4 : decode cX4_openAt 4 = .ok (.aload_n 0, 1) := by decide +kernel
theorem dX4_openAt_5 : decode cX4_openAt 5 = .ok (.getfield 9, 3) := by decide +kernel
theorem dX4_openAt_8 : decode cX4_openAt 8 = .ok (.if_icmp .lt 5, 3) := by decide +kernel
theorem dX4_openAt_11 : decode cX4_openAt 11 = .ok (.iconst 0, 1) := by decide +kernel
theorem dX4_openAt_12 : decode cX4_openAt 12 = .ok (.ireturn, 1) := by decide +kernel
theorem dX4_openAt_13 : decode cX4_openAt 13 = .ok (.aload_n 0, 1) := by decide +kernel
theorem dX4_openAt_14 : decode cX4_openAt 14 = .ok (.getfield 26, 3) := by decide +kernel
theorem dX4_openAt_17 : decode cX4_openAt 17 = .ok (.istore_n 2, 1) := by decide +kernel
theorem dX4_openAt_18 : decode cX4_openAt 18 = .ok (.iload_n 2, 1) := by decide +kernel
theorem dX4_openAt_19 : decode cX4_openAt 19 = .ok (.iload_n 1, 1) := by decide +kernel
theorem dX4_openAt_20 : decode cX4_openAt 20 = .ok (.if_icmp .le 51, 3) := by decide +kernel
theorem dX4_openAt_23 : decode cX4_openAt 23 = .ok (.aload_n 0, 1) := by decide +kernel
theorem dX4_openAt_24 : decode cX4_openAt 24 = .ok (.getfield 15, 3) := by decide +kernel
theorem dX4_openAt_27 : decode cX4_openAt 27 = .ok (.iload_n 2, 1) := by decide +kernel
theorem dX4_openAt_28 : decode cX4_openAt 28 = .ok (.aload_n 0, 1) := by decide +kernel
theorem dX4_openAt_29 : decode cX4_openAt 29 = .ok (.getfield 15, 3) := by decide +kernel
theorem dX4_openAt_32 : decode cX4_openAt 32 = .ok (.iload_n 2, 1) := by decide +kernel
theorem dX4_openAt_33 : decode cX4_openAt 33 = .ok (.iconst 1, 1) := by decide +kernel
theorem dX4_openAt_34 : decode cX4_openAt 34 = .ok (.isub, 1) := by decide +kernel
theorem dX4_openAt_35 : decode cX4_openAt 35 = .ok (.iaload, 1) := by decide +kernel
theorem dX4_openAt_36 : decode cX4_openAt 36 = .ok (.iastore, 1) := by decide +kernel
theorem dX4_openAt_37 : decode cX4_openAt 37 = .ok (.aload_n 0, 1) := by decide +kernel
theorem dX4_openAt_38 : decode cX4_openAt 38 = .ok (.getfield 19, 3) := by decide +kernel
theorem dX4_openAt_41 : decode cX4_openAt 41 = .ok (.iload_n 2, 1) := by decide +kernel
theorem dX4_openAt_42 : decode cX4_openAt 42 = .ok (.aload_n 0, 1) := by decide +kernel
theorem dX4_openAt_43 : decode cX4_openAt 43 = .ok (.getfield 19, 3) := by decide +kernel
theorem dX4_openAt_46 : decode cX4_openAt 46 = .ok (.iload_n 2, 1) := by decide +kernel
theorem dX4_openAt_47 : decode cX4_openAt 47 = .ok (.iconst 1, 1) := by decide +kernel
theorem dX4_openAt_48 : decode cX4_openAt 48 = .ok (.isub, 1) := by decide +kernel
theorem dX4_openAt_49 : decode cX4_openAt 49 = .ok (.laload, 1) := by decide +kernel
theorem dX4_openAt_50 : decode cX4_openAt 50 = .ok (.lastore, 1) := by decide +kernel
theorem dX4_openAt_51 : decode cX4_openAt 51 = .ok (.aload_n 0, 1) := by decide +kernel
theorem dX4_openAt_52 : decode cX4_openAt 52 = .ok (.getfield 23, 3) := by decide +kernel
theorem dX4_openAt_55 : decode cX4_openAt 55 = .ok (.iload_n 2, 1) := by decide +kernel
theorem dX4_openAt_56 : decode cX4_openAt 56 = .ok (.aload_n 0, 1) := by decide +kernel
theorem dX4_openAt_57 : decode cX4_openAt 57 = .ok (.getfield 23, 3) := by decide +kernel
theorem dX4_openAt_60 : decode cX4_openAt 60 = .ok (.iload_n 2, 1) := by decide +kernel
theorem dX4_openAt_61 : decode cX4_openAt 61 = .ok (.iconst 1, 1) := by decide +kernel
theorem dX4_openAt_62 : decode cX4_openAt 62 = .ok (.isub, 1) := by decide +kernel
theorem dX4_openAt_63 : decode cX4_openAt 63 = .ok (.laload, 1) := by decide +kernel
theorem dX4_openAt_64 : decode cX4_openAt 64 = .ok (.lastore, 1) := by decide +kernel
theorem dX4_openAt_65 : decode cX4_openAt 65 = .ok (.iinc 2 (-1), 3) := by decide +kernel
theorem dX4_openAt_68 : decode cX4_openAt 68 = .ok (.goto (-50), 3) := by decide +kernel
theorem dX4_openAt_71 : decode cX4_openAt 71 = .ok (.aload_n 0, 1) := by decide +kernel
theorem dX4_openAt_72 : decode cX4_openAt 72 = .ok (.dup, 1) := by decide +kernel
theorem dX4_openAt_73 : decode cX4_openAt 73 = .ok (.getfield 26, 3) := by decide +kernel
theorem dX4_openAt_76 : decode cX4_openAt 76 = .ok (.iconst 1, 1) := by decide +kernel
theorem dX4_openAt_77 : decode cX4_openAt 77 = .ok (.iadd, 1) := by decide +kernel
theorem dX4_openAt_78 : decode cX4_openAt 78 = .ok (.putfield 26, 3) := by decide +kernel
theorem dX4_openAt_81 : decode cX4_openAt 81 = .ok (.iconst 1, 1) := by decide +kernel
theorem dX4_openAt_82 : decode cX4_openAt 82 = .ok (.ireturn, 1) := by decide +kernel
theorem dX4_closeAt_0 : decode cX4_closeAt 0 = .ok (.iload_n 1, 1) := by decide +kernel
theorem dX4_closeAt_1 : decode cX4_closeAt 1 = .ok (.istore_n 2, 1) := by decide +kernel
theorem dX4_closeAt_2 : decode cX4_closeAt 2 = .ok (.iload_n 2, 1) := by decide +kernel
theorem dX4_closeAt_3 : decode cX4_closeAt 3 = .ok (.iconst 1, 1) := by decide +kernel
theorem dX4_closeAt_4 : decode cX4_closeAt 4 = .ok (.iadd, 1) := by decide +kernel
theorem dX4_closeAt_5 : decode cX4_closeAt 5 = .ok (.aload_n 0, 1) := by decide +kernel
theorem dX4_closeAt_6 : decode cX4_closeAt 6 = .ok (.getfield 26, 3) := by decide +kernel
theorem dX4_closeAt_9 : decode cX4_closeAt 9 = .ok (.if_icmp .ge 51, 3) := by decide +kernel
theorem dX4_closeAt_12 : decode cX4_closeAt 12 = .ok (.aload_n 0, 1) := by decide +kernel
theorem dX4_closeAt_13 : decode cX4_closeAt 13 = .ok (.getfield 15, 3) := by decide +kernel
theorem dX4_closeAt_16 : decode cX4_closeAt 16 = .ok (.iload_n 2, 1) := by decide +kernel
theorem dX4_closeAt_17 : decode cX4_closeAt 17 = .ok (.aload_n 0, 1) := by decide +kernel
theorem dX4_closeAt_18 : decode cX4_closeAt 18 = .ok (.getfield 15, 3) := by decide +kernel
theorem dX4_closeAt_21 : decode cX4_closeAt 21 = .ok (.iload_n 2, 1) := by decide +kernel
theorem dX4_closeAt_22 : decode cX4_closeAt 22 = .ok (.iconst 1, 1) := by decide +kernel
theorem dX4_closeAt_23 : decode cX4_closeAt 23 = .ok (.iadd, 1) := by decide +kernel
theorem dX4_closeAt_24 : decode cX4_closeAt 24 = .ok (.iaload, 1) := by decide +kernel
theorem dX4_closeAt_25 : decode cX4_closeAt 25 = .ok (.iastore, 1) := by decide +kernel
theorem dX4_closeAt_26 : decode cX4_closeAt 26 = .ok (.aload_n 0, 1) := by decide +kernel
theorem dX4_closeAt_27 : decode cX4_closeAt 27 = .ok (.getfield 19, 3) := by decide +kernel
theorem dX4_closeAt_30 : decode cX4_closeAt 30 = .ok (.iload_n 2, 1) := by decide +kernel
theorem dX4_closeAt_31 : decode cX4_closeAt 31 = .ok (.aload_n 0, 1) := by decide +kernel
theorem dX4_closeAt_32 : decode cX4_closeAt 32 = .ok (.getfield 19, 3) := by decide +kernel
theorem dX4_closeAt_35 : decode cX4_closeAt 35 = .ok (.iload_n 2, 1) := by decide +kernel
theorem dX4_closeAt_36 : decode cX4_closeAt 36 = .ok (.iconst 1, 1) := by decide +kernel
theorem dX4_closeAt_37 : decode cX4_closeAt 37 = .ok (.iadd, 1) := by decide +kernel
theorem dX4_closeAt_38 : decode cX4_closeAt 38 = .ok (.laload, 1) := by decide +kernel
theorem dX4_closeAt_39 : decode cX4_closeAt 39 = .ok (.lastore, 1) := by decide +kernel
theorem dX4_closeAt_40 : decode cX4_closeAt 40 = .ok (.aload_n 0, 1) := by decide +kernel
theorem dX4_closeAt_41 : decode cX4_closeAt 41 = .ok (.getfield 23, 3) := by decide +kernel
theorem dX4_closeAt_44 : decode cX4_closeAt 44 = .ok (.iload_n 2, 1) := by decide +kernel
theorem dX4_closeAt_45 : decode cX4_closeAt 45 = .ok (.aload_n 0, 1) := by decide +kernel
theorem dX4_closeAt_46 : decode cX4_closeAt 46 = .ok (.getfield 23, 3) := by decide +kernel
theorem dX4_closeAt_49 : decode cX4_closeAt 49 = .ok (.iload_n 2, 1) := by decide +kernel
theorem dX4_closeAt_50 : decode cX4_closeAt 50 = .ok (.iconst 1, 1) := by decide +kernel
theorem dX4_closeAt_51 : decode cX4_closeAt 51 = .ok (.iadd, 1) := by decide +kernel
theorem dX4_closeAt_52 : decode cX4_closeAt 52 = .ok (.laload, 1) := by decide +kernel
theorem dX4_closeAt_53 : decode cX4_closeAt 53 = .ok (.lastore, 1) := by decide +kernel
theorem dX4_closeAt_54 : decode cX4_closeAt 54 = .ok (.iinc 2 1, 3) := by decide +kernel
theorem dX4_closeAt_57 : decode cX4_closeAt 57 = .ok (.goto (-55), 3) := by decide +kernel
theorem dX4_closeAt_60 : decode cX4_closeAt 60 = .ok (.aload_n 0, 1) := by decide +kernel
theorem dX4_closeAt_61 : decode cX4_closeAt 61 = .ok (.dup, 1) := by decide +kernel
theorem dX4_closeAt_62 : decode cX4_closeAt 62 = .ok (.getfield 26, 3) := by decide +kernel
theorem dX4_closeAt_65 : decode cX4_closeAt 65 = .ok (.iconst 1, 1) := by decide +kernel
theorem dX4_closeAt_66 : decode cX4_closeAt 66 = .ok (.isub, 1) := by decide +kernel
theorem dX4_closeAt_67 : decode cX4_closeAt 67 = .ok (.putfield 26, 3) := by decide +kernel
theorem dX4_closeAt_70 : decode cX4_closeAt 70 = .ok (.return_, 1) := by decide +kernel
theorem dX4_setReduced_0 : decode cX4_setReduced 0 = .ok (.lload_n 2, 1) := by decide +kernel
theorem dX4_setReduced_1 : decode cX4_setReduced 1 = .ok (.invokestatic 59, 3) := by decide +kernel
theorem dX4_setReduced_4 : decode cX4_setReduced 4 = .ok (.lload 4, 2) := by decide +kernel
theorem dX4_setReduced_6 : decode cX4_setReduced 6 = .ok (.invokestatic 59, 3) := by decide +kernel
theorem dX4_setReduced_9 : decode cX4_setReduced 9 = .ok (.invokestatic 65, 3) := by decide +kernel
theorem dX4_setReduced_12 : decode cX4_setReduced 12 = .ok (.lstore 6, 2) := by decide +kernel
theorem dX4_setReduced_14 : decode cX4_setReduced 14 = .ok (.lload 4, 2) := by decide +kernel
theorem dX4_setReduced_16 : decode cX4_setReduced 16 = .ok (.lconst 0, 1) := by decide +kernel
theorem dX4_setReduced_17 : decode cX4_setReduced 17 = .ok (.lcmp, 1) := by decide +kernel
theorem dX4_setReduced_18 : decode cX4_setReduced 18 = .ok (.ifCond .ge 9, 3) := by decide +kernel
theorem dX4_setReduced_21 : decode cX4_setReduced 21 = .ok (.lload 6, 2) := by decide +kernel
theorem dX4_setReduced_23 : decode cX4_setReduced 23 = .ok (.lneg, 1) := by decide +kernel
theorem dX4_setReduced_24 : decode cX4_setReduced 24 = .ok (.goto 5, 3) := by decide +kernel
theorem dX4_setReduced_27 : decode cX4_setReduced 27 = .ok (.lload 6, 2) := by decide +kernel
theorem dX4_setReduced_29 : decode cX4_setReduced 29 = .ok (.lstore 8, 2) := by decide +kernel
theorem dX4_setReduced_31 : decode cX4_setReduced 31 = .ok (.lload 8, 2) := by decide +kernel
theorem dX4_setReduced_33 : decode cX4_setReduced 33 = .ok (.lconst 0, 1) := by decide +kernel
theorem dX4_setReduced_34 : decode cX4_setReduced 34 = .ok (.lcmp, 1) := by decide +kernel
theorem dX4_setReduced_35 : decode cX4_setReduced 35 = .ok (.ifCond .ne 9, 3) := by decide +kernel
theorem dX4_setReduced_38 : decode cX4_setReduced 38 = .ok (.aload_n 0, 1) := by decide +kernel
theorem dX4_setReduced_39 : decode cX4_setReduced 39 = .ok (.iconst 1, 1) := by decide +kernel
theorem dX4_setReduced_40 : decode cX4_setReduced 40 = .ok (.putfield 29, 3) := by decide +kernel
theorem dX4_setReduced_43 : decode cX4_setReduced 43 = .ok (.return_, 1) := by decide +kernel
theorem dX4_setReduced_44 : decode cX4_setReduced 44 = .ok (.aload_n 0, 1) := by decide +kernel
theorem dX4_setReduced_45 : decode cX4_setReduced 45 = .ok (.getfield 19, 3) := by decide +kernel
theorem dX4_setReduced_48 : decode cX4_setReduced 48 = .ok (.iload_n 1, 1) := by decide +kernel
theorem dX4_setReduced_49 : decode cX4_setReduced 49 = .ok (.lload_n 2, 1) := by decide +kernel
theorem dX4_setReduced_50 : decode cX4_setReduced 50 = .ok (.lload 8, 2) := by decide +kernel
theorem dX4_setReduced_52 : decode cX4_setReduced 52 = .ok (.ldiv, 1) := by decide +kernel
theorem dX4_setReduced_53 : decode cX4_setReduced 53 = .ok (.lastore, 1) := by decide +kernel
theorem dX4_setReduced_54 : decode cX4_setReduced 54 = .ok (.aload_n 0, 1) := by decide +kernel
theorem dX4_setReduced_55 : decode cX4_setReduced 55 = .ok (.getfield 23, 3) := by decide +kernel
theorem dX4_setReduced_58 : decode cX4_setReduced 58 = .ok (.iload_n 1, 1) := by decide +kernel
theorem dX4_setReduced_59 : decode cX4_setReduced 59 = .ok (.lload 4, 2) := by decide +kernel
theorem dX4_setReduced_61 : decode cX4_setReduced 61 = .ok (.lload 8, 2) := by decide +kernel
theorem dX4_setReduced_63 : decode cX4_setReduced 63 = .ok (.ldiv, 1) := by decide +kernel
theorem dX4_setReduced_64 : decode cX4_setReduced 64 = .ok (.lastore, 1) := by decide +kernel
theorem dX4_setReduced_65 : decode cX4_setReduced 65 = .ok (.return_, 1) := by decide +kernel
theorem dX4_commonDivisor_0 : decode cX4_commonDivisor 0 = .ok (.iconst 0, 1) := by decide +kernel
theorem dX4_commonDivisor_1 : decode cX4_commonDivisor 1 = .ok (.istore 4, 2) := by decide +kernel
theorem dX4_commonDivisor_3 : decode cX4_commonDivisor 3 = .ok (.iload 4, 2) := by decide +kernel
theorem dX4_commonDivisor_5 : decode cX4_commonDivisor 5 = .ok (.bipush 100, 2) := by decide +kernel
theorem dX4_commonDivisor_7 : decode cX4_commonDivisor 7 = .ok (.if_icmp .ge 25, 3) := by decide +kernel
theorem dX4_commonDivisor_10 : decode cX4_commonDivisor 10 = .ok (.lload_n 2, 1) := by decide +kernel
theorem dX4_commonDivisor_11 : decode cX4_commonDivisor 11 = .ok (.lconst 0, 1) := by decide +kernel
theorem dX4_commonDivisor_12 : decode cX4_commonDivisor 12 = .ok (.lcmp, 1) := by decide +kernel
theorem dX4_commonDivisor_13 : decode cX4_commonDivisor 13 = .ok (.ifCond .eq 19, 3) := by decide +kernel
theorem dX4_commonDivisor_16 : decode cX4_commonDivisor 16 = .ok (.lload_n 0, 1) := by decide +kernel
theorem dX4_commonDivisor_17 : decode cX4_commonDivisor 17 = .ok (.lload_n 2, 1) := by decide +kernel
theorem dX4_commonDivisor_18 : decode cX4_commonDivisor 18 = .ok (.lrem, 1) := by decide +kernel
theorem dX4_commonDivisor_19 : decode cX4_commonDivisor 19 = .ok (.lstore 5, 2) := by decide +kernel
theorem dX4_commonDivisor_21 : decode cX4_commonDivisor 21 = .ok (.lload_n 2, 1) := by decide +kernel
theorem dX4_commonDivisor_22 : decode cX4_commonDivisor 22 = .ok (.lstore_n 0, 1) := by decide +kernel
theorem dX4_commonDivisor_23 : decode cX4_commonDivisor 23 = .ok (.lload 5, 2) := by decide +kernel
theorem dX4_commonDivisor_25 : decode cX4_commonDivisor 25 = .ok (.lstore_n 2, 1) := by decide +kernel
theorem dX4_commonDivisor_26 : decode cX4_commonDivisor 26 = .ok (.iinc 4 1, 3) := by decide +kernel
theorem dX4_commonDivisor_29 : decode cX4_commonDivisor 29 = .ok (.goto (-26), 3) := by decide +kernel
theorem dX4_commonDivisor_32 : decode cX4_commonDivisor 32 = .ok (.lload_n 0, 1) := by decide +kernel
theorem dX4_commonDivisor_33 : decode cX4_commonDivisor 33 = .ok (.lreturn, 1) := by decide +kernel
theorem dX4_fits_0 : decode cX4_fits 0 = .ok (.aload_n 0, 1) := by decide +kernel
theorem dX4_fits_1 : decode cX4_fits 1 = .ok (.getfield 29, 3) := by decide +kernel
theorem dX4_fits_4 : decode cX4_fits 4 = .ok (.ifCond .ne 12, 3) := by decide +kernel
theorem dX4_fits_7 : decode cX4_fits 7 = .ok (.aload_n 0, 1) := by decide +kernel
theorem dX4_fits_8 : decode cX4_fits 8 = .ok (.getfield 26, 3) := by decide +kernel
theorem dX4_fits_11 : decode cX4_fits 11 = .ok (.bipush 40, 2) := by decide +kernel
theorem dX4_fits_13 : decode cX4_fits 13 = .ok (.if_icmp .le 5, 3) := by decide +kernel
theorem dX4_fits_16 : decode cX4_fits 16 = .ok (.iconst 0, 1) := by decide +kernel
theorem dX4_fits_17 : decode cX4_fits 17 = .ok (.ireturn, 1) := by decide +kernel
theorem dX4_fits_18 : decode cX4_fits 18 = .ok (.aload_n 0, 1) := by decide +kernel
theorem dX4_fits_19 : decode cX4_fits 19 = .ok (.ldc2_w 69, 3) := by decide +kernel
theorem dX4_fits_22 : decode cX4_fits 22 = .ok (.ldc2_w 71, 3) := by decide +kernel
theorem dX4_fits_25 : decode cX4_fits 25 = .ok (.bipush 12, 2) := by decide +kernel
theorem dX4_fits_27 : decode cX4_fits 27 = .ok (.bipush 9, 2) := by decide +kernel
theorem dX4_fits_29 : decode cX4_fits 29 = .ok (.invokevirtual 73, 3) := by decide +kernel
theorem dX4_fits_32 : decode cX4_fits 32 = .ok (.ireturn, 1) := by decide +kernel
theorem dX4_isSmall_0 : decode cX4_isSmall 0 = .ok (.aload_n 0, 1) := by decide +kernel
theorem dX4_isSmall_1 : decode cX4_isSmall 1 = .ok (.ldc2_w 77, 3) := by decide +kernel
theorem dX4_isSmall_4 : decode cX4_isSmall 4 = .ok (.ldc2_w 79, 3) := by decide +kernel
theorem dX4_isSmall_7 : decode cX4_isSmall 7 = .ok (.iconst 4, 1) := by decide +kernel
theorem dX4_isSmall_8 : decode cX4_isSmall 8 = .ok (.iconst 3, 1) := by decide +kernel
theorem dX4_isSmall_9 : decode cX4_isSmall 9 = .ok (.invokevirtual 73, 3) := by decide +kernel
theorem dX4_isSmall_12 : decode cX4_isSmall 12 = .ok (.ireturn, 1) := by decide +kernel
theorem dX4_isWithin_0 : decode cX4_isWithin 0 = .ok (.iconst 0, 1) := by decide +kernel
theorem dX4_isWithin_1 : decode cX4_isWithin 1 = .ok (.istore 7, 2) := by decide +kernel
theorem dX4_isWithin_3 : decode cX4_isWithin 3 = .ok (.iload 7, 2) := by decide +kernel
theorem dX4_isWithin_5 : decode cX4_isWithin 5 = .ok (.aload_n 0, 1) := by decide +kernel
theorem dX4_isWithin_6 : decode cX4_isWithin 6 = .ok (.getfield 26, 3) := by decide +kernel
theorem dX4_isWithin_9 : decode cX4_isWithin 9 = .ok (.if_icmp .ge 66, 3) := by decide +kernel
theorem dX4_isWithin_12 : decode cX4_isWithin 12 = .ok (.aload_n 0, 1) := by decide +kernel
theorem dX4_isWithin_13 : decode cX4_isWithin 13 = .ok (.getfield 19, 3) := by decide +kernel
theorem dX4_isWithin_16 : decode cX4_isWithin 16 = .ok (.iload 7, 2) := by decide +kernel
theorem dX4_isWithin_18 : decode cX4_isWithin 18 = .ok (.laload, 1) := by decide +kernel
theorem dX4_isWithin_19 : decode cX4_isWithin 19 = .ok (.invokestatic 59, 3) := by decide +kernel
theorem dX4_isWithin_22 : decode cX4_isWithin 22 = .ok (.lload_n 1, 1) := by decide +kernel
theorem dX4_isWithin_23 : decode cX4_isWithin 23 = .ok (.lcmp, 1) := by decide +kernel
theorem dX4_isWithin_24 : decode cX4_isWithin 24 = .ok (.ifCond .gt 43, 3) := by decide +kernel
theorem dX4_isWithin_27 : decode cX4_isWithin 27 = .ok (.aload_n 0, 1) := by decide +kernel
theorem dX4_isWithin_28 : decode cX4_isWithin 28 = .ok (.getfield 23, 3) := by decide +kernel
theorem dX4_isWithin_31 : decode cX4_isWithin 31 = .ok (.iload 7, 2) := by decide +kernel
theorem dX4_isWithin_33 : decode cX4_isWithin 33 = .ok (.laload, 1) := by decide +kernel
theorem dX4_isWithin_34 : decode cX4_isWithin 34 = .ok (.lload_n 3, 1) := by decide +kernel
theorem dX4_isWithin_35 : decode cX4_isWithin 35 = .ok (.lcmp, 1) := by decide +kernel
theorem dX4_isWithin_36 : decode cX4_isWithin 36 = .ok (.ifCond .gt 31, 3) := by decide +kernel
theorem dX4_isWithin_39 : decode cX4_isWithin 39 = .ok (.aload_n 0, 1) := by decide +kernel
theorem dX4_isWithin_40 : decode cX4_isWithin 40 = .ok (.iload 7, 2) := by decide +kernel
theorem dX4_isWithin_42 : decode cX4_isWithin 42 = .ok (.invokevirtual 81, 3) := by decide +kernel
theorem dX4_isWithin_45 : decode cX4_isWithin 45 = .ok (.invokestatic 84, 3) := by decide +kernel
theorem dX4_isWithin_48 : decode cX4_isWithin 48 = .ok (.iload 5, 2) := by decide +kernel
theorem dX4_isWithin_50 : decode cX4_isWithin 50 = .ok (.if_icmp .gt 17, 3) := by decide +kernel
theorem dX4_isWithin_53 : decode cX4_isWithin 53 = .ok (.aload_n 0, 1) := by decide +kernel
theorem dX4_isWithin_54 : decode cX4_isWithin 54 = .ok (.iload 7, 2) := by decide +kernel
theorem dX4_isWithin_56 : decode cX4_isWithin 56 = .ok (.invokevirtual 86, 3) := by decide +kernel
theorem dX4_isWithin_59 : decode cX4_isWithin 59 = .ok (.invokestatic 84, 3) := by decide +kernel
theorem dX4_isWithin_62 : decode cX4_isWithin 62 = .ok (.iload 6, 2) := by decide +kernel
theorem dX4_isWithin_64 : decode cX4_isWithin 64 = .ok (.if_icmp .le 5, 3) := by decide +kernel
theorem dX4_isWithin_67 : decode cX4_isWithin 67 = .ok (.iconst 0, 1) := by decide +kernel
theorem dX4_isWithin_68 : decode cX4_isWithin 68 = .ok (.ireturn, 1) := by decide +kernel
theorem dX4_isWithin_69 : decode cX4_isWithin 69 = .ok (.iinc 7 1, 3) := by decide +kernel
theorem dX4_isWithin_72 : decode cX4_isWithin 72 = .ok (.goto (-69), 3) := by decide +kernel
theorem dX4_isWithin_75 : decode cX4_isWithin 75 = .ok (.iconst 1, 1) := by decide +kernel
theorem dX4_isWithin_76 : decode cX4_isWithin 76 = .ok (.ireturn, 1) := by decide +kernel
theorem dX4_become_0 : decode cX4_become 0 = .ok (.aload_n 0, 1) := by decide +kernel
theorem dX4_become_1 : decode cX4_become 1 = .ok (.aload_n 1, 1) := by decide +kernel
theorem dX4_become_2 : decode cX4_become 2 = .ok (.getfield 26, 3) := by decide +kernel
theorem dX4_become_5 : decode cX4_become 5 = .ok (.aload_n 0, 1) := by decide +kernel
theorem dX4_become_6 : decode cX4_become 6 = .ok (.getfield 9, 3) := by decide +kernel
theorem dX4_become_9 : decode cX4_become 9 = .ok (.invokestatic 89, 3) := by decide +kernel
theorem dX4_become_12 : decode cX4_become 12 = .ok (.putfield 26, 3) := by decide +kernel
theorem dX4_become_15 : decode cX4_become 15 = .ok (.aload_n 0, 1) := by decide +kernel
theorem dX4_become_16 : decode cX4_become 16 = .ok (.aload_n 1, 1) := by decide +kernel
theorem dX4_become_17 : decode cX4_become 17 = .ok (.getfield 29, 3) := by decide +kernel
theorem dX4_become_20 : decode cX4_become 20 = .ok (.putfield 29, 3) := by decide +kernel
theorem dX4_become_23 : decode cX4_become 23 = .ok (.iconst 0, 1) := by decide +kernel
theorem dX4_become_24 : decode cX4_become 24 = .ok (.istore_n 2, 1) := by decide +kernel
theorem dX4_become_25 : decode cX4_become 25 = .ok (.iload_n 2, 1) := by decide +kernel
theorem dX4_become_26 : decode cX4_become 26 = .ok (.aload_n 0, 1) := by decide +kernel
theorem dX4_become_27 : decode cX4_become 27 = .ok (.getfield 26, 3) := by decide +kernel
theorem dX4_become_30 : decode cX4_become 30 = .ok (.if_icmp .ge 45, 3) := by decide +kernel
theorem dX4_become_33 : decode cX4_become 33 = .ok (.aload_n 0, 1) := by decide +kernel
theorem dX4_become_34 : decode cX4_become 34 = .ok (.getfield 15, 3) := by decide +kernel
theorem dX4_become_37 : decode cX4_become 37 = .ok (.iload_n 2, 1) := by decide +kernel
theorem dX4_become_38 : decode cX4_become 38 = .ok (.aload_n 1, 1) := by decide +kernel
theorem dX4_become_39 : decode cX4_become 39 = .ok (.getfield 15, 3) := by decide +kernel
theorem dX4_become_42 : decode cX4_become 42 = .ok (.iload_n 2, 1) := by decide +kernel
theorem dX4_become_43 : decode cX4_become 43 = .ok (.iaload, 1) := by decide +kernel
theorem dX4_become_44 : decode cX4_become 44 = .ok (.iastore, 1) := by decide +kernel
theorem dX4_become_45 : decode cX4_become 45 = .ok (.aload_n 0, 1) := by decide +kernel
theorem dX4_become_46 : decode cX4_become 46 = .ok (.getfield 19, 3) := by decide +kernel
theorem dX4_become_49 : decode cX4_become 49 = .ok (.iload_n 2, 1) := by decide +kernel
theorem dX4_become_50 : decode cX4_become 50 = .ok (.aload_n 1, 1) := by decide +kernel
theorem dX4_become_51 : decode cX4_become 51 = .ok (.getfield 19, 3) := by decide +kernel
theorem dX4_become_54 : decode cX4_become 54 = .ok (.iload_n 2, 1) := by decide +kernel
theorem dX4_become_55 : decode cX4_become 55 = .ok (.laload, 1) := by decide +kernel
theorem dX4_become_56 : decode cX4_become 56 = .ok (.lastore, 1) := by decide +kernel
theorem dX4_become_57 : decode cX4_become 57 = .ok (.aload_n 0, 1) := by decide +kernel
theorem dX4_become_58 : decode cX4_become 58 = .ok (.getfield 23, 3) := by decide +kernel
theorem dX4_become_61 : decode cX4_become 61 = .ok (.iload_n 2, 1) := by decide +kernel
theorem dX4_become_62 : decode cX4_become 62 = .ok (.aload_n 1, 1) := by decide +kernel
theorem dX4_become_63 : decode cX4_become 63 = .ok (.getfield 23, 3) := by decide +kernel
theorem dX4_become_66 : decode cX4_become 66 = .ok (.iload_n 2, 1) := by decide +kernel
theorem dX4_become_67 : decode cX4_become 67 = .ok (.laload, 1) := by decide +kernel
theorem dX4_become_68 : decode cX4_become 68 = .ok (.lastore, 1) := by decide +kernel
theorem dX4_become_69 : decode cX4_become 69 = .ok (.iinc 2 1, 3) := by decide +kernel
theorem dX4_become_72 : decode cX4_become 72 = .ok (.goto (-47), 3) := by decide +kernel
theorem dX4_become_75 : decode cX4_become 75 = .ok (.return_, 1) := by decide +kernel
theorem dX4_matches_0 : decode cX4_matches 0 = .ok (.aload_n 0, 1) := by decide +kernel
theorem dX4_matches_1 : decode cX4_matches 1 = .ok (.getfield 26, 3) := by decide +kernel
theorem dX4_matches_4 : decode cX4_matches 4 = .ok (.aload_n 1, 1) := by decide +kernel
theorem dX4_matches_5 : decode cX4_matches 5 = .ok (.getfield 26, 3) := by decide +kernel
theorem dX4_matches_8 : decode cX4_matches 8 = .ok (.if_icmp .eq 5, 3) := by decide +kernel
theorem dX4_matches_11 : decode cX4_matches 11 = .ok (.iconst 0, 1) := by decide +kernel
theorem dX4_matches_12 : decode cX4_matches 12 = .ok (.ireturn, 1) := by decide +kernel
theorem dX4_matches_13 : decode cX4_matches 13 = .ok (.iconst 0, 1) := by decide +kernel
theorem dX4_matches_14 : decode cX4_matches 14 = .ok (.istore_n 2, 1) := by decide +kernel
theorem dX4_matches_15 : decode cX4_matches 15 = .ok (.iload_n 2, 1) := by decide +kernel
theorem dX4_matches_16 : decode cX4_matches 16 = .ok (.aload_n 0, 1) := by decide +kernel
theorem dX4_matches_17 : decode cX4_matches 17 = .ok (.getfield 26, 3) := by decide +kernel
theorem dX4_matches_20 : decode cX4_matches 20 = .ok (.if_icmp .ge 58, 3) := by decide +kernel
theorem dX4_matches_23 : decode cX4_matches 23 = .ok (.aload_n 0, 1) := by decide +kernel
theorem dX4_matches_24 : decode cX4_matches 24 = .ok (.getfield 15, 3) := by decide +kernel
theorem dX4_matches_27 : decode cX4_matches 27 = .ok (.iload_n 2, 1) := by decide +kernel
theorem dX4_matches_28 : decode cX4_matches 28 = .ok (.iaload, 1) := by decide +kernel
theorem dX4_matches_29 : decode cX4_matches 29 = .ok (.aload_n 1, 1) := by decide +kernel
theorem dX4_matches_30 : decode cX4_matches 30 = .ok (.getfield 15, 3) := by decide +kernel
theorem dX4_matches_33 : decode cX4_matches 33 = .ok (.iload_n 2, 1) := by decide +kernel
theorem dX4_matches_34 : decode cX4_matches 34 = .ok (.iaload, 1) := by decide +kernel
theorem dX4_matches_35 : decode cX4_matches 35 = .ok (.if_icmp .ne 35, 3) := by decide +kernel
theorem dX4_matches_38 : decode cX4_matches 38 = .ok (.aload_n 0, 1) := by decide +kernel
theorem dX4_matches_39 : decode cX4_matches 39 = .ok (.getfield 19, 3) := by decide +kernel
theorem dX4_matches_42 : decode cX4_matches 42 = .ok (.iload_n 2, 1) := by decide +kernel
theorem dX4_matches_43 : decode cX4_matches 43 = .ok (.laload, 1) := by decide +kernel
theorem dX4_matches_44 : decode cX4_matches 44 = .ok (.aload_n 1, 1) := by decide +kernel
theorem dX4_matches_45 : decode cX4_matches 45 = .ok (.getfield 19, 3) := by decide +kernel
theorem dX4_matches_48 : decode cX4_matches 48 = .ok (.iload_n 2, 1) := by decide +kernel
theorem dX4_matches_49 : decode cX4_matches 49 = .ok (.laload, 1) := by decide +kernel
theorem dX4_matches_50 : decode cX4_matches 50 = .ok (.lcmp, 1) := by decide +kernel
theorem dX4_matches_51 : decode cX4_matches 51 = .ok (.ifCond .ne 19, 3) := by decide +kernel
theorem dX4_matches_54 : decode cX4_matches 54 = .ok (.aload_n 0, 1) := by decide +kernel
theorem dX4_matches_55 : decode cX4_matches 55 = .ok (.getfield 23, 3) := by decide +kernel
theorem dX4_matches_58 : decode cX4_matches 58 = .ok (.iload_n 2, 1) := by decide +kernel
theorem dX4_matches_59 : decode cX4_matches 59 = .ok (.laload, 1) := by decide +kernel
theorem dX4_matches_60 : decode cX4_matches 60 = .ok (.aload_n 1, 1) := by decide +kernel
theorem dX4_matches_61 : decode cX4_matches 61 = .ok (.getfield 23, 3) := by decide +kernel
theorem dX4_matches_64 : decode cX4_matches 64 = .ok (.iload_n 2, 1) := by decide +kernel
theorem dX4_matches_65 : decode cX4_matches 65 = .ok (.laload, 1) := by decide +kernel
theorem dX4_matches_66 : decode cX4_matches 66 = .ok (.lcmp, 1) := by decide +kernel
theorem dX4_matches_67 : decode cX4_matches 67 = .ok (.ifCond .eq 5, 3) := by decide +kernel
theorem dX4_matches_70 : decode cX4_matches 70 = .ok (.iconst 0, 1) := by decide +kernel
theorem dX4_matches_71 : decode cX4_matches 71 = .ok (.ireturn, 1) := by decide +kernel
theorem dX4_matches_72 : decode cX4_matches 72 = .ok (.iinc 2 1, 3) := by decide +kernel
theorem dX4_matches_75 : decode cX4_matches 75 = .ok (.goto (-60), 3) := by decide +kernel
theorem dX4_matches_78 : decode cX4_matches 78 = .ok (.iconst 1, 1) := by decide +kernel
theorem dX4_matches_79 : decode cX4_matches 79 = .ok (.ireturn, 1) := by decide +kernel
theorem dX5_init_0 : decode cX5_init 0 = .ok (.aload_n 0, 1) := by decide +kernel
theorem dX5_init_1 : decode cX5_init 1 = .ok (.invokespecial 3, 3) := by decide +kernel
theorem dX5_init_4 : decode cX5_init 4 = .ok (.aload_n 0, 1) := by decide +kernel
theorem dX5_init_5 : decode cX5_init 5 = .ok (.sipush 1200, 3) := by decide +kernel
theorem dX5_init_8 : decode cX5_init 8 = .ok (.newarray .char, 2) := by decide +kernel
theorem dX5_init_10 : decode cX5_init 10 = .ok (.putfield 9, 3) := by decide +kernel
theorem dX5_init_13 : decode cX5_init 13 = .ok (.aload_n 0, 1) := by decide +kernel
theorem dX5_init_14 : decode cX5_init 14 = .ok (.iconst 0, 1) := by decide +kernel
theorem dX5_init_15 : decode cX5_init 15 = .ok (.putfield 15, 3) := by decide +kernel
theorem dX5_init_18 : decode cX5_init 18 = .ok (.return_, 1) := by decide +kernel
theorem dX5_length_0 : decode cX5_length 0 = .ok (.aload_n 0, 1) := by decide +kernel
theorem dX5_length_1 : decode cX5_length 1 = .ok (.getfield 15, 3) := by decide +kernel
theorem dX5_length_4 : decode cX5_length 4 = .ok (.ireturn, 1) := by decide +kernel
theorem dX5_charAt_0 : decode cX5_charAt 0 = .ok (.iload_n 1, 1) := by decide +kernel
theorem dX5_charAt_1 : decode cX5_charAt 1 = .ok (.ifCond .lt 20, 3) := by decide +kernel
theorem dX5_charAt_4 : decode cX5_charAt 4 = .ok (.iload_n 1, 1) := by decide +kernel
theorem dX5_charAt_5 : decode cX5_charAt 5 = .ok (.aload_n 0, 1) := by decide +kernel
theorem dX5_charAt_6 : decode cX5_charAt 6 = .ok (.getfield 15, 3) := by decide +kernel
theorem dX5_charAt_9 : decode cX5_charAt 9 = .ok (.if_icmp .ge 12, 3) := by decide +kernel
theorem dX5_charAt_12 : decode cX5_charAt 12 = .ok (.aload_n 0, 1) := by decide +kernel
theorem dX5_charAt_13 : decode cX5_charAt 13 = .ok (.getfield 9, 3) := by decide +kernel
theorem dX5_charAt_16 : decode cX5_charAt 16 = .ok (.iload_n 1, 1) := by decide +kernel
theorem dX5_charAt_17 : decode cX5_charAt 17 = .ok (.caload, 1) := by decide +kernel
theorem dX5_charAt_18 : decode cX5_charAt 18 = .ok (.goto 5, 3) := by decide +kernel
theorem dX5_charAt_21 : decode cX5_charAt 21 = .ok (.bipush 32, 2) := by decide +kernel
theorem dX5_charAt_23 : decode cX5_charAt 23 = .ok (.ireturn, 1) := by decide +kernel
theorem dX5_writeSum_0 : decode cX5_writeSum 0 = .ok (.aload_n 0, 1) := by decide +kernel
theorem dX5_writeSum_1 : decode cX5_writeSum 1 = .ok (.iconst 0, 1) := by decide +kernel
theorem dX5_writeSum_2 : decode cX5_writeSum 2 = .ok (.putfield 15, 3) := by decide +kernel
theorem dX5_writeSum_5 : decode cX5_writeSum 5 = .ok (.iconst 0, 1) := by decide +kernel
theorem dX5_writeSum_6 : decode cX5_writeSum 6 = .ok (.istore_n 2, 1) := by decide +kernel
theorem dX5_writeSum_7 : decode cX5_writeSum 7 = .ok (.iload_n 2, 1) := by decide +kernel
theorem dX5_writeSum_8 : decode cX5_writeSum 8 = .ok (.aload_n 1, 1) := by decide +kernel
theorem dX5_writeSum_9 : decode cX5_writeSum 9 = .ok (.invokevirtual 19, 3) := by decide +kernel
theorem dX5_writeSum_12 : decode cX5_writeSum 12 = .ok (.if_icmp .ge 15, 3) := by decide +kernel
theorem dX5_writeSum_15 : decode cX5_writeSum 15 = .ok (.aload_n 0, 1) := by decide +kernel
theorem dX5_writeSum_16 : decode cX5_writeSum 16 = .ok (.aload_n 1, 1) := by decide +kernel
theorem dX5_writeSum_17 : decode cX5_writeSum 17 = .ok (.iload_n 2, 1) := by decide +kernel
theorem dX5_writeSum_18 : decode cX5_writeSum 18 = .ok (.invokevirtual 25, 3) := by decide +kernel
theorem dX5_writeSum_21 : decode cX5_writeSum 21 = .ok (.iinc 2 1, 3) := by decide +kernel
theorem dX5_writeSum_24 : decode cX5_writeSum 24 = .ok (.goto (-17), 3) := by decide +kernel
theorem dX5_writeSum_27 : decode cX5_writeSum 27 = .ok (.aload_n 0, 1) := by decide +kernel
theorem dX5_writeSum_28 : decode cX5_writeSum 28 = .ok (.getfield 15, 3) := by decide +kernel
theorem dX5_writeSum_31 : decode cX5_writeSum 31 = .ok (.ifCond .ne 9, 3) := by decide +kernel
theorem dX5_writeSum_34 : decode cX5_writeSum 34 = .ok (.aload_n 0, 1) := by decide +kernel
theorem dX5_writeSum_35 : decode cX5_writeSum 35 = .ok (.bipush 48, 2) := by decide +kernel
theorem dX5_writeSum_37 : decode cX5_writeSum 37 = .ok (.invokevirtual 29, 3) := by decide +kernel
theorem dX5_writeSum_40 : decode cX5_writeSum 40 = .ok (.return_, 1) := by decide +kernel
theorem dX5_writeTerm_0 : decode cX5_writeTerm 0 = .ok (.aload_n 1, 1) := by decide +kernel
theorem dX5_writeTerm_1 : decode cX5_writeTerm 1 = .ok (.iload_n 2, 1) := by decide +kernel
theorem dX5_writeTerm_2 : decode cX5_writeTerm 2 = .ok (.invokevirtual 33, 3) := by decide +kernel
theorem dX5_writeTerm_5 : decode cX5_writeTerm 5 = .ok (.lconst 0, 1) := by decide +kernel
theorem dX5_writeTerm_6 : decode cX5_writeTerm 6 = .ok (.lcmp, 1) := by decide +kernel
theorem dX5_writeTerm_7 : decode cX5_writeTerm 7 = .ok (.ifCond .ge 12, 3) := by decide +kernel
theorem dX5_writeTerm_10 : decode cX5_writeTerm 10 = .ok (.aload_n 0, 1) := by decide +kernel
theorem dX5_writeTerm_11 : decode cX5_writeTerm 11 = .ok (.bipush 45, 2) := by decide +kernel
theorem dX5_writeTerm_13 : decode cX5_writeTerm 13 = .ok (.invokevirtual 29, 3) := by decide +kernel
theorem dX5_writeTerm_16 : decode cX5_writeTerm 16 = .ok (.goto 13, 3) := by decide +kernel
theorem dX5_writeTerm_19 : decode cX5_writeTerm 19 = .ok (.iload_n 2, 1) := by decide +kernel
theorem dX5_writeTerm_20 : decode cX5_writeTerm 20 = .ok (.ifCond .le 9, 3) := by decide +kernel
theorem dX5_writeTerm_23 : decode cX5_writeTerm 23 = .ok (.aload_n 0, 1) := by decide +kernel
theorem dX5_writeTerm_24 : decode cX5_writeTerm 24 = .ok (.bipush 43, 2) := by decide +kernel
theorem dX5_writeTerm_26 : decode cX5_writeTerm 26 = .ok (.invokevirtual 29, 3) := by decide +kernel
theorem dX5_writeTerm_29 : decode cX5_writeTerm 29 = .ok (.aload_n 1, 1) := by decide +kernel
theorem dX5_writeTerm_30 : decode cX5_writeTerm 30 = .ok (.iload_n 2, 1) := by decide +kernel
theorem dX5_writeTerm_31 : decode cX5_writeTerm 31 = .ok (.invokevirtual 37, 3) := by decide +kernel
theorem dX5_writeTerm_34 : decode cX5_writeTerm 34 = .ok (.ifCond .ne 15, 3) := by decide +kernel
theorem dX5_writeTerm_37 : decode cX5_writeTerm 37 = .ok (.aload_n 1, 1) := by decide +kernel
theorem dX5_writeTerm_38 : decode cX5_writeTerm 38 = .ok (.iload_n 2, 1) := by decide +kernel
theorem dX5_writeTerm_39 : decode cX5_writeTerm 39 = .ok (.invokevirtual 41, 3) := by decide +kernel
theorem dX5_writeTerm_42 : decode cX5_writeTerm 42 = .ok (.ifCond .ne 7, 3) := by decide +kernel
theorem dX5_writeTerm_45 : decode cX5_writeTerm 45 = .ok (.iconst 1, 1) := by decide +kernel
theorem dX5_writeTerm_46 : decode cX5_writeTerm 46 = .ok (.goto 4, 3) := by decide +kernel
theorem dX5_writeTerm_49 : decode cX5_writeTerm 49 = .ok (.iconst 0, 1) := by decide +kernel
theorem dX5_writeTerm_50 : decode cX5_writeTerm 50 = .ok (.istore_n 3, 1) := by decide +kernel
theorem dX5_writeTerm_51 : decode cX5_writeTerm 51 = .ok (.aload_n 0, 1) := by decide +kernel
theorem dX5_writeTerm_52 : decode cX5_writeTerm 52 = .ok (.aload_n 1, 1) := by decide +kernel
theorem dX5_writeTerm_53 : decode cX5_writeTerm 53 = .ok (.iload_n 2, 1) := by decide +kernel
theorem dX5_writeTerm_54 : decode cX5_writeTerm 54 = .ok (.invokevirtual 33, 3) := by decide +kernel
theorem dX5_writeTerm_57 : decode cX5_writeTerm 57 = .ok (.invokestatic 44, 3) := by decide +kernel
theorem dX5_writeTerm_60 : decode cX5_writeTerm 60 = .ok (.aload_n 1, 1) := by decide +kernel
theorem dX5_writeTerm_61 : decode cX5_writeTerm 61 = .ok (.iload_n 2, 1) := by decide +kernel
theorem dX5_writeTerm_62 : decode cX5_writeTerm 62 = .ok (.invokevirtual 50, 3) := by decide +kernel
theorem dX5_writeTerm_65 : decode cX5_writeTerm 65 = .ok (.iload_n 3, 1) := by decide +kernel
theorem dX5_writeTerm_66 : decode cX5_writeTerm 66 = .ok (.invokevirtual 53, 3) := by decide +kernel
theorem dX5_writeTerm_69 : decode cX5_writeTerm 69 = .ok (.aload_n 0, 1) := by decide +kernel
theorem dX5_writeTerm_70 : decode cX5_writeTerm 70 = .ok (.aload_n 1, 1) := by decide +kernel
theorem dX5_writeTerm_71 : decode cX5_writeTerm 71 = .ok (.iload_n 2, 1) := by decide +kernel
theorem dX5_writeTerm_72 : decode cX5_writeTerm 72 = .ok (.invokevirtual 41, 3) := by decide +kernel
theorem dX5_writeTerm_75 : decode cX5_writeTerm 75 = .ok (.invokevirtual 57, 3) := by decide +kernel
theorem dX5_writeTerm_78 : decode cX5_writeTerm 78 = .ok (.aload_n 0, 1) := by decide +kernel
theorem dX5_writeTerm_79 : decode cX5_writeTerm 79 = .ok (.aload_n 1, 1) := by decide +kernel
theorem dX5_writeTerm_80 : decode cX5_writeTerm 80 = .ok (.iload_n 2, 1) := by decide +kernel
theorem dX5_writeTerm_81 : decode cX5_writeTerm 81 = .ok (.invokevirtual 37, 3) := by decide +kernel
theorem dX5_writeTerm_84 : decode cX5_writeTerm 84 = .ok (.aload_n 1, 1) := by decide +kernel
theorem dX5_writeTerm_85 : decode cX5_writeTerm 85 = .ok (.iload_n 2, 1) := by decide +kernel
theorem dX5_writeTerm_86 : decode cX5_writeTerm 86 = .ok (.invokevirtual 61, 3) := by decide +kernel
theorem dX5_writeTerm_89 : decode cX5_writeTerm 89 = .ok (.invokevirtual 64, 3) := by decide +kernel
theorem dX5_writeTerm_92 : decode cX5_writeTerm 92 = .ok (.return_, 1) := by decide +kernel
theorem dX5_writeCoefficient_0 : decode cX5_writeCoefficient 0 = .ok (.iload 5, 2) := by decide +kernel
theorem dX5_writeCoefficient_2 : decode cX5_writeCoefficient 2 = .ok (.ifCond .ne 15, 3) := by decide +kernel
theorem dX5_writeCoefficient_5 : decode cX5_writeCoefficient 5 = .ok (.lload_n 1, 1) := by decide +kernel
theorem dX5_writeCoefficient_6 : decode cX5_writeCoefficient 6 = .ok (.lconst 1, 1) := by decide +kernel
theorem dX5_writeCoefficient_7 : decode cX5_writeCoefficient 7 = .ok (.lcmp, 1) := by decide +kernel
theorem dX5_writeCoefficient_8 : decode cX5_writeCoefficient 8 = .ok (.ifCond .ne 9, 3) := by decide +kernel
theorem dX5_writeCoefficient_11 : decode cX5_writeCoefficient 11 = .ok (.lload_n 3, 1) := by decide +kernel
theorem dX5_writeCoefficient_12 : decode cX5_writeCoefficient 12 = .ok (.lconst 1, 1) := by decide +kernel
theorem dX5_writeCoefficient_13 : decode cX5_writeCoefficient 13 = .ok (.lcmp, 1) := by decide +kernel
theorem dX5_writeCoefficient_14 : decode cX5_writeCoefficient 14 = .ok (.ifCond .eq 8, 3) := by decide +kernel
theorem dX5_writeCoefficient_17 : decode cX5_writeCoefficient 17 = .ok (.aload_n 0, 1) := by decide +kernel
theorem dX5_writeCoefficient_18 : decode cX5_writeCoefficient 18 = .ok (.lload_n 1, 1) := by decide +kernel
theorem dX5_writeCoefficient_19 : decode cX5_writeCoefficient 19 = .ok (.invokevirtual 68, 3) := by decide +kernel
theorem dX5_writeCoefficient_22 : decode cX5_writeCoefficient 22 = .ok (.lload_n 3, 1) := by decide +kernel
theorem dX5_writeCoefficient_23 : decode cX5_writeCoefficient 23 = .ok (.lconst 1, 1) := by decide +kernel
theorem dX5_writeCoefficient_24 : decode cX5_writeCoefficient 24 = .ok (.lcmp, 1) := by decide +kernel
theorem dX5_writeCoefficient_25 : decode cX5_writeCoefficient 25 = .ok (.ifCond .eq 14, 3) := by decide +kernel
theorem dX5_writeCoefficient_28 : decode cX5_writeCoefficient 28 = .ok (.aload_n 0, 1) := by decide +kernel
theorem dX5_writeCoefficient_29 : decode cX5_writeCoefficient 29 = .ok (.bipush 47, 2) := by decide +kernel
theorem dX5_writeCoefficient_31 : decode cX5_writeCoefficient 31 = .ok (.invokevirtual 29, 3) := by decide +kernel
theorem dX5_writeCoefficient_34 : decode cX5_writeCoefficient 34 = .ok (.aload_n 0, 1) := by decide +kernel
theorem dX5_writeCoefficient_35 : decode cX5_writeCoefficient 35 = .ok (.lload_n 3, 1) := by decide +kernel
theorem dX5_writeCoefficient_36 : decode cX5_writeCoefficient 36 = .ok (.invokevirtual 68, 3) := by decide +kernel
theorem dX5_writeCoefficient_39 : decode cX5_writeCoefficient 39 = .ok (.return_, 1) := by decide +kernel
theorem dX5_writePower_0 : decode cX5_writePower 0 = .ok (.iload_n 1, 1) := by decide +kernel
theorem dX5_writePower_1 : decode cX5_writePower 1 = .ok (.ifCond .eq 14, 3) := by decide +kernel
theorem dX5_writePower_4 : decode cX5_writePower 4 = .ok (.aload_n 0, 1) := by decide +kernel
theorem dX5_writePower_5 : decode cX5_writePower 5 = .ok (.bipush 120, 2) := by decide +kernel
theorem dX5_writePower_7 : decode cX5_writePower 7 = .ok (.invokevirtual 29, 3) := by decide +kernel
theorem dX5_writePower_10 : decode cX5_writePower 10 = .ok (.aload_n 0, 1) := by decide +kernel
theorem dX5_writePower_11 : decode cX5_writePower 11 = .ok (.iload_n 1, 1) := by decide +kernel
theorem dX5_writePower_12 : decode cX5_writePower 12 = .ok (.invokevirtual 72, 3) := by decide +kernel
theorem dX5_writePower_15 : decode cX5_writePower 15 = .ok (.return_, 1) := by decide +kernel
theorem dX5_writeExponent_0 : decode cX5_writeExponent 0 = .ok (.iload_n 1, 1) := by decide +kernel
theorem dX5_writeExponent_1 : decode cX5_writeExponent 1 = .ok (.iconst 1, 1) := by decide +kernel
theorem dX5_writeExponent_2 : decode cX5_writeExponent 2 = .ok (.if_icmp .eq 15, 3) := by decide +kernel
theorem dX5_writeExponent_5 : decode cX5_writeExponent 5 = .ok (.aload_n 0, 1) := by decide +kernel
theorem dX5_writeExponent_6 : decode cX5_writeExponent 6 = .ok (.bipush 94, 2) := by decide +kernel
theorem dX5_writeExponent_8 : decode cX5_writeExponent 8 = .ok (.invokevirtual 29, 3) := by decide +kernel
theorem dX5_writeExponent_11 : decode cX5_writeExponent 11 = .ok (.aload_n 0, 1) := by decide +kernel
theorem dX5_writeExponent_12 : decode cX5_writeExponent 12 = .ok (.iload_n 1, 1) := by decide +kernel
theorem dX5_writeExponent_13 : decode cX5_writeExponent 13 = .ok (.i2l, 1) := by decide +kernel
theorem dX5_writeExponent_14 : decode cX5_writeExponent 14 = .ok (.invokevirtual 68, 3) := by decide +kernel
theorem dX5_writeExponent_17 : decode cX5_writeExponent 17 = .ok (.return_, 1) := by decide +kernel
theorem dX5_writeFunction_0 : decode cX5_writeFunction 0 = .ok (.iload_n 1, 1) := by decide +kernel
theorem dX5_writeFunction_1 : decode cX5_writeFunction 1 = .ok (.tableswitch 87 1 4 #[31, 45, 59, 73], 31) := by decide +kernel
theorem dX5_writeFunction_32 : decode cX5_writeFunction 32 = .ok (.aload_n 0, 1) := by decide +kernel
theorem dX5_writeFunction_33 : decode cX5_writeFunction 33 = .ok (.bipush 108, 2) := by decide +kernel
theorem dX5_writeFunction_35 : decode cX5_writeFunction 35 = .ok (.invokevirtual 29, 3) := by decide +kernel
theorem dX5_writeFunction_38 : decode cX5_writeFunction 38 = .ok (.aload_n 0, 1) := by decide +kernel
theorem dX5_writeFunction_39 : decode cX5_writeFunction 39 = .ok (.iload_n 2, 1) := by decide +kernel
theorem dX5_writeFunction_40 : decode cX5_writeFunction 40 = .ok (.invokevirtual 72, 3) := by decide +kernel
theorem dX5_writeFunction_43 : decode cX5_writeFunction 43 = .ok (.goto 45, 3) := by decide +kernel
theorem dX5_writeFunction_46 : decode cX5_writeFunction 46 = .ok (.aload_n 0, 1) := by decide +kernel
theorem dX5_writeFunction_47 : decode cX5_writeFunction 47 = .ok (.bipush 101, 2) := by decide +kernel
theorem dX5_writeFunction_49 : decode cX5_writeFunction 49 = .ok (.invokevirtual 29, 3) := by decide +kernel
theorem dX5_writeFunction_52 : decode cX5_writeFunction 52 = .ok (.aload_n 0, 1) := by decide +kernel
theorem dX5_writeFunction_53 : decode cX5_writeFunction 53 = .ok (.iload_n 2, 1) := by decide +kernel
theorem dX5_writeFunction_54 : decode cX5_writeFunction 54 = .ok (.invokevirtual 75, 3) := by decide +kernel
theorem dX5_writeFunction_57 : decode cX5_writeFunction 57 = .ok (.goto 31, 3) := by decide +kernel
theorem dX5_writeFunction_60 : decode cX5_writeFunction 60 = .ok (.aload_n 0, 1) := by decide +kernel
theorem dX5_writeFunction_61 : decode cX5_writeFunction 61 = .ok (.bipush 115, 2) := by decide +kernel
theorem dX5_writeFunction_63 : decode cX5_writeFunction 63 = .ok (.invokevirtual 29, 3) := by decide +kernel
theorem dX5_writeFunction_66 : decode cX5_writeFunction 66 = .ok (.aload_n 0, 1) := by decide +kernel
theorem dX5_writeFunction_67 : decode cX5_writeFunction 67 = .ok (.iload_n 2, 1) := by decide +kernel
theorem dX5_writeFunction_68 : decode cX5_writeFunction 68 = .ok (.invokevirtual 75, 3) := by decide +kernel
theorem dX5_writeFunction_71 : decode cX5_writeFunction 71 = .ok (.goto 17, 3) := by decide +kernel
theorem dX5_writeFunction_74 : decode cX5_writeFunction 74 = .ok (.aload_n 0, 1) := by decide +kernel
theorem dX5_writeFunction_75 : decode cX5_writeFunction 75 = .ok (.bipush 99, 2) := by decide +kernel
theorem dX5_writeFunction_77 : decode cX5_writeFunction 77 = .ok (.invokevirtual 29, 3) := by decide +kernel
theorem dX5_writeFunction_80 : decode cX5_writeFunction 80 = .ok (.aload_n 0, 1) := by decide +kernel
theorem dX5_writeFunction_81 : decode cX5_writeFunction 81 = .ok (.iload_n 2, 1) := by decide +kernel
theorem dX5_writeFunction_82 : decode cX5_writeFunction 82 = .ok (.invokevirtual 75, 3) := by decide +kernel
theorem dX5_writeFunction_85 : decode cX5_writeFunction 85 = .ok (.goto 3, 3) := by decide +kernel
theorem dX5_writeFunction_88 : decode cX5_writeFunction 88 = .ok (.return_, 1) := by decide +kernel
theorem dX5_writeMultiple_0 : decode cX5_writeMultiple 0 = .ok (.aload_n 0, 1) := by decide +kernel
theorem dX5_writeMultiple_1 : decode cX5_writeMultiple 1 = .ok (.bipush 40, 2) := by decide +kernel
theorem dX5_writeMultiple_3 : decode cX5_writeMultiple 3 = .ok (.invokevirtual 29, 3) := by decide +kernel
theorem dX5_writeMultiple_6 : decode cX5_writeMultiple 6 = .ok (.iload_n 1, 1) := by decide +kernel
theorem dX5_writeMultiple_7 : decode cX5_writeMultiple 7 = .ok (.iconst (-1), 1) := by decide +kernel
theorem dX5_writeMultiple_8 : decode cX5_writeMultiple 8 = .ok (.if_icmp .ne 12, 3) := by decide +kernel
theorem dX5_writeMultiple_11 : decode cX5_writeMultiple 11 = .ok (.aload_n 0, 1) := by decide +kernel
theorem dX5_writeMultiple_12 : decode cX5_writeMultiple 12 = .ok (.bipush 45, 2) := by decide +kernel
theorem dX5_writeMultiple_14 : decode cX5_writeMultiple 14 = .ok (.invokevirtual 29, 3) := by decide +kernel
theorem dX5_writeMultiple_17 : decode cX5_writeMultiple 17 = .ok (.goto 14, 3) := by decide +kernel
theorem dX5_writeMultiple_20 : decode cX5_writeMultiple 20 = .ok (.iload_n 1, 1) := by decide +kernel
theorem dX5_writeMultiple_21 : decode cX5_writeMultiple 21 = .ok (.iconst 1, 1) := by decide +kernel
theorem dX5_writeMultiple_22 : decode cX5_writeMultiple 22 = .ok (.if_icmp .eq 9, 3) := by decide +kernel
theorem dX5_writeMultiple_25 : decode cX5_writeMultiple 25 = .ok (.aload_n 0, 1) := by decide +kernel
theorem dX5_writeMultiple_26 : decode cX5_writeMultiple 26 = .ok (.iload_n 1, 1) := by decide +kernel
theorem dX5_writeMultiple_27 : decode cX5_writeMultiple 27 = .ok (.i2l, 1) := by decide +kernel
theorem dX5_writeMultiple_28 : decode cX5_writeMultiple 28 = .ok (.invokevirtual 68, 3) := by decide +kernel
theorem dX5_writeMultiple_31 : decode cX5_writeMultiple 31 = .ok (.aload_n 0, 1) := by decide +kernel
theorem dX5_writeMultiple_32 : decode cX5_writeMultiple 32 = .ok (.bipush 120, 2) := by decide +kernel
theorem dX5_writeMultiple_34 : decode cX5_writeMultiple 34 = .ok (.invokevirtual 29, 3) := by decide +kernel
theorem dX5_writeMultiple_37 : decode cX5_writeMultiple 37 = .ok (.aload_n 0, 1) := by decide +kernel
theorem dX5_writeMultiple_38 : decode cX5_writeMultiple 38 = .ok (.bipush 41, 2) := by decide +kernel
theorem dX5_writeMultiple_40 : decode cX5_writeMultiple 40 = .ok (.invokevirtual 29, 3) := by decide +kernel
theorem dX5_writeMultiple_43 : decode cX5_writeMultiple 43 = .ok (.return_, 1) := by decide +kernel
theorem dX5_writeNumber_0 : decode cX5_writeNumber 0 = .ok (.lload_n 1, 1) := by decide +kernel
theorem dX5_writeNumber_1 : decode cX5_writeNumber 1 = .ok (.lconst 0, 1) := by decide +kernel
theorem dX5_writeNumber_2 : decode cX5_writeNumber 2 = .ok (.lcmp, 1) := by decide +kernel
theorem dX5_writeNumber_3 : decode cX5_writeNumber 3 = .ok (.ifCond .ge 9, 3) := by decide +kernel
theorem dX5_writeNumber_6 : decode cX5_writeNumber 6 = .ok (.aload_n 0, 1) := by decide +kernel
theorem dX5_writeNumber_7 : decode cX5_writeNumber 7 = .ok (.bipush 45, 2) := by decide +kernel
theorem dX5_writeNumber_9 : decode cX5_writeNumber 9 = .ok (.invokevirtual 29, 3) := by decide +kernel
theorem dX5_writeNumber_12 : decode cX5_writeNumber 12 = .ok (.lload_n 1, 1) := by decide +kernel
theorem dX5_writeNumber_13 : decode cX5_writeNumber 13 = .ok (.invokestatic 44, 3) := by decide +kernel
theorem dX5_writeNumber_16 : decode cX5_writeNumber 16 = .ok (.lstore_n 3, 1) := by decide +kernel
theorem dX5_writeNumber_17 : decode cX5_writeNumber 17 = .ok (.iconst 0, 1) := by decide +kernel
theorem dX5_writeNumber_18 : decode cX5_writeNumber 18 = .ok (.istore 5, 2) := by decide +kernel
theorem dX5_writeNumber_20 : decode cX5_writeNumber 20 = .ok (.ldc2_w 78, 3) := by decide +kernel
theorem dX5_writeNumber_23 : decode cX5_writeNumber 23 = .ok (.lstore 6, 2) := by decide +kernel
theorem dX5_writeNumber_25 : decode cX5_writeNumber 25 = .ok (.lload 6, 2) := by decide +kernel
theorem dX5_writeNumber_27 : decode cX5_writeNumber 27 = .ok (.lconst 0, 1) := by decide +kernel
theorem dX5_writeNumber_28 : decode cX5_writeNumber 28 = .ok (.lcmp, 1) := by decide +kernel
theorem dX5_writeNumber_29 : decode cX5_writeNumber 29 = .ok (.ifCond .le 63, 3) := by decide +kernel
theorem dX5_writeNumber_32 : decode cX5_writeNumber 32 = .ok (.iload 5, 2) := by decide +kernel
theorem dX5_writeNumber_34 : decode cX5_writeNumber 34 = .ok (.ifCond .ne 17, 3) := by decide +kernel
theorem dX5_writeNumber_37 : decode cX5_writeNumber 37 = .ok (.lload_n 3, 1) := by decide +kernel
theorem dX5_writeNumber_38 : decode cX5_writeNumber 38 = .ok (.lload 6, 2) := by decide +kernel
theorem dX5_writeNumber_40 : decode cX5_writeNumber 40 = .ok (.lcmp, 1) := by decide +kernel
theorem dX5_writeNumber_41 : decode cX5_writeNumber 41 = .ok (.ifCond .ge 10, 3) := by decide +kernel
theorem dX5_writeNumber_44 : decode cX5_writeNumber 44 = .ok (.lload 6, 2) := by decide +kernel
theorem dX5_writeNumber_46 : decode cX5_writeNumber 46 = .ok (.lconst 1, 1) := by decide +kernel
theorem dX5_writeNumber_47 : decode cX5_writeNumber 47 = .ok (.lcmp, 1) := by decide +kernel
theorem dX5_writeNumber_48 : decode cX5_writeNumber 48 = .ok (.ifCond .ne 7, 3) := by decide +kernel
theorem dX5_writeNumber_51 : decode cX5_writeNumber 51 = .ok (.iconst 1, 1) := by decide +kernel
theorem dX5_writeNumber_52 : decode cX5_writeNumber 52 = .ok (.goto 4, 3) := by decide +kernel
theorem dX5_writeNumber_55 : decode cX5_writeNumber 55 = .ok (.iconst 0, 1) := by decide +kernel
theorem dX5_writeNumber_56 : decode cX5_writeNumber 56 = .ok (.istore 5, 2) := by decide +kernel
theorem dX5_writeNumber_58 : decode cX5_writeNumber 58 = .ok (.iload 5, 2) := by decide +kernel
theorem dX5_writeNumber_60 : decode cX5_writeNumber 60 = .ok (.ifCond .eq 21, 3) := by decide +kernel
theorem dX5_writeNumber_63 : decode cX5_writeNumber 63 = .ok (.aload_n 0, 1) := by decide +kernel
theorem dX5_writeNumber_64 : decode cX5_writeNumber 64 = .ok (.ldc2_w 80, 3) := by decide +kernel
theorem dX5_writeNumber_67 : decode cX5_writeNumber 67 = .ok (.lload_n 3, 1) := by decide +kernel
theorem dX5_writeNumber_68 : decode cX5_writeNumber 68 = .ok (.lload 6, 2) := by decide +kernel
theorem dX5_writeNumber_70 : decode cX5_writeNumber 70 = .ok (.ldiv, 1) := by decide +kernel
theorem dX5_writeNumber_71 : decode cX5_writeNumber 71 = .ok (.ldc2_w 82, 3) := by decide +kernel
theorem dX5_writeNumber_74 : decode cX5_writeNumber 74 = .ok (.lrem, 1) := by decide +kernel
theorem dX5_writeNumber_75 : decode cX5_writeNumber 75 = .ok (.ladd, 1) := by decide +kernel
theorem dX5_writeNumber_76 : decode cX5_writeNumber 76 = .ok (.l2i, 1) := by decide +kernel
theorem dX5_writeNumber_77 : decode cX5_writeNumber 77 = .ok (.i2c, 1) := by decide +kernel
theorem dX5_writeNumber_78 : decode cX5_writeNumber 78 = .ok (.invokevirtual 29, 3) := by decide +kernel
theorem dX5_writeNumber_81 : decode cX5_writeNumber 81 = .ok (.lload 6, 2) := by decide +kernel
theorem dX5_writeNumber_83 : decode cX5_writeNumber 83 = .ok (.ldc2_w 82, 3) := by decide +kernel
theorem dX5_writeNumber_86 : decode cX5_writeNumber 86 = .ok (.ldiv, 1) := by decide +kernel
theorem dX5_writeNumber_87 : decode cX5_writeNumber 87 = .ok (.lstore 6, 2) := by decide +kernel
theorem dX5_writeNumber_89 : decode cX5_writeNumber 89 = .ok (.goto (-64), 3) := by decide +kernel
theorem dX5_writeNumber_92 : decode cX5_writeNumber 92 = .ok (.return_, 1) := by decide +kernel
theorem dX5_append_0 : decode cX5_append 0 = .ok (.aload_n 0, 1) := by decide +kernel
theorem dX5_append_1 : decode cX5_append 1 = .ok (.getfield 15, 3) := by decide +kernel
theorem dX5_append_4 : decode cX5_append 4 = .ok (.sipush 1200, 3) := by decide +kernel
theorem dX5_append_7 : decode cX5_append 7 = .ok (.if_icmp .ge 23, 3) := by decide +kernel
theorem dX5_append_10 : decode cX5_append 10 = .ok (.aload_n 0, 1) := by decide +kernel
theorem dX5_append_11 : decode cX5_append 11 = .ok (.getfield 9, 3) := by decide +kernel
theorem dX5_append_14 : decode cX5_append 14 = .ok (.aload_n 0, 1) := by decide +kernel
theorem dX5_append_15 : decode cX5_append 15 = .ok (.getfield 15, 3) := by decide +kernel
theorem dX5_append_18 : decode cX5_append 18 = .ok (.iload_n 1, 1) := by decide +kernel
theorem dX5_append_19 : decode cX5_append 19 = .ok (.castore, 1) := by decide +kernel
theorem dX5_append_20 : decode cX5_append 20 = .ok (.aload_n 0, 1) := by decide +kernel
theorem dX5_append_21 : decode cX5_append 21 = .ok (.dup, 1) := by decide +kernel
theorem dX5_append_22 : decode cX5_append 22 = .ok (.getfield 15, 3) := by decide +kernel
theorem dX5_append_25 : decode cX5_append 25 = .ok (.iconst 1, 1) := by decide +kernel
theorem dX5_append_26 : decode cX5_append 26 = .ok (.iadd, 1) := by decide +kernel
theorem dX5_append_27 : decode cX5_append 27 = .ok (.putfield 15, 3) := by decide +kernel
theorem dX5_append_30 : decode cX5_append 30 = .ok (.return_, 1) := by decide +kernel
theorem dX6_init_0 : decode cX6_init 0 = .ok (.aload_n 0, 1) := by decide +kernel
theorem dX6_init_1 : decode cX6_init 1 = .ok (.invokespecial 3, 3) := by decide +kernel
theorem dX6_init_4 : decode cX6_init 4 = .ok (.aload_n 0, 1) := by decide +kernel
theorem dX6_init_5 : decode cX6_init 5 = .ok (.bipush 8, 2) := by decide +kernel
theorem dX6_init_7 : decode cX6_init 7 = .ok (.anewarray 9, 3) := by decide +kernel
theorem dX6_init_10 : decode cX6_init 10 = .ok (.putfield 11, 3) := by decide +kernel
theorem dX6_init_13 : decode cX6_init 13 = .ok (.iconst 0, 1) := by decide +kernel
theorem dX6_init_14 : decode cX6_init 14 = .ok (.istore_n 1, 1) := by decide +kernel
theorem dX6_init_15 : decode cX6_init 15 = .ok (.iload_n 1, 1) := by decide +kernel
theorem dX6_init_16 : decode cX6_init 16 = .ok (.bipush 8, 2) := by decide +kernel
theorem dX6_init_18 : decode cX6_init 18 = .ok (.if_icmp .ge 24, 3) := by decide +kernel
theorem dX6_init_21 : decode cX6_init 21 = .ok (.aload_n 0, 1) := by decide +kernel
theorem dX6_init_22 : decode cX6_init 22 = .ok (.getfield 11, 3) := by decide +kernel
theorem dX6_init_25 : decode cX6_init 25 = .ok (.iload_n 1, 1) := by decide +kernel
theorem dX6_init_26 : decode cX6_init 26 = .ok (.new 9, 3) := by decide +kernel
theorem dX6_init_29 : decode cX6_init 29 = .ok (.dup, 1) := by decide +kernel
theorem dX6_init_30 : decode cX6_init 30 = .ok (.bipush 40, 2) := by decide +kernel
theorem dX6_init_32 : decode cX6_init 32 = .ok (.invokespecial 15, 3) := by decide +kernel
theorem dX6_init_35 : decode cX6_init 35 = .ok (.aastore, 1) := by decide +kernel
theorem dX6_init_36 : decode cX6_init 36 = .ok (.iinc 1 1, 3) := by decide +kernel
theorem dX6_init_39 : decode cX6_init 39 = .ok (.goto (-24), 3) := by decide +kernel
theorem dX6_init_42 : decode cX6_init 42 = .ok (.aload_n 0, 1) := by decide +kernel
theorem dX6_init_43 : decode cX6_init 43 = .ok (.new 9, 3) := by decide +kernel
theorem dX6_init_46 : decode cX6_init 46 = .ok (.dup, 1) := by decide +kernel
theorem dX6_init_47 : decode cX6_init 47 = .ok (.sipush 200, 3) := by decide +kernel
theorem dX6_init_50 : decode cX6_init 50 = .ok (.invokespecial 15, 3) := by decide +kernel
theorem dX6_init_53 : decode cX6_init 53 = .ok (.putfield 18, 3) := by decide +kernel
theorem dX6_init_56 : decode cX6_init 56 = .ok (.aload_n 0, 1) := by decide +kernel
theorem dX6_init_57 : decode cX6_init 57 = .ok (.new 9, 3) := by decide +kernel
theorem dX6_init_60 : decode cX6_init 60 = .ok (.dup, 1) := by decide +kernel
theorem dX6_init_61 : decode cX6_init 61 = .ok (.bipush 40, 2) := by decide +kernel
theorem dX6_init_63 : decode cX6_init 63 = .ok (.invokespecial 15, 3) := by decide +kernel
theorem dX6_init_66 : decode cX6_init 66 = .ok (.putfield 22, 3) := by decide +kernel
theorem dX6_init_69 : decode cX6_init 69 = .ok (.aload_n 0, 1) := by decide +kernel
theorem dX6_init_70 : decode cX6_init 70 = .ok (.new 25, 3) := by decide +kernel
theorem dX6_init_73 : decode cX6_init 73 = .ok (.dup, 1) := by decide +kernel
theorem dX6_init_74 : decode cX6_init 74 = .ok (.invokespecial 27, 3) := by decide +kernel
theorem dX6_init_77 : decode cX6_init 77 = .ok (.putfield 28, 3) := by decide +kernel
theorem dX6_init_80 : decode cX6_init 80 = .ok (.aload_n 0, 1) := by decide +kernel
theorem dX6_init_81 : decode cX6_init 81 = .ok (.new 32, 3) := by decide +kernel
theorem dX6_init_84 : decode cX6_init 84 = .ok (.dup, 1) := by decide +kernel
theorem dX6_init_85 : decode cX6_init 85 = .ok (.aload_n 0, 1) := by decide +kernel
theorem dX6_init_86 : decode cX6_init 86 = .ok (.getfield 28, 3) := by decide +kernel
theorem dX6_init_89 : decode cX6_init 89 = .ok (.aload_n 0, 1) := by decide +kernel
theorem dX6_init_90 : decode cX6_init 90 = .ok (.getfield 18, 3) := by decide +kernel
theorem dX6_init_93 : decode cX6_init 93 = .ok (.invokespecial 34, 3) := by decide +kernel
theorem dX6_init_96 : decode cX6_init 96 = .ok (.putfield 37, 3) := by decide +kernel
theorem dX6_init_99 : decode cX6_init 99 = .ok (.aload_n 0, 1) := by decide +kernel
theorem dX6_init_100 : decode cX6_init 100 = .ok (.new 41, 3) := by decide +kernel
theorem dX6_init_103 : decode cX6_init 103 = .ok (.dup, 1) := by decide +kernel
theorem dX6_init_104 : decode cX6_init 104 = .ok (.invokespecial 43, 3) := by decide +kernel
theorem dX6_init_107 : decode cX6_init 107 = .ok (.putfield 44, 3) := by decide +kernel
theorem dX6_init_110 : decode cX6_init 110 = .ok (.return_, 1) := by decide +kernel
theorem dX6_type_0 : decode cX6_type 0 = .ok (.iload_n 1, 1) := by decide +kernel
theorem dX6_type_1 : decode cX6_type 1 = .ok (.invokestatic 48, 3) := by decide +kernel
theorem dX6_type_4 : decode cX6_type 4 = .ok (.iload_n 2, 1) := by decide +kernel
theorem dX6_type_5 : decode cX6_type 5 = .ok (.invokestatic 48, 3) := by decide +kernel
theorem dX6_type_8 : decode cX6_type 8 = .ok (.iadd, 1) := by decide +kernel
theorem dX6_type_9 : decode cX6_type 9 = .ok (.iload_n 3, 1) := by decide +kernel
theorem dX6_type_10 : decode cX6_type 10 = .ok (.invokestatic 48, 3) := by decide +kernel
theorem dX6_type_13 : decode cX6_type 13 = .ok (.iadd, 1) := by decide +kernel
theorem dX6_type_14 : decode cX6_type 14 = .ok (.iload 4, 2) := by decide +kernel
theorem dX6_type_16 : decode cX6_type 16 = .ok (.invokestatic 48, 3) := by decide +kernel
theorem dX6_type_19 : decode cX6_type 19 = .ok (.iadd, 1) := by decide +kernel
theorem dX6_type_20 : decode cX6_type 20 = .ok (.iload 5, 2) := by decide +kernel
theorem dX6_type_22 : decode cX6_type 22 = .ok (.invokestatic 48, 3) := by decide +kernel
theorem dX6_type_25 : decode cX6_type 25 = .ok (.iadd, 1) := by decide +kernel
theorem dX6_type_26 : decode cX6_type 26 = .ok (.istore 6, 2) := by decide +kernel
theorem dX6_type_28 : decode cX6_type 28 = .ok (.aload_n 0, 1) := by decide +kernel
theorem dX6_type_29 : decode cX6_type 29 = .ok (.getfield 28, 3) := by decide +kernel
theorem dX6_type_32 : decode cX6_type 32 = .ok (.invokevirtual 52, 3) := by decide +kernel
theorem dX6_type_35 : decode cX6_type 35 = .ok (.iload 6, 2) := by decide +kernel
theorem dX6_type_37 : decode cX6_type 37 = .ok (.iadd, 1) := by decide +kernel
theorem dX6_type_38 : decode cX6_type 38 = .ok (.bipush 100, 2) := by decide +kernel
theorem dX6_type_40 : decode cX6_type 40 = .ok (.if_icmp .le 13, 3) := by decide +kernel
theorem dX6_type_43 : decode cX6_type 43 = .ok (.new 56, 3) := by decide +kernel
theorem dX6_type_46 : decode cX6_type 46 = .ok (.dup, 1) := by decide +kernel
theorem dX6_type_47 : decode cX6_type 47 = .ok (.ldc 58, 2) := by decide +kernel
theorem dX6_type_49 : decode cX6_type 49 = .ok (.invokespecial 60, 3) := by decide +kernel
theorem dX6_type_52 : decode cX6_type 52 = .ok (.athrow, 1) := by decide +kernel
theorem dX6_type_53 : decode cX6_type 53 = .ok (.aload_n 0, 1) := by decide +kernel
theorem dX6_type_54 : decode cX6_type 54 = .ok (.getfield 28, 3) := by decide +kernel
theorem dX6_type_57 : decode cX6_type 57 = .ok (.iload_n 1, 1) := by decide +kernel
theorem dX6_type_58 : decode cX6_type 58 = .ok (.invokevirtual 63, 3) := by decide +kernel
theorem dX6_type_61 : decode cX6_type 61 = .ok (.aload_n 0, 1) := by decide +kernel
theorem dX6_type_62 : decode cX6_type 62 = .ok (.getfield 28, 3) := by decide +kernel
theorem dX6_type_65 : decode cX6_type 65 = .ok (.iload_n 2, 1) := by decide +kernel
theorem dX6_type_66 : decode cX6_type 66 = .ok (.invokevirtual 63, 3) := by decide +kernel
theorem dX6_type_69 : decode cX6_type 69 = .ok (.aload_n 0, 1) := by decide +kernel
theorem dX6_type_70 : decode cX6_type 70 = .ok (.getfield 28, 3) := by decide +kernel
theorem dX6_type_73 : decode cX6_type 73 = .ok (.iload_n 3, 1) := by decide +kernel
theorem dX6_type_74 : decode cX6_type 74 = .ok (.invokevirtual 63, 3) := by decide +kernel
theorem dX6_type_77 : decode cX6_type 77 = .ok (.aload_n 0, 1) := by decide +kernel
theorem dX6_type_78 : decode cX6_type 78 = .ok (.getfield 28, 3) := by decide +kernel
theorem dX6_type_81 : decode cX6_type 81 = .ok (.iload 4, 2) := by decide +kernel
theorem dX6_type_83 : decode cX6_type 83 = .ok (.invokevirtual 63, 3) := by decide +kernel
theorem dX6_type_86 : decode cX6_type 86 = .ok (.aload_n 0, 1) := by decide +kernel
theorem dX6_type_87 : decode cX6_type 87 = .ok (.getfield 28, 3) := by decide +kernel
theorem dX6_type_90 : decode cX6_type 90 = .ok (.iload 5, 2) := by decide +kernel
theorem dX6_type_92 : decode cX6_type 92 = .ok (.invokevirtual 63, 3) := by decide +kernel
theorem dX6_type_95 : decode cX6_type 95 = .ok (.aload_n 0, 1) := by decide +kernel
theorem dX6_type_96 : decode cX6_type 96 = .ok (.getfield 28, 3) := by decide +kernel
theorem dX6_type_99 : decode cX6_type 99 = .ok (.invokevirtual 52, 3) := by decide +kernel
theorem dX6_type_102 : decode cX6_type 102 = .ok (.ireturn, 1) := by decide +kernel
theorem dX6_erase_0 : decode cX6_erase 0 = .ok (.aload_n 0, 1) := by decide +kernel
theorem dX6_erase_1 : decode cX6_erase 1 = .ok (.getfield 28, 3) := by decide +kernel
theorem dX6_erase_4 : decode cX6_erase 4 = .ok (.invokevirtual 52, 3) := by decide +kernel
theorem dX6_erase_7 : decode cX6_erase 7 = .ok (.istore_n 1, 1) := by decide +kernel
theorem dX6_erase_8 : decode cX6_erase 8 = .ok (.aload_n 0, 1) := by decide +kernel
theorem dX6_erase_9 : decode cX6_erase 9 = .ok (.getfield 28, 3) := by decide +kernel
theorem dX6_erase_12 : decode cX6_erase 12 = .ok (.invokevirtual 66, 3) := by decide +kernel
theorem dX6_erase_15 : decode cX6_erase 15 = .ok (.iload_n 1, 1) := by decide +kernel
theorem dX6_erase_16 : decode cX6_erase 16 = .ok (.ireturn, 1) := by decide +kernel
theorem dX6_read_0 : decode cX6_read 0 = .ok (.iload_n 1, 1) := by decide +kernel
theorem dX6_read_1 : decode cX6_read 1 = .ok (.invokestatic 69, 3) := by decide +kernel
theorem dX6_read_4 : decode cX6_read 4 = .ok (.ifCond .ne 13, 3) := by decide +kernel
theorem dX6_read_7 : decode cX6_read 7 = .ok (.new 73, 3) := by decide +kernel
theorem dX6_read_10 : decode cX6_read 10 = .ok (.dup, 1) := by decide +kernel
theorem dX6_read_11 : decode cX6_read 11 = .ok (.ldc 75, 2) := by decide +kernel
theorem dX6_read_13 : decode cX6_read 13 = .ok (.invokespecial 77, 3) := by decide +kernel
theorem dX6_read_16 : decode cX6_read 16 = .ok (.athrow, 1) := by decide +kernel
theorem dX6_read_17 : decode cX6_read 17 = .ok (.aload_n 0, 1) := by decide +kernel
theorem dX6_read_18 : decode cX6_read 18 = .ok (.getfield 37, 3) := by decide +kernel
theorem dX6_read_21 : decode cX6_read 21 = .ok (.invokevirtual 78, 3) := by decide +kernel
theorem dX6_read_24 : decode cX6_read 24 = .ok (.istore_n 2, 1) := by decide +kernel
theorem dX6_read_25 : decode cX6_read 25 = .ok (.iload_n 2, 1) := by decide +kernel
theorem dX6_read_26 : decode cX6_read 26 = .ok (.ifCond .ne 11, 3) := by decide +kernel
theorem dX6_read_29 : decode cX6_read 29 = .ok (.aload_n 0, 1) := by decide +kernel
theorem dX6_read_30 : decode cX6_read 30 = .ok (.iload_n 1, 1) := by decide +kernel
theorem dX6_read_31 : decode cX6_read 31 = .ok (.invokevirtual 81, 3) := by decide +kernel
theorem dX6_read_34 : decode cX6_read 34 = .ok (.goto 4, 3) := by decide +kernel
theorem dX6_read_37 : decode cX6_read 37 = .ok (.iload_n 2, 1) := by decide +kernel
theorem dX6_read_38 : decode cX6_read 38 = .ok (.ireturn, 1) := by decide +kernel
theorem dX6_place_0 : decode cX6_place 0 = .ok (.aload_n 0, 1) := by decide +kernel
theorem dX6_place_1 : decode cX6_place 1 = .ok (.getfield 37, 3) := by decide +kernel
theorem dX6_place_4 : decode cX6_place 4 = .ok (.invokevirtual 84, 3) := by decide +kernel
theorem dX6_place_7 : decode cX6_place 7 = .ok (.ireturn, 1) := by decide +kernel
theorem dX6_write_0 : decode cX6_write 0 = .ok (.iload_n 1, 1) := by decide +kernel
theorem dX6_write_1 : decode cX6_write 1 = .ok (.invokestatic 69, 3) := by decide +kernel
theorem dX6_write_4 : decode cX6_write 4 = .ok (.ifCond .ne 13, 3) := by decide +kernel
theorem dX6_write_7 : decode cX6_write 7 = .ok (.new 73, 3) := by decide +kernel
theorem dX6_write_10 : decode cX6_write 10 = .ok (.dup, 1) := by decide +kernel
theorem dX6_write_11 : decode cX6_write 11 = .ok (.ldc 75, 2) := by decide +kernel
theorem dX6_write_13 : decode cX6_write 13 = .ok (.invokespecial 77, 3) := by decide +kernel
theorem dX6_write_16 : decode cX6_write 16 = .ok (.athrow, 1) := by decide +kernel
theorem dX6_write_17 : decode cX6_write 17 = .ok (.aload_n 0, 1) := by decide +kernel
theorem dX6_write_18 : decode cX6_write 18 = .ok (.getfield 44, 3) := by decide +kernel
theorem dX6_write_21 : decode cX6_write 21 = .ok (.aload_n 0, 1) := by decide +kernel
theorem dX6_write_22 : decode cX6_write 22 = .ok (.getfield 11, 3) := by decide +kernel
theorem dX6_write_25 : decode cX6_write 25 = .ok (.iload_n 1, 1) := by decide +kernel
theorem dX6_write_26 : decode cX6_write 26 = .ok (.aaload, 1) := by decide +kernel
theorem dX6_write_27 : decode cX6_write 27 = .ok (.invokevirtual 87, 3) := by decide +kernel
theorem dX6_write_30 : decode cX6_write 30 = .ok (.aload_n 0, 1) := by decide +kernel
theorem dX6_write_31 : decode cX6_write 31 = .ok (.getfield 44, 3) := by decide +kernel
theorem dX6_write_34 : decode cX6_write 34 = .ok (.invokevirtual 91, 3) := by decide +kernel
theorem dX6_write_37 : decode cX6_write 37 = .ok (.ireturn, 1) := by decide +kernel
theorem dX6_output_0 : decode cX6_output 0 = .ok (.aload_n 0, 1) := by decide +kernel
theorem dX6_output_1 : decode cX6_output 1 = .ok (.getfield 44, 3) := by decide +kernel
theorem dX6_output_4 : decode cX6_output 4 = .ok (.iload_n 1, 1) := by decide +kernel
theorem dX6_output_5 : decode cX6_output 5 = .ok (.invokevirtual 92, 3) := by decide +kernel
theorem dX6_output_8 : decode cX6_output 8 = .ok (.ireturn, 1) := by decide +kernel
theorem dX6_add_0 : decode cX6_add 0 = .ok (.iload_n 1, 1) := by decide +kernel
theorem dX6_add_1 : decode cX6_add 1 = .ok (.invokestatic 69, 3) := by decide +kernel
theorem dX6_add_4 : decode cX6_add 4 = .ok (.ifCond .eq 17, 3) := by decide +kernel
theorem dX6_add_7 : decode cX6_add 7 = .ok (.iload_n 2, 1) := by decide +kernel
theorem dX6_add_8 : decode cX6_add 8 = .ok (.invokestatic 69, 3) := by decide +kernel
theorem dX6_add_11 : decode cX6_add 11 = .ok (.ifCond .eq 10, 3) := by decide +kernel
theorem dX6_add_14 : decode cX6_add 14 = .ok (.iload_n 3, 1) := by decide +kernel
theorem dX6_add_15 : decode cX6_add 15 = .ok (.invokestatic 69, 3) := by decide +kernel
theorem dX6_add_18 : decode cX6_add 18 = .ok (.ifCond .ne 13, 3) := by decide +kernel
theorem dX6_add_21 : decode cX6_add 21 = .ok (.new 73, 3) := by decide +kernel
theorem dX6_add_24 : decode cX6_add 24 = .ok (.dup, 1) := by decide +kernel
theorem dX6_add_25 : decode cX6_add 25 = .ok (.ldc 75, 2) := by decide +kernel
theorem dX6_add_27 : decode cX6_add 27 = .ok (.invokespecial 77, 3) := by decide +kernel
theorem dX6_add_30 : decode cX6_add 30 = .ok (.athrow, 1) := by decide +kernel
theorem dX6_add_31 : decode cX6_add 31 = .ok (.iload 4, 2) := by decide +kernel
theorem dX6_add_33 : decode cX6_add 33 = .ok (.bipush (-100), 2) := by decide +kernel
theorem dX6_add_35 : decode cX6_add 35 = .ok (.if_icmp .lt 23, 3) := by decide +kernel
theorem dX6_add_38 : decode cX6_add 38 = .ok (.iload 4, 2) := by decide +kernel
theorem dX6_add_40 : decode cX6_add 40 = .ok (.bipush 100, 2) := by decide +kernel
theorem dX6_add_42 : decode cX6_add 42 = .ok (.if_icmp .gt 16, 3) := by decide +kernel
theorem dX6_add_45 : decode cX6_add 45 = .ok (.iload 5, 2) := by decide +kernel
theorem dX6_add_47 : decode cX6_add 47 = .ok (.iconst 1, 1) := by decide +kernel
theorem dX6_add_48 : decode cX6_add 48 = .ok (.if_icmp .lt 10, 3) := by decide +kernel
theorem dX6_add_51 : decode cX6_add 51 = .ok (.iload 5, 2) := by decide +kernel
theorem dX6_add_53 : decode cX6_add 53 = .ok (.bipush 6, 2) := by decide +kernel
theorem dX6_add_55 : decode cX6_add 55 = .ok (.if_icmp .le 13, 3) := by decide +kernel
theorem dX6_add_58 : decode cX6_add 58 = .ok (.new 73, 3) := by decide +kernel
theorem dX6_add_61 : decode cX6_add 61 = .ok (.dup, 1) := by decide +kernel
theorem dX6_add_62 : decode cX6_add 62 = .ok (.ldc 96, 2) := by decide +kernel
theorem dX6_add_64 : decode cX6_add 64 = .ok (.invokespecial 77, 3) := by decide +kernel
theorem dX6_add_67 : decode cX6_add 67 = .ok (.athrow, 1) := by decide +kernel
theorem dX6_add_68 : decode cX6_add 68 = .ok (.iload 4, 2) := by decide +kernel
theorem dX6_add_70 : decode cX6_add 70 = .ok (.iload 5, 2) := by decide +kernel
theorem dX6_add_72 : decode cX6_add 72 = .ok (.if_icmp .eq 33, 3) := by decide +kernel
theorem dX6_add_75 : decode cX6_add 75 = .ok (.iload 4, 2) := by decide +kernel
theorem dX6_add_77 : decode cX6_add 77 = .ok (.iload 5, 2) := by decide +kernel
theorem dX6_add_79 : decode cX6_add 79 = .ok (.ineg, 1) := by decide +kernel
theorem dX6_add_80 : decode cX6_add 80 = .ok (.if_icmp .eq 25, 3) := by decide +kernel
theorem dX6_add_83 : decode cX6_add 83 = .ok (.aload_n 0, 1) := by decide +kernel
theorem dX6_add_84 : decode cX6_add 84 = .ok (.getfield 11, 3) := by decide +kernel
theorem dX6_add_87 : decode cX6_add 87 = .ok (.iload_n 3, 1) := by decide +kernel
theorem dX6_add_88 : decode cX6_add 88 = .ok (.aaload, 1) := by decide +kernel
theorem dX6_add_89 : decode cX6_add 89 = .ok (.invokevirtual 98, 3) := by decide +kernel
theorem dX6_add_92 : decode cX6_add 92 = .ok (.ifCond .ne 13, 3) := by decide +kernel
theorem dX6_add_95 : decode cX6_add 95 = .ok (.new 56, 3) := by decide +kernel
theorem dX6_add_98 : decode cX6_add 98 = .ok (.dup, 1) := by decide +kernel
theorem dX6_add_99 : decode cX6_add 99 = .ok (.ldc 102, 2) := by decide +kernel
theorem dX6_add_101 : decode cX6_add 101 = .ok (.invokespecial 60, 3) := by decide +kernel
theorem dX6_add_104 : decode cX6_add 104 = .ok (.athrow, 1) := by decide +kernel
theorem dX6_add_105 : decode cX6_add 105 = .ok (.aload_n 0, 1) := by decide +kernel
theorem dX6_add_106 : decode cX6_add 106 = .ok (.getfield 18, 3) := by decide +kernel
theorem dX6_add_109 : decode cX6_add 109 = .ok (.invokevirtual 104, 3) := by decide +kernel
theorem dX6_add_112 : decode cX6_add 112 = .ok (.aload_n 0, 1) := by decide +kernel
theorem dX6_add_113 : decode cX6_add 113 = .ok (.getfield 18, 3) := by decide +kernel
theorem dX6_add_116 : decode cX6_add 116 = .ok (.aload_n 0, 1) := by decide +kernel
theorem dX6_add_117 : decode cX6_add 117 = .ok (.getfield 11, 3) := by decide +kernel
theorem dX6_add_120 : decode cX6_add 120 = .ok (.iload_n 2, 1) := by decide +kernel
theorem dX6_add_121 : decode cX6_add 121 = .ok (.aaload, 1) := by decide +kernel
theorem dX6_add_122 : decode cX6_add 122 = .ok (.lconst 1, 1) := by decide +kernel
theorem dX6_add_123 : decode cX6_add 123 = .ok (.lconst 1, 1) := by decide +kernel
theorem dX6_add_124 : decode cX6_add 124 = .ok (.invokevirtual 105, 3) := by decide +kernel
theorem dX6_add_127 : decode cX6_add 127 = .ok (.aload_n 0, 1) := by decide +kernel
theorem dX6_add_128 : decode cX6_add 128 = .ok (.getfield 18, 3) := by decide +kernel
theorem dX6_add_131 : decode cX6_add 131 = .ok (.aload_n 0, 1) := by decide +kernel
theorem dX6_add_132 : decode cX6_add 132 = .ok (.getfield 11, 3) := by decide +kernel
theorem dX6_add_135 : decode cX6_add 135 = .ok (.iload_n 3, 1) := by decide +kernel
theorem dX6_add_136 : decode cX6_add 136 = .ok (.aaload, 1) := by decide +kernel
theorem dX6_add_137 : decode cX6_add 137 = .ok (.iload 4, 2) := by decide +kernel
theorem dX6_add_139 : decode cX6_add 139 = .ok (.i2l, 1) := by decide +kernel
theorem dX6_add_140 : decode cX6_add 140 = .ok (.iload 5, 2) := by decide +kernel
theorem dX6_add_142 : decode cX6_add 142 = .ok (.i2l, 1) := by decide +kernel
theorem dX6_add_143 : decode cX6_add 143 = .ok (.invokevirtual 105, 3) := by decide +kernel
theorem dX6_add_146 : decode cX6_add 146 = .ok (.aload_n 0, 1) := by decide +kernel
theorem dX6_add_147 : decode cX6_add 147 = .ok (.iload_n 1, 1) := by decide +kernel
theorem dX6_add_148 : decode cX6_add 148 = .ok (.invokevirtual 81, 3) := by decide +kernel
theorem dX6_add_151 : decode cX6_add 151 = .ok (.ireturn, 1) := by decide +kernel
theorem dX6_times_0 : decode cX6_times 0 = .ok (.iload_n 1, 1) := by decide +kernel
theorem dX6_times_1 : decode cX6_times 1 = .ok (.invokestatic 69, 3) := by decide +kernel
theorem dX6_times_4 : decode cX6_times 4 = .ok (.ifCond .eq 17, 3) := by decide +kernel
theorem dX6_times_7 : decode cX6_times 7 = .ok (.iload_n 2, 1) := by decide +kernel
theorem dX6_times_8 : decode cX6_times 8 = .ok (.invokestatic 69, 3) := by decide +kernel
theorem dX6_times_11 : decode cX6_times 11 = .ok (.ifCond .eq 10, 3) := by decide +kernel
theorem dX6_times_14 : decode cX6_times 14 = .ok (.iload_n 3, 1) := by decide +kernel
theorem dX6_times_15 : decode cX6_times 15 = .ok (.invokestatic 69, 3) := by decide +kernel
theorem dX6_times_18 : decode cX6_times 18 = .ok (.ifCond .ne 13, 3) := by decide +kernel
theorem dX6_times_21 : decode cX6_times 21 = .ok (.new 73, 3) := by decide +kernel
theorem dX6_times_24 : decode cX6_times 24 = .ok (.dup, 1) := by decide +kernel
theorem dX6_times_25 : decode cX6_times 25 = .ok (.ldc 75, 2) := by decide +kernel
theorem dX6_times_27 : decode cX6_times 27 = .ok (.invokespecial 77, 3) := by decide +kernel
theorem dX6_times_30 : decode cX6_times 30 = .ok (.athrow, 1) := by decide +kernel
theorem dX6_times_31 : decode cX6_times 31 = .ok (.aload_n 0, 1) := by decide +kernel
theorem dX6_times_32 : decode cX6_times 32 = .ok (.getfield 11, 3) := by decide +kernel
theorem dX6_times_35 : decode cX6_times 35 = .ok (.iload_n 2, 1) := by decide +kernel
theorem dX6_times_36 : decode cX6_times 36 = .ok (.aaload, 1) := by decide +kernel
theorem dX6_times_37 : decode cX6_times 37 = .ok (.invokevirtual 98, 3) := by decide +kernel
theorem dX6_times_40 : decode cX6_times 40 = .ok (.ifCond .eq 15, 3) := by decide +kernel
theorem dX6_times_43 : decode cX6_times 43 = .ok (.aload_n 0, 1) := by decide +kernel
theorem dX6_times_44 : decode cX6_times 44 = .ok (.getfield 11, 3) := by decide +kernel
theorem dX6_times_47 : decode cX6_times 47 = .ok (.iload_n 3, 1) := by decide +kernel
theorem dX6_times_48 : decode cX6_times 48 = .ok (.aaload, 1) := by decide +kernel
theorem dX6_times_49 : decode cX6_times 49 = .ok (.invokevirtual 98, 3) := by decide +kernel
theorem dX6_times_52 : decode cX6_times 52 = .ok (.ifCond .ne 13, 3) := by decide +kernel
theorem dX6_times_55 : decode cX6_times 55 = .ok (.new 56, 3) := by decide +kernel
theorem dX6_times_58 : decode cX6_times 58 = .ok (.dup, 1) := by decide +kernel
theorem dX6_times_59 : decode cX6_times 59 = .ok (.ldc 109, 2) := by decide +kernel
theorem dX6_times_61 : decode cX6_times 61 = .ok (.invokespecial 60, 3) := by decide +kernel
theorem dX6_times_64 : decode cX6_times 64 = .ok (.athrow, 1) := by decide +kernel
theorem dX6_times_65 : decode cX6_times 65 = .ok (.aload_n 0, 1) := by decide +kernel
theorem dX6_times_66 : decode cX6_times 66 = .ok (.getfield 11, 3) := by decide +kernel
theorem dX6_times_69 : decode cX6_times 69 = .ok (.iload_n 2, 1) := by decide +kernel
theorem dX6_times_70 : decode cX6_times 70 = .ok (.aaload, 1) := by decide +kernel
theorem dX6_times_71 : decode cX6_times 71 = .ok (.invokevirtual 111, 3) := by decide +kernel
theorem dX6_times_74 : decode cX6_times 74 = .ok (.aload_n 0, 1) := by decide +kernel
theorem dX6_times_75 : decode cX6_times 75 = .ok (.getfield 11, 3) := by decide +kernel
theorem dX6_times_78 : decode cX6_times 78 = .ok (.iload_n 3, 1) := by decide +kernel
theorem dX6_times_79 : decode cX6_times 79 = .ok (.aaload, 1) := by decide +kernel
theorem dX6_times_80 : decode cX6_times 80 = .ok (.invokevirtual 111, 3) := by decide +kernel
theorem dX6_times_83 : decode cX6_times 83 = .ok (.imul, 1) := by decide +kernel
theorem dX6_times_84 : decode cX6_times 84 = .ok (.bipush 100, 2) := by decide +kernel
theorem dX6_times_86 : decode cX6_times 86 = .ok (.if_icmp .le 6, 3) := by decide +kernel
theorem dX6_times_89 : decode cX6_times 89 = .ok (.bipush (-4), 2) := by decide +kernel
theorem dX6_times_91 : decode cX6_times 91 = .ok (.ireturn, 1) := by decide +kernel
theorem dX6_times_92 : decode cX6_times 92 = .ok (.aload_n 0, 1) := by decide +kernel
theorem dX6_times_93 : decode cX6_times 93 = .ok (.getfield 11, 3) := by decide +kernel
theorem dX6_times_96 : decode cX6_times 96 = .ok (.iload_n 2, 1) := by decide +kernel
theorem dX6_times_97 : decode cX6_times 97 = .ok (.aaload, 1) := by decide +kernel
theorem dX6_times_98 : decode cX6_times 98 = .ok (.aload_n 0, 1) := by decide +kernel
theorem dX6_times_99 : decode cX6_times 99 = .ok (.getfield 11, 3) := by decide +kernel
theorem dX6_times_102 : decode cX6_times 102 = .ok (.iload_n 3, 1) := by decide +kernel
theorem dX6_times_103 : decode cX6_times 103 = .ok (.aaload, 1) := by decide +kernel
theorem dX6_times_104 : decode cX6_times 104 = .ok (.invokestatic 114, 3) := by decide +kernel
theorem dX6_times_107 : decode cX6_times 107 = .ok (.ifCond .ne 6, 3) := by decide +kernel
theorem dX6_times_110 : decode cX6_times 110 = .ok (.bipush (-5), 2) := by decide +kernel
theorem dX6_times_112 : decode cX6_times 112 = .ok (.ireturn, 1) := by decide +kernel
theorem dX6_times_113 : decode cX6_times 113 = .ok (.aload_n 0, 1) := by decide +kernel
theorem dX6_times_114 : decode cX6_times 114 = .ok (.getfield 18, 3) := by decide +kernel
theorem dX6_times_117 : decode cX6_times 117 = .ok (.invokevirtual 104, 3) := by decide +kernel
theorem dX6_times_120 : decode cX6_times 120 = .ok (.aload_n 0, 1) := by decide +kernel
theorem dX6_times_121 : decode cX6_times 121 = .ok (.getfield 18, 3) := by decide +kernel
theorem dX6_times_124 : decode cX6_times 124 = .ok (.aload_n 0, 1) := by decide +kernel
theorem dX6_times_125 : decode cX6_times 125 = .ok (.getfield 11, 3) := by decide +kernel
theorem dX6_times_128 : decode cX6_times 128 = .ok (.iload_n 2, 1) := by decide +kernel
theorem dX6_times_129 : decode cX6_times 129 = .ok (.aaload, 1) := by decide +kernel
theorem dX6_times_130 : decode cX6_times 130 = .ok (.aload_n 0, 1) := by decide +kernel
theorem dX6_times_131 : decode cX6_times 131 = .ok (.getfield 11, 3) := by decide +kernel
theorem dX6_times_134 : decode cX6_times 134 = .ok (.iload_n 3, 1) := by decide +kernel
theorem dX6_times_135 : decode cX6_times 135 = .ok (.aaload, 1) := by decide +kernel
theorem dX6_times_136 : decode cX6_times 136 = .ok (.invokestatic 120, 3) := by decide +kernel
theorem dX6_times_139 : decode cX6_times 139 = .ok (.aload_n 0, 1) := by decide +kernel
theorem dX6_times_140 : decode cX6_times 140 = .ok (.iload_n 1, 1) := by decide +kernel
theorem dX6_times_141 : decode cX6_times 141 = .ok (.invokevirtual 81, 3) := by decide +kernel
theorem dX6_times_144 : decode cX6_times 144 = .ok (.ireturn, 1) := by decide +kernel
theorem dX6_derive_0 : decode cX6_derive 0 = .ok (.iload_n 1, 1) := by decide +kernel
theorem dX6_derive_1 : decode cX6_derive 1 = .ok (.invokestatic 69, 3) := by decide +kernel
theorem dX6_derive_4 : decode cX6_derive 4 = .ok (.ifCond .eq 10, 3) := by decide +kernel
theorem dX6_derive_7 : decode cX6_derive 7 = .ok (.iload_n 2, 1) := by decide +kernel
theorem dX6_derive_8 : decode cX6_derive 8 = .ok (.invokestatic 69, 3) := by decide +kernel
theorem dX6_derive_11 : decode cX6_derive 11 = .ok (.ifCond .ne 13, 3) := by decide +kernel
theorem dX6_derive_14 : decode cX6_derive 14 = .ok (.new 73, 3) := by decide +kernel
theorem dX6_derive_17 : decode cX6_derive 17 = .ok (.dup, 1) := by decide +kernel
theorem dX6_derive_18 : decode cX6_derive 18 = .ok (.ldc 75, 2) := by decide +kernel
theorem dX6_derive_20 : decode cX6_derive 20 = .ok (.invokespecial 77, 3) := by decide +kernel
theorem dX6_derive_23 : decode cX6_derive 23 = .ok (.athrow, 1) := by decide +kernel
theorem dX6_derive_24 : decode cX6_derive 24 = .ok (.aload_n 0, 1) := by decide +kernel
theorem dX6_derive_25 : decode cX6_derive 25 = .ok (.getfield 18, 3) := by decide +kernel
theorem dX6_derive_28 : decode cX6_derive 28 = .ok (.invokevirtual 104, 3) := by decide +kernel
theorem dX6_derive_31 : decode cX6_derive 31 = .ok (.aload_n 0, 1) := by decide +kernel
theorem dX6_derive_32 : decode cX6_derive 32 = .ok (.getfield 18, 3) := by decide +kernel
theorem dX6_derive_35 : decode cX6_derive 35 = .ok (.aload_n 0, 1) := by decide +kernel
theorem dX6_derive_36 : decode cX6_derive 36 = .ok (.getfield 11, 3) := by decide +kernel
theorem dX6_derive_39 : decode cX6_derive 39 = .ok (.iload_n 2, 1) := by decide +kernel
theorem dX6_derive_40 : decode cX6_derive 40 = .ok (.aaload, 1) := by decide +kernel
theorem dX6_derive_41 : decode cX6_derive 41 = .ok (.invokestatic 124, 3) := by decide +kernel
theorem dX6_derive_44 : decode cX6_derive 44 = .ok (.aload_n 0, 1) := by decide +kernel
theorem dX6_derive_45 : decode cX6_derive 45 = .ok (.iload_n 1, 1) := by decide +kernel
theorem dX6_derive_46 : decode cX6_derive 46 = .ok (.invokevirtual 81, 3) := by decide +kernel
theorem dX6_derive_49 : decode cX6_derive 49 = .ok (.ireturn, 1) := by decide +kernel
theorem dX6_integrate_0 : decode cX6_integrate 0 = .ok (.iload_n 1, 1) := by decide +kernel
theorem dX6_integrate_1 : decode cX6_integrate 1 = .ok (.invokestatic 69, 3) := by decide +kernel
theorem dX6_integrate_4 : decode cX6_integrate 4 = .ok (.ifCond .eq 17, 3) := by decide +kernel
theorem dX6_integrate_7 : decode cX6_integrate 7 = .ok (.iload_n 2, 1) := by decide +kernel
theorem dX6_integrate_8 : decode cX6_integrate 8 = .ok (.invokestatic 69, 3) := by decide +kernel
theorem dX6_integrate_11 : decode cX6_integrate 11 = .ok (.ifCond .eq 10, 3) := by decide +kernel
theorem dX6_integrate_14 : decode cX6_integrate 14 = .ok (.iload_n 3, 1) := by decide +kernel
theorem dX6_integrate_15 : decode cX6_integrate 15 = .ok (.invokestatic 69, 3) := by decide +kernel
theorem dX6_integrate_18 : decode cX6_integrate 18 = .ok (.ifCond .ne 13, 3) := by decide +kernel
theorem dX6_integrate_21 : decode cX6_integrate 21 = .ok (.new 73, 3) := by decide +kernel
theorem dX6_integrate_24 : decode cX6_integrate 24 = .ok (.dup, 1) := by decide +kernel
theorem dX6_integrate_25 : decode cX6_integrate 25 = .ok (.ldc 75, 2) := by decide +kernel
theorem dX6_integrate_27 : decode cX6_integrate 27 = .ok (.invokespecial 77, 3) := by decide +kernel
theorem dX6_integrate_30 : decode cX6_integrate 30 = .ok (.athrow, 1) := by decide +kernel
theorem dX6_integrate_31 : decode cX6_integrate 31 = .ok (.aload_n 0, 1) := by decide +kernel
theorem dX6_integrate_32 : decode cX6_integrate 32 = .ok (.getfield 11, 3) := by decide +kernel
theorem dX6_integrate_35 : decode cX6_integrate 35 = .ok (.iload_n 3, 1) := by decide +kernel
theorem dX6_integrate_36 : decode cX6_integrate 36 = .ok (.aaload, 1) := by decide +kernel
theorem dX6_integrate_37 : decode cX6_integrate 37 = .ok (.invokevirtual 98, 3) := by decide +kernel
theorem dX6_integrate_40 : decode cX6_integrate 40 = .ok (.ifCond .ne 13, 3) := by decide +kernel
theorem dX6_integrate_43 : decode cX6_integrate 43 = .ok (.new 56, 3) := by decide +kernel
theorem dX6_integrate_46 : decode cX6_integrate 46 = .ok (.dup, 1) := by decide +kernel
theorem dX6_integrate_47 : decode cX6_integrate 47 = .ok (.ldc 130, 2) := by decide +kernel
theorem dX6_integrate_49 : decode cX6_integrate 49 = .ok (.invokespecial 60, 3) := by decide +kernel
theorem dX6_integrate_52 : decode cX6_integrate 52 = .ok (.athrow, 1) := by decide +kernel
theorem dX6_integrate_53 : decode cX6_integrate 53 = .ok (.aload_n 0, 1) := by decide +kernel
theorem dX6_integrate_54 : decode cX6_integrate 54 = .ok (.getfield 18, 3) := by decide +kernel
theorem dX6_integrate_57 : decode cX6_integrate 57 = .ok (.invokevirtual 104, 3) := by decide +kernel
theorem dX6_integrate_60 : decode cX6_integrate 60 = .ok (.aload_n 0, 1) := by decide +kernel
theorem dX6_integrate_61 : decode cX6_integrate 61 = .ok (.getfield 22, 3) := by decide +kernel
theorem dX6_integrate_64 : decode cX6_integrate 64 = .ok (.invokevirtual 104, 3) := by decide +kernel
theorem dX6_integrate_67 : decode cX6_integrate 67 = .ok (.aload_n 0, 1) := by decide +kernel
theorem dX6_integrate_68 : decode cX6_integrate 68 = .ok (.getfield 18, 3) := by decide +kernel
theorem dX6_integrate_71 : decode cX6_integrate 71 = .ok (.aload_n 0, 1) := by decide +kernel
theorem dX6_integrate_72 : decode cX6_integrate 72 = .ok (.getfield 22, 3) := by decide +kernel
theorem dX6_integrate_75 : decode cX6_integrate 75 = .ok (.aload_n 0, 1) := by decide +kernel
theorem dX6_integrate_76 : decode cX6_integrate 76 = .ok (.getfield 11, 3) := by decide +kernel
theorem dX6_integrate_79 : decode cX6_integrate 79 = .ok (.iload_n 3, 1) := by decide +kernel
theorem dX6_integrate_80 : decode cX6_integrate 80 = .ok (.aaload, 1) := by decide +kernel
theorem dX6_integrate_81 : decode cX6_integrate 81 = .ok (.invokestatic 132, 3) := by decide +kernel
theorem dX6_integrate_84 : decode cX6_integrate 84 = .ok (.aload_n 0, 1) := by decide +kernel
theorem dX6_integrate_85 : decode cX6_integrate 85 = .ok (.getfield 18, 3) := by decide +kernel
theorem dX6_integrate_88 : decode cX6_integrate 88 = .ok (.invokevirtual 135, 3) := by decide +kernel
theorem dX6_integrate_91 : decode cX6_integrate 91 = .ok (.ifCond .eq 13, 3) := by decide +kernel
theorem dX6_integrate_94 : decode cX6_integrate 94 = .ok (.aload_n 0, 1) := by decide +kernel
theorem dX6_integrate_95 : decode cX6_integrate 95 = .ok (.getfield 22, 3) := by decide +kernel
theorem dX6_integrate_98 : decode cX6_integrate 98 = .ok (.invokevirtual 135, 3) := by decide +kernel
theorem dX6_integrate_101 : decode cX6_integrate 101 = .ok (.ifCond .ne 6, 3) := by decide +kernel
theorem dX6_integrate_104 : decode cX6_integrate 104 = .ok (.bipush (-4), 2) := by decide +kernel
theorem dX6_integrate_106 : decode cX6_integrate 106 = .ok (.ireturn, 1) := by decide +kernel
theorem dX6_integrate_107 : decode cX6_integrate 107 = .ok (.aload_n 0, 1) := by decide +kernel
theorem dX6_integrate_108 : decode cX6_integrate 108 = .ok (.getfield 11, 3) := by decide +kernel
theorem dX6_integrate_111 : decode cX6_integrate 111 = .ok (.iload_n 1, 1) := by decide +kernel
theorem dX6_integrate_112 : decode cX6_integrate 112 = .ok (.aaload, 1) := by decide +kernel
theorem dX6_integrate_113 : decode cX6_integrate 113 = .ok (.aload_n 0, 1) := by decide +kernel
theorem dX6_integrate_114 : decode cX6_integrate 114 = .ok (.getfield 18, 3) := by decide +kernel
theorem dX6_integrate_117 : decode cX6_integrate 117 = .ok (.invokevirtual 138, 3) := by decide +kernel
theorem dX6_integrate_120 : decode cX6_integrate 120 = .ok (.aload_n 0, 1) := by decide +kernel
theorem dX6_integrate_121 : decode cX6_integrate 121 = .ok (.getfield 11, 3) := by decide +kernel
theorem dX6_integrate_124 : decode cX6_integrate 124 = .ok (.iload_n 2, 1) := by decide +kernel
theorem dX6_integrate_125 : decode cX6_integrate 125 = .ok (.aaload, 1) := by decide +kernel
theorem dX6_integrate_126 : decode cX6_integrate 126 = .ok (.aload_n 0, 1) := by decide +kernel
theorem dX6_integrate_127 : decode cX6_integrate 127 = .ok (.getfield 22, 3) := by decide +kernel
theorem dX6_integrate_130 : decode cX6_integrate 130 = .ok (.invokevirtual 138, 3) := by decide +kernel
theorem dX6_integrate_133 : decode cX6_integrate 133 = .ok (.aload_n 0, 1) := by decide +kernel
theorem dX6_integrate_134 : decode cX6_integrate 134 = .ok (.getfield 22, 3) := by decide +kernel
theorem dX6_integrate_137 : decode cX6_integrate 137 = .ok (.invokevirtual 111, 3) := by decide +kernel
theorem dX6_integrate_140 : decode cX6_integrate 140 = .ok (.ireturn, 1) := by decide +kernel
theorem dX6_same_0 : decode cX6_same 0 = .ok (.iload_n 1, 1) := by decide +kernel
theorem dX6_same_1 : decode cX6_same 1 = .ok (.invokestatic 69, 3) := by decide +kernel
theorem dX6_same_4 : decode cX6_same 4 = .ok (.ifCond .eq 10, 3) := by decide +kernel
theorem dX6_same_7 : decode cX6_same 7 = .ok (.iload_n 2, 1) := by decide +kernel
theorem dX6_same_8 : decode cX6_same 8 = .ok (.invokestatic 69, 3) := by decide +kernel
theorem dX6_same_11 : decode cX6_same 11 = .ok (.ifCond .ne 13, 3) := by decide +kernel
theorem dX6_same_14 : decode cX6_same 14 = .ok (.new 73, 3) := by decide +kernel
theorem dX6_same_17 : decode cX6_same 17 = .ok (.dup, 1) := by decide +kernel
theorem dX6_same_18 : decode cX6_same 18 = .ok (.ldc 75, 2) := by decide +kernel
theorem dX6_same_20 : decode cX6_same 20 = .ok (.invokespecial 77, 3) := by decide +kernel
theorem dX6_same_23 : decode cX6_same 23 = .ok (.athrow, 1) := by decide +kernel
theorem dX6_same_24 : decode cX6_same 24 = .ok (.aload_n 0, 1) := by decide +kernel
theorem dX6_same_25 : decode cX6_same 25 = .ok (.getfield 11, 3) := by decide +kernel
theorem dX6_same_28 : decode cX6_same 28 = .ok (.iload_n 1, 1) := by decide +kernel
theorem dX6_same_29 : decode cX6_same 29 = .ok (.aaload, 1) := by decide +kernel
theorem dX6_same_30 : decode cX6_same 30 = .ok (.aload_n 0, 1) := by decide +kernel
theorem dX6_same_31 : decode cX6_same 31 = .ok (.getfield 11, 3) := by decide +kernel
theorem dX6_same_34 : decode cX6_same 34 = .ok (.iload_n 2, 1) := by decide +kernel
theorem dX6_same_35 : decode cX6_same 35 = .ok (.aaload, 1) := by decide +kernel
theorem dX6_same_36 : decode cX6_same 36 = .ok (.invokevirtual 141, 3) := by decide +kernel
theorem dX6_same_39 : decode cX6_same 39 = .ok (.ireturn, 1) := by decide +kernel
theorem dX6_terms_0 : decode cX6_terms 0 = .ok (.iload_n 1, 1) := by decide +kernel
theorem dX6_terms_1 : decode cX6_terms 1 = .ok (.invokestatic 69, 3) := by decide +kernel
theorem dX6_terms_4 : decode cX6_terms 4 = .ok (.ifCond .ne 13, 3) := by decide +kernel
theorem dX6_terms_7 : decode cX6_terms 7 = .ok (.new 73, 3) := by decide +kernel
theorem dX6_terms_10 : decode cX6_terms 10 = .ok (.dup, 1) := by decide +kernel
theorem dX6_terms_11 : decode cX6_terms 11 = .ok (.ldc 75, 2) := by decide +kernel
theorem dX6_terms_13 : decode cX6_terms 13 = .ok (.invokespecial 77, 3) := by decide +kernel
theorem dX6_terms_16 : decode cX6_terms 16 = .ok (.athrow, 1) := by decide +kernel
theorem dX6_terms_17 : decode cX6_terms 17 = .ok (.aload_n 0, 1) := by decide +kernel
theorem dX6_terms_18 : decode cX6_terms 18 = .ok (.getfield 11, 3) := by decide +kernel
theorem dX6_terms_21 : decode cX6_terms 21 = .ok (.iload_n 1, 1) := by decide +kernel
theorem dX6_terms_22 : decode cX6_terms 22 = .ok (.aaload, 1) := by decide +kernel
theorem dX6_terms_23 : decode cX6_terms 23 = .ok (.invokevirtual 111, 3) := by decide +kernel
theorem dX6_terms_26 : decode cX6_terms 26 = .ok (.ireturn, 1) := by decide +kernel
theorem dX6_term_0 : decode cX6_term 0 = .ok (.iload_n 1, 1) := by decide +kernel
theorem dX6_term_1 : decode cX6_term 1 = .ok (.invokestatic 69, 3) := by decide +kernel
theorem dX6_term_4 : decode cX6_term 4 = .ok (.ifCond .ne 13, 3) := by decide +kernel
theorem dX6_term_7 : decode cX6_term 7 = .ok (.new 73, 3) := by decide +kernel
theorem dX6_term_10 : decode cX6_term 10 = .ok (.dup, 1) := by decide +kernel
theorem dX6_term_11 : decode cX6_term 11 = .ok (.ldc 75, 2) := by decide +kernel
theorem dX6_term_13 : decode cX6_term 13 = .ok (.invokespecial 77, 3) := by decide +kernel
theorem dX6_term_16 : decode cX6_term 16 = .ok (.athrow, 1) := by decide +kernel
theorem dX6_term_17 : decode cX6_term 17 = .ok (.iload_n 3, 1) := by decide +kernel
theorem dX6_term_18 : decode cX6_term 18 = .ok (.ifCond .lt 8, 3) := by decide +kernel
theorem dX6_term_21 : decode cX6_term 21 = .ok (.iload_n 3, 1) := by decide +kernel
theorem dX6_term_22 : decode cX6_term 22 = .ok (.iconst 4, 1) := by decide +kernel
theorem dX6_term_23 : decode cX6_term 23 = .ok (.if_icmp .le 13, 3) := by decide +kernel
theorem dX6_term_26 : decode cX6_term 26 = .ok (.new 73, 3) := by decide +kernel
theorem dX6_term_29 : decode cX6_term 29 = .ok (.dup, 1) := by decide +kernel
theorem dX6_term_30 : decode cX6_term 30 = .ok (.ldc 145, 2) := by decide +kernel
theorem dX6_term_32 : decode cX6_term 32 = .ok (.invokespecial 77, 3) := by decide +kernel
theorem dX6_term_35 : decode cX6_term 35 = .ok (.athrow, 1) := by decide +kernel
theorem dX6_term_36 : decode cX6_term 36 = .ok (.aload_n 0, 1) := by decide +kernel
theorem dX6_term_37 : decode cX6_term 37 = .ok (.getfield 11, 3) := by decide +kernel
theorem dX6_term_40 : decode cX6_term 40 = .ok (.iload_n 1, 1) := by decide +kernel
theorem dX6_term_41 : decode cX6_term 41 = .ok (.aaload, 1) := by decide +kernel
theorem dX6_term_42 : decode cX6_term 42 = .ok (.astore 4, 2) := by decide +kernel
theorem dX6_term_44 : decode cX6_term 44 = .ok (.aload 4, 2) := by decide +kernel
theorem dX6_term_46 : decode cX6_term 46 = .ok (.iload_n 2, 1) := by decide +kernel
theorem dX6_term_47 : decode cX6_term 47 = .ok (.invokevirtual 147, 3) := by decide +kernel
theorem dX6_term_50 : decode cX6_term 50 = .ok (.ifCond .ne 5, 3) := by decide +kernel
theorem dX6_term_53 : decode cX6_term 53 = .ok (.lconst 0, 1) := by decide +kernel
theorem dX6_term_54 : decode cX6_term 54 = .ok (.lreturn, 1) := by decide +kernel
theorem dX6_term_55 : decode cX6_term 55 = .ok (.iload_n 3, 1) := by decide +kernel
theorem dX6_term_56 : decode cX6_term 56 = .ok (.tableswitch 62 0 3 #[32, 39, 46, 54], 32) := by decide +kernel
theorem dX6_term_88 : decode cX6_term 88 = .ok (.aload 4, 2) := by decide +kernel
theorem dX6_term_90 : decode cX6_term 90 = .ok (.iload_n 2, 1) := by decide +kernel
theorem dX6_term_91 : decode cX6_term 91 = .ok (.invokevirtual 150, 3) := by decide +kernel
theorem dX6_term_94 : decode cX6_term 94 = .ok (.lreturn, 1) := by decide +kernel
theorem dX6_term_95 : decode cX6_term 95 = .ok (.aload 4, 2) := by decide +kernel
theorem dX6_term_97 : decode cX6_term 97 = .ok (.iload_n 2, 1) := by decide +kernel
theorem dX6_term_98 : decode cX6_term 98 = .ok (.invokevirtual 154, 3) := by decide +kernel
theorem dX6_term_101 : decode cX6_term 101 = .ok (.lreturn, 1) := by decide +kernel
theorem dX6_term_102 : decode cX6_term 102 = .ok (.aload 4, 2) := by decide +kernel
theorem dX6_term_104 : decode cX6_term 104 = .ok (.iload_n 2, 1) := by decide +kernel
theorem dX6_term_105 : decode cX6_term 105 = .ok (.invokevirtual 157, 3) := by decide +kernel
theorem dX6_term_108 : decode cX6_term 108 = .ok (.i2l, 1) := by decide +kernel
theorem dX6_term_109 : decode cX6_term 109 = .ok (.lreturn, 1) := by decide +kernel
theorem dX6_term_110 : decode cX6_term 110 = .ok (.aload 4, 2) := by decide +kernel
theorem dX6_term_112 : decode cX6_term 112 = .ok (.iload_n 2, 1) := by decide +kernel
theorem dX6_term_113 : decode cX6_term 113 = .ok (.invokevirtual 160, 3) := by decide +kernel
theorem dX6_term_116 : decode cX6_term 116 = .ok (.i2l, 1) := by decide +kernel
theorem dX6_term_117 : decode cX6_term 117 = .ok (.lreturn, 1) := by decide +kernel
theorem dX6_term_118 : decode cX6_term 118 = .ok (.aload 4, 2) := by decide +kernel
theorem dX6_term_120 : decode cX6_term 120 = .ok (.iload_n 2, 1) := by decide +kernel
theorem dX6_term_121 : decode cX6_term 121 = .ok (.invokevirtual 163, 3) := by decide +kernel
theorem dX6_term_124 : decode cX6_term 124 = .ok (.i2l, 1) := by decide +kernel
theorem dX6_term_125 : decode cX6_term 125 = .ok (.lreturn, 1) := by decide +kernel
theorem dX6_isSlot_0 : decode cX6_isSlot 0 = .ok (.iload_n 0, 1) := by decide +kernel
theorem dX6_isSlot_1 : decode cX6_isSlot 1 = .ok (.ifCond .lt 13, 3) := by decide +kernel
theorem dX6_isSlot_4 : decode cX6_isSlot 4 = .ok (.iload_n 0, 1) := by decide +kernel
theorem dX6_isSlot_5 : decode cX6_isSlot 5 = .ok (.bipush 8, 2) := by decide +kernel
theorem dX6_isSlot_7 : decode cX6_isSlot 7 = .ok (.if_icmp .ge 7, 3) := by decide +kernel
theorem dX6_isSlot_10 : decode cX6_isSlot 10 = .ok (.iconst 1, 1) := by decide +kernel
theorem dX6_isSlot_11 : decode cX6_isSlot 11 = .ok (.goto 4, 3) := by decide +kernel
theorem dX6_isSlot_14 : decode cX6_isSlot 14 = .ok (.iconst 0, 1) := by decide +kernel
theorem dX6_isSlot_15 : decode cX6_isSlot 15 = .ok (.ireturn, 1) := by decide +kernel
theorem dX6_settle_0 : decode cX6_settle 0 = .ok (.aload_n 0, 1) := by decide +kernel
theorem dX6_settle_1 : decode cX6_settle 1 = .ok (.getfield 18, 3) := by decide +kernel
theorem dX6_settle_4 : decode cX6_settle 4 = .ok (.invokevirtual 135, 3) := by decide +kernel
theorem dX6_settle_7 : decode cX6_settle 7 = .ok (.ifCond .ne 6, 3) := by decide +kernel
theorem dX6_settle_10 : decode cX6_settle 10 = .ok (.bipush (-4), 2) := by decide +kernel
theorem dX6_settle_12 : decode cX6_settle 12 = .ok (.ireturn, 1) := by decide +kernel
theorem dX6_settle_13 : decode cX6_settle 13 = .ok (.aload_n 0, 1) := by decide +kernel
theorem dX6_settle_14 : decode cX6_settle 14 = .ok (.getfield 11, 3) := by decide +kernel
theorem dX6_settle_17 : decode cX6_settle 17 = .ok (.iload_n 1, 1) := by decide +kernel
theorem dX6_settle_18 : decode cX6_settle 18 = .ok (.aaload, 1) := by decide +kernel
theorem dX6_settle_19 : decode cX6_settle 19 = .ok (.aload_n 0, 1) := by decide +kernel
theorem dX6_settle_20 : decode cX6_settle 20 = .ok (.getfield 18, 3) := by decide +kernel
theorem dX6_settle_23 : decode cX6_settle 23 = .ok (.invokevirtual 138, 3) := by decide +kernel
theorem dX6_settle_26 : decode cX6_settle 26 = .ok (.aload_n 0, 1) := by decide +kernel
theorem dX6_settle_27 : decode cX6_settle 27 = .ok (.getfield 18, 3) := by decide +kernel
theorem dX6_settle_30 : decode cX6_settle 30 = .ok (.invokevirtual 111, 3) := by decide +kernel
theorem dX6_settle_33 : decode cX6_settle 33 = .ok (.ireturn, 1) := by decide +kernel
theorem dJ9_abs_0f7a4_0 : decode cJ9_abs_0f7a4 0 = .ok (.iload_n 0, 1) := by decide +kernel
theorem dJ9_abs_0f7a4_1 : decode cJ9_abs_0f7a4 1 = .ok (.ifCond .ge 8, 3) := by decide +kernel
theorem dJ9_abs_0f7a4_4 : decode cJ9_abs_0f7a4 4 = .ok (.iload_n 0, 1) := by decide +kernel
theorem dJ9_abs_0f7a4_5 : decode cJ9_abs_0f7a4 5 = .ok (.ineg, 1) := by decide +kernel
theorem dJ9_abs_0f7a4_6 : decode cJ9_abs_0f7a4 6 = .ok (.goto 4, 3) := by decide +kernel
theorem dJ9_abs_0f7a4_9 : decode cJ9_abs_0f7a4 9 = .ok (.iload_n 0, 1) := by decide +kernel
theorem dJ9_abs_0f7a4_10 : decode cJ9_abs_0f7a4 10 = .ok (.ireturn, 1) := by decide +kernel
theorem dJ9_abs_067f4_0 : decode cJ9_abs_067f4 0 = .ok (.lload_n 0, 1) := by decide +kernel
theorem dJ9_abs_067f4_1 : decode cJ9_abs_067f4 1 = .ok (.lconst 0, 1) := by decide +kernel
theorem dJ9_abs_067f4_2 : decode cJ9_abs_067f4 2 = .ok (.lcmp, 1) := by decide +kernel
theorem dJ9_abs_067f4_3 : decode cJ9_abs_067f4 3 = .ok (.ifCond .ge 8, 3) := by decide +kernel
theorem dJ9_abs_067f4_6 : decode cJ9_abs_067f4 6 = .ok (.lload_n 0, 1) := by decide +kernel
theorem dJ9_abs_067f4_7 : decode cJ9_abs_067f4 7 = .ok (.lneg, 1) := by decide +kernel
theorem dJ9_abs_067f4_8 : decode cJ9_abs_067f4 8 = .ok (.goto 4, 3) := by decide +kernel
theorem dJ9_abs_067f4_11 : decode cJ9_abs_067f4 11 = .ok (.lload_n 0, 1) := by decide +kernel
theorem dJ9_abs_067f4_12 : decode cJ9_abs_067f4 12 = .ok (.lreturn, 1) := by decide +kernel
theorem dJ9_max_7cf53_0 : decode cJ9_max_7cf53 0 = .ok (.iload_n 0, 1) := by decide +kernel
theorem dJ9_max_7cf53_1 : decode cJ9_max_7cf53 1 = .ok (.iload_n 1, 1) := by decide +kernel
theorem dJ9_max_7cf53_2 : decode cJ9_max_7cf53 2 = .ok (.if_icmp .lt 7, 3) := by decide +kernel
theorem dJ9_max_7cf53_5 : decode cJ9_max_7cf53 5 = .ok (.iload_n 0, 1) := by decide +kernel
theorem dJ9_max_7cf53_6 : decode cJ9_max_7cf53 6 = .ok (.goto 4, 3) := by decide +kernel
theorem dJ9_max_7cf53_9 : decode cJ9_max_7cf53 9 = .ok (.iload_n 1, 1) := by decide +kernel
theorem dJ9_max_7cf53_10 : decode cJ9_max_7cf53 10 = .ok (.ireturn, 1) := by decide +kernel
theorem dJ9_min_7cf53_0 : decode cJ9_min_7cf53 0 = .ok (.iload_n 0, 1) := by decide +kernel
theorem dJ9_min_7cf53_1 : decode cJ9_min_7cf53 1 = .ok (.iload_n 1, 1) := by decide +kernel
theorem dJ9_min_7cf53_2 : decode cJ9_min_7cf53 2 = .ok (.if_icmp .gt 7, 3) := by decide +kernel
theorem dJ9_min_7cf53_5 : decode cJ9_min_7cf53 5 = .ok (.iload_n 0, 1) := by decide +kernel
theorem dJ9_min_7cf53_6 : decode cJ9_min_7cf53 6 = .ok (.goto 4, 3) := by decide +kernel
theorem dJ9_min_7cf53_9 : decode cJ9_min_7cf53 9 = .ok (.iload_n 1, 1) := by decide +kernel
theorem dJ9_min_7cf53_10 : decode cJ9_min_7cf53 10 = .ok (.ireturn, 1) := by decide +kernel
end
section
theorem dX7_init_0 : decode cX7_init 0 = .ok (.aload_n 0, 1) := by decide +kernel
theorem dX7_init_1 : decode cX7_init 1 = .ok (.invokespecial 1, 3) := by decide +kernel
theorem dX7_init_4 : decode cX7_init 4 = .ok (.aload_n 0, 1) := by decide +kernel
theorem dX7_init_5 : decode cX7_init 5 = .ok (.bipush 100, 2) := by decide +kernel
theorem dX7_init_7 : decode cX7_init 7 = .ok (.newarray .char, 2) := by decide +kernel
theorem dX7_init_9 : decode cX7_init 9 = .ok (.putfield 7, 3) := by decide +kernel
theorem dX7_init_12 : decode cX7_init 12 = .ok (.aload_n 0, 1) := by decide +kernel
theorem dX7_init_13 : decode cX7_init 13 = .ok (.sipush 1400, 3) := by decide +kernel
theorem dX7_init_16 : decode cX7_init 16 = .ok (.newarray .char, 2) := by decide +kernel
theorem dX7_init_18 : decode cX7_init 18 = .ok (.putfield 13, 3) := by decide +kernel
theorem dX7_init_21 : decode cX7_init 21 = .ok (.aload_n 0, 1) := by decide +kernel
theorem dX7_init_22 : decode cX7_init 22 = .ok (.iconst (-1), 1) := by decide +kernel
theorem dX7_init_23 : decode cX7_init 23 = .ok (.putfield 16, 3) := by decide +kernel
theorem dX7_init_26 : decode cX7_init 26 = .ok (.aload_n 0, 1) := by decide +kernel
theorem dX7_init_27 : decode cX7_init 27 = .ok (.sipush 11500, 3) := by decide +kernel
theorem dX7_init_30 : decode cX7_init 30 = .ok (.newarray .long, 2) := by decide +kernel
theorem dX7_init_32 : decode cX7_init 32 = .ok (.putfield 20, 3) := by decide +kernel
theorem dX7_init_35 : decode cX7_init 35 = .ok (.aload_n 0, 1) := by decide +kernel
theorem dX7_init_36 : decode cX7_init 36 = .ok (.sipush 11500, 3) := by decide +kernel
theorem dX7_init_39 : decode cX7_init 39 = .ok (.newarray .long, 2) := by decide +kernel
theorem dX7_init_41 : decode cX7_init 41 = .ok (.putfield 24, 3) := by decide +kernel
theorem dX7_init_44 : decode cX7_init 44 = .ok (.iconst 0, 1) := by decide +kernel
theorem dX7_init_45 : decode cX7_init 45 = .ok (.istore_n 1, 1) := by decide +kernel
theorem dX7_init_46 : decode cX7_init 46 = .ok (.iload_n 1, 1) := by decide +kernel
theorem dX7_init_47 : decode cX7_init 47 = .ok (.sipush 11500, 3) := by decide +kernel
theorem dX7_init_50 : decode cX7_init 50 = .ok (.if_icmp .ge 16, 3) := by decide +kernel
theorem dX7_init_53 : decode cX7_init 53 = .ok (.aload_n 0, 1) := by decide +kernel
theorem dX7_init_54 : decode cX7_init 54 = .ok (.getfield 24, 3) := by decide +kernel
theorem dX7_init_57 : decode cX7_init 57 = .ok (.iload_n 1, 1) := by decide +kernel
theorem dX7_init_58 : decode cX7_init 58 = .ok (.lconst 1, 1) := by decide +kernel
theorem dX7_init_59 : decode cX7_init 59 = .ok (.lastore, 1) := by decide +kernel
theorem dX7_init_60 : decode cX7_init 60 = .ok (.iinc 1 1, 3) := by decide +kernel
theorem dX7_init_63 : decode cX7_init 63 = .ok (.goto (-17), 3) := by decide +kernel
theorem dX7_init_66 : decode cX7_init 66 = .ok (.return_, 1) := by decide +kernel
theorem dX7_thrown_0 : decode cX7_thrown 0 = .ok (.aload_n 0, 1) := by decide +kernel
theorem dX7_thrown_1 : decode cX7_thrown 1 = .ok (.getfield 27, 3) := by decide +kernel
theorem dX7_thrown_4 : decode cX7_thrown 4 = .ok (.ireturn, 1) := by decide +kernel
theorem dX7_refused_0 : decode cX7_refused 0 = .ok (.aload_n 0, 1) := by decide +kernel
theorem dX7_refused_1 : decode cX7_refused 1 = .ok (.iload_n 1, 1) := by decide +kernel
theorem dX7_refused_2 : decode cX7_refused 2 = .ok (.putfield 27, 3) := by decide +kernel
theorem dX7_refused_5 : decode cX7_refused 5 = .ok (.iload_n 1, 1) := by decide +kernel
theorem dX7_refused_6 : decode cX7_refused 6 = .ok (.ifCond .le 7, 3) := by decide +kernel
theorem dX7_refused_9 : decode cX7_refused 9 = .ok (.iconst 1, 1) := by decide +kernel
theorem dX7_refused_10 : decode cX7_refused 10 = .ok (.goto 4, 3) := by decide +kernel
theorem dX7_refused_13 : decode cX7_refused 13 = .ok (.iconst 0, 1) := by decide +kernel
theorem dX7_refused_14 : decode cX7_refused 14 = .ok (.ireturn, 1) := by decide +kernel
theorem dX7_isSlot_0 : decode cX7_isSlot 0 = .ok (.iload_n 0, 1) := by decide +kernel
theorem dX7_isSlot_1 : decode cX7_isSlot 1 = .ok (.ifCond .lt 13, 3) := by decide +kernel
theorem dX7_isSlot_4 : decode cX7_isSlot 4 = .ok (.iload_n 0, 1) := by decide +kernel
theorem dX7_isSlot_5 : decode cX7_isSlot 5 = .ok (.bipush 8, 2) := by decide +kernel
theorem dX7_isSlot_7 : decode cX7_isSlot 7 = .ok (.if_icmp .ge 7, 3) := by decide +kernel
theorem dX7_isSlot_10 : decode cX7_isSlot 10 = .ok (.iconst 1, 1) := by decide +kernel
theorem dX7_isSlot_11 : decode cX7_isSlot 11 = .ok (.goto 4, 3) := by decide +kernel
theorem dX7_isSlot_14 : decode cX7_isSlot 14 = .ok (.iconst 0, 1) := by decide +kernel
theorem dX7_isSlot_15 : decode cX7_isSlot 15 = .ok (.ireturn, 1) := by decide +kernel
theorem dX7_kindOf_0 : decode cX7_kindOf 0 = .ok (.iload_n 0, 1) := by decide +kernel
theorem dX7_kindOf_1 : decode cX7_kindOf 1 = .ok (.ifCond .ne 7, 3) := by decide +kernel
theorem dX7_kindOf_4 : decode cX7_kindOf 4 = .ok (.iconst 0, 1) := by decide +kernel
theorem dX7_kindOf_5 : decode cX7_kindOf 5 = .ok (.goto 34, 3) := by decide +kernel
theorem dX7_kindOf_8 : decode cX7_kindOf 8 = .ok (.iload_n 0, 1) := by decide +kernel
theorem dX7_kindOf_9 : decode cX7_kindOf 9 = .ok (.bipush 10, 2) := by decide +kernel
theorem dX7_kindOf_11 : decode cX7_kindOf 11 = .ok (.if_icmp .ge 7, 3) := by decide +kernel
theorem dX7_kindOf_14 : decode cX7_kindOf 14 = .ok (.iconst 1, 1) := by decide +kernel
theorem dX7_kindOf_15 : decode cX7_kindOf 15 = .ok (.goto 24, 3) := by decide +kernel
theorem dX7_kindOf_18 : decode cX7_kindOf 18 = .ok (.iload_n 0, 1) := by decide +kernel
theorem dX7_kindOf_19 : decode cX7_kindOf 19 = .ok (.bipush 28, 2) := by decide +kernel
theorem dX7_kindOf_21 : decode cX7_kindOf 21 = .ok (.if_icmp .ge 7, 3) := by decide +kernel
theorem dX7_kindOf_24 : decode cX7_kindOf 24 = .ok (.iconst 2, 1) := by decide +kernel
theorem dX7_kindOf_25 : decode cX7_kindOf 25 = .ok (.goto 14, 3) := by decide +kernel
theorem dX7_kindOf_28 : decode cX7_kindOf 28 = .ok (.iload_n 0, 1) := by decide +kernel
theorem dX7_kindOf_29 : decode cX7_kindOf 29 = .ok (.bipush 37, 2) := by decide +kernel
theorem dX7_kindOf_31 : decode cX7_kindOf 31 = .ok (.if_icmp .ge 7, 3) := by decide +kernel
theorem dX7_kindOf_34 : decode cX7_kindOf 34 = .ok (.iconst 3, 1) := by decide +kernel
theorem dX7_kindOf_35 : decode cX7_kindOf 35 = .ok (.goto 4, 3) := by decide +kernel
theorem dX7_kindOf_38 : decode cX7_kindOf 38 = .ok (.iconst 4, 1) := by decide +kernel
theorem dX7_kindOf_39 : decode cX7_kindOf 39 = .ok (.ireturn, 1) := by decide +kernel
theorem dX7_countOf_0 : decode cX7_countOf 0 = .ok (.iload_n 0, 1) := by decide +kernel
theorem dX7_countOf_1 : decode cX7_countOf 1 = .ok (.bipush 10, 2) := by decide +kernel
theorem dX7_countOf_3 : decode cX7_countOf 3 = .ok (.if_icmp .ge 7, 3) := by decide +kernel
theorem dX7_countOf_6 : decode cX7_countOf 6 = .ok (.iload_n 0, 1) := by decide +kernel
theorem dX7_countOf_7 : decode cX7_countOf 7 = .ok (.goto 46, 3) := by decide +kernel
theorem dX7_countOf_10 : decode cX7_countOf 10 = .ok (.iload_n 0, 1) := by decide +kernel
theorem dX7_countOf_11 : decode cX7_countOf 11 = .ok (.bipush 19, 2) := by decide +kernel
theorem dX7_countOf_13 : decode cX7_countOf 13 = .ok (.if_icmp .ge 10, 3) := by decide +kernel
theorem dX7_countOf_16 : decode cX7_countOf 16 = .ok (.iload_n 0, 1) := by decide +kernel
theorem dX7_countOf_17 : decode cX7_countOf 17 = .ok (.bipush 19, 2) := by decide +kernel
theorem dX7_countOf_19 : decode cX7_countOf 19 = .ok (.isub, 1) := by decide +kernel
theorem dX7_countOf_20 : decode cX7_countOf 20 = .ok (.goto 33, 3) := by decide +kernel
theorem dX7_countOf_23 : decode cX7_countOf 23 = .ok (.iload_n 0, 1) := by decide +kernel
theorem dX7_countOf_24 : decode cX7_countOf 24 = .ok (.bipush 28, 2) := by decide +kernel
theorem dX7_countOf_26 : decode cX7_countOf 26 = .ok (.if_icmp .ge 10, 3) := by decide +kernel
theorem dX7_countOf_29 : decode cX7_countOf 29 = .ok (.iload_n 0, 1) := by decide +kernel
theorem dX7_countOf_30 : decode cX7_countOf 30 = .ok (.bipush 18, 2) := by decide +kernel
theorem dX7_countOf_32 : decode cX7_countOf 32 = .ok (.isub, 1) := by decide +kernel
theorem dX7_countOf_33 : decode cX7_countOf 33 = .ok (.goto 20, 3) := by decide +kernel
theorem dX7_countOf_36 : decode cX7_countOf 36 = .ok (.iload_n 0, 1) := by decide +kernel
theorem dX7_countOf_37 : decode cX7_countOf 37 = .ok (.bipush 37, 2) := by decide +kernel
theorem dX7_countOf_39 : decode cX7_countOf 39 = .ok (.if_icmp .ge 10, 3) := by decide +kernel
theorem dX7_countOf_42 : decode cX7_countOf 42 = .ok (.iload_n 0, 1) := by decide +kernel
theorem dX7_countOf_43 : decode cX7_countOf 43 = .ok (.bipush 27, 2) := by decide +kernel
theorem dX7_countOf_45 : decode cX7_countOf 45 = .ok (.isub, 1) := by decide +kernel
theorem dX7_countOf_46 : decode cX7_countOf 46 = .ok (.goto 7, 3) := by decide +kernel
theorem dX7_countOf_49 : decode cX7_countOf 49 = .ok (.iload_n 0, 1) := by decide +kernel
theorem dX7_countOf_50 : decode cX7_countOf 50 = .ok (.bipush 36, 2) := by decide +kernel
theorem dX7_countOf_52 : decode cX7_countOf 52 = .ok (.isub, 1) := by decide +kernel
theorem dX7_countOf_53 : decode cX7_countOf 53 = .ok (.ireturn, 1) := by decide +kernel
theorem dX7_functionOf_0 : decode cX7_functionOf 0 = .ok (.iload_n 0, 1) := by decide +kernel
theorem dX7_functionOf_1 : decode cX7_functionOf 1 = .ok (.ifCond .ne 7, 3) := by decide +kernel
theorem dX7_functionOf_4 : decode cX7_functionOf 4 = .ok (.iconst 0, 1) := by decide +kernel
theorem dX7_functionOf_5 : decode cX7_functionOf 5 = .ok (.goto 51, 3) := by decide +kernel
theorem dX7_functionOf_8 : decode cX7_functionOf 8 = .ok (.iload_n 0, 1) := by decide +kernel
theorem dX7_functionOf_9 : decode cX7_functionOf 9 = .ok (.iconst 1, 1) := by decide +kernel
theorem dX7_functionOf_10 : decode cX7_functionOf 10 = .ok (.if_icmp .ne 7, 3) := by decide +kernel
theorem dX7_functionOf_13 : decode cX7_functionOf 13 = .ok (.iload_n 1, 1) := by decide +kernel
theorem dX7_functionOf_14 : decode cX7_functionOf 14 = .ok (.goto 42, 3) := by decide +kernel
theorem dX7_functionOf_17 : decode cX7_functionOf 17 = .ok (.iload_n 0, 1) := by decide +kernel
theorem dX7_functionOf_18 : decode cX7_functionOf 18 = .ok (.iconst 2, 1) := by decide +kernel
theorem dX7_functionOf_19 : decode cX7_functionOf 19 = .ok (.if_icmp .ne 21, 3) := by decide +kernel
theorem dX7_functionOf_22 : decode cX7_functionOf 22 = .ok (.iload_n 1, 1) := by decide +kernel
theorem dX7_functionOf_23 : decode cX7_functionOf 23 = .ok (.ifCond .ge 10, 3) := by decide +kernel
theorem dX7_functionOf_26 : decode cX7_functionOf 26 = .ok (.iload_n 1, 1) := by decide +kernel
theorem dX7_functionOf_27 : decode cX7_functionOf 27 = .ok (.bipush 19, 2) := by decide +kernel
theorem dX7_functionOf_29 : decode cX7_functionOf 29 = .ok (.iadd, 1) := by decide +kernel
theorem dX7_functionOf_30 : decode cX7_functionOf 30 = .ok (.goto 26, 3) := by decide +kernel
theorem dX7_functionOf_33 : decode cX7_functionOf 33 = .ok (.iload_n 1, 1) := by decide +kernel
theorem dX7_functionOf_34 : decode cX7_functionOf 34 = .ok (.bipush 18, 2) := by decide +kernel
theorem dX7_functionOf_36 : decode cX7_functionOf 36 = .ok (.iadd, 1) := by decide +kernel
theorem dX7_functionOf_37 : decode cX7_functionOf 37 = .ok (.goto 19, 3) := by decide +kernel
theorem dX7_functionOf_40 : decode cX7_functionOf 40 = .ok (.iload_n 0, 1) := by decide +kernel
theorem dX7_functionOf_41 : decode cX7_functionOf 41 = .ok (.iconst 3, 1) := by decide +kernel
theorem dX7_functionOf_42 : decode cX7_functionOf 42 = .ok (.if_icmp .ne 10, 3) := by decide +kernel
theorem dX7_functionOf_45 : decode cX7_functionOf 45 = .ok (.iload_n 1, 1) := by decide +kernel
theorem dX7_functionOf_46 : decode cX7_functionOf 46 = .ok (.bipush 27, 2) := by decide +kernel
theorem dX7_functionOf_48 : decode cX7_functionOf 48 = .ok (.iadd, 1) := by decide +kernel
theorem dX7_functionOf_49 : decode cX7_functionOf 49 = .ok (.goto 7, 3) := by decide +kernel
theorem dX7_functionOf_52 : decode cX7_functionOf 52 = .ok (.iload_n 1, 1) := by decide +kernel
theorem dX7_functionOf_53 : decode cX7_functionOf 53 = .ok (.bipush 36, 2) := by decide +kernel
theorem dX7_functionOf_55 : decode cX7_functionOf 55 = .ok (.iadd, 1) := by decide +kernel
theorem dX7_functionOf_56 : decode cX7_functionOf 56 = .ok (.ireturn, 1) := by decide +kernel
theorem dX7_gcd_0 : decode cX7_gcd 0 = .ok (.lload_n 0, 1) := by decide +kernel
theorem dX7_gcd_1 : decode cX7_gcd 1 = .ok (.lconst 0, 1) := by decide +kernel
theorem dX7_gcd_2 : decode cX7_gcd 2 = .ok (.lcmp, 1) := by decide +kernel
theorem dX7_gcd_3 : decode cX7_gcd 3 = .ok (.ifCond .ge 8, 3) := by decide +kernel
theorem dX7_gcd_6 : decode cX7_gcd 6 = .ok (.lload_n 0, 1) := by decide +kernel
theorem dX7_gcd_7 : decode cX7_gcd 7 = .ok (.lneg, 1) := by decide +kernel
theorem dX7_gcd_8 : decode cX7_gcd 8 = .ok (.goto 4, 3) := by decide +kernel
theorem dX7_gcd_11 : decode cX7_gcd 11 = .ok (.lload_n 0, 1) := by decide +kernel
theorem dX7_gcd_12 : decode cX7_gcd 12 = .ok (.lstore 4, 2) := by decide +kernel
theorem dX7_gcd_14 : decode cX7_gcd 14 = .ok (.lload_n 2, 1) := by decide +kernel
theorem dX7_gcd_15 : decode cX7_gcd 15 = .ok (.lconst 0, 1) := by decide +kernel
theorem dX7_gcd_16 : decode cX7_gcd 16 = .ok (.lcmp, 1) := by decide +kernel
theorem dX7_gcd_17 : decode cX7_gcd 17 = .ok (.ifCond .ge 8, 3) := by decide +kernel
theorem dX7_gcd_20 : decode cX7_gcd 20 = .ok (.lload_n 2, 1) := by decide +kernel
theorem dX7_gcd_21 : decode cX7_gcd 21 = .ok (.lneg, 1) := by decide +kernel
theorem dX7_gcd_22 : decode cX7_gcd 22 = .ok (.goto 4, 3) := by decide +kernel
theorem dX7_gcd_25 : decode cX7_gcd 25 = .ok (.lload_n 2, 1) := by decide +kernel
theorem dX7_gcd_26 : decode cX7_gcd 26 = .ok (.lstore 6, 2) := by decide +kernel
theorem dX7_gcd_28 : decode cX7_gcd 28 = .ok (.lload 6, 2) := by decide +kernel
theorem dX7_gcd_30 : decode cX7_gcd 30 = .ok (.lconst 0, 1) := by decide +kernel
theorem dX7_gcd_31 : decode cX7_gcd 31 = .ok (.lcmp, 1) := by decide +kernel
theorem dX7_gcd_32 : decode cX7_gcd 32 = .ok (.ifCond .eq 21, 3) := by decide +kernel
theorem dX7_gcd_35 : decode cX7_gcd 35 = .ok (.lload 4, 2) := by decide +kernel
theorem dX7_gcd_37 : decode cX7_gcd 37 = .ok (.lload 6, 2) := by decide +kernel
theorem dX7_gcd_39 : decode cX7_gcd 39 = .ok (.lrem, 1) := by decide +kernel
theorem dX7_gcd_40 : decode cX7_gcd 40 = .ok (.lstore 8, 2) := by decide +kernel
theorem dX7_gcd_42 : decode cX7_gcd 42 = .ok (.lload 6, 2) := by decide +kernel
theorem dX7_gcd_44 : decode cX7_gcd 44 = .ok (.lstore 4, 2) := by decide +kernel
theorem dX7_gcd_46 : decode cX7_gcd 46 = .ok (.lload 8, 2) := by decide +kernel
theorem dX7_gcd_48 : decode cX7_gcd 48 = .ok (.lstore 6, 2) := by decide +kernel
theorem dX7_gcd_50 : decode cX7_gcd 50 = .ok (.goto (-22), 3) := by decide +kernel
theorem dX7_gcd_53 : decode cX7_gcd 53 = .ok (.lload 4, 2) := by decide +kernel
theorem dX7_gcd_55 : decode cX7_gcd 55 = .ok (.lreturn, 1) := by decide +kernel
theorem dX7_empty_0 : decode cX7_empty 0 = .ok (.sipush 1150, 3) := by decide +kernel
theorem dX7_empty_3 : decode cX7_empty 3 = .ok (.iload_n 1, 1) := by decide +kernel
theorem dX7_empty_4 : decode cX7_empty 4 = .ok (.imul, 1) := by decide +kernel
theorem dX7_empty_5 : decode cX7_empty 5 = .ok (.istore_n 2, 1) := by decide +kernel
theorem dX7_empty_6 : decode cX7_empty 6 = .ok (.iload_n 2, 1) := by decide +kernel
theorem dX7_empty_7 : decode cX7_empty 7 = .ok (.sipush 1150, 3) := by decide +kernel
theorem dX7_empty_10 : decode cX7_empty 10 = .ok (.iload_n 1, 1) := by decide +kernel
theorem dX7_empty_11 : decode cX7_empty 11 = .ok (.imul, 1) := by decide +kernel
theorem dX7_empty_12 : decode cX7_empty 12 = .ok (.sipush 1150, 3) := by decide +kernel
theorem dX7_empty_15 : decode cX7_empty 15 = .ok (.iadd, 1) := by decide +kernel
theorem dX7_empty_16 : decode cX7_empty 16 = .ok (.if_icmp .ge 23, 3) := by decide +kernel
theorem dX7_empty_19 : decode cX7_empty 19 = .ok (.aload_n 0, 1) := by decide +kernel
theorem dX7_empty_20 : decode cX7_empty 20 = .ok (.getfield 20, 3) := by decide +kernel
theorem dX7_empty_23 : decode cX7_empty 23 = .ok (.iload_n 2, 1) := by decide +kernel
theorem dX7_empty_24 : decode cX7_empty 24 = .ok (.lconst 0, 1) := by decide +kernel
theorem dX7_empty_25 : decode cX7_empty 25 = .ok (.lastore, 1) := by decide +kernel
theorem dX7_empty_26 : decode cX7_empty 26 = .ok (.aload_n 0, 1) := by decide +kernel
theorem dX7_empty_27 : decode cX7_empty 27 = .ok (.getfield 24, 3) := by decide +kernel
theorem dX7_empty_30 : decode cX7_empty 30 = .ok (.iload_n 2, 1) := by decide +kernel
theorem dX7_empty_31 : decode cX7_empty 31 = .ok (.lconst 1, 1) := by decide +kernel
theorem dX7_empty_32 : decode cX7_empty 32 = .ok (.lastore, 1) := by decide +kernel
theorem dX7_empty_33 : decode cX7_empty 33 = .ok (.iinc 2 1, 3) := by decide +kernel
theorem dX7_empty_36 : decode cX7_empty 36 = .ok (.goto (-30), 3) := by decide +kernel
theorem dX7_empty_39 : decode cX7_empty 39 = .ok (.return_, 1) := by decide +kernel
theorem dX7_addTerm_0 : decode cX7_addTerm 0 = .ok (.lload 5, 2) := by decide +kernel
theorem dX7_addTerm_2 : decode cX7_addTerm 2 = .ok (.lstore 9, 2) := by decide +kernel
theorem dX7_addTerm_4 : decode cX7_addTerm 4 = .ok (.iload_n 2, 1) := by decide +kernel
theorem dX7_addTerm_5 : decode cX7_addTerm 5 = .ok (.istore 11, 2) := by decide +kernel
theorem dX7_addTerm_7 : decode cX7_addTerm 7 = .ok (.iload_n 3, 1) := by decide +kernel
theorem dX7_addTerm_8 : decode cX7_addTerm 8 = .ok (.istore 12, 2) := by decide +kernel
theorem dX7_addTerm_10 : decode cX7_addTerm 10 = .ok (.iload_n 2, 1) := by decide +kernel
theorem dX7_addTerm_11 : decode cX7_addTerm 11 = .ok (.iconst 3, 1) := by decide +kernel
theorem dX7_addTerm_12 : decode cX7_addTerm 12 = .ok (.if_icmp .ne 12, 3) := by decide +kernel
theorem dX7_addTerm_15 : decode cX7_addTerm 15 = .ok (.iload_n 3, 1) := by decide +kernel
theorem dX7_addTerm_16 : decode cX7_addTerm 16 = .ok (.ifCond .ge 8, 3) := by decide +kernel
theorem dX7_addTerm_19 : decode cX7_addTerm 19 = .ok (.lload 9, 2) := by decide +kernel
theorem dX7_addTerm_21 : decode cX7_addTerm 21 = .ok (.lneg, 1) := by decide +kernel
theorem dX7_addTerm_22 : decode cX7_addTerm 22 = .ok (.lstore 9, 2) := by decide +kernel
theorem dX7_addTerm_24 : decode cX7_addTerm 24 = .ok (.iload_n 2, 1) := by decide +kernel
theorem dX7_addTerm_25 : decode cX7_addTerm 25 = .ok (.iconst 2, 1) := by decide +kernel
theorem dX7_addTerm_26 : decode cX7_addTerm 26 = .ok (.if_icmp .le 11, 3) := by decide +kernel
theorem dX7_addTerm_29 : decode cX7_addTerm 29 = .ok (.iload_n 3, 1) := by decide +kernel
theorem dX7_addTerm_30 : decode cX7_addTerm 30 = .ok (.ifCond .ge 7, 3) := by decide +kernel
theorem dX7_addTerm_33 : decode cX7_addTerm 33 = .ok (.iload_n 3, 1) := by decide +kernel
theorem dX7_addTerm_34 : decode cX7_addTerm 34 = .ok (.ineg, 1) := by decide +kernel
theorem dX7_addTerm_35 : decode cX7_addTerm 35 = .ok (.istore 12, 2) := by decide +kernel
theorem dX7_addTerm_37 : decode cX7_addTerm 37 = .ok (.iload_n 2, 1) := by decide +kernel
theorem dX7_addTerm_38 : decode cX7_addTerm 38 = .ok (.ifCond .le 26, 3) := by decide +kernel
theorem dX7_addTerm_41 : decode cX7_addTerm 41 = .ok (.iload_n 3, 1) := by decide +kernel
theorem dX7_addTerm_42 : decode cX7_addTerm 42 = .ok (.ifCond .ne 22, 3) := by decide +kernel
theorem dX7_addTerm_45 : decode cX7_addTerm 45 = .ok (.iload_n 2, 1) := by decide +kernel
theorem dX7_addTerm_46 : decode cX7_addTerm 46 = .ok (.iconst 3, 1) := by decide +kernel
theorem dX7_addTerm_47 : decode cX7_addTerm 47 = .ok (.if_icmp .ne 7, 3) := by decide +kernel
theorem dX7_addTerm_50 : decode cX7_addTerm 50 = .ok (.lconst 0, 1) := by decide +kernel
theorem dX7_addTerm_51 : decode cX7_addTerm 51 = .ok (.goto 5, 3) := by decide +kernel
theorem dX7_addTerm_54 : decode cX7_addTerm 54 = .ok (.lload 9, 2) := by decide +kernel
theorem dX7_addTerm_56 : decode cX7_addTerm 56 = .ok (.lstore 9, 2) := by decide +kernel
theorem dX7_addTerm_58 : decode cX7_addTerm 58 = .ok (.iconst 0, 1) := by decide +kernel
theorem dX7_addTerm_59 : decode cX7_addTerm 59 = .ok (.istore 11, 2) := by decide +kernel
theorem dX7_addTerm_61 : decode cX7_addTerm 61 = .ok (.iconst 0, 1) := by decide +kernel
theorem dX7_addTerm_62 : decode cX7_addTerm 62 = .ok (.istore 12, 2) := by decide +kernel
theorem dX7_addTerm_64 : decode cX7_addTerm 64 = .ok (.lload 9, 2) := by decide +kernel
theorem dX7_addTerm_66 : decode cX7_addTerm 66 = .ok (.lconst 0, 1) := by decide +kernel
theorem dX7_addTerm_67 : decode cX7_addTerm 67 = .ok (.lcmp, 1) := by decide +kernel
theorem dX7_addTerm_68 : decode cX7_addTerm 68 = .ok (.ifCond .ne 4, 3) := by decide +kernel
theorem dX7_addTerm_71 : decode cX7_addTerm 71 = .ok (.return_, 1) := by decide +kernel
theorem dX7_addTerm_72 : decode cX7_addTerm 72 = .ok (.iload 4, 2) := by decide +kernel
theorem dX7_addTerm_74 : decode cX7_addTerm 74 = .ok (.bipush (-12), 2) := by decide +kernel
theorem dX7_addTerm_76 : decode cX7_addTerm 76 = .ok (.if_icmp .lt 43, 3) := by decide +kernel
theorem dX7_addTerm_79 : decode cX7_addTerm 79 = .ok (.iload 4, 2) := by decide +kernel
theorem dX7_addTerm_81 : decode cX7_addTerm 81 = .ok (.bipush 12, 2) := by decide +kernel
theorem dX7_addTerm_83 : decode cX7_addTerm 83 = .ok (.if_icmp .gt 36, 3) := by decide +kernel
theorem dX7_addTerm_86 : decode cX7_addTerm 86 = .ok (.iload 11, 2) := by decide +kernel
theorem dX7_addTerm_88 : decode cX7_addTerm 88 = .ok (.iconst 1, 1) := by decide +kernel
theorem dX7_addTerm_89 : decode cX7_addTerm 89 = .ok (.if_icmp .ne 10, 3) := by decide +kernel
theorem dX7_addTerm_92 : decode cX7_addTerm 92 = .ok (.iload 12, 2) := by decide +kernel
theorem dX7_addTerm_94 : decode cX7_addTerm 94 = .ok (.bipush 9, 2) := by decide +kernel
theorem dX7_addTerm_96 : decode cX7_addTerm 96 = .ok (.if_icmp .gt 23, 3) := by decide +kernel
theorem dX7_addTerm_99 : decode cX7_addTerm 99 = .ok (.iload 11, 2) := by decide +kernel
theorem dX7_addTerm_101 : decode cX7_addTerm 101 = .ok (.iconst 1, 1) := by decide +kernel
theorem dX7_addTerm_102 : decode cX7_addTerm 102 = .ok (.if_icmp .le 23, 3) := by decide +kernel
theorem dX7_addTerm_105 : decode cX7_addTerm 105 = .ok (.iload 12, 2) := by decide +kernel
theorem dX7_addTerm_107 : decode cX7_addTerm 107 = .ok (.bipush 9, 2) := by decide +kernel
theorem dX7_addTerm_109 : decode cX7_addTerm 109 = .ok (.if_icmp .gt 10, 3) := by decide +kernel
theorem dX7_addTerm_112 : decode cX7_addTerm 112 = .ok (.iload 12, 2) := by decide +kernel
theorem dX7_addTerm_114 : decode cX7_addTerm 114 = .ok (.bipush (-9), 2) := by decide +kernel
theorem dX7_addTerm_116 : decode cX7_addTerm 116 = .ok (.if_icmp .ge 9, 3) := by decide +kernel
theorem dX7_addTerm_119 : decode cX7_addTerm 119 = .ok (.aload_n 0, 1) := by decide +kernel
theorem dX7_addTerm_120 : decode cX7_addTerm 120 = .ok (.iconst 1, 1) := by decide +kernel
theorem dX7_addTerm_121 : decode cX7_addTerm 121 = .ok (.putfield 30, 3) := by decide +kernel
theorem dX7_addTerm_124 : decode cX7_addTerm 124 = .ok (.return_, 1) := by decide +kernel
theorem dX7_addTerm_125 : decode cX7_addTerm 125 = .ok (.sipush 1150, 3) := by decide +kernel
theorem dX7_addTerm_128 : decode cX7_addTerm 128 = .ok (.iload_n 1, 1) := by decide +kernel
theorem dX7_addTerm_129 : decode cX7_addTerm 129 = .ok (.imul, 1) := by decide +kernel
theorem dX7_addTerm_130 : decode cX7_addTerm 130 = .ok (.bipush 25, 2) := by decide +kernel
theorem dX7_addTerm_132 : decode cX7_addTerm 132 = .ok (.iload 11, 2) := by decide +kernel
theorem dX7_addTerm_134 : decode cX7_addTerm 134 = .ok (.iload 12, 2) := by decide +kernel
theorem dX7_addTerm_136 : decode cX7_addTerm 136 = .ok (.invokestatic 34, 3) := by decide +kernel
theorem dX7_addTerm_139 : decode cX7_addTerm 139 = .ok (.imul, 1) := by decide +kernel
theorem dX7_addTerm_140 : decode cX7_addTerm 140 = .ok (.iadd, 1) := by decide +kernel
theorem dX7_addTerm_141 : decode cX7_addTerm 141 = .ok (.iload 4, 2) := by decide +kernel
theorem dX7_addTerm_143 : decode cX7_addTerm 143 = .ok (.iadd, 1) := by decide +kernel
theorem dX7_addTerm_144 : decode cX7_addTerm 144 = .ok (.bipush 12, 2) := by decide +kernel
theorem dX7_addTerm_146 : decode cX7_addTerm 146 = .ok (.iadd, 1) := by decide +kernel
theorem dX7_addTerm_147 : decode cX7_addTerm 147 = .ok (.istore 13, 2) := by decide +kernel
theorem dX7_addTerm_149 : decode cX7_addTerm 149 = .ok (.aload_n 0, 1) := by decide +kernel
theorem dX7_addTerm_150 : decode cX7_addTerm 150 = .ok (.getfield 20, 3) := by decide +kernel
theorem dX7_addTerm_153 : decode cX7_addTerm 153 = .ok (.iload 13, 2) := by decide +kernel
theorem dX7_addTerm_155 : decode cX7_addTerm 155 = .ok (.laload, 1) := by decide +kernel
theorem dX7_addTerm_156 : decode cX7_addTerm 156 = .ok (.lload 7, 2) := by decide +kernel
theorem dX7_addTerm_158 : decode cX7_addTerm 158 = .ok (.lmul, 1) := by decide +kernel
theorem dX7_addTerm_159 : decode cX7_addTerm 159 = .ok (.lload 9, 2) := by decide +kernel
theorem dX7_addTerm_161 : decode cX7_addTerm 161 = .ok (.aload_n 0, 1) := by decide +kernel
theorem dX7_addTerm_162 : decode cX7_addTerm 162 = .ok (.getfield 24, 3) := by decide +kernel
theorem dX7_addTerm_165 : decode cX7_addTerm 165 = .ok (.iload 13, 2) := by decide +kernel
theorem dX7_addTerm_167 : decode cX7_addTerm 167 = .ok (.laload, 1) := by decide +kernel
theorem dX7_addTerm_168 : decode cX7_addTerm 168 = .ok (.lmul, 1) := by decide +kernel
theorem dX7_addTerm_169 : decode cX7_addTerm 169 = .ok (.ladd, 1) := by decide +kernel
theorem dX7_addTerm_170 : decode cX7_addTerm 170 = .ok (.lstore 14, 2) := by decide +kernel
theorem dX7_addTerm_172 : decode cX7_addTerm 172 = .ok (.aload_n 0, 1) := by decide +kernel
theorem dX7_addTerm_173 : decode cX7_addTerm 173 = .ok (.getfield 24, 3) := by decide +kernel
theorem dX7_addTerm_176 : decode cX7_addTerm 176 = .ok (.iload 13, 2) := by decide +kernel
theorem dX7_addTerm_178 : decode cX7_addTerm 178 = .ok (.laload, 1) := by decide +kernel
theorem dX7_addTerm_179 : decode cX7_addTerm 179 = .ok (.lload 7, 2) := by decide +kernel
theorem dX7_addTerm_181 : decode cX7_addTerm 181 = .ok (.lmul, 1) := by decide +kernel
theorem dX7_addTerm_182 : decode cX7_addTerm 182 = .ok (.lstore 16, 2) := by decide +kernel
theorem dX7_addTerm_184 : decode cX7_addTerm 184 = .ok (.lload 14, 2) := by decide +kernel
theorem dX7_addTerm_186 : decode cX7_addTerm 186 = .ok (.lload 16, 2) := by decide +kernel
theorem dX7_addTerm_188 : decode cX7_addTerm 188 = .ok (.invokestatic 38, 3) := by decide +kernel
theorem dX7_addTerm_191 : decode cX7_addTerm 191 = .ok (.lstore 18, 2) := by decide +kernel
theorem dX7_addTerm_193 : decode cX7_addTerm 193 = .ok (.aload_n 0, 1) := by decide +kernel
theorem dX7_addTerm_194 : decode cX7_addTerm 194 = .ok (.getfield 20, 3) := by decide +kernel
theorem dX7_addTerm_197 : decode cX7_addTerm 197 = .ok (.iload 13, 2) := by decide +kernel
theorem dX7_addTerm_199 : decode cX7_addTerm 199 = .ok (.lload 14, 2) := by decide +kernel
theorem dX7_addTerm_201 : decode cX7_addTerm 201 = .ok (.lload 18, 2) := by decide +kernel
theorem dX7_addTerm_203 : decode cX7_addTerm 203 = .ok (.ldiv, 1) := by decide +kernel
theorem dX7_addTerm_204 : decode cX7_addTerm 204 = .ok (.lastore, 1) := by decide +kernel
theorem dX7_addTerm_205 : decode cX7_addTerm 205 = .ok (.aload_n 0, 1) := by decide +kernel
theorem dX7_addTerm_206 : decode cX7_addTerm 206 = .ok (.getfield 24, 3) := by decide +kernel
theorem dX7_addTerm_209 : decode cX7_addTerm 209 = .ok (.iload 13, 2) := by decide +kernel
theorem dX7_addTerm_211 : decode cX7_addTerm 211 = .ok (.lload 16, 2) := by decide +kernel
theorem dX7_addTerm_213 : decode cX7_addTerm 213 = .ok (.lload 18, 2) := by decide +kernel
theorem dX7_addTerm_215 : decode cX7_addTerm 215 = .ok (.ldiv, 1) := by decide +kernel
theorem dX7_addTerm_216 : decode cX7_addTerm 216 = .ok (.lastore, 1) := by decide +kernel
theorem dX7_addTerm_217 : decode cX7_addTerm 217 = .ok (.return_, 1) := by decide +kernel
theorem dX7_isOut_0 : decode cX7_isOut 0 = .ok (.aload_n 0, 1) := by decide +kernel
theorem dX7_isOut_1 : decode cX7_isOut 1 = .ok (.getfield 20, 3) := by decide +kernel
theorem dX7_isOut_4 : decode cX7_isOut 4 = .ok (.iload_n 1, 1) := by decide +kernel
theorem dX7_isOut_5 : decode cX7_isOut 5 = .ok (.laload, 1) := by decide +kernel
theorem dX7_isOut_6 : decode cX7_isOut 6 = .ok (.ldc2_w 42, 3) := by decide +kernel
theorem dX7_isOut_9 : decode cX7_isOut 9 = .ok (.lcmp, 1) := by decide +kernel
theorem dX7_isOut_10 : decode cX7_isOut 10 = .ok (.ifCond .gt 29, 3) := by decide +kernel
theorem dX7_isOut_13 : decode cX7_isOut 13 = .ok (.aload_n 0, 1) := by decide +kernel
theorem dX7_isOut_14 : decode cX7_isOut 14 = .ok (.getfield 20, 3) := by decide +kernel
theorem dX7_isOut_17 : decode cX7_isOut 17 = .ok (.iload_n 1, 1) := by decide +kernel
theorem dX7_isOut_18 : decode cX7_isOut 18 = .ok (.laload, 1) := by decide +kernel
theorem dX7_isOut_19 : decode cX7_isOut 19 = .ok (.ldc2_w 44, 3) := by decide +kernel
theorem dX7_isOut_22 : decode cX7_isOut 22 = .ok (.lcmp, 1) := by decide +kernel
theorem dX7_isOut_23 : decode cX7_isOut 23 = .ok (.ifCond .lt 16, 3) := by decide +kernel
theorem dX7_isOut_26 : decode cX7_isOut 26 = .ok (.aload_n 0, 1) := by decide +kernel
theorem dX7_isOut_27 : decode cX7_isOut 27 = .ok (.getfield 24, 3) := by decide +kernel
theorem dX7_isOut_30 : decode cX7_isOut 30 = .ok (.iload_n 1, 1) := by decide +kernel
theorem dX7_isOut_31 : decode cX7_isOut 31 = .ok (.laload, 1) := by decide +kernel
theorem dX7_isOut_32 : decode cX7_isOut 32 = .ok (.ldc2_w 46, 3) := by decide +kernel
theorem dX7_isOut_35 : decode cX7_isOut 35 = .ok (.lcmp, 1) := by decide +kernel
theorem dX7_isOut_36 : decode cX7_isOut 36 = .ok (.ifCond .le 7, 3) := by decide +kernel
theorem dX7_isOut_39 : decode cX7_isOut 39 = .ok (.iconst 1, 1) := by decide +kernel
theorem dX7_isOut_40 : decode cX7_isOut 40 = .ok (.goto 4, 3) := by decide +kernel
theorem dX7_isOut_43 : decode cX7_isOut 43 = .ok (.iconst 0, 1) := by decide +kernel
theorem dX7_isOut_44 : decode cX7_isOut 44 = .ok (.ireturn, 1) := by decide +kernel
theorem dX7_termsOf_0 : decode cX7_termsOf 0 = .ok (.iconst 0, 1) := by decide +kernel
theorem dX7_termsOf_1 : decode cX7_termsOf 1 = .ok (.istore_n 2, 1) := by decide +kernel
theorem dX7_termsOf_2 : decode cX7_termsOf 2 = .ok (.sipush 1150, 3) := by decide +kernel
theorem dX7_termsOf_5 : decode cX7_termsOf 5 = .ok (.iload_n 1, 1) := by decide +kernel
theorem dX7_termsOf_6 : decode cX7_termsOf 6 = .ok (.imul, 1) := by decide +kernel
theorem dX7_termsOf_7 : decode cX7_termsOf 7 = .ok (.istore_n 3, 1) := by decide +kernel
theorem dX7_termsOf_8 : decode cX7_termsOf 8 = .ok (.iload_n 3, 1) := by decide +kernel
theorem dX7_termsOf_9 : decode cX7_termsOf 9 = .ok (.sipush 1150, 3) := by decide +kernel
theorem dX7_termsOf_12 : decode cX7_termsOf 12 = .ok (.iload_n 1, 1) := by decide +kernel
theorem dX7_termsOf_13 : decode cX7_termsOf 13 = .ok (.imul, 1) := by decide +kernel
theorem dX7_termsOf_14 : decode cX7_termsOf 14 = .ok (.sipush 1150, 3) := by decide +kernel
theorem dX7_termsOf_17 : decode cX7_termsOf 17 = .ok (.iadd, 1) := by decide +kernel
theorem dX7_termsOf_18 : decode cX7_termsOf 18 = .ok (.if_icmp .ge 28, 3) := by decide +kernel
theorem dX7_termsOf_21 : decode cX7_termsOf 21 = .ok (.aload_n 0, 1) := by decide +kernel
theorem dX7_termsOf_22 : decode cX7_termsOf 22 = .ok (.getfield 20, 3) := by decide +kernel
theorem dX7_termsOf_25 : decode cX7_termsOf 25 = .ok (.iload_n 3, 1) := by decide +kernel
theorem dX7_termsOf_26 : decode cX7_termsOf 26 = .ok (.laload, 1) := by decide +kernel
theorem dX7_termsOf_27 : decode cX7_termsOf 27 = .ok (.lconst 0, 1) := by decide +kernel
theorem dX7_termsOf_28 : decode cX7_termsOf 28 = .ok (.lcmp, 1) := by decide +kernel
theorem dX7_termsOf_29 : decode cX7_termsOf 29 = .ok (.ifCond .eq 9, 3) := by decide +kernel
theorem dX7_termsOf_32 : decode cX7_termsOf 32 = .ok (.iload_n 2, 1) := by decide +kernel
theorem dX7_termsOf_33 : decode cX7_termsOf 33 = .ok (.iconst 1, 1) := by decide +kernel
theorem dX7_termsOf_34 : decode cX7_termsOf 34 = .ok (.iadd, 1) := by decide +kernel
theorem dX7_termsOf_35 : decode cX7_termsOf 35 = .ok (.goto 4, 3) := by decide +kernel
theorem dX7_termsOf_38 : decode cX7_termsOf 38 = .ok (.iload_n 2, 1) := by decide +kernel
theorem dX7_termsOf_39 : decode cX7_termsOf 39 = .ok (.istore_n 2, 1) := by decide +kernel
theorem dX7_termsOf_40 : decode cX7_termsOf 40 = .ok (.iinc 3 1, 3) := by decide +kernel
theorem dX7_termsOf_43 : decode cX7_termsOf 43 = .ok (.goto (-35), 3) := by decide +kernel
theorem dX7_termsOf_46 : decode cX7_termsOf 46 = .ok (.iload_n 2, 1) := by decide +kernel
theorem dX7_termsOf_47 : decode cX7_termsOf 47 = .ok (.ireturn, 1) := by decide +kernel
theorem dX7_fits_0 : decode cX7_fits 0 = .ok (.aload_n 0, 1) := by decide +kernel
theorem dX7_fits_1 : decode cX7_fits 1 = .ok (.getfield 30, 3) := by decide +kernel
theorem dX7_fits_4 : decode cX7_fits 4 = .ok (.ifCond .ne 17, 3) := by decide +kernel
theorem dX7_fits_7 : decode cX7_fits 7 = .ok (.aload_n 0, 1) := by decide +kernel
theorem dX7_fits_8 : decode cX7_fits 8 = .ok (.iload_n 1, 1) := by decide +kernel
theorem dX7_fits_9 : decode cX7_fits 9 = .ok (.invokevirtual 48, 3) := by decide +kernel
theorem dX7_fits_12 : decode cX7_fits 12 = .ok (.bipush 40, 2) := by decide +kernel
theorem dX7_fits_14 : decode cX7_fits 14 = .ok (.if_icmp .gt 7, 3) := by decide +kernel
theorem dX7_fits_17 : decode cX7_fits 17 = .ok (.iconst 1, 1) := by decide +kernel
theorem dX7_fits_18 : decode cX7_fits 18 = .ok (.goto 4, 3) := by decide +kernel
theorem dX7_fits_21 : decode cX7_fits 21 = .ok (.iconst 0, 1) := by decide +kernel
theorem dX7_fits_22 : decode cX7_fits 22 = .ok (.istore_n 2, 1) := by decide +kernel
theorem dX7_fits_23 : decode cX7_fits 23 = .ok (.sipush 1150, 3) := by decide +kernel
theorem dX7_fits_26 : decode cX7_fits 26 = .ok (.iload_n 1, 1) := by decide +kernel
theorem dX7_fits_27 : decode cX7_fits 27 = .ok (.imul, 1) := by decide +kernel
theorem dX7_fits_28 : decode cX7_fits 28 = .ok (.istore_n 3, 1) := by decide +kernel
theorem dX7_fits_29 : decode cX7_fits 29 = .ok (.iload_n 3, 1) := by decide +kernel
theorem dX7_fits_30 : decode cX7_fits 30 = .ok (.sipush 1150, 3) := by decide +kernel
theorem dX7_fits_33 : decode cX7_fits 33 = .ok (.iload_n 1, 1) := by decide +kernel
theorem dX7_fits_34 : decode cX7_fits 34 = .ok (.imul, 1) := by decide +kernel
theorem dX7_fits_35 : decode cX7_fits 35 = .ok (.sipush 1150, 3) := by decide +kernel
theorem dX7_fits_38 : decode cX7_fits 38 = .ok (.iadd, 1) := by decide +kernel
theorem dX7_fits_39 : decode cX7_fits 39 = .ok (.if_icmp .ge 27, 3) := by decide +kernel
theorem dX7_fits_42 : decode cX7_fits 42 = .ok (.iload_n 2, 1) := by decide +kernel
theorem dX7_fits_43 : decode cX7_fits 43 = .ok (.ifCond .eq 15, 3) := by decide +kernel
theorem dX7_fits_46 : decode cX7_fits 46 = .ok (.aload_n 0, 1) := by decide +kernel
theorem dX7_fits_47 : decode cX7_fits 47 = .ok (.iload_n 3, 1) := by decide +kernel
theorem dX7_fits_48 : decode cX7_fits 48 = .ok (.invokevirtual 52, 3) := by decide +kernel
theorem dX7_fits_51 : decode cX7_fits 51 = .ok (.ifCond .ne 7, 3) := by decide +kernel
theorem dX7_fits_54 : decode cX7_fits 54 = .ok (.iconst 1, 1) := by decide +kernel
theorem dX7_fits_55 : decode cX7_fits 55 = .ok (.goto 4, 3) := by decide +kernel
theorem dX7_fits_58 : decode cX7_fits 58 = .ok (.iconst 0, 1) := by decide +kernel
theorem dX7_fits_59 : decode cX7_fits 59 = .ok (.istore_n 2, 1) := by decide +kernel
theorem dX7_fits_60 : decode cX7_fits 60 = .ok (.iinc 3 1, 3) := by decide +kernel
theorem dX7_fits_63 : decode cX7_fits 63 = .ok (.goto (-34), 3) := by decide +kernel
theorem dX7_fits_66 : decode cX7_fits 66 = .ok (.iload_n 2, 1) := by decide +kernel
theorem dX7_fits_67 : decode cX7_fits 67 = .ok (.ireturn, 1) := by decide +kernel
theorem dX7_copy_0 : decode cX7_copy 0 = .ok (.iconst 0, 1) := by decide +kernel
theorem dX7_copy_1 : decode cX7_copy 1 = .ok (.istore_n 3, 1) := by decide +kernel
theorem dX7_copy_2 : decode cX7_copy 2 = .ok (.iload_n 3, 1) := by decide +kernel
theorem dX7_copy_3 : decode cX7_copy 3 = .ok (.sipush 1150, 3) := by decide +kernel
theorem dX7_copy_6 : decode cX7_copy 6 = .ok (.if_icmp .ge 57, 3) := by decide +kernel
theorem dX7_copy_9 : decode cX7_copy 9 = .ok (.aload_n 0, 1) := by decide +kernel
theorem dX7_copy_10 : decode cX7_copy 10 = .ok (.getfield 20, 3) := by decide +kernel
theorem dX7_copy_13 : decode cX7_copy 13 = .ok (.sipush 1150, 3) := by decide +kernel
theorem dX7_copy_16 : decode cX7_copy 16 = .ok (.iload_n 1, 1) := by decide +kernel
theorem dX7_copy_17 : decode cX7_copy 17 = .ok (.imul, 1) := by decide +kernel
theorem dX7_copy_18 : decode cX7_copy 18 = .ok (.iload_n 3, 1) := by decide +kernel
theorem dX7_copy_19 : decode cX7_copy 19 = .ok (.iadd, 1) := by decide +kernel
theorem dX7_copy_20 : decode cX7_copy 20 = .ok (.aload_n 0, 1) := by decide +kernel
theorem dX7_copy_21 : decode cX7_copy 21 = .ok (.getfield 20, 3) := by decide +kernel
theorem dX7_copy_24 : decode cX7_copy 24 = .ok (.sipush 1150, 3) := by decide +kernel
theorem dX7_copy_27 : decode cX7_copy 27 = .ok (.iload_n 2, 1) := by decide +kernel
theorem dX7_copy_28 : decode cX7_copy 28 = .ok (.imul, 1) := by decide +kernel
theorem dX7_copy_29 : decode cX7_copy 29 = .ok (.iload_n 3, 1) := by decide +kernel
theorem dX7_copy_30 : decode cX7_copy 30 = .ok (.iadd, 1) := by decide +kernel
theorem dX7_copy_31 : decode cX7_copy 31 = .ok (.laload, 1) := by decide +kernel
theorem dX7_copy_32 : decode cX7_copy 32 = .ok (.lastore, 1) := by decide +kernel
theorem dX7_copy_33 : decode cX7_copy 33 = .ok (.aload_n 0, 1) := by decide +kernel
theorem dX7_copy_34 : decode cX7_copy 34 = .ok (.getfield 24, 3) := by decide +kernel
theorem dX7_copy_37 : decode cX7_copy 37 = .ok (.sipush 1150, 3) := by decide +kernel
theorem dX7_copy_40 : decode cX7_copy 40 = .ok (.iload_n 1, 1) := by decide +kernel
theorem dX7_copy_41 : decode cX7_copy 41 = .ok (.imul, 1) := by decide +kernel
theorem dX7_copy_42 : decode cX7_copy 42 = .ok (.iload_n 3, 1) := by decide +kernel
theorem dX7_copy_43 : decode cX7_copy 43 = .ok (.iadd, 1) := by decide +kernel
theorem dX7_copy_44 : decode cX7_copy 44 = .ok (.aload_n 0, 1) := by decide +kernel
theorem dX7_copy_45 : decode cX7_copy 45 = .ok (.getfield 24, 3) := by decide +kernel
theorem dX7_copy_48 : decode cX7_copy 48 = .ok (.sipush 1150, 3) := by decide +kernel
theorem dX7_copy_51 : decode cX7_copy 51 = .ok (.iload_n 2, 1) := by decide +kernel
theorem dX7_copy_52 : decode cX7_copy 52 = .ok (.imul, 1) := by decide +kernel
theorem dX7_copy_53 : decode cX7_copy 53 = .ok (.iload_n 3, 1) := by decide +kernel
theorem dX7_copy_54 : decode cX7_copy 54 = .ok (.iadd, 1) := by decide +kernel
theorem dX7_copy_55 : decode cX7_copy 55 = .ok (.laload, 1) := by decide +kernel
theorem dX7_copy_56 : decode cX7_copy 56 = .ok (.lastore, 1) := by decide +kernel
theorem dX7_copy_57 : decode cX7_copy 57 = .ok (.iinc 3 1, 3) := by decide +kernel
theorem dX7_copy_60 : decode cX7_copy 60 = .ok (.goto (-58), 3) := by decide +kernel
theorem dX7_copy_63 : decode cX7_copy 63 = .ok (.return_, 1) := by decide +kernel
theorem dX7_finish_0 : decode cX7_finish 0 = .ok (.aload_n 0, 1) := by decide +kernel
theorem dX7_finish_1 : decode cX7_finish 1 = .ok (.bipush 8, 2) := by decide +kernel
theorem dX7_finish_3 : decode cX7_finish 3 = .ok (.invokevirtual 56, 3) := by decide +kernel
theorem dX7_finish_6 : decode cX7_finish 6 = .ok (.ifCond .ne 6, 3) := by decide +kernel
theorem dX7_finish_9 : decode cX7_finish 9 = .ok (.bipush (-4), 2) := by decide +kernel
theorem dX7_finish_11 : decode cX7_finish 11 = .ok (.ireturn, 1) := by decide +kernel
theorem dX7_finish_12 : decode cX7_finish 12 = .ok (.aload_n 0, 1) := by decide +kernel
theorem dX7_finish_13 : decode cX7_finish 13 = .ok (.iload_n 1, 1) := by decide +kernel
theorem dX7_finish_14 : decode cX7_finish 14 = .ok (.bipush 8, 2) := by decide +kernel
theorem dX7_finish_16 : decode cX7_finish 16 = .ok (.invokevirtual 59, 3) := by decide +kernel
theorem dX7_finish_19 : decode cX7_finish 19 = .ok (.aload_n 0, 1) := by decide +kernel
theorem dX7_finish_20 : decode cX7_finish 20 = .ok (.iload_n 1, 1) := by decide +kernel
theorem dX7_finish_21 : decode cX7_finish 21 = .ok (.invokevirtual 48, 3) := by decide +kernel
theorem dX7_finish_24 : decode cX7_finish 24 = .ok (.ireturn, 1) := by decide +kernel
theorem dX7_isSmall_0 : decode cX7_isSmall 0 = .ok (.iconst 1, 1) := by decide +kernel
theorem dX7_isSmall_1 : decode cX7_isSmall 1 = .ok (.istore_n 2, 1) := by decide +kernel
theorem dX7_isSmall_2 : decode cX7_isSmall 2 = .ok (.iconst 0, 1) := by decide +kernel
theorem dX7_isSmall_3 : decode cX7_isSmall 3 = .ok (.istore_n 3, 1) := by decide +kernel
theorem dX7_isSmall_4 : decode cX7_isSmall 4 = .ok (.iload_n 3, 1) := by decide +kernel
theorem dX7_isSmall_5 : decode cX7_isSmall 5 = .ok (.bipush 46, 2) := by decide +kernel
theorem dX7_isSmall_7 : decode cX7_isSmall 7 = .ok (.if_icmp .ge 143, 3) := by decide +kernel
theorem dX7_isSmall_10 : decode cX7_isSmall 10 = .ok (.bipush (-12), 2) := by decide +kernel
theorem dX7_isSmall_12 : decode cX7_isSmall 12 = .ok (.istore 4, 2) := by decide +kernel
theorem dX7_isSmall_14 : decode cX7_isSmall 14 = .ok (.iload 4, 2) := by decide +kernel
theorem dX7_isSmall_16 : decode cX7_isSmall 16 = .ok (.bipush 13, 2) := by decide +kernel
theorem dX7_isSmall_18 : decode cX7_isSmall 18 = .ok (.if_icmp .ge 126, 3) := by decide +kernel
theorem dX7_isSmall_21 : decode cX7_isSmall 21 = .ok (.sipush 1150, 3) := by decide +kernel
theorem dX7_isSmall_24 : decode cX7_isSmall 24 = .ok (.iload_n 1, 1) := by decide +kernel
theorem dX7_isSmall_25 : decode cX7_isSmall 25 = .ok (.imul, 1) := by decide +kernel
theorem dX7_isSmall_26 : decode cX7_isSmall 26 = .ok (.bipush 25, 2) := by decide +kernel
theorem dX7_isSmall_28 : decode cX7_isSmall 28 = .ok (.iload_n 3, 1) := by decide +kernel
theorem dX7_isSmall_29 : decode cX7_isSmall 29 = .ok (.imul, 1) := by decide +kernel
theorem dX7_isSmall_30 : decode cX7_isSmall 30 = .ok (.iadd, 1) := by decide +kernel
theorem dX7_isSmall_31 : decode cX7_isSmall 31 = .ok (.iload 4, 2) := by decide +kernel
theorem dX7_isSmall_33 : decode cX7_isSmall 33 = .ok (.iadd, 1) := by decide +kernel
theorem dX7_isSmall_34 : decode cX7_isSmall 34 = .ok (.bipush 12, 2) := by decide +kernel
theorem dX7_isSmall_36 : decode cX7_isSmall 36 = .ok (.iadd, 1) := by decide +kernel
theorem dX7_isSmall_37 : decode cX7_isSmall 37 = .ok (.istore 5, 2) := by decide +kernel
theorem dX7_isSmall_39 : decode cX7_isSmall 39 = .ok (.aload_n 0, 1) := by decide +kernel
theorem dX7_isSmall_40 : decode cX7_isSmall 40 = .ok (.getfield 20, 3) := by decide +kernel
theorem dX7_isSmall_43 : decode cX7_isSmall 43 = .ok (.iload 5, 2) := by decide +kernel
theorem dX7_isSmall_45 : decode cX7_isSmall 45 = .ok (.laload, 1) := by decide +kernel
theorem dX7_isSmall_46 : decode cX7_isSmall 46 = .ok (.lconst 0, 1) := by decide +kernel
theorem dX7_isSmall_47 : decode cX7_isSmall 47 = .ok (.lcmp, 1) := by decide +kernel
theorem dX7_isSmall_48 : decode cX7_isSmall 48 = .ok (.ifCond .ne 6, 3) := by decide +kernel
theorem dX7_isSmall_51 : decode cX7_isSmall 51 = .ok (.goto 87, 3) := by decide +kernel
theorem dX7_isSmall_54 : decode cX7_isSmall 54 = .ok (.iload_n 3, 1) := by decide +kernel
theorem dX7_isSmall_55 : decode cX7_isSmall 55 = .ok (.invokestatic 63, 3) := by decide +kernel
theorem dX7_isSmall_58 : decode cX7_isSmall 58 = .ok (.istore 6, 2) := by decide +kernel
theorem dX7_isSmall_60 : decode cX7_isSmall 60 = .ok (.iload_n 2, 1) := by decide +kernel
theorem dX7_isSmall_61 : decode cX7_isSmall 61 = .ok (.ifCond .eq 75, 3) := by decide +kernel
theorem dX7_isSmall_64 : decode cX7_isSmall 64 = .ok (.aload_n 0, 1) := by decide +kernel
theorem dX7_isSmall_65 : decode cX7_isSmall 65 = .ok (.getfield 20, 3) := by decide +kernel
theorem dX7_isSmall_68 : decode cX7_isSmall 68 = .ok (.iload 5, 2) := by decide +kernel
theorem dX7_isSmall_70 : decode cX7_isSmall 70 = .ok (.laload, 1) := by decide +kernel
theorem dX7_isSmall_71 : decode cX7_isSmall 71 = .ok (.ldc2_w 66, 3) := by decide +kernel
theorem dX7_isSmall_74 : decode cX7_isSmall 74 = .ok (.lcmp, 1) := by decide +kernel
theorem dX7_isSmall_75 : decode cX7_isSmall 75 = .ok (.ifCond .gt 61, 3) := by decide +kernel
theorem dX7_isSmall_78 : decode cX7_isSmall 78 = .ok (.aload_n 0, 1) := by decide +kernel
theorem dX7_isSmall_79 : decode cX7_isSmall 79 = .ok (.getfield 20, 3) := by decide +kernel
theorem dX7_isSmall_82 : decode cX7_isSmall 82 = .ok (.iload 5, 2) := by decide +kernel
theorem dX7_isSmall_84 : decode cX7_isSmall 84 = .ok (.laload, 1) := by decide +kernel
theorem dX7_isSmall_85 : decode cX7_isSmall 85 = .ok (.ldc2_w 68, 3) := by decide +kernel
theorem dX7_isSmall_88 : decode cX7_isSmall 88 = .ok (.lcmp, 1) := by decide +kernel
theorem dX7_isSmall_89 : decode cX7_isSmall 89 = .ok (.ifCond .lt 47, 3) := by decide +kernel
theorem dX7_isSmall_92 : decode cX7_isSmall 92 = .ok (.aload_n 0, 1) := by decide +kernel
theorem dX7_isSmall_93 : decode cX7_isSmall 93 = .ok (.getfield 24, 3) := by decide +kernel
theorem dX7_isSmall_96 : decode cX7_isSmall 96 = .ok (.iload 5, 2) := by decide +kernel
theorem dX7_isSmall_98 : decode cX7_isSmall 98 = .ok (.laload, 1) := by decide +kernel
theorem dX7_isSmall_99 : decode cX7_isSmall 99 = .ok (.ldc2_w 70, 3) := by decide +kernel
theorem dX7_isSmall_102 : decode cX7_isSmall 102 = .ok (.lcmp, 1) := by decide +kernel
theorem dX7_isSmall_103 : decode cX7_isSmall 103 = .ok (.ifCond .gt 33, 3) := by decide +kernel
theorem dX7_isSmall_106 : decode cX7_isSmall 106 = .ok (.iload 4, 2) := by decide +kernel
theorem dX7_isSmall_108 : decode cX7_isSmall 108 = .ok (.iconst 4, 1) := by decide +kernel
theorem dX7_isSmall_109 : decode cX7_isSmall 109 = .ok (.if_icmp .gt 27, 3) := by decide +kernel
theorem dX7_isSmall_112 : decode cX7_isSmall 112 = .ok (.iload 4, 2) := by decide +kernel
theorem dX7_isSmall_114 : decode cX7_isSmall 114 = .ok (.bipush (-4), 2) := by decide +kernel
theorem dX7_isSmall_116 : decode cX7_isSmall 116 = .ok (.if_icmp .lt 20, 3) := by decide +kernel
theorem dX7_isSmall_119 : decode cX7_isSmall 119 = .ok (.iload 6, 2) := by decide +kernel
theorem dX7_isSmall_121 : decode cX7_isSmall 121 = .ok (.iconst 3, 1) := by decide +kernel
theorem dX7_isSmall_122 : decode cX7_isSmall 122 = .ok (.if_icmp .gt 14, 3) := by decide +kernel
theorem dX7_isSmall_125 : decode cX7_isSmall 125 = .ok (.iload 6, 2) := by decide +kernel
theorem dX7_isSmall_127 : decode cX7_isSmall 127 = .ok (.bipush (-3), 2) := by decide +kernel
theorem dX7_isSmall_129 : decode cX7_isSmall 129 = .ok (.if_icmp .lt 7, 3) := by decide +kernel
theorem dX7_isSmall_132 : decode cX7_isSmall 132 = .ok (.iconst 1, 1) := by decide +kernel
theorem dX7_isSmall_133 : decode cX7_isSmall 133 = .ok (.goto 4, 3) := by decide +kernel
theorem dX7_isSmall_136 : decode cX7_isSmall 136 = .ok (.iconst 0, 1) := by decide +kernel
theorem dX7_isSmall_137 : decode cX7_isSmall 137 = .ok (.istore_n 2, 1) := by decide +kernel
theorem dX7_isSmall_138 : decode cX7_isSmall 138 = .ok (.iinc 4 1, 3) := by decide +kernel
theorem dX7_isSmall_141 : decode cX7_isSmall 141 = .ok (.goto (-127), 3) := by decide +kernel
theorem dX7_isSmall_144 : decode cX7_isSmall 144 = .ok (.iinc 3 1, 3) := by decide +kernel
theorem dX7_isSmall_147 : decode cX7_isSmall 147 = .ok (.goto (-143), 3) := by decide +kernel
theorem dX7_isSmall_150 : decode cX7_isSmall 150 = .ok (.iload_n 2, 1) := by decide +kernel
theorem dX7_isSmall_151 : decode cX7_isSmall 151 = .ok (.ireturn, 1) := by decide +kernel
theorem dX7_putCell_0 : decode cX7_putCell 0 = .ok (.iload_n 1, 1) := by decide +kernel
theorem dX7_putCell_1 : decode cX7_putCell 1 = .ok (.iload_n 2, 1) := by decide +kernel
theorem dX7_putCell_2 : decode cX7_putCell 2 = .ok (.ishr, 1) := by decide +kernel
theorem dX7_putCell_3 : decode cX7_putCell 3 = .ok (.sipush 255, 3) := by decide +kernel
theorem dX7_putCell_6 : decode cX7_putCell 6 = .ok (.iand, 1) := by decide +kernel
theorem dX7_putCell_7 : decode cX7_putCell 7 = .ok (.istore_n 3, 1) := by decide +kernel
theorem dX7_putCell_8 : decode cX7_putCell 8 = .ok (.iload_n 3, 1) := by decide +kernel
theorem dX7_putCell_9 : decode cX7_putCell 9 = .ok (.ifCond .le 33, 3) := by decide +kernel
theorem dX7_putCell_12 : decode cX7_putCell 12 = .ok (.aload_n 0, 1) := by decide +kernel
theorem dX7_putCell_13 : decode cX7_putCell 13 = .ok (.getfield 72, 3) := by decide +kernel
theorem dX7_putCell_16 : decode cX7_putCell 16 = .ok (.bipush 100, 2) := by decide +kernel
theorem dX7_putCell_18 : decode cX7_putCell 18 = .ok (.if_icmp .ge 14, 3) := by decide +kernel
theorem dX7_putCell_21 : decode cX7_putCell 21 = .ok (.aload_n 0, 1) := by decide +kernel
theorem dX7_putCell_22 : decode cX7_putCell 22 = .ok (.getfield 7, 3) := by decide +kernel
theorem dX7_putCell_25 : decode cX7_putCell 25 = .ok (.aload_n 0, 1) := by decide +kernel
theorem dX7_putCell_26 : decode cX7_putCell 26 = .ok (.getfield 72, 3) := by decide +kernel
theorem dX7_putCell_29 : decode cX7_putCell 29 = .ok (.iload_n 3, 1) := by decide +kernel
theorem dX7_putCell_30 : decode cX7_putCell 30 = .ok (.i2c, 1) := by decide +kernel
theorem dX7_putCell_31 : decode cX7_putCell 31 = .ok (.castore, 1) := by decide +kernel
theorem dX7_putCell_32 : decode cX7_putCell 32 = .ok (.aload_n 0, 1) := by decide +kernel
theorem dX7_putCell_33 : decode cX7_putCell 33 = .ok (.dup, 1) := by decide +kernel
theorem dX7_putCell_34 : decode cX7_putCell 34 = .ok (.getfield 72, 3) := by decide +kernel
theorem dX7_putCell_37 : decode cX7_putCell 37 = .ok (.iconst 1, 1) := by decide +kernel
theorem dX7_putCell_38 : decode cX7_putCell 38 = .ok (.iadd, 1) := by decide +kernel
theorem dX7_putCell_39 : decode cX7_putCell 39 = .ok (.putfield 72, 3) := by decide +kernel
theorem dX7_putCell_42 : decode cX7_putCell 42 = .ok (.return_, 1) := by decide +kernel
theorem dX7_type_0 : decode cX7_type 0 = .ok (.aload_n 0, 1) := by decide +kernel
theorem dX7_type_1 : decode cX7_type 1 = .ok (.getfield 72, 3) := by decide +kernel
theorem dX7_type_4 : decode cX7_type 4 = .ok (.istore 6, 2) := by decide +kernel
theorem dX7_type_6 : decode cX7_type 6 = .ok (.iconst 0, 1) := by decide +kernel
theorem dX7_type_7 : decode cX7_type 7 = .ok (.istore 7, 2) := by decide +kernel
theorem dX7_type_9 : decode cX7_type 9 = .ok (.iload 7, 2) := by decide +kernel
theorem dX7_type_11 : decode cX7_type 11 = .ok (.iconst 5, 1) := by decide +kernel
theorem dX7_type_12 : decode cX7_type 12 = .ok (.if_icmp .ge 80, 3) := by decide +kernel
theorem dX7_type_15 : decode cX7_type 15 = .ok (.iload 7, 2) := by decide +kernel
theorem dX7_type_17 : decode cX7_type 17 = .ok (.ifCond .ne 7, 3) := by decide +kernel
theorem dX7_type_20 : decode cX7_type 20 = .ok (.iload_n 1, 1) := by decide +kernel
theorem dX7_type_21 : decode cX7_type 21 = .ok (.goto 36, 3) := by decide +kernel
theorem dX7_type_24 : decode cX7_type 24 = .ok (.iload 7, 2) := by decide +kernel
theorem dX7_type_26 : decode cX7_type 26 = .ok (.iconst 1, 1) := by decide +kernel
theorem dX7_type_27 : decode cX7_type 27 = .ok (.if_icmp .ne 7, 3) := by decide +kernel
theorem dX7_type_30 : decode cX7_type 30 = .ok (.iload_n 2, 1) := by decide +kernel
theorem dX7_type_31 : decode cX7_type 31 = .ok (.goto 26, 3) := by decide +kernel
theorem dX7_type_34 : decode cX7_type 34 = .ok (.iload 7, 2) := by decide +kernel
theorem dX7_type_36 : decode cX7_type 36 = .ok (.iconst 2, 1) := by decide +kernel
theorem dX7_type_37 : decode cX7_type 37 = .ok (.if_icmp .ne 7, 3) := by decide +kernel
theorem dX7_type_40 : decode cX7_type 40 = .ok (.iload_n 3, 1) := by decide +kernel
theorem dX7_type_41 : decode cX7_type 41 = .ok (.goto 16, 3) := by decide +kernel
theorem dX7_type_44 : decode cX7_type 44 = .ok (.iload 7, 2) := by decide +kernel
theorem dX7_type_46 : decode cX7_type 46 = .ok (.iconst 3, 1) := by decide +kernel
theorem dX7_type_47 : decode cX7_type 47 = .ok (.if_icmp .ne 8, 3) := by decide +kernel
theorem dX7_type_50 : decode cX7_type 50 = .ok (.iload 4, 2) := by decide +kernel
theorem dX7_type_52 : decode cX7_type 52 = .ok (.goto 5, 3) := by decide +kernel
theorem dX7_type_55 : decode cX7_type 55 = .ok (.iload 5, 2) := by decide +kernel
theorem dX7_type_57 : decode cX7_type 57 = .ok (.istore 8, 2) := by decide +kernel
theorem dX7_type_59 : decode cX7_type 59 = .ok (.bipush 24, 2) := by decide +kernel
theorem dX7_type_61 : decode cX7_type 61 = .ok (.istore 9, 2) := by decide +kernel
theorem dX7_type_63 : decode cX7_type 63 = .ok (.iload 9, 2) := by decide +kernel
theorem dX7_type_65 : decode cX7_type 65 = .ok (.ifCond .lt 21, 3) := by decide +kernel
theorem dX7_type_68 : decode cX7_type 68 = .ok (.aload_n 0, 1) := by decide +kernel
theorem dX7_type_69 : decode cX7_type 69 = .ok (.iload 8, 2) := by decide +kernel
theorem dX7_type_71 : decode cX7_type 71 = .ok (.iload 9, 2) := by decide +kernel
theorem dX7_type_73 : decode cX7_type 73 = .ok (.invokevirtual 75, 3) := by decide +kernel
theorem dX7_type_76 : decode cX7_type 76 = .ok (.iload 9, 2) := by decide +kernel
theorem dX7_type_78 : decode cX7_type 78 = .ok (.bipush 8, 2) := by decide +kernel
theorem dX7_type_80 : decode cX7_type 80 = .ok (.isub, 1) := by decide +kernel
theorem dX7_type_81 : decode cX7_type 81 = .ok (.istore 9, 2) := by decide +kernel
theorem dX7_type_83 : decode cX7_type 83 = .ok (.goto (-20), 3) := by decide +kernel
theorem dX7_type_86 : decode cX7_type 86 = .ok (.iinc 7 1, 3) := by decide +kernel
theorem dX7_type_89 : decode cX7_type 89 = .ok (.goto (-80), 3) := by decide +kernel
theorem dX7_type_92 : decode cX7_type 92 = .ok (.aload_n 0, 1) := by decide +kernel
theorem dX7_type_93 : decode cX7_type 93 = .ok (.aload_n 0, 1) := by decide +kernel
theorem dX7_type_94 : decode cX7_type 94 = .ok (.getfield 72, 3) := by decide +kernel
theorem dX7_type_97 : decode cX7_type 97 = .ok (.bipush 100, 2) := by decide +kernel
theorem dX7_type_99 : decode cX7_type 99 = .ok (.if_icmp .le 7, 3) := by decide +kernel
theorem dX7_type_102 : decode cX7_type 102 = .ok (.iconst 1, 1) := by decide +kernel
theorem dX7_type_103 : decode cX7_type 103 = .ok (.goto 4, 3) := by decide +kernel
theorem dX7_type_106 : decode cX7_type 106 = .ok (.iconst 0, 1) := by decide +kernel
theorem dX7_type_107 : decode cX7_type 107 = .ok (.invokevirtual 78, 3) := by decide +kernel
theorem dX7_type_110 : decode cX7_type 110 = .ok (.ifCond .eq 11, 3) := by decide +kernel
theorem dX7_type_113 : decode cX7_type 113 = .ok (.aload_n 0, 1) := by decide +kernel
theorem dX7_type_114 : decode cX7_type 114 = .ok (.iload 6, 2) := by decide +kernel
theorem dX7_type_116 : decode cX7_type 116 = .ok (.putfield 72, 3) := by decide +kernel
theorem dX7_type_119 : decode cX7_type 119 = .ok (.iconst 0, 1) := by decide +kernel
theorem dX7_type_120 : decode cX7_type 120 = .ok (.ireturn, 1) := by decide +kernel
theorem dX7_type_121 : decode cX7_type 121 = .ok (.aload_n 0, 1) := by decide +kernel
theorem dX7_type_122 : decode cX7_type 122 = .ok (.getfield 72, 3) := by decide +kernel
theorem dX7_type_125 : decode cX7_type 125 = .ok (.ireturn, 1) := by decide +kernel
theorem dX7_erase_0 : decode cX7_erase 0 = .ok (.aload_n 0, 1) := by decide +kernel
theorem dX7_erase_1 : decode cX7_erase 1 = .ok (.iconst 0, 1) := by decide +kernel
theorem dX7_erase_2 : decode cX7_erase 2 = .ok (.putfield 27, 3) := by decide +kernel
theorem dX7_erase_5 : decode cX7_erase 5 = .ok (.aload_n 0, 1) := by decide +kernel
theorem dX7_erase_6 : decode cX7_erase 6 = .ok (.getfield 72, 3) := by decide +kernel
theorem dX7_erase_9 : decode cX7_erase 9 = .ok (.istore_n 1, 1) := by decide +kernel
theorem dX7_erase_10 : decode cX7_erase 10 = .ok (.aload_n 0, 1) := by decide +kernel
theorem dX7_erase_11 : decode cX7_erase 11 = .ok (.iconst 0, 1) := by decide +kernel
theorem dX7_erase_12 : decode cX7_erase 12 = .ok (.putfield 72, 3) := by decide +kernel
theorem dX7_erase_15 : decode cX7_erase 15 = .ok (.iload_n 1, 1) := by decide +kernel
theorem dX7_erase_16 : decode cX7_erase 16 = .ok (.ireturn, 1) := by decide +kernel
theorem dX7_next_0 : decode cX7_next 0 = .ok (.aload_n 0, 1) := by decide +kernel
theorem dX7_next_1 : decode cX7_next 1 = .ok (.getfield 81, 3) := by decide +kernel
theorem dX7_next_4 : decode cX7_next 4 = .ok (.aload_n 0, 1) := by decide +kernel
theorem dX7_next_5 : decode cX7_next 5 = .ok (.getfield 72, 3) := by decide +kernel
theorem dX7_next_8 : decode cX7_next 8 = .ok (.if_icmp .ge 30, 3) := by decide +kernel
theorem dX7_next_11 : decode cX7_next 11 = .ok (.aload_n 0, 1) := by decide +kernel
theorem dX7_next_12 : decode cX7_next 12 = .ok (.getfield 7, 3) := by decide +kernel
theorem dX7_next_15 : decode cX7_next 15 = .ok (.aload_n 0, 1) := by decide +kernel
theorem dX7_next_16 : decode cX7_next 16 = .ok (.getfield 81, 3) := by decide +kernel
theorem dX7_next_19 : decode cX7_next 19 = .ok (.caload, 1) := by decide +kernel
theorem dX7_next_20 : decode cX7_next 20 = .ok (.bipush 32, 2) := by decide +kernel
theorem dX7_next_22 : decode cX7_next 22 = .ok (.if_icmp .ne 16, 3) := by decide +kernel
theorem dX7_next_25 : decode cX7_next 25 = .ok (.aload_n 0, 1) := by decide +kernel
theorem dX7_next_26 : decode cX7_next 26 = .ok (.dup, 1) := by decide +kernel
theorem dX7_next_27 : decode cX7_next 27 = .ok (.getfield 81, 3) := by decide +kernel
theorem dX7_next_30 : decode cX7_next 30 = .ok (.iconst 1, 1) := by decide +kernel
theorem dX7_next_31 : decode cX7_next 31 = .ok (.iadd, 1) := by decide +kernel
theorem dX7_next_32 : decode cX7_next 32 = .ok (.putfield 81, 3) := by decide +kernel
theorem dX7_next_35 : decode cX7_next 35 = .ok (.goto (-35), 3) := by decide +kernel
theorem dX7_next_38 : decode cX7_next 38 = .ok (.aload_n 0, 1) := by decide +kernel
theorem dX7_next_39 : decode cX7_next 39 = .ok (.getfield 81, 3) := by decide +kernel
theorem dX7_next_42 : decode cX7_next 42 = .ok (.aload_n 0, 1) := by decide +kernel
theorem dX7_next_43 : decode cX7_next 43 = .ok (.getfield 72, 3) := by decide +kernel
theorem dX7_next_46 : decode cX7_next 46 = .ok (.if_icmp .ge 15, 3) := by decide +kernel
theorem dX7_next_49 : decode cX7_next 49 = .ok (.aload_n 0, 1) := by decide +kernel
theorem dX7_next_50 : decode cX7_next 50 = .ok (.getfield 7, 3) := by decide +kernel
theorem dX7_next_53 : decode cX7_next 53 = .ok (.aload_n 0, 1) := by decide +kernel
theorem dX7_next_54 : decode cX7_next 54 = .ok (.getfield 81, 3) := by decide +kernel
theorem dX7_next_57 : decode cX7_next 57 = .ok (.caload, 1) := by decide +kernel
theorem dX7_next_58 : decode cX7_next 58 = .ok (.goto 4, 3) := by decide +kernel
theorem dX7_next_61 : decode cX7_next 61 = .ok (.iconst 0, 1) := by decide +kernel
theorem dX7_next_62 : decode cX7_next 62 = .ok (.ireturn, 1) := by decide +kernel
theorem dX7_isDigit_0 : decode cX7_isDigit 0 = .ok (.iload_n 0, 1) := by decide +kernel
theorem dX7_isDigit_1 : decode cX7_isDigit 1 = .ok (.bipush 48, 2) := by decide +kernel
theorem dX7_isDigit_3 : decode cX7_isDigit 3 = .ok (.if_icmp .lt 13, 3) := by decide +kernel
theorem dX7_isDigit_6 : decode cX7_isDigit 6 = .ok (.iload_n 0, 1) := by decide +kernel
theorem dX7_isDigit_7 : decode cX7_isDigit 7 = .ok (.bipush 57, 2) := by decide +kernel
theorem dX7_isDigit_9 : decode cX7_isDigit 9 = .ok (.if_icmp .gt 7, 3) := by decide +kernel
theorem dX7_isDigit_12 : decode cX7_isDigit 12 = .ok (.iconst 1, 1) := by decide +kernel
theorem dX7_isDigit_13 : decode cX7_isDigit 13 = .ok (.goto 4, 3) := by decide +kernel
theorem dX7_isDigit_16 : decode cX7_isDigit 16 = .ok (.iconst 0, 1) := by decide +kernel
theorem dX7_isDigit_17 : decode cX7_isDigit 17 = .ok (.ireturn, 1) := by decide +kernel
theorem dX7_wrong_0 : decode cX7_wrong 0 = .ok (.aload_n 0, 1) := by decide +kernel
theorem dX7_wrong_1 : decode cX7_wrong 1 = .ok (.getfield 84, 3) := by decide +kernel
theorem dX7_wrong_4 : decode cX7_wrong 4 = .ok (.ifCond .ne 13, 3) := by decide +kernel
theorem dX7_wrong_7 : decode cX7_wrong 7 = .ok (.aload_n 0, 1) := by decide +kernel
theorem dX7_wrong_8 : decode cX7_wrong 8 = .ok (.iload_n 1, 1) := by decide +kernel
theorem dX7_wrong_9 : decode cX7_wrong 9 = .ok (.putfield 84, 3) := by decide +kernel
theorem dX7_wrong_12 : decode cX7_wrong 12 = .ok (.aload_n 0, 1) := by decide +kernel
theorem dX7_wrong_13 : decode cX7_wrong 13 = .ok (.iload_n 2, 1) := by decide +kernel
theorem dX7_wrong_14 : decode cX7_wrong 14 = .ok (.putfield 16, 3) := by decide +kernel
theorem dX7_wrong_17 : decode cX7_wrong 17 = .ok (.return_, 1) := by decide +kernel
theorem dX7_takes_0 : decode cX7_takes 0 = .ok (.aload_n 0, 1) := by decide +kernel
theorem dX7_takes_1 : decode cX7_takes 1 = .ok (.getfield 84, 3) := by decide +kernel
theorem dX7_takes_4 : decode cX7_takes 4 = .ok (.ifCond .ne 11, 3) := by decide +kernel
theorem dX7_takes_7 : decode cX7_takes 7 = .ok (.aload_n 0, 1) := by decide +kernel
theorem dX7_takes_8 : decode cX7_takes 8 = .ok (.invokevirtual 87, 3) := by decide +kernel
theorem dX7_takes_11 : decode cX7_takes 11 = .ok (.iload_n 1, 1) := by decide +kernel
theorem dX7_takes_12 : decode cX7_takes 12 = .ok (.if_icmp .eq 5, 3) := by decide +kernel
theorem dX7_takes_15 : decode cX7_takes 15 = .ok (.iconst 0, 1) := by decide +kernel
theorem dX7_takes_16 : decode cX7_takes 16 = .ok (.ireturn, 1) := by decide +kernel
theorem dX7_takes_17 : decode cX7_takes 17 = .ok (.aload_n 0, 1) := by decide +kernel
theorem dX7_takes_18 : decode cX7_takes 18 = .ok (.dup, 1) := by decide +kernel
theorem dX7_takes_19 : decode cX7_takes 19 = .ok (.getfield 81, 3) := by decide +kernel
theorem dX7_takes_22 : decode cX7_takes 22 = .ok (.iconst 1, 1) := by decide +kernel
theorem dX7_takes_23 : decode cX7_takes 23 = .ok (.iadd, 1) := by decide +kernel
theorem dX7_takes_24 : decode cX7_takes 24 = .ok (.putfield 81, 3) := by decide +kernel
theorem dX7_takes_27 : decode cX7_takes 27 = .ok (.iconst 1, 1) := by decide +kernel
theorem dX7_takes_28 : decode cX7_takes 28 = .ok (.ireturn, 1) := by decide +kernel
theorem dX7_want_0 : decode cX7_want 0 = .ok (.aload_n 0, 1) := by decide +kernel
theorem dX7_want_1 : decode cX7_want 1 = .ok (.iload_n 1, 1) := by decide +kernel
theorem dX7_want_2 : decode cX7_want 2 = .ok (.invokevirtual 91, 3) := by decide +kernel
theorem dX7_want_5 : decode cX7_want 5 = .ok (.ifCond .ne 13, 3) := by decide +kernel
theorem dX7_want_8 : decode cX7_want 8 = .ok (.aload_n 0, 1) := by decide +kernel
theorem dX7_want_9 : decode cX7_want 9 = .ok (.bipush (-2), 2) := by decide +kernel
theorem dX7_want_11 : decode cX7_want 11 = .ok (.aload_n 0, 1) := by decide +kernel
theorem dX7_want_12 : decode cX7_want 12 = .ok (.getfield 81, 3) := by decide +kernel
theorem dX7_want_15 : decode cX7_want 15 = .ok (.invokevirtual 95, 3) := by decide +kernel
theorem dX7_want_18 : decode cX7_want 18 = .ok (.return_, 1) := by decide +kernel
theorem dX7_readNumber_0 : decode cX7_readNumber 0 = .ok (.aload_n 0, 1) := by decide +kernel
theorem dX7_readNumber_1 : decode cX7_readNumber 1 = .ok (.getfield 84, 3) := by decide +kernel
theorem dX7_readNumber_4 : decode cX7_readNumber 4 = .ok (.ifCond .eq 5, 3) := by decide +kernel
theorem dX7_readNumber_7 : decode cX7_readNumber 7 = .ok (.iconst 0, 1) := by decide +kernel
theorem dX7_readNumber_8 : decode cX7_readNumber 8 = .ok (.ireturn, 1) := by decide +kernel
theorem dX7_readNumber_9 : decode cX7_readNumber 9 = .ok (.iconst 0, 1) := by decide +kernel
theorem dX7_readNumber_10 : decode cX7_readNumber 10 = .ok (.istore_n 3, 1) := by decide +kernel
theorem dX7_readNumber_11 : decode cX7_readNumber 11 = .ok (.iconst 0, 1) := by decide +kernel
theorem dX7_readNumber_12 : decode cX7_readNumber 12 = .ok (.istore 4, 2) := by decide +kernel
theorem dX7_readNumber_14 : decode cX7_readNumber 14 = .ok (.aload_n 0, 1) := by decide +kernel
theorem dX7_readNumber_15 : decode cX7_readNumber 15 = .ok (.invokevirtual 87, 3) := by decide +kernel
theorem dX7_readNumber_18 : decode cX7_readNumber 18 = .ok (.istore 5, 2) := by decide +kernel
theorem dX7_readNumber_20 : decode cX7_readNumber 20 = .ok (.aload_n 0, 1) := by decide +kernel
theorem dX7_readNumber_21 : decode cX7_readNumber 21 = .ok (.getfield 81, 3) := by decide +kernel
theorem dX7_readNumber_24 : decode cX7_readNumber 24 = .ok (.istore 6, 2) := by decide +kernel
theorem dX7_readNumber_26 : decode cX7_readNumber 26 = .ok (.iload 4, 2) := by decide +kernel
theorem dX7_readNumber_28 : decode cX7_readNumber 28 = .ok (.iconst 3, 1) := by decide +kernel
theorem dX7_readNumber_29 : decode cX7_readNumber 29 = .ok (.if_icmp .ge 63, 3) := by decide +kernel
theorem dX7_readNumber_32 : decode cX7_readNumber 32 = .ok (.aload_n 0, 1) := by decide +kernel
theorem dX7_readNumber_33 : decode cX7_readNumber 33 = .ok (.getfield 81, 3) := by decide +kernel
theorem dX7_readNumber_36 : decode cX7_readNumber 36 = .ok (.aload_n 0, 1) := by decide +kernel
theorem dX7_readNumber_37 : decode cX7_readNumber 37 = .ok (.getfield 72, 3) := by decide +kernel
theorem dX7_readNumber_40 : decode cX7_readNumber 40 = .ok (.if_icmp .ge 52, 3) := by decide +kernel
theorem dX7_readNumber_43 : decode cX7_readNumber 43 = .ok (.aload_n 0, 1) := by decide +kernel
theorem dX7_readNumber_44 : decode cX7_readNumber 44 = .ok (.getfield 7, 3) := by decide +kernel
theorem dX7_readNumber_47 : decode cX7_readNumber 47 = .ok (.aload_n 0, 1) := by decide +kernel
theorem dX7_readNumber_48 : decode cX7_readNumber 48 = .ok (.getfield 81, 3) := by decide +kernel
theorem dX7_readNumber_51 : decode cX7_readNumber 51 = .ok (.caload, 1) := by decide +kernel
theorem dX7_readNumber_52 : decode cX7_readNumber 52 = .ok (.invokestatic 98, 3) := by decide +kernel
theorem dX7_readNumber_55 : decode cX7_readNumber 55 = .ok (.ifCond .eq 37, 3) := by decide +kernel
theorem dX7_readNumber_58 : decode cX7_readNumber 58 = .ok (.bipush 10, 2) := by decide +kernel
theorem dX7_readNumber_60 : decode cX7_readNumber 60 = .ok (.iload_n 3, 1) := by decide +kernel
theorem dX7_readNumber_61 : decode cX7_readNumber 61 = .ok (.imul, 1) := by decide +kernel
theorem dX7_readNumber_62 : decode cX7_readNumber 62 = .ok (.aload_n 0, 1) := by decide +kernel
theorem dX7_readNumber_63 : decode cX7_readNumber 63 = .ok (.getfield 7, 3) := by decide +kernel
theorem dX7_readNumber_66 : decode cX7_readNumber 66 = .ok (.aload_n 0, 1) := by decide +kernel
theorem dX7_readNumber_67 : decode cX7_readNumber 67 = .ok (.getfield 81, 3) := by decide +kernel
theorem dX7_readNumber_70 : decode cX7_readNumber 70 = .ok (.caload, 1) := by decide +kernel
theorem dX7_readNumber_71 : decode cX7_readNumber 71 = .ok (.iadd, 1) := by decide +kernel
theorem dX7_readNumber_72 : decode cX7_readNumber 72 = .ok (.bipush 48, 2) := by decide +kernel
theorem dX7_readNumber_74 : decode cX7_readNumber 74 = .ok (.isub, 1) := by decide +kernel
theorem dX7_readNumber_75 : decode cX7_readNumber 75 = .ok (.istore_n 3, 1) := by decide +kernel
theorem dX7_readNumber_76 : decode cX7_readNumber 76 = .ok (.aload_n 0, 1) := by decide +kernel
theorem dX7_readNumber_77 : decode cX7_readNumber 77 = .ok (.dup, 1) := by decide +kernel
theorem dX7_readNumber_78 : decode cX7_readNumber 78 = .ok (.getfield 81, 3) := by decide +kernel
theorem dX7_readNumber_81 : decode cX7_readNumber 81 = .ok (.iconst 1, 1) := by decide +kernel
theorem dX7_readNumber_82 : decode cX7_readNumber 82 = .ok (.iadd, 1) := by decide +kernel
theorem dX7_readNumber_83 : decode cX7_readNumber 83 = .ok (.putfield 81, 3) := by decide +kernel
theorem dX7_readNumber_86 : decode cX7_readNumber 86 = .ok (.iinc 4 1, 3) := by decide +kernel
theorem dX7_readNumber_89 : decode cX7_readNumber 89 = .ok (.goto (-63), 3) := by decide +kernel
theorem dX7_readNumber_92 : decode cX7_readNumber 92 = .ok (.iload 4, 2) := by decide +kernel
theorem dX7_readNumber_94 : decode cX7_readNumber 94 = .ok (.ifCond .ne 16, 3) := by decide +kernel
theorem dX7_readNumber_97 : decode cX7_readNumber 97 = .ok (.aload_n 0, 1) := by decide +kernel
theorem dX7_readNumber_98 : decode cX7_readNumber 98 = .ok (.bipush (-2), 2) := by decide +kernel
theorem dX7_readNumber_100 : decode cX7_readNumber 100 = .ok (.aload_n 0, 1) := by decide +kernel
theorem dX7_readNumber_101 : decode cX7_readNumber 101 = .ok (.getfield 81, 3) := by decide +kernel
theorem dX7_readNumber_104 : decode cX7_readNumber 104 = .ok (.invokevirtual 95, 3) := by decide +kernel
theorem dX7_readNumber_107 : decode cX7_readNumber 107 = .ok (.goto 25, 3) := by decide +kernel
theorem dX7_readNumber_110 : decode cX7_readNumber 110 = .ok (.iload_n 3, 1) := by decide +kernel
theorem dX7_readNumber_111 : decode cX7_readNumber 111 = .ok (.iload_n 1, 1) := by decide +kernel
theorem dX7_readNumber_112 : decode cX7_readNumber 112 = .ok (.if_icmp .lt 12, 3) := by decide +kernel
theorem dX7_readNumber_115 : decode cX7_readNumber 115 = .ok (.iload_n 2, 1) := by decide +kernel
theorem dX7_readNumber_116 : decode cX7_readNumber 116 = .ok (.ifCond .lt 16, 3) := by decide +kernel
theorem dX7_readNumber_119 : decode cX7_readNumber 119 = .ok (.iload_n 3, 1) := by decide +kernel
theorem dX7_readNumber_120 : decode cX7_readNumber 120 = .ok (.iload_n 2, 1) := by decide +kernel
theorem dX7_readNumber_121 : decode cX7_readNumber 121 = .ok (.if_icmp .le 11, 3) := by decide +kernel
theorem dX7_readNumber_124 : decode cX7_readNumber 124 = .ok (.aload_n 0, 1) := by decide +kernel
theorem dX7_readNumber_125 : decode cX7_readNumber 125 = .ok (.bipush (-3), 2) := by decide +kernel
theorem dX7_readNumber_127 : decode cX7_readNumber 127 = .ok (.iload 6, 2) := by decide +kernel
theorem dX7_readNumber_129 : decode cX7_readNumber 129 = .ok (.invokevirtual 95, 3) := by decide +kernel
theorem dX7_readNumber_132 : decode cX7_readNumber 132 = .ok (.iload_n 3, 1) := by decide +kernel
theorem dX7_readNumber_133 : decode cX7_readNumber 133 = .ok (.ireturn, 1) := by decide +kernel
theorem dX7_readTerm_0 : decode cX7_readTerm 0 = .ok (.lconst 1, 1) := by decide +kernel
theorem dX7_readTerm_1 : decode cX7_readTerm 1 = .ok (.lstore_n 2, 1) := by decide +kernel
theorem dX7_readTerm_2 : decode cX7_readTerm 2 = .ok (.lconst 1, 1) := by decide +kernel
theorem dX7_readTerm_3 : decode cX7_readTerm 3 = .ok (.lstore 4, 2) := by decide +kernel
theorem dX7_readTerm_5 : decode cX7_readTerm 5 = .ok (.iconst 0, 1) := by decide +kernel
theorem dX7_readTerm_6 : decode cX7_readTerm 6 = .ok (.istore 6, 2) := by decide +kernel
theorem dX7_readTerm_8 : decode cX7_readTerm 8 = .ok (.iconst 0, 1) := by decide +kernel
theorem dX7_readTerm_9 : decode cX7_readTerm 9 = .ok (.istore 7, 2) := by decide +kernel
theorem dX7_readTerm_11 : decode cX7_readTerm 11 = .ok (.iconst 0, 1) := by decide +kernel
theorem dX7_readTerm_12 : decode cX7_readTerm 12 = .ok (.istore 8, 2) := by decide +kernel
theorem dX7_readTerm_14 : decode cX7_readTerm 14 = .ok (.iconst 0, 1) := by decide +kernel
theorem dX7_readTerm_15 : decode cX7_readTerm 15 = .ok (.istore 9, 2) := by decide +kernel
theorem dX7_readTerm_17 : decode cX7_readTerm 17 = .ok (.aload_n 0, 1) := by decide +kernel
theorem dX7_readTerm_18 : decode cX7_readTerm 18 = .ok (.invokevirtual 87, 3) := by decide +kernel
theorem dX7_readTerm_21 : decode cX7_readTerm 21 = .ok (.invokestatic 98, 3) := by decide +kernel
theorem dX7_readTerm_24 : decode cX7_readTerm 24 = .ok (.ifCond .eq 32, 3) := by decide +kernel
theorem dX7_readTerm_27 : decode cX7_readTerm 27 = .ok (.aload_n 0, 1) := by decide +kernel
theorem dX7_readTerm_28 : decode cX7_readTerm 28 = .ok (.iconst 0, 1) := by decide +kernel
theorem dX7_readTerm_29 : decode cX7_readTerm 29 = .ok (.iconst (-1), 1) := by decide +kernel
theorem dX7_readTerm_30 : decode cX7_readTerm 30 = .ok (.invokevirtual 101, 3) := by decide +kernel
theorem dX7_readTerm_33 : decode cX7_readTerm 33 = .ok (.i2l, 1) := by decide +kernel
theorem dX7_readTerm_34 : decode cX7_readTerm 34 = .ok (.lstore_n 2, 1) := by decide +kernel
theorem dX7_readTerm_35 : decode cX7_readTerm 35 = .ok (.iconst 1, 1) := by decide +kernel
theorem dX7_readTerm_36 : decode cX7_readTerm 36 = .ok (.istore 9, 2) := by decide +kernel
theorem dX7_readTerm_38 : decode cX7_readTerm 38 = .ok (.aload_n 0, 1) := by decide +kernel
theorem dX7_readTerm_39 : decode cX7_readTerm 39 = .ok (.bipush 47, 2) := by decide +kernel
theorem dX7_readTerm_41 : decode cX7_readTerm 41 = .ok (.invokevirtual 91, 3) := by decide +kernel
theorem dX7_readTerm_44 : decode cX7_readTerm 44 = .ok (.ifCond .eq 12, 3) := by decide +kernel
theorem dX7_readTerm_47 : decode cX7_readTerm 47 = .ok (.aload_n 0, 1) := by decide +kernel
theorem dX7_readTerm_48 : decode cX7_readTerm 48 = .ok (.iconst 1, 1) := by decide +kernel
theorem dX7_readTerm_49 : decode cX7_readTerm 49 = .ok (.iconst (-1), 1) := by decide +kernel
theorem dX7_readTerm_50 : decode cX7_readTerm 50 = .ok (.invokevirtual 101, 3) := by decide +kernel
theorem dX7_readTerm_53 : decode cX7_readTerm 53 = .ok (.i2l, 1) := by decide +kernel
theorem dX7_readTerm_54 : decode cX7_readTerm 54 = .ok (.lstore 4, 2) := by decide +kernel
theorem dX7_readTerm_56 : decode cX7_readTerm 56 = .ok (.aload_n 0, 1) := by decide +kernel
theorem dX7_readTerm_57 : decode cX7_readTerm 57 = .ok (.bipush 120, 2) := by decide +kernel
theorem dX7_readTerm_59 : decode cX7_readTerm 59 = .ok (.invokevirtual 91, 3) := by decide +kernel
theorem dX7_readTerm_62 : decode cX7_readTerm 62 = .ok (.ifCond .eq 50, 3) := by decide +kernel
theorem dX7_readTerm_65 : decode cX7_readTerm 65 = .ok (.iconst 1, 1) := by decide +kernel
theorem dX7_readTerm_66 : decode cX7_readTerm 66 = .ok (.istore 9, 2) := by decide +kernel
theorem dX7_readTerm_68 : decode cX7_readTerm 68 = .ok (.iconst 1, 1) := by decide +kernel
theorem dX7_readTerm_69 : decode cX7_readTerm 69 = .ok (.istore 6, 2) := by decide +kernel
theorem dX7_readTerm_71 : decode cX7_readTerm 71 = .ok (.aload_n 0, 1) := by decide +kernel
theorem dX7_readTerm_72 : decode cX7_readTerm 72 = .ok (.bipush 94, 2) := by decide +kernel
theorem dX7_readTerm_74 : decode cX7_readTerm 74 = .ok (.invokevirtual 91, 3) := by decide +kernel
theorem dX7_readTerm_77 : decode cX7_readTerm 77 = .ok (.ifCond .eq 35, 3) := by decide +kernel
theorem dX7_readTerm_80 : decode cX7_readTerm 80 = .ok (.aload_n 0, 1) := by decide +kernel
theorem dX7_readTerm_81 : decode cX7_readTerm 81 = .ok (.bipush 45, 2) := by decide +kernel
theorem dX7_readTerm_83 : decode cX7_readTerm 83 = .ok (.invokevirtual 91, 3) := by decide +kernel
theorem dX7_readTerm_86 : decode cX7_readTerm 86 = .ok (.istore 10, 2) := by decide +kernel
theorem dX7_readTerm_88 : decode cX7_readTerm 88 = .ok (.aload_n 0, 1) := by decide +kernel
theorem dX7_readTerm_89 : decode cX7_readTerm 89 = .ok (.iconst 0, 1) := by decide +kernel
theorem dX7_readTerm_90 : decode cX7_readTerm 90 = .ok (.bipush 12, 2) := by decide +kernel
theorem dX7_readTerm_92 : decode cX7_readTerm 92 = .ok (.invokevirtual 101, 3) := by decide +kernel
theorem dX7_readTerm_95 : decode cX7_readTerm 95 = .ok (.istore 6, 2) := by decide +kernel
theorem dX7_readTerm_97 : decode cX7_readTerm 97 = .ok (.iload 10, 2) := by decide +kernel
theorem dX7_readTerm_99 : decode cX7_readTerm 99 = .ok (.ifCond .eq 9, 3) := by decide +kernel
theorem dX7_readTerm_102 : decode cX7_readTerm 102 = .ok (.iload 6, 2) := by decide +kernel
theorem dX7_readTerm_104 : decode cX7_readTerm 104 = .ok (.ineg, 1) := by decide +kernel
theorem dX7_readTerm_105 : decode cX7_readTerm 105 = .ok (.goto 5, 3) := by decide +kernel
theorem dX7_readTerm_108 : decode cX7_readTerm 108 = .ok (.iload 6, 2) := by decide +kernel
theorem dX7_readTerm_110 : decode cX7_readTerm 110 = .ok (.istore 6, 2) := by decide +kernel
theorem dX7_readTerm_112 : decode cX7_readTerm 112 = .ok (.aload_n 0, 1) := by decide +kernel
theorem dX7_readTerm_113 : decode cX7_readTerm 113 = .ok (.bipush 108, 2) := by decide +kernel
theorem dX7_readTerm_115 : decode cX7_readTerm 115 = .ok (.invokevirtual 91, 3) := by decide +kernel
theorem dX7_readTerm_118 : decode cX7_readTerm 118 = .ok (.ifCond .eq 33, 3) := by decide +kernel
theorem dX7_readTerm_121 : decode cX7_readTerm 121 = .ok (.iconst 1, 1) := by decide +kernel
theorem dX7_readTerm_122 : decode cX7_readTerm 122 = .ok (.istore 9, 2) := by decide +kernel
theorem dX7_readTerm_124 : decode cX7_readTerm 124 = .ok (.iconst 1, 1) := by decide +kernel
theorem dX7_readTerm_125 : decode cX7_readTerm 125 = .ok (.istore 7, 2) := by decide +kernel
theorem dX7_readTerm_127 : decode cX7_readTerm 127 = .ok (.iconst 1, 1) := by decide +kernel
theorem dX7_readTerm_128 : decode cX7_readTerm 128 = .ok (.istore 8, 2) := by decide +kernel
theorem dX7_readTerm_130 : decode cX7_readTerm 130 = .ok (.aload_n 0, 1) := by decide +kernel
theorem dX7_readTerm_131 : decode cX7_readTerm 131 = .ok (.bipush 94, 2) := by decide +kernel
theorem dX7_readTerm_133 : decode cX7_readTerm 133 = .ok (.invokevirtual 91, 3) := by decide +kernel
theorem dX7_readTerm_136 : decode cX7_readTerm 136 = .ok (.ifCond .eq 162, 3) := by decide +kernel
theorem dX7_readTerm_139 : decode cX7_readTerm 139 = .ok (.aload_n 0, 1) := by decide +kernel
theorem dX7_readTerm_140 : decode cX7_readTerm 140 = .ok (.iconst 0, 1) := by decide +kernel
theorem dX7_readTerm_141 : decode cX7_readTerm 141 = .ok (.bipush 9, 2) := by decide +kernel
theorem dX7_readTerm_143 : decode cX7_readTerm 143 = .ok (.invokevirtual 101, 3) := by decide +kernel
theorem dX7_readTerm_146 : decode cX7_readTerm 146 = .ok (.istore 8, 2) := by decide +kernel
theorem dX7_readTerm_148 : decode cX7_readTerm 148 = .ok (.goto 150, 3) := by decide +kernel
theorem dX7_readTerm_151 : decode cX7_readTerm 151 = .ok (.aload_n 0, 1) := by decide +kernel
theorem dX7_readTerm_152 : decode cX7_readTerm 152 = .ok (.getfield 84, 3) := by decide +kernel
theorem dX7_readTerm_155 : decode cX7_readTerm 155 = .ok (.ifCond .ne 143, 3) := by decide +kernel
theorem dX7_readTerm_158 : decode cX7_readTerm 158 = .ok (.aload_n 0, 1) := by decide +kernel
theorem dX7_readTerm_159 : decode cX7_readTerm 159 = .ok (.invokevirtual 87, 3) := by decide +kernel
theorem dX7_readTerm_162 : decode cX7_readTerm 162 = .ok (.bipush 101, 2) := by decide +kernel
theorem dX7_readTerm_164 : decode cX7_readTerm 164 = .ok (.if_icmp .eq 21, 3) := by decide +kernel
theorem dX7_readTerm_167 : decode cX7_readTerm 167 = .ok (.aload_n 0, 1) := by decide +kernel
theorem dX7_readTerm_168 : decode cX7_readTerm 168 = .ok (.invokevirtual 87, 3) := by decide +kernel
theorem dX7_readTerm_171 : decode cX7_readTerm 171 = .ok (.bipush 115, 2) := by decide +kernel
theorem dX7_readTerm_173 : decode cX7_readTerm 173 = .ok (.if_icmp .eq 12, 3) := by decide +kernel
theorem dX7_readTerm_176 : decode cX7_readTerm 176 = .ok (.aload_n 0, 1) := by decide +kernel
theorem dX7_readTerm_177 : decode cX7_readTerm 177 = .ok (.invokevirtual 87, 3) := by decide +kernel
theorem dX7_readTerm_180 : decode cX7_readTerm 180 = .ok (.bipush 99, 2) := by decide +kernel
theorem dX7_readTerm_182 : decode cX7_readTerm 182 = .ok (.if_icmp .ne 116, 3) := by decide +kernel
theorem dX7_readTerm_185 : decode cX7_readTerm 185 = .ok (.iconst 1, 1) := by decide +kernel
theorem dX7_readTerm_186 : decode cX7_readTerm 186 = .ok (.istore 9, 2) := by decide +kernel
theorem dX7_readTerm_188 : decode cX7_readTerm 188 = .ok (.aload_n 0, 1) := by decide +kernel
theorem dX7_readTerm_189 : decode cX7_readTerm 189 = .ok (.invokevirtual 87, 3) := by decide +kernel
theorem dX7_readTerm_192 : decode cX7_readTerm 192 = .ok (.bipush 101, 2) := by decide +kernel
theorem dX7_readTerm_194 : decode cX7_readTerm 194 = .ok (.if_icmp .ne 7, 3) := by decide +kernel
theorem dX7_readTerm_197 : decode cX7_readTerm 197 = .ok (.iconst 2, 1) := by decide +kernel
theorem dX7_readTerm_198 : decode cX7_readTerm 198 = .ok (.goto 17, 3) := by decide +kernel
theorem dX7_readTerm_201 : decode cX7_readTerm 201 = .ok (.aload_n 0, 1) := by decide +kernel
theorem dX7_readTerm_202 : decode cX7_readTerm 202 = .ok (.invokevirtual 87, 3) := by decide +kernel
theorem dX7_readTerm_205 : decode cX7_readTerm 205 = .ok (.bipush 115, 2) := by decide +kernel
theorem dX7_readTerm_207 : decode cX7_readTerm 207 = .ok (.if_icmp .ne 7, 3) := by decide +kernel
theorem dX7_readTerm_210 : decode cX7_readTerm 210 = .ok (.iconst 3, 1) := by decide +kernel
theorem dX7_readTerm_211 : decode cX7_readTerm 211 = .ok (.goto 4, 3) := by decide +kernel
theorem dX7_readTerm_214 : decode cX7_readTerm 214 = .ok (.iconst 4, 1) := by decide +kernel
theorem dX7_readTerm_215 : decode cX7_readTerm 215 = .ok (.istore 7, 2) := by decide +kernel
theorem dX7_readTerm_217 : decode cX7_readTerm 217 = .ok (.aload_n 0, 1) := by decide +kernel
theorem dX7_readTerm_218 : decode cX7_readTerm 218 = .ok (.dup, 1) := by decide +kernel
theorem dX7_readTerm_219 : decode cX7_readTerm 219 = .ok (.getfield 81, 3) := by decide +kernel
theorem dX7_readTerm_222 : decode cX7_readTerm 222 = .ok (.iconst 1, 1) := by decide +kernel
theorem dX7_readTerm_223 : decode cX7_readTerm 223 = .ok (.iadd, 1) := by decide +kernel
theorem dX7_readTerm_224 : decode cX7_readTerm 224 = .ok (.putfield 81, 3) := by decide +kernel
theorem dX7_readTerm_227 : decode cX7_readTerm 227 = .ok (.aload_n 0, 1) := by decide +kernel
theorem dX7_readTerm_228 : decode cX7_readTerm 228 = .ok (.bipush 40, 2) := by decide +kernel
theorem dX7_readTerm_230 : decode cX7_readTerm 230 = .ok (.invokevirtual 104, 3) := by decide +kernel
theorem dX7_readTerm_233 : decode cX7_readTerm 233 = .ok (.aload_n 0, 1) := by decide +kernel
theorem dX7_readTerm_234 : decode cX7_readTerm 234 = .ok (.bipush 45, 2) := by decide +kernel
theorem dX7_readTerm_236 : decode cX7_readTerm 236 = .ok (.invokevirtual 91, 3) := by decide +kernel
theorem dX7_readTerm_239 : decode cX7_readTerm 239 = .ok (.istore 10, 2) := by decide +kernel
theorem dX7_readTerm_241 : decode cX7_readTerm 241 = .ok (.aload_n 0, 1) := by decide +kernel
theorem dX7_readTerm_242 : decode cX7_readTerm 242 = .ok (.getfield 84, 3) := by decide +kernel
theorem dX7_readTerm_245 : decode cX7_readTerm 245 = .ok (.ifCond .ne 23, 3) := by decide +kernel
theorem dX7_readTerm_248 : decode cX7_readTerm 248 = .ok (.aload_n 0, 1) := by decide +kernel
theorem dX7_readTerm_249 : decode cX7_readTerm 249 = .ok (.invokevirtual 87, 3) := by decide +kernel
theorem dX7_readTerm_252 : decode cX7_readTerm 252 = .ok (.invokestatic 98, 3) := by decide +kernel
theorem dX7_readTerm_255 : decode cX7_readTerm 255 = .ok (.ifCond .eq 13, 3) := by decide +kernel
theorem dX7_readTerm_258 : decode cX7_readTerm 258 = .ok (.aload_n 0, 1) := by decide +kernel
theorem dX7_readTerm_259 : decode cX7_readTerm 259 = .ok (.iconst 0, 1) := by decide +kernel
theorem dX7_readTerm_260 : decode cX7_readTerm 260 = .ok (.bipush 9, 2) := by decide +kernel
theorem dX7_readTerm_262 : decode cX7_readTerm 262 = .ok (.invokevirtual 101, 3) := by decide +kernel
theorem dX7_readTerm_265 : decode cX7_readTerm 265 = .ok (.goto 4, 3) := by decide +kernel
theorem dX7_readTerm_268 : decode cX7_readTerm 268 = .ok (.iconst 1, 1) := by decide +kernel
theorem dX7_readTerm_269 : decode cX7_readTerm 269 = .ok (.istore 8, 2) := by decide +kernel
theorem dX7_readTerm_271 : decode cX7_readTerm 271 = .ok (.iload 10, 2) := by decide +kernel
theorem dX7_readTerm_273 : decode cX7_readTerm 273 = .ok (.ifCond .eq 9, 3) := by decide +kernel
theorem dX7_readTerm_276 : decode cX7_readTerm 276 = .ok (.iload 8, 2) := by decide +kernel
theorem dX7_readTerm_278 : decode cX7_readTerm 278 = .ok (.ineg, 1) := by decide +kernel
theorem dX7_readTerm_279 : decode cX7_readTerm 279 = .ok (.goto 5, 3) := by decide +kernel
theorem dX7_readTerm_282 : decode cX7_readTerm 282 = .ok (.iload 8, 2) := by decide +kernel
theorem dX7_readTerm_284 : decode cX7_readTerm 284 = .ok (.istore 8, 2) := by decide +kernel
theorem dX7_readTerm_286 : decode cX7_readTerm 286 = .ok (.aload_n 0, 1) := by decide +kernel
theorem dX7_readTerm_287 : decode cX7_readTerm 287 = .ok (.bipush 120, 2) := by decide +kernel
theorem dX7_readTerm_289 : decode cX7_readTerm 289 = .ok (.invokevirtual 104, 3) := by decide +kernel
theorem dX7_readTerm_292 : decode cX7_readTerm 292 = .ok (.aload_n 0, 1) := by decide +kernel
theorem dX7_readTerm_293 : decode cX7_readTerm 293 = .ok (.bipush 41, 2) := by decide +kernel
theorem dX7_readTerm_295 : decode cX7_readTerm 295 = .ok (.invokevirtual 104, 3) := by decide +kernel
theorem dX7_readTerm_298 : decode cX7_readTerm 298 = .ok (.aload_n 0, 1) := by decide +kernel
theorem dX7_readTerm_299 : decode cX7_readTerm 299 = .ok (.getfield 84, 3) := by decide +kernel
theorem dX7_readTerm_302 : decode cX7_readTerm 302 = .ok (.ifCond .ne 18, 3) := by decide +kernel
theorem dX7_readTerm_305 : decode cX7_readTerm 305 = .ok (.iload 9, 2) := by decide +kernel
theorem dX7_readTerm_307 : decode cX7_readTerm 307 = .ok (.ifCond .ne 13, 3) := by decide +kernel
theorem dX7_readTerm_310 : decode cX7_readTerm 310 = .ok (.aload_n 0, 1) := by decide +kernel
theorem dX7_readTerm_311 : decode cX7_readTerm 311 = .ok (.bipush (-2), 2) := by decide +kernel
theorem dX7_readTerm_313 : decode cX7_readTerm 313 = .ok (.aload_n 0, 1) := by decide +kernel
theorem dX7_readTerm_314 : decode cX7_readTerm 314 = .ok (.getfield 81, 3) := by decide +kernel
theorem dX7_readTerm_317 : decode cX7_readTerm 317 = .ok (.invokevirtual 95, 3) := by decide +kernel
theorem dX7_readTerm_320 : decode cX7_readTerm 320 = .ok (.aload_n 0, 1) := by decide +kernel
theorem dX7_readTerm_321 : decode cX7_readTerm 321 = .ok (.getfield 84, 3) := by decide +kernel
theorem dX7_readTerm_324 : decode cX7_readTerm 324 = .ok (.ifCond .ne 45, 3) := by decide +kernel
theorem dX7_readTerm_327 : decode cX7_readTerm 327 = .ok (.lload_n 2, 1) := by decide +kernel
theorem dX7_readTerm_328 : decode cX7_readTerm 328 = .ok (.lload 4, 2) := by decide +kernel
theorem dX7_readTerm_330 : decode cX7_readTerm 330 = .ok (.invokestatic 38, 3) := by decide +kernel
theorem dX7_readTerm_333 : decode cX7_readTerm 333 = .ok (.lstore 10, 2) := by decide +kernel
theorem dX7_readTerm_335 : decode cX7_readTerm 335 = .ok (.aload_n 0, 1) := by decide +kernel
theorem dX7_readTerm_336 : decode cX7_readTerm 336 = .ok (.bipush 8, 2) := by decide +kernel
theorem dX7_readTerm_338 : decode cX7_readTerm 338 = .ok (.iload 7, 2) := by decide +kernel
theorem dX7_readTerm_340 : decode cX7_readTerm 340 = .ok (.iload 8, 2) := by decide +kernel
theorem dX7_readTerm_342 : decode cX7_readTerm 342 = .ok (.iload 6, 2) := by decide +kernel
theorem dX7_readTerm_344 : decode cX7_readTerm 344 = .ok (.iload_n 1, 1) := by decide +kernel
theorem dX7_readTerm_345 : decode cX7_readTerm 345 = .ok (.ifCond .eq 8, 3) := by decide +kernel
theorem dX7_readTerm_348 : decode cX7_readTerm 348 = .ok (.lload_n 2, 1) := by decide +kernel
theorem dX7_readTerm_349 : decode cX7_readTerm 349 = .ok (.lneg, 1) := by decide +kernel
theorem dX7_readTerm_350 : decode cX7_readTerm 350 = .ok (.goto 4, 3) := by decide +kernel
theorem dX7_readTerm_353 : decode cX7_readTerm 353 = .ok (.lload_n 2, 1) := by decide +kernel
theorem dX7_readTerm_354 : decode cX7_readTerm 354 = .ok (.lload 10, 2) := by decide +kernel
theorem dX7_readTerm_356 : decode cX7_readTerm 356 = .ok (.ldiv, 1) := by decide +kernel
theorem dX7_readTerm_357 : decode cX7_readTerm 357 = .ok (.lload 4, 2) := by decide +kernel
theorem dX7_readTerm_359 : decode cX7_readTerm 359 = .ok (.lload 10, 2) := by decide +kernel
theorem dX7_readTerm_361 : decode cX7_readTerm 361 = .ok (.ldiv, 1) := by decide +kernel
theorem dX7_readTerm_362 : decode cX7_readTerm 362 = .ok (.invokevirtual 108, 3) := by decide +kernel
theorem dX7_readTerm_365 : decode cX7_readTerm 365 = .ok (.aload_n 0, 1) := by decide +kernel
theorem dX7_readTerm_366 : decode cX7_readTerm 366 = .ok (.invokevirtual 112, 3) := by decide +kernel
theorem dX7_readTerm_369 : decode cX7_readTerm 369 = .ok (.return_, 1) := by decide +kernel
theorem dX7_checkAll_0 : decode cX7_checkAll 0 = .ok (.sipush 9200, 3) := by decide +kernel
theorem dX7_checkAll_3 : decode cX7_checkAll 3 = .ok (.istore_n 1, 1) := by decide +kernel
theorem dX7_checkAll_4 : decode cX7_checkAll 4 = .ok (.iload_n 1, 1) := by decide +kernel
theorem dX7_checkAll_5 : decode cX7_checkAll 5 = .ok (.sipush 10350, 3) := by decide +kernel
theorem dX7_checkAll_8 : decode cX7_checkAll 8 = .ok (.if_icmp .ge 36, 3) := by decide +kernel
theorem dX7_checkAll_11 : decode cX7_checkAll 11 = .ok (.aload_n 0, 1) := by decide +kernel
theorem dX7_checkAll_12 : decode cX7_checkAll 12 = .ok (.iload_n 1, 1) := by decide +kernel
theorem dX7_checkAll_13 : decode cX7_checkAll 13 = .ok (.invokevirtual 52, 3) := by decide +kernel
theorem dX7_checkAll_16 : decode cX7_checkAll 16 = .ok (.ifCond .eq 22, 3) := by decide +kernel
theorem dX7_checkAll_19 : decode cX7_checkAll 19 = .ok (.aload_n 0, 1) := by decide +kernel
theorem dX7_checkAll_20 : decode cX7_checkAll 20 = .ok (.iconst 1, 1) := by decide +kernel
theorem dX7_checkAll_21 : decode cX7_checkAll 21 = .ok (.putfield 30, 3) := by decide +kernel
theorem dX7_checkAll_24 : decode cX7_checkAll 24 = .ok (.aload_n 0, 1) := by decide +kernel
theorem dX7_checkAll_25 : decode cX7_checkAll 25 = .ok (.getfield 20, 3) := by decide +kernel
theorem dX7_checkAll_28 : decode cX7_checkAll 28 = .ok (.iload_n 1, 1) := by decide +kernel
theorem dX7_checkAll_29 : decode cX7_checkAll 29 = .ok (.lconst 0, 1) := by decide +kernel
theorem dX7_checkAll_30 : decode cX7_checkAll 30 = .ok (.lastore, 1) := by decide +kernel
theorem dX7_checkAll_31 : decode cX7_checkAll 31 = .ok (.aload_n 0, 1) := by decide +kernel
theorem dX7_checkAll_32 : decode cX7_checkAll 32 = .ok (.getfield 24, 3) := by decide +kernel
theorem dX7_checkAll_35 : decode cX7_checkAll 35 = .ok (.iload_n 1, 1) := by decide +kernel
theorem dX7_checkAll_36 : decode cX7_checkAll 36 = .ok (.lconst 1, 1) := by decide +kernel
theorem dX7_checkAll_37 : decode cX7_checkAll 37 = .ok (.lastore, 1) := by decide +kernel
theorem dX7_checkAll_38 : decode cX7_checkAll 38 = .ok (.iinc 1 1, 3) := by decide +kernel
theorem dX7_checkAll_41 : decode cX7_checkAll 41 = .ok (.goto (-37), 3) := by decide +kernel
theorem dX7_checkAll_44 : decode cX7_checkAll 44 = .ok (.return_, 1) := by decide +kernel
theorem dX7_read_0 : decode cX7_read 0 = .ok (.aload_n 0, 1) := by decide +kernel
theorem dX7_read_1 : decode cX7_read 1 = .ok (.iload_n 1, 1) := by decide +kernel
theorem dX7_read_2 : decode cX7_read 2 = .ok (.invokestatic 115, 3) := by decide +kernel
theorem dX7_read_5 : decode cX7_read 5 = .ok (.ifCond .eq 7, 3) := by decide +kernel
theorem dX7_read_8 : decode cX7_read 8 = .ok (.iconst 0, 1) := by decide +kernel
theorem dX7_read_9 : decode cX7_read 9 = .ok (.goto 4, 3) := by decide +kernel
theorem dX7_read_12 : decode cX7_read 12 = .ok (.iconst 1, 1) := by decide +kernel
theorem dX7_read_13 : decode cX7_read 13 = .ok (.invokevirtual 78, 3) := by decide +kernel
theorem dX7_read_16 : decode cX7_read 16 = .ok (.ifCond .eq 5, 3) := by decide +kernel
theorem dX7_read_19 : decode cX7_read 19 = .ok (.iconst 0, 1) := by decide +kernel
theorem dX7_read_20 : decode cX7_read 20 = .ok (.ireturn, 1) := by decide +kernel
theorem dX7_read_21 : decode cX7_read 21 = .ok (.aload_n 0, 1) := by decide +kernel
theorem dX7_read_22 : decode cX7_read 22 = .ok (.iconst (-1), 1) := by decide +kernel
theorem dX7_read_23 : decode cX7_read 23 = .ok (.putfield 16, 3) := by decide +kernel
theorem dX7_read_26 : decode cX7_read 26 = .ok (.aload_n 0, 1) := by decide +kernel
theorem dX7_read_27 : decode cX7_read 27 = .ok (.iconst 0, 1) := by decide +kernel
theorem dX7_read_28 : decode cX7_read 28 = .ok (.putfield 84, 3) := by decide +kernel
theorem dX7_read_31 : decode cX7_read 31 = .ok (.aload_n 0, 1) := by decide +kernel
theorem dX7_read_32 : decode cX7_read 32 = .ok (.iconst 0, 1) := by decide +kernel
theorem dX7_read_33 : decode cX7_read 33 = .ok (.putfield 30, 3) := by decide +kernel
theorem dX7_read_36 : decode cX7_read 36 = .ok (.aload_n 0, 1) := by decide +kernel
theorem dX7_read_37 : decode cX7_read 37 = .ok (.iconst 0, 1) := by decide +kernel
theorem dX7_read_38 : decode cX7_read 38 = .ok (.putfield 81, 3) := by decide +kernel
theorem dX7_read_41 : decode cX7_read 41 = .ok (.aload_n 0, 1) := by decide +kernel
theorem dX7_read_42 : decode cX7_read 42 = .ok (.bipush 8, 2) := by decide +kernel
theorem dX7_read_44 : decode cX7_read 44 = .ok (.invokevirtual 118, 3) := by decide +kernel
theorem dX7_read_47 : decode cX7_read 47 = .ok (.aload_n 0, 1) := by decide +kernel
theorem dX7_read_48 : decode cX7_read 48 = .ok (.bipush 45, 2) := by decide +kernel
theorem dX7_read_50 : decode cX7_read 50 = .ok (.invokevirtual 91, 3) := by decide +kernel
theorem dX7_read_53 : decode cX7_read 53 = .ok (.istore_n 2, 1) := by decide +kernel
theorem dX7_read_54 : decode cX7_read 54 = .ok (.iconst 1, 1) := by decide +kernel
theorem dX7_read_55 : decode cX7_read 55 = .ok (.istore_n 3, 1) := by decide +kernel
theorem dX7_read_56 : decode cX7_read 56 = .ok (.iload_n 3, 1) := by decide +kernel
theorem dX7_read_57 : decode cX7_read 57 = .ok (.ifCond .eq 78, 3) := by decide +kernel
theorem dX7_read_60 : decode cX7_read 60 = .ok (.aload_n 0, 1) := by decide +kernel
theorem dX7_read_61 : decode cX7_read 61 = .ok (.iload_n 2, 1) := by decide +kernel
theorem dX7_read_62 : decode cX7_read 62 = .ok (.invokevirtual 122, 3) := by decide +kernel
theorem dX7_read_65 : decode cX7_read 65 = .ok (.aload_n 0, 1) := by decide +kernel
theorem dX7_read_66 : decode cX7_read 66 = .ok (.getfield 84, 3) := by decide +kernel
theorem dX7_read_69 : decode cX7_read 69 = .ok (.ifCond .ne 16, 3) := by decide +kernel
theorem dX7_read_72 : decode cX7_read 72 = .ok (.aload_n 0, 1) := by decide +kernel
theorem dX7_read_73 : decode cX7_read 73 = .ok (.invokevirtual 87, 3) := by decide +kernel
theorem dX7_read_76 : decode cX7_read 76 = .ok (.bipush 45, 2) := by decide +kernel
theorem dX7_read_78 : decode cX7_read 78 = .ok (.if_icmp .ne 7, 3) := by decide +kernel
theorem dX7_read_81 : decode cX7_read 81 = .ok (.iconst 1, 1) := by decide +kernel
theorem dX7_read_82 : decode cX7_read 82 = .ok (.goto 4, 3) := by decide +kernel
theorem dX7_read_85 : decode cX7_read 85 = .ok (.iconst 0, 1) := by decide +kernel
theorem dX7_read_86 : decode cX7_read 86 = .ok (.istore_n 2, 1) := by decide +kernel
theorem dX7_read_87 : decode cX7_read 87 = .ok (.aload_n 0, 1) := by decide +kernel
theorem dX7_read_88 : decode cX7_read 88 = .ok (.getfield 84, 3) := by decide +kernel
theorem dX7_read_91 : decode cX7_read 91 = .ok (.ifCond .ne 25, 3) := by decide +kernel
theorem dX7_read_94 : decode cX7_read 94 = .ok (.aload_n 0, 1) := by decide +kernel
theorem dX7_read_95 : decode cX7_read 95 = .ok (.invokevirtual 87, 3) := by decide +kernel
theorem dX7_read_98 : decode cX7_read 98 = .ok (.bipush 43, 2) := by decide +kernel
theorem dX7_read_100 : decode cX7_read 100 = .ok (.if_icmp .eq 12, 3) := by decide +kernel
theorem dX7_read_103 : decode cX7_read 103 = .ok (.aload_n 0, 1) := by decide +kernel
theorem dX7_read_104 : decode cX7_read 104 = .ok (.invokevirtual 87, 3) := by decide +kernel
theorem dX7_read_107 : decode cX7_read 107 = .ok (.bipush 45, 2) := by decide +kernel
theorem dX7_read_109 : decode cX7_read 109 = .ok (.if_icmp .ne 7, 3) := by decide +kernel
theorem dX7_read_112 : decode cX7_read 112 = .ok (.iconst 1, 1) := by decide +kernel
theorem dX7_read_113 : decode cX7_read 113 = .ok (.goto 4, 3) := by decide +kernel
theorem dX7_read_116 : decode cX7_read 116 = .ok (.iconst 0, 1) := by decide +kernel
theorem dX7_read_117 : decode cX7_read 117 = .ok (.istore_n 3, 1) := by decide +kernel
theorem dX7_read_118 : decode cX7_read 118 = .ok (.iload_n 3, 1) := by decide +kernel
theorem dX7_read_119 : decode cX7_read 119 = .ok (.ifCond .eq (-63), 3) := by decide +kernel
theorem dX7_read_122 : decode cX7_read 122 = .ok (.aload_n 0, 1) := by decide +kernel
theorem dX7_read_123 : decode cX7_read 123 = .ok (.dup, 1) := by decide +kernel
theorem dX7_read_124 : decode cX7_read 124 = .ok (.getfield 81, 3) := by decide +kernel
theorem dX7_read_127 : decode cX7_read 127 = .ok (.iconst 1, 1) := by decide +kernel
theorem dX7_read_128 : decode cX7_read 128 = .ok (.iadd, 1) := by decide +kernel
theorem dX7_read_129 : decode cX7_read 129 = .ok (.putfield 81, 3) := by decide +kernel
theorem dX7_read_132 : decode cX7_read 132 = .ok (.goto (-76), 3) := by decide +kernel
theorem dX7_read_135 : decode cX7_read 135 = .ok (.aload_n 0, 1) := by decide +kernel
theorem dX7_read_136 : decode cX7_read 136 = .ok (.getfield 84, 3) := by decide +kernel
theorem dX7_read_139 : decode cX7_read 139 = .ok (.ifCond .ne 20, 3) := by decide +kernel
theorem dX7_read_142 : decode cX7_read 142 = .ok (.aload_n 0, 1) := by decide +kernel
theorem dX7_read_143 : decode cX7_read 143 = .ok (.invokevirtual 87, 3) := by decide +kernel
theorem dX7_read_146 : decode cX7_read 146 = .ok (.ifCond .eq 13, 3) := by decide +kernel
theorem dX7_read_149 : decode cX7_read 149 = .ok (.aload_n 0, 1) := by decide +kernel
theorem dX7_read_150 : decode cX7_read 150 = .ok (.bipush (-2), 2) := by decide +kernel
theorem dX7_read_152 : decode cX7_read 152 = .ok (.aload_n 0, 1) := by decide +kernel
theorem dX7_read_153 : decode cX7_read 153 = .ok (.getfield 81, 3) := by decide +kernel
theorem dX7_read_156 : decode cX7_read 156 = .ok (.invokevirtual 95, 3) := by decide +kernel
theorem dX7_read_159 : decode cX7_read 159 = .ok (.aload_n 0, 1) := by decide +kernel
theorem dX7_read_160 : decode cX7_read 160 = .ok (.getfield 84, 3) := by decide +kernel
theorem dX7_read_163 : decode cX7_read 163 = .ok (.ifCond .eq 10, 3) := by decide +kernel
theorem dX7_read_166 : decode cX7_read 166 = .ok (.aload_n 0, 1) := by decide +kernel
theorem dX7_read_167 : decode cX7_read 167 = .ok (.getfield 84, 3) := by decide +kernel
theorem dX7_read_170 : decode cX7_read 170 = .ok (.goto 8, 3) := by decide +kernel
theorem dX7_read_173 : decode cX7_read 173 = .ok (.aload_n 0, 1) := by decide +kernel
theorem dX7_read_174 : decode cX7_read 174 = .ok (.iload_n 1, 1) := by decide +kernel
theorem dX7_read_175 : decode cX7_read 175 = .ok (.invokevirtual 126, 3) := by decide +kernel
theorem dX7_read_178 : decode cX7_read 178 = .ok (.ireturn, 1) := by decide +kernel
theorem dX7_place_0 : decode cX7_place 0 = .ok (.aload_n 0, 1) := by decide +kernel
theorem dX7_place_1 : decode cX7_place 1 = .ok (.iconst 0, 1) := by decide +kernel
theorem dX7_place_2 : decode cX7_place 2 = .ok (.putfield 27, 3) := by decide +kernel
theorem dX7_place_5 : decode cX7_place 5 = .ok (.aload_n 0, 1) := by decide +kernel
theorem dX7_place_6 : decode cX7_place 6 = .ok (.getfield 16, 3) := by decide +kernel
theorem dX7_place_9 : decode cX7_place 9 = .ok (.ireturn, 1) := by decide +kernel
theorem dX7_put_0 : decode cX7_put 0 = .ok (.aload_n 0, 1) := by decide +kernel
theorem dX7_put_1 : decode cX7_put 1 = .ok (.getfield 13, 3) := by decide +kernel
theorem dX7_put_4 : decode cX7_put 4 = .ok (.aload_n 0, 1) := by decide +kernel
theorem dX7_put_5 : decode cX7_put 5 = .ok (.getfield 129, 3) := by decide +kernel
theorem dX7_put_8 : decode cX7_put 8 = .ok (.iload_n 1, 1) := by decide +kernel
theorem dX7_put_9 : decode cX7_put 9 = .ok (.castore, 1) := by decide +kernel
theorem dX7_put_10 : decode cX7_put 10 = .ok (.aload_n 0, 1) := by decide +kernel
theorem dX7_put_11 : decode cX7_put 11 = .ok (.dup, 1) := by decide +kernel
theorem dX7_put_12 : decode cX7_put 12 = .ok (.getfield 129, 3) := by decide +kernel
theorem dX7_put_15 : decode cX7_put 15 = .ok (.iconst 1, 1) := by decide +kernel
theorem dX7_put_16 : decode cX7_put 16 = .ok (.iadd, 1) := by decide +kernel
theorem dX7_put_17 : decode cX7_put 17 = .ok (.putfield 129, 3) := by decide +kernel
theorem dX7_put_20 : decode cX7_put 20 = .ok (.return_, 1) := by decide +kernel
theorem dX7_putNumber_0 : decode cX7_putNumber 0 = .ok (.lconst 1, 1) := by decide +kernel
theorem dX7_putNumber_1 : decode cX7_putNumber 1 = .ok (.lstore_n 3, 1) := by decide +kernel
theorem dX7_putNumber_2 : decode cX7_putNumber 2 = .ok (.lload_n 1, 1) := by decide +kernel
theorem dX7_putNumber_3 : decode cX7_putNumber 3 = .ok (.lload_n 3, 1) := by decide +kernel
theorem dX7_putNumber_4 : decode cX7_putNumber 4 = .ok (.ldiv, 1) := by decide +kernel
theorem dX7_putNumber_5 : decode cX7_putNumber 5 = .ok (.ldc2_w 132, 3) := by decide +kernel
theorem dX7_putNumber_8 : decode cX7_putNumber 8 = .ok (.lcmp, 1) := by decide +kernel
theorem dX7_putNumber_9 : decode cX7_putNumber 9 = .ok (.ifCond .le 12, 3) := by decide +kernel
theorem dX7_putNumber_12 : decode cX7_putNumber 12 = .ok (.lload_n 3, 1) := by decide +kernel
theorem dX7_putNumber_13 : decode cX7_putNumber 13 = .ok (.ldc2_w 134, 3) := by decide +kernel
theorem dX7_putNumber_16 : decode cX7_putNumber 16 = .ok (.lmul, 1) := by decide +kernel
theorem dX7_putNumber_17 : decode cX7_putNumber 17 = .ok (.lstore_n 3, 1) := by decide +kernel
theorem dX7_putNumber_18 : decode cX7_putNumber 18 = .ok (.goto (-16), 3) := by decide +kernel
theorem dX7_putNumber_21 : decode cX7_putNumber 21 = .ok (.lload_n 3, 1) := by decide +kernel
theorem dX7_putNumber_22 : decode cX7_putNumber 22 = .ok (.lstore 5, 2) := by decide +kernel
theorem dX7_putNumber_24 : decode cX7_putNumber 24 = .ok (.lload 5, 2) := by decide +kernel
theorem dX7_putNumber_26 : decode cX7_putNumber 26 = .ok (.lconst 0, 1) := by decide +kernel
theorem dX7_putNumber_27 : decode cX7_putNumber 27 = .ok (.lcmp, 1) := by decide +kernel
theorem dX7_putNumber_28 : decode cX7_putNumber 28 = .ok (.ifCond .le 32, 3) := by decide +kernel
theorem dX7_putNumber_31 : decode cX7_putNumber 31 = .ok (.aload_n 0, 1) := by decide +kernel
theorem dX7_putNumber_32 : decode cX7_putNumber 32 = .ok (.ldc2_w 136, 3) := by decide +kernel
theorem dX7_putNumber_35 : decode cX7_putNumber 35 = .ok (.lload_n 1, 1) := by decide +kernel
theorem dX7_putNumber_36 : decode cX7_putNumber 36 = .ok (.lload 5, 2) := by decide +kernel
theorem dX7_putNumber_38 : decode cX7_putNumber 38 = .ok (.ldiv, 1) := by decide +kernel
theorem dX7_putNumber_39 : decode cX7_putNumber 39 = .ok (.ldc2_w 134, 3) := by decide +kernel
theorem dX7_putNumber_42 : decode cX7_putNumber 42 = .ok (.lrem, 1) := by decide +kernel
theorem dX7_putNumber_43 : decode cX7_putNumber 43 = .ok (.ladd, 1) := by decide +kernel
theorem dX7_putNumber_44 : decode cX7_putNumber 44 = .ok (.l2i, 1) := by decide +kernel
theorem dX7_putNumber_45 : decode cX7_putNumber 45 = .ok (.i2c, 1) := by decide +kernel
theorem dX7_putNumber_46 : decode cX7_putNumber 46 = .ok (.invokevirtual 138, 3) := by decide +kernel
theorem dX7_putNumber_49 : decode cX7_putNumber 49 = .ok (.lload 5, 2) := by decide +kernel
theorem dX7_putNumber_51 : decode cX7_putNumber 51 = .ok (.ldc2_w 134, 3) := by decide +kernel
theorem dX7_putNumber_54 : decode cX7_putNumber 54 = .ok (.ldiv, 1) := by decide +kernel
theorem dX7_putNumber_55 : decode cX7_putNumber 55 = .ok (.lstore 5, 2) := by decide +kernel
theorem dX7_putNumber_57 : decode cX7_putNumber 57 = .ok (.goto (-33), 3) := by decide +kernel
theorem dX7_putNumber_60 : decode cX7_putNumber 60 = .ok (.return_, 1) := by decide +kernel
theorem dX7_putFunction_0 : decode cX7_putFunction 0 = .ok (.iload_n 1, 1) := by decide +kernel
theorem dX7_putFunction_1 : decode cX7_putFunction 1 = .ok (.invokestatic 141, 3) := by decide +kernel
theorem dX7_putFunction_4 : decode cX7_putFunction 4 = .ok (.istore_n 2, 1) := by decide +kernel
theorem dX7_putFunction_5 : decode cX7_putFunction 5 = .ok (.iload_n 1, 1) := by decide +kernel
theorem dX7_putFunction_6 : decode cX7_putFunction 6 = .ok (.invokestatic 63, 3) := by decide +kernel
theorem dX7_putFunction_9 : decode cX7_putFunction 9 = .ok (.istore_n 3, 1) := by decide +kernel
theorem dX7_putFunction_10 : decode cX7_putFunction 10 = .ok (.iload_n 2, 1) := by decide +kernel
theorem dX7_putFunction_11 : decode cX7_putFunction 11 = .ok (.iconst 1, 1) := by decide +kernel
theorem dX7_putFunction_12 : decode cX7_putFunction 12 = .ok (.if_icmp .ne 26, 3) := by decide +kernel
theorem dX7_putFunction_15 : decode cX7_putFunction 15 = .ok (.aload_n 0, 1) := by decide +kernel
theorem dX7_putFunction_16 : decode cX7_putFunction 16 = .ok (.bipush 108, 2) := by decide +kernel
theorem dX7_putFunction_18 : decode cX7_putFunction 18 = .ok (.invokevirtual 138, 3) := by decide +kernel
theorem dX7_putFunction_21 : decode cX7_putFunction 21 = .ok (.iload_n 3, 1) := by decide +kernel
theorem dX7_putFunction_22 : decode cX7_putFunction 22 = .ok (.iconst 1, 1) := by decide +kernel
theorem dX7_putFunction_23 : decode cX7_putFunction 23 = .ok (.if_icmp .le 15, 3) := by decide +kernel
theorem dX7_putFunction_26 : decode cX7_putFunction 26 = .ok (.aload_n 0, 1) := by decide +kernel
theorem dX7_putFunction_27 : decode cX7_putFunction 27 = .ok (.bipush 94, 2) := by decide +kernel
theorem dX7_putFunction_29 : decode cX7_putFunction 29 = .ok (.invokevirtual 138, 3) := by decide +kernel
theorem dX7_putFunction_32 : decode cX7_putFunction 32 = .ok (.aload_n 0, 1) := by decide +kernel
theorem dX7_putFunction_33 : decode cX7_putFunction 33 = .ok (.iload_n 3, 1) := by decide +kernel
theorem dX7_putFunction_34 : decode cX7_putFunction 34 = .ok (.i2l, 1) := by decide +kernel
theorem dX7_putFunction_35 : decode cX7_putFunction 35 = .ok (.invokevirtual 144, 3) := by decide +kernel
theorem dX7_putFunction_38 : decode cX7_putFunction 38 = .ok (.iload_n 2, 1) := by decide +kernel
theorem dX7_putFunction_39 : decode cX7_putFunction 39 = .ok (.iconst 1, 1) := by decide +kernel
theorem dX7_putFunction_40 : decode cX7_putFunction 40 = .ok (.if_icmp .le 82, 3) := by decide +kernel
theorem dX7_putFunction_43 : decode cX7_putFunction 43 = .ok (.aload_n 0, 1) := by decide +kernel
theorem dX7_putFunction_44 : decode cX7_putFunction 44 = .ok (.iload_n 2, 1) := by decide +kernel
theorem dX7_putFunction_45 : decode cX7_putFunction 45 = .ok (.iconst 2, 1) := by decide +kernel
theorem dX7_putFunction_46 : decode cX7_putFunction 46 = .ok (.if_icmp .ne 8, 3) := by decide +kernel
theorem dX7_putFunction_49 : decode cX7_putFunction 49 = .ok (.bipush 101, 2) := by decide +kernel
theorem dX7_putFunction_51 : decode cX7_putFunction 51 = .ok (.goto 15, 3) := by decide +kernel
theorem dX7_putFunction_54 : decode cX7_putFunction 54 = .ok (.iload_n 2, 1) := by decide +kernel
theorem dX7_putFunction_55 : decode cX7_putFunction 55 = .ok (.iconst 3, 1) := by decide +kernel
theorem dX7_putFunction_56 : decode cX7_putFunction 56 = .ok (.if_icmp .ne 8, 3) := by decide +kernel
theorem dX7_putFunction_59 : decode cX7_putFunction 59 = .ok (.bipush 115, 2) := by decide +kernel
theorem dX7_putFunction_61 : decode cX7_putFunction 61 = .ok (.goto 5, 3) := by decide +kernel
theorem dX7_putFunction_64 : decode cX7_putFunction 64 = .ok (.bipush 99, 2) := by decide +kernel
theorem dX7_putFunction_66 : decode cX7_putFunction 66 = .ok (.invokevirtual 138, 3) := by decide +kernel
theorem dX7_putFunction_69 : decode cX7_putFunction 69 = .ok (.aload_n 0, 1) := by decide +kernel
theorem dX7_putFunction_70 : decode cX7_putFunction 70 = .ok (.bipush 40, 2) := by decide +kernel
theorem dX7_putFunction_72 : decode cX7_putFunction 72 = .ok (.invokevirtual 138, 3) := by decide +kernel
theorem dX7_putFunction_75 : decode cX7_putFunction 75 = .ok (.iload_n 3, 1) := by decide +kernel
theorem dX7_putFunction_76 : decode cX7_putFunction 76 = .ok (.ifCond .ge 9, 3) := by decide +kernel
theorem dX7_putFunction_79 : decode cX7_putFunction 79 = .ok (.aload_n 0, 1) := by decide +kernel
theorem dX7_putFunction_80 : decode cX7_putFunction 80 = .ok (.bipush 45, 2) := by decide +kernel
theorem dX7_putFunction_82 : decode cX7_putFunction 82 = .ok (.invokevirtual 138, 3) := by decide +kernel
theorem dX7_putFunction_85 : decode cX7_putFunction 85 = .ok (.iload_n 3, 1) := by decide +kernel
theorem dX7_putFunction_86 : decode cX7_putFunction 86 = .ok (.ifCond .ge 8, 3) := by decide +kernel
theorem dX7_putFunction_89 : decode cX7_putFunction 89 = .ok (.iload_n 3, 1) := by decide +kernel
theorem dX7_putFunction_90 : decode cX7_putFunction 90 = .ok (.ineg, 1) := by decide +kernel
theorem dX7_putFunction_91 : decode cX7_putFunction 91 = .ok (.goto 4, 3) := by decide +kernel
theorem dX7_putFunction_94 : decode cX7_putFunction 94 = .ok (.iload_n 3, 1) := by decide +kernel
theorem dX7_putFunction_95 : decode cX7_putFunction 95 = .ok (.istore 4, 2) := by decide +kernel
theorem dX7_putFunction_97 : decode cX7_putFunction 97 = .ok (.iload 4, 2) := by decide +kernel
theorem dX7_putFunction_99 : decode cX7_putFunction 99 = .ok (.iconst 1, 1) := by decide +kernel
theorem dX7_putFunction_100 : decode cX7_putFunction 100 = .ok (.if_icmp .le 10, 3) := by decide +kernel
theorem dX7_putFunction_103 : decode cX7_putFunction 103 = .ok (.aload_n 0, 1) := by decide +kernel
theorem dX7_putFunction_104 : decode cX7_putFunction 104 = .ok (.iload 4, 2) := by decide +kernel
theorem dX7_putFunction_106 : decode cX7_putFunction 106 = .ok (.i2l, 1) := by decide +kernel
theorem dX7_putFunction_107 : decode cX7_putFunction 107 = .ok (.invokevirtual 144, 3) := by decide +kernel
theorem dX7_putFunction_110 : decode cX7_putFunction 110 = .ok (.aload_n 0, 1) := by decide +kernel
theorem dX7_putFunction_111 : decode cX7_putFunction 111 = .ok (.bipush 120, 2) := by decide +kernel
theorem dX7_putFunction_113 : decode cX7_putFunction 113 = .ok (.invokevirtual 138, 3) := by decide +kernel
theorem dX7_putFunction_116 : decode cX7_putFunction 116 = .ok (.aload_n 0, 1) := by decide +kernel
theorem dX7_putFunction_117 : decode cX7_putFunction 117 = .ok (.bipush 41, 2) := by decide +kernel
theorem dX7_putFunction_119 : decode cX7_putFunction 119 = .ok (.invokevirtual 138, 3) := by decide +kernel
theorem dX7_putFunction_122 : decode cX7_putFunction 122 = .ok (.return_, 1) := by decide +kernel
theorem dX7_putTerm_0 : decode cX7_putTerm 0 = .ok (.lload_n 3, 1) := by decide +kernel
theorem dX7_putTerm_1 : decode cX7_putTerm 1 = .ok (.lconst 0, 1) := by decide +kernel
theorem dX7_putTerm_2 : decode cX7_putTerm 2 = .ok (.lcmp, 1) := by decide +kernel
theorem dX7_putTerm_3 : decode cX7_putTerm 3 = .ok (.ifCond .ge 12, 3) := by decide +kernel
theorem dX7_putTerm_6 : decode cX7_putTerm 6 = .ok (.aload_n 0, 1) := by decide +kernel
theorem dX7_putTerm_7 : decode cX7_putTerm 7 = .ok (.bipush 45, 2) := by decide +kernel
theorem dX7_putTerm_9 : decode cX7_putTerm 9 = .ok (.invokevirtual 138, 3) := by decide +kernel
theorem dX7_putTerm_12 : decode cX7_putTerm 12 = .ok (.goto 16, 3) := by decide +kernel
theorem dX7_putTerm_15 : decode cX7_putTerm 15 = .ok (.aload_n 0, 1) := by decide +kernel
theorem dX7_putTerm_16 : decode cX7_putTerm 16 = .ok (.getfield 129, 3) := by decide +kernel
theorem dX7_putTerm_19 : decode cX7_putTerm 19 = .ok (.ifCond .le 9, 3) := by decide +kernel
theorem dX7_putTerm_22 : decode cX7_putTerm 22 = .ok (.aload_n 0, 1) := by decide +kernel
theorem dX7_putTerm_23 : decode cX7_putTerm 23 = .ok (.bipush 43, 2) := by decide +kernel
theorem dX7_putTerm_25 : decode cX7_putTerm 25 = .ok (.invokevirtual 138, 3) := by decide +kernel
theorem dX7_putTerm_28 : decode cX7_putTerm 28 = .ok (.lload_n 3, 1) := by decide +kernel
theorem dX7_putTerm_29 : decode cX7_putTerm 29 = .ok (.lconst 0, 1) := by decide +kernel
theorem dX7_putTerm_30 : decode cX7_putTerm 30 = .ok (.lcmp, 1) := by decide +kernel
theorem dX7_putTerm_31 : decode cX7_putTerm 31 = .ok (.ifCond .ge 8, 3) := by decide +kernel
theorem dX7_putTerm_34 : decode cX7_putTerm 34 = .ok (.lload_n 3, 1) := by decide +kernel
theorem dX7_putTerm_35 : decode cX7_putTerm 35 = .ok (.lneg, 1) := by decide +kernel
theorem dX7_putTerm_36 : decode cX7_putTerm 36 = .ok (.goto 4, 3) := by decide +kernel
theorem dX7_putTerm_39 : decode cX7_putTerm 39 = .ok (.lload_n 3, 1) := by decide +kernel
theorem dX7_putTerm_40 : decode cX7_putTerm 40 = .ok (.lstore 7, 2) := by decide +kernel
theorem dX7_putTerm_42 : decode cX7_putTerm 42 = .ok (.lload 7, 2) := by decide +kernel
theorem dX7_putTerm_44 : decode cX7_putTerm 44 = .ok (.lconst 1, 1) := by decide +kernel
theorem dX7_putTerm_45 : decode cX7_putTerm 45 = .ok (.lcmp, 1) := by decide +kernel
theorem dX7_putTerm_46 : decode cX7_putTerm 46 = .ok (.ifCond .ne 18, 3) := by decide +kernel
theorem dX7_putTerm_49 : decode cX7_putTerm 49 = .ok (.lload 5, 2) := by decide +kernel
theorem dX7_putTerm_51 : decode cX7_putTerm 51 = .ok (.lconst 1, 1) := by decide +kernel
theorem dX7_putTerm_52 : decode cX7_putTerm 52 = .ok (.lcmp, 1) := by decide +kernel
theorem dX7_putTerm_53 : decode cX7_putTerm 53 = .ok (.ifCond .ne 11, 3) := by decide +kernel
theorem dX7_putTerm_56 : decode cX7_putTerm 56 = .ok (.iload_n 1, 1) := by decide +kernel
theorem dX7_putTerm_57 : decode cX7_putTerm 57 = .ok (.ifCond .ne 32, 3) := by decide +kernel
theorem dX7_putTerm_60 : decode cX7_putTerm 60 = .ok (.iload_n 2, 1) := by decide +kernel
theorem dX7_putTerm_61 : decode cX7_putTerm 61 = .ok (.ifCond .ne 28, 3) := by decide +kernel
theorem dX7_putTerm_64 : decode cX7_putTerm 64 = .ok (.aload_n 0, 1) := by decide +kernel
theorem dX7_putTerm_65 : decode cX7_putTerm 65 = .ok (.lload 7, 2) := by decide +kernel
theorem dX7_putTerm_67 : decode cX7_putTerm 67 = .ok (.invokevirtual 144, 3) := by decide +kernel
theorem dX7_putTerm_70 : decode cX7_putTerm 70 = .ok (.lload 5, 2) := by decide +kernel
theorem dX7_putTerm_72 : decode cX7_putTerm 72 = .ok (.lconst 1, 1) := by decide +kernel
theorem dX7_putTerm_73 : decode cX7_putTerm 73 = .ok (.lcmp, 1) := by decide +kernel
theorem dX7_putTerm_74 : decode cX7_putTerm 74 = .ok (.ifCond .eq 15, 3) := by decide +kernel
theorem dX7_putTerm_77 : decode cX7_putTerm 77 = .ok (.aload_n 0, 1) := by decide +kernel
theorem dX7_putTerm_78 : decode cX7_putTerm 78 = .ok (.bipush 47, 2) := by decide +kernel
theorem dX7_putTerm_80 : decode cX7_putTerm 80 = .ok (.invokevirtual 138, 3) := by decide +kernel
theorem dX7_putTerm_83 : decode cX7_putTerm 83 = .ok (.aload_n 0, 1) := by decide +kernel
theorem dX7_putTerm_84 : decode cX7_putTerm 84 = .ok (.lload 5, 2) := by decide +kernel
theorem dX7_putTerm_86 : decode cX7_putTerm 86 = .ok (.invokevirtual 144, 3) := by decide +kernel
theorem dX7_putTerm_89 : decode cX7_putTerm 89 = .ok (.iload_n 2, 1) := by decide +kernel
theorem dX7_putTerm_90 : decode cX7_putTerm 90 = .ok (.ifCond .eq 9, 3) := by decide +kernel
theorem dX7_putTerm_93 : decode cX7_putTerm 93 = .ok (.aload_n 0, 1) := by decide +kernel
theorem dX7_putTerm_94 : decode cX7_putTerm 94 = .ok (.bipush 120, 2) := by decide +kernel
theorem dX7_putTerm_96 : decode cX7_putTerm 96 = .ok (.invokevirtual 138, 3) := by decide +kernel
theorem dX7_putTerm_99 : decode cX7_putTerm 99 = .ok (.iload_n 2, 1) := by decide +kernel
theorem dX7_putTerm_100 : decode cX7_putTerm 100 = .ok (.ifCond .eq 40, 3) := by decide +kernel
theorem dX7_putTerm_103 : decode cX7_putTerm 103 = .ok (.iload_n 2, 1) := by decide +kernel
theorem dX7_putTerm_104 : decode cX7_putTerm 104 = .ok (.iconst 1, 1) := by decide +kernel
theorem dX7_putTerm_105 : decode cX7_putTerm 105 = .ok (.if_icmp .eq 35, 3) := by decide +kernel
theorem dX7_putTerm_108 : decode cX7_putTerm 108 = .ok (.aload_n 0, 1) := by decide +kernel
theorem dX7_putTerm_109 : decode cX7_putTerm 109 = .ok (.bipush 94, 2) := by decide +kernel
theorem dX7_putTerm_111 : decode cX7_putTerm 111 = .ok (.invokevirtual 138, 3) := by decide +kernel
theorem dX7_putTerm_114 : decode cX7_putTerm 114 = .ok (.iload_n 2, 1) := by decide +kernel
theorem dX7_putTerm_115 : decode cX7_putTerm 115 = .ok (.ifCond .ge 9, 3) := by decide +kernel
theorem dX7_putTerm_118 : decode cX7_putTerm 118 = .ok (.aload_n 0, 1) := by decide +kernel
theorem dX7_putTerm_119 : decode cX7_putTerm 119 = .ok (.bipush 45, 2) := by decide +kernel
theorem dX7_putTerm_121 : decode cX7_putTerm 121 = .ok (.invokevirtual 138, 3) := by decide +kernel
theorem dX7_putTerm_124 : decode cX7_putTerm 124 = .ok (.aload_n 0, 1) := by decide +kernel
theorem dX7_putTerm_125 : decode cX7_putTerm 125 = .ok (.iload_n 2, 1) := by decide +kernel
theorem dX7_putTerm_126 : decode cX7_putTerm 126 = .ok (.ifCond .ge 9, 3) := by decide +kernel
theorem dX7_putTerm_129 : decode cX7_putTerm 129 = .ok (.iload_n 2, 1) := by decide +kernel
theorem dX7_putTerm_130 : decode cX7_putTerm 130 = .ok (.ineg, 1) := by decide +kernel
theorem dX7_putTerm_131 : decode cX7_putTerm 131 = .ok (.i2l, 1) := by decide +kernel
theorem dX7_putTerm_132 : decode cX7_putTerm 132 = .ok (.goto 5, 3) := by decide +kernel
theorem dX7_putTerm_135 : decode cX7_putTerm 135 = .ok (.iload_n 2, 1) := by decide +kernel
theorem dX7_putTerm_136 : decode cX7_putTerm 136 = .ok (.i2l, 1) := by decide +kernel
theorem dX7_putTerm_137 : decode cX7_putTerm 137 = .ok (.invokevirtual 144, 3) := by decide +kernel
theorem dX7_putTerm_140 : decode cX7_putTerm 140 = .ok (.aload_n 0, 1) := by decide +kernel
theorem dX7_putTerm_141 : decode cX7_putTerm 141 = .ok (.iload_n 1, 1) := by decide +kernel
theorem dX7_putTerm_142 : decode cX7_putTerm 142 = .ok (.invokevirtual 148, 3) := by decide +kernel
theorem dX7_putTerm_145 : decode cX7_putTerm 145 = .ok (.return_, 1) := by decide +kernel
theorem dX7_write_0 : decode cX7_write 0 = .ok (.aload_n 0, 1) := by decide +kernel
theorem dX7_write_1 : decode cX7_write 1 = .ok (.iload_n 1, 1) := by decide +kernel
theorem dX7_write_2 : decode cX7_write 2 = .ok (.invokestatic 115, 3) := by decide +kernel
theorem dX7_write_5 : decode cX7_write 5 = .ok (.ifCond .eq 7, 3) := by decide +kernel
theorem dX7_write_8 : decode cX7_write 8 = .ok (.iconst 0, 1) := by decide +kernel
theorem dX7_write_9 : decode cX7_write 9 = .ok (.goto 4, 3) := by decide +kernel
theorem dX7_write_12 : decode cX7_write 12 = .ok (.iconst 1, 1) := by decide +kernel
theorem dX7_write_13 : decode cX7_write 13 = .ok (.invokevirtual 78, 3) := by decide +kernel
theorem dX7_write_16 : decode cX7_write 16 = .ok (.ifCond .eq 5, 3) := by decide +kernel
theorem dX7_write_19 : decode cX7_write 19 = .ok (.iconst 0, 1) := by decide +kernel
theorem dX7_write_20 : decode cX7_write 20 = .ok (.ireturn, 1) := by decide +kernel
theorem dX7_write_21 : decode cX7_write 21 = .ok (.aload_n 0, 1) := by decide +kernel
theorem dX7_write_22 : decode cX7_write 22 = .ok (.iconst 0, 1) := by decide +kernel
theorem dX7_write_23 : decode cX7_write 23 = .ok (.putfield 129, 3) := by decide +kernel
theorem dX7_write_26 : decode cX7_write 26 = .ok (.iconst 0, 1) := by decide +kernel
theorem dX7_write_27 : decode cX7_write 27 = .ok (.istore_n 2, 1) := by decide +kernel
theorem dX7_write_28 : decode cX7_write 28 = .ok (.iload_n 2, 1) := by decide +kernel
theorem dX7_write_29 : decode cX7_write 29 = .ok (.bipush 46, 2) := by decide +kernel
theorem dX7_write_31 : decode cX7_write 31 = .ok (.if_icmp .ge 73, 3) := by decide +kernel
theorem dX7_write_34 : decode cX7_write 34 = .ok (.bipush 12, 2) := by decide +kernel
theorem dX7_write_36 : decode cX7_write 36 = .ok (.istore_n 3, 1) := by decide +kernel
theorem dX7_write_37 : decode cX7_write 37 = .ok (.iload_n 3, 1) := by decide +kernel
theorem dX7_write_38 : decode cX7_write 38 = .ok (.bipush (-13), 2) := by decide +kernel
theorem dX7_write_40 : decode cX7_write 40 = .ok (.if_icmp .le 58, 3) := by decide +kernel
theorem dX7_write_43 : decode cX7_write 43 = .ok (.sipush 1150, 3) := by decide +kernel
theorem dX7_write_46 : decode cX7_write 46 = .ok (.iload_n 1, 1) := by decide +kernel
theorem dX7_write_47 : decode cX7_write 47 = .ok (.imul, 1) := by decide +kernel
theorem dX7_write_48 : decode cX7_write 48 = .ok (.bipush 25, 2) := by decide +kernel
theorem dX7_write_50 : decode cX7_write 50 = .ok (.iload_n 2, 1) := by decide +kernel
theorem dX7_write_51 : decode cX7_write 51 = .ok (.imul, 1) := by decide +kernel
theorem dX7_write_52 : decode cX7_write 52 = .ok (.iadd, 1) := by decide +kernel
theorem dX7_write_53 : decode cX7_write 53 = .ok (.iload_n 3, 1) := by decide +kernel
theorem dX7_write_54 : decode cX7_write 54 = .ok (.iadd, 1) := by decide +kernel
theorem dX7_write_55 : decode cX7_write 55 = .ok (.bipush 12, 2) := by decide +kernel
theorem dX7_write_57 : decode cX7_write 57 = .ok (.iadd, 1) := by decide +kernel
theorem dX7_write_58 : decode cX7_write 58 = .ok (.istore 4, 2) := by decide +kernel
theorem dX7_write_60 : decode cX7_write 60 = .ok (.aload_n 0, 1) := by decide +kernel
theorem dX7_write_61 : decode cX7_write 61 = .ok (.getfield 20, 3) := by decide +kernel
theorem dX7_write_64 : decode cX7_write 64 = .ok (.iload 4, 2) := by decide +kernel
theorem dX7_write_66 : decode cX7_write 66 = .ok (.laload, 1) := by decide +kernel
theorem dX7_write_67 : decode cX7_write 67 = .ok (.lconst 0, 1) := by decide +kernel
theorem dX7_write_68 : decode cX7_write 68 = .ok (.lcmp, 1) := by decide +kernel
theorem dX7_write_69 : decode cX7_write 69 = .ok (.ifCond .eq 23, 3) := by decide +kernel
theorem dX7_write_72 : decode cX7_write 72 = .ok (.aload_n 0, 1) := by decide +kernel
theorem dX7_write_73 : decode cX7_write 73 = .ok (.iload_n 2, 1) := by decide +kernel
theorem dX7_write_74 : decode cX7_write 74 = .ok (.iload_n 3, 1) := by decide +kernel
theorem dX7_write_75 : decode cX7_write 75 = .ok (.aload_n 0, 1) := by decide +kernel
theorem dX7_write_76 : decode cX7_write 76 = .ok (.getfield 20, 3) := by decide +kernel
theorem dX7_write_79 : decode cX7_write 79 = .ok (.iload 4, 2) := by decide +kernel
theorem dX7_write_81 : decode cX7_write 81 = .ok (.laload, 1) := by decide +kernel
theorem dX7_write_82 : decode cX7_write 82 = .ok (.aload_n 0, 1) := by decide +kernel
theorem dX7_write_83 : decode cX7_write 83 = .ok (.getfield 24, 3) := by decide +kernel
theorem dX7_write_86 : decode cX7_write 86 = .ok (.iload 4, 2) := by decide +kernel
theorem dX7_write_88 : decode cX7_write 88 = .ok (.laload, 1) := by decide +kernel
theorem dX7_write_89 : decode cX7_write 89 = .ok (.invokevirtual 151, 3) := by decide +kernel
theorem dX7_write_92 : decode cX7_write 92 = .ok (.iinc 3 (-1), 3) := by decide +kernel
theorem dX7_write_95 : decode cX7_write 95 = .ok (.goto (-58), 3) := by decide +kernel
theorem dX7_write_98 : decode cX7_write 98 = .ok (.iinc 2 1, 3) := by decide +kernel
theorem dX7_write_101 : decode cX7_write 101 = .ok (.goto (-73), 3) := by decide +kernel
theorem dX7_write_104 : decode cX7_write 104 = .ok (.aload_n 0, 1) := by decide +kernel
theorem dX7_write_105 : decode cX7_write 105 = .ok (.getfield 129, 3) := by decide +kernel
theorem dX7_write_108 : decode cX7_write 108 = .ok (.ifCond .ne 9, 3) := by decide +kernel
theorem dX7_write_111 : decode cX7_write 111 = .ok (.aload_n 0, 1) := by decide +kernel
theorem dX7_write_112 : decode cX7_write 112 = .ok (.bipush 48, 2) := by decide +kernel
theorem dX7_write_114 : decode cX7_write 114 = .ok (.invokevirtual 138, 3) := by decide +kernel
theorem dX7_write_117 : decode cX7_write 117 = .ok (.aload_n 0, 1) := by decide +kernel
theorem dX7_write_118 : decode cX7_write 118 = .ok (.getfield 129, 3) := by decide +kernel
theorem dX7_write_121 : decode cX7_write 121 = .ok (.ireturn, 1) := by decide +kernel
theorem dX7_output_0 : decode cX7_output 0 = .ok (.aload_n 0, 1) := by decide +kernel
theorem dX7_output_1 : decode cX7_output 1 = .ok (.iconst 0, 1) := by decide +kernel
theorem dX7_output_2 : decode cX7_output 2 = .ok (.putfield 27, 3) := by decide +kernel
theorem dX7_output_5 : decode cX7_output 5 = .ok (.iload_n 1, 1) := by decide +kernel
theorem dX7_output_6 : decode cX7_output 6 = .ok (.ifCond .lt 20, 3) := by decide +kernel
theorem dX7_output_9 : decode cX7_output 9 = .ok (.iload_n 1, 1) := by decide +kernel
theorem dX7_output_10 : decode cX7_output 10 = .ok (.aload_n 0, 1) := by decide +kernel
theorem dX7_output_11 : decode cX7_output 11 = .ok (.getfield 129, 3) := by decide +kernel
theorem dX7_output_14 : decode cX7_output 14 = .ok (.if_icmp .ge 12, 3) := by decide +kernel
theorem dX7_output_17 : decode cX7_output 17 = .ok (.aload_n 0, 1) := by decide +kernel
theorem dX7_output_18 : decode cX7_output 18 = .ok (.getfield 13, 3) := by decide +kernel
theorem dX7_output_21 : decode cX7_output 21 = .ok (.iload_n 1, 1) := by decide +kernel
theorem dX7_output_22 : decode cX7_output 22 = .ok (.caload, 1) := by decide +kernel
theorem dX7_output_23 : decode cX7_output 23 = .ok (.goto 5, 3) := by decide +kernel
theorem dX7_output_26 : decode cX7_output 26 = .ok (.bipush 32, 2) := by decide +kernel
theorem dX7_output_28 : decode cX7_output 28 = .ok (.ireturn, 1) := by decide +kernel
theorem dX7_add_0 : decode cX7_add 0 = .ok (.iload_n 1, 1) := by decide +kernel
theorem dX7_add_1 : decode cX7_add 1 = .ok (.invokestatic 115, 3) := by decide +kernel
theorem dX7_add_4 : decode cX7_add 4 = .ok (.ifCond .eq 48, 3) := by decide +kernel
theorem dX7_add_7 : decode cX7_add 7 = .ok (.iload_n 2, 1) := by decide +kernel
theorem dX7_add_8 : decode cX7_add 8 = .ok (.invokestatic 115, 3) := by decide +kernel
theorem dX7_add_11 : decode cX7_add 11 = .ok (.ifCond .eq 41, 3) := by decide +kernel
theorem dX7_add_14 : decode cX7_add 14 = .ok (.iload_n 3, 1) := by decide +kernel
theorem dX7_add_15 : decode cX7_add 15 = .ok (.invokestatic 115, 3) := by decide +kernel
theorem dX7_add_18 : decode cX7_add 18 = .ok (.ifCond .eq 34, 3) := by decide +kernel
theorem dX7_add_21 : decode cX7_add 21 = .ok (.iload 4, 2) := by decide +kernel
theorem dX7_add_23 : decode cX7_add 23 = .ok (.bipush (-100), 2) := by decide +kernel
theorem dX7_add_25 : decode cX7_add 25 = .ok (.if_icmp .lt 27, 3) := by decide +kernel
theorem dX7_add_28 : decode cX7_add 28 = .ok (.iload 4, 2) := by decide +kernel
theorem dX7_add_30 : decode cX7_add 30 = .ok (.bipush 100, 2) := by decide +kernel
theorem dX7_add_32 : decode cX7_add 32 = .ok (.if_icmp .gt 20, 3) := by decide +kernel
theorem dX7_add_35 : decode cX7_add 35 = .ok (.iload 5, 2) := by decide +kernel
theorem dX7_add_37 : decode cX7_add 37 = .ok (.iconst 1, 1) := by decide +kernel
theorem dX7_add_38 : decode cX7_add 38 = .ok (.if_icmp .lt 14, 3) := by decide +kernel
theorem dX7_add_41 : decode cX7_add 41 = .ok (.iload 5, 2) := by decide +kernel
theorem dX7_add_43 : decode cX7_add 43 = .ok (.bipush 6, 2) := by decide +kernel
theorem dX7_add_45 : decode cX7_add 45 = .ok (.if_icmp .gt 7, 3) := by decide +kernel
theorem dX7_add_48 : decode cX7_add 48 = .ok (.iconst 1, 1) := by decide +kernel
theorem dX7_add_49 : decode cX7_add 49 = .ok (.goto 4, 3) := by decide +kernel
theorem dX7_add_52 : decode cX7_add 52 = .ok (.iconst 0, 1) := by decide +kernel
theorem dX7_add_53 : decode cX7_add 53 = .ok (.istore 6, 2) := by decide +kernel
theorem dX7_add_55 : decode cX7_add 55 = .ok (.aload_n 0, 1) := by decide +kernel
theorem dX7_add_56 : decode cX7_add 56 = .ok (.iload 6, 2) := by decide +kernel
theorem dX7_add_58 : decode cX7_add 58 = .ok (.ifCond .ne 7, 3) := by decide +kernel
theorem dX7_add_61 : decode cX7_add 61 = .ok (.iconst 1, 1) := by decide +kernel
theorem dX7_add_62 : decode cX7_add 62 = .ok (.goto 31, 3) := by decide +kernel
theorem dX7_add_65 : decode cX7_add 65 = .ok (.iload 4, 2) := by decide +kernel
theorem dX7_add_67 : decode cX7_add 67 = .ok (.iload 5, 2) := by decide +kernel
theorem dX7_add_69 : decode cX7_add 69 = .ok (.if_icmp .eq 23, 3) := by decide +kernel
theorem dX7_add_72 : decode cX7_add 72 = .ok (.iload 4, 2) := by decide +kernel
theorem dX7_add_74 : decode cX7_add 74 = .ok (.iload 5, 2) := by decide +kernel
theorem dX7_add_76 : decode cX7_add 76 = .ok (.ineg, 1) := by decide +kernel
theorem dX7_add_77 : decode cX7_add 77 = .ok (.if_icmp .eq 15, 3) := by decide +kernel
theorem dX7_add_80 : decode cX7_add 80 = .ok (.aload_n 0, 1) := by decide +kernel
theorem dX7_add_81 : decode cX7_add 81 = .ok (.iload_n 3, 1) := by decide +kernel
theorem dX7_add_82 : decode cX7_add 82 = .ok (.invokevirtual 155, 3) := by decide +kernel
theorem dX7_add_85 : decode cX7_add 85 = .ok (.ifCond .ne 7, 3) := by decide +kernel
theorem dX7_add_88 : decode cX7_add 88 = .ok (.iconst 2, 1) := by decide +kernel
theorem dX7_add_89 : decode cX7_add 89 = .ok (.goto 4, 3) := by decide +kernel
theorem dX7_add_92 : decode cX7_add 92 = .ok (.iconst 0, 1) := by decide +kernel
theorem dX7_add_93 : decode cX7_add 93 = .ok (.invokevirtual 78, 3) := by decide +kernel
theorem dX7_add_96 : decode cX7_add 96 = .ok (.ifCond .eq 5, 3) := by decide +kernel
theorem dX7_add_99 : decode cX7_add 99 = .ok (.iconst 0, 1) := by decide +kernel
theorem dX7_add_100 : decode cX7_add 100 = .ok (.ireturn, 1) := by decide +kernel
theorem dX7_add_101 : decode cX7_add 101 = .ok (.aload_n 0, 1) := by decide +kernel
theorem dX7_add_102 : decode cX7_add 102 = .ok (.iconst 0, 1) := by decide +kernel
theorem dX7_add_103 : decode cX7_add 103 = .ok (.putfield 30, 3) := by decide +kernel
theorem dX7_add_106 : decode cX7_add 106 = .ok (.aload_n 0, 1) := by decide +kernel
theorem dX7_add_107 : decode cX7_add 107 = .ok (.bipush 8, 2) := by decide +kernel
theorem dX7_add_109 : decode cX7_add 109 = .ok (.iload_n 2, 1) := by decide +kernel
theorem dX7_add_110 : decode cX7_add 110 = .ok (.invokevirtual 59, 3) := by decide +kernel
theorem dX7_add_113 : decode cX7_add 113 = .ok (.iconst 0, 1) := by decide +kernel
theorem dX7_add_114 : decode cX7_add 114 = .ok (.istore 7, 2) := by decide +kernel
theorem dX7_add_116 : decode cX7_add 116 = .ok (.iload 7, 2) := by decide +kernel
theorem dX7_add_118 : decode cX7_add 118 = .ok (.bipush 46, 2) := by decide +kernel
theorem dX7_add_120 : decode cX7_add 120 = .ok (.if_icmp .ge 169, 3) := by decide +kernel
theorem dX7_add_123 : decode cX7_add 123 = .ok (.bipush (-12), 2) := by decide +kernel
theorem dX7_add_125 : decode cX7_add 125 = .ok (.istore 8, 2) := by decide +kernel
theorem dX7_add_127 : decode cX7_add 127 = .ok (.iload 8, 2) := by decide +kernel
theorem dX7_add_129 : decode cX7_add 129 = .ok (.bipush 13, 2) := by decide +kernel
theorem dX7_add_131 : decode cX7_add 131 = .ok (.if_icmp .ge 152, 3) := by decide +kernel
theorem dX7_add_134 : decode cX7_add 134 = .ok (.sipush 1150, 3) := by decide +kernel
theorem dX7_add_137 : decode cX7_add 137 = .ok (.iload_n 3, 1) := by decide +kernel
theorem dX7_add_138 : decode cX7_add 138 = .ok (.imul, 1) := by decide +kernel
theorem dX7_add_139 : decode cX7_add 139 = .ok (.bipush 25, 2) := by decide +kernel
theorem dX7_add_141 : decode cX7_add 141 = .ok (.iload 7, 2) := by decide +kernel
theorem dX7_add_143 : decode cX7_add 143 = .ok (.imul, 1) := by decide +kernel
theorem dX7_add_144 : decode cX7_add 144 = .ok (.iadd, 1) := by decide +kernel
theorem dX7_add_145 : decode cX7_add 145 = .ok (.iload 8, 2) := by decide +kernel
theorem dX7_add_147 : decode cX7_add 147 = .ok (.iadd, 1) := by decide +kernel
theorem dX7_add_148 : decode cX7_add 148 = .ok (.bipush 12, 2) := by decide +kernel
theorem dX7_add_150 : decode cX7_add 150 = .ok (.iadd, 1) := by decide +kernel
theorem dX7_add_151 : decode cX7_add 151 = .ok (.istore 9, 2) := by decide +kernel
theorem dX7_add_153 : decode cX7_add 153 = .ok (.iload 4, 2) := by decide +kernel
theorem dX7_add_155 : decode cX7_add 155 = .ok (.iload 5, 2) := by decide +kernel
theorem dX7_add_157 : decode cX7_add 157 = .ok (.if_icmp .ne 13, 3) := by decide +kernel
theorem dX7_add_160 : decode cX7_add 160 = .ok (.aload_n 0, 1) := by decide +kernel
theorem dX7_add_161 : decode cX7_add 161 = .ok (.getfield 20, 3) := by decide +kernel
theorem dX7_add_164 : decode cX7_add 164 = .ok (.iload 9, 2) := by decide +kernel
theorem dX7_add_166 : decode cX7_add 166 = .ok (.laload, 1) := by decide +kernel
theorem dX7_add_167 : decode cX7_add 167 = .ok (.goto 33, 3) := by decide +kernel
theorem dX7_add_170 : decode cX7_add 170 = .ok (.iload 4, 2) := by decide +kernel
theorem dX7_add_172 : decode cX7_add 172 = .ok (.iload 5, 2) := by decide +kernel
theorem dX7_add_174 : decode cX7_add 174 = .ok (.ineg, 1) := by decide +kernel
theorem dX7_add_175 : decode cX7_add 175 = .ok (.if_icmp .ne 14, 3) := by decide +kernel
theorem dX7_add_178 : decode cX7_add 178 = .ok (.aload_n 0, 1) := by decide +kernel
theorem dX7_add_179 : decode cX7_add 179 = .ok (.getfield 20, 3) := by decide +kernel
theorem dX7_add_182 : decode cX7_add 182 = .ok (.iload 9, 2) := by decide +kernel
theorem dX7_add_184 : decode cX7_add 184 = .ok (.laload, 1) := by decide +kernel
theorem dX7_add_185 : decode cX7_add 185 = .ok (.lneg, 1) := by decide +kernel
theorem dX7_add_186 : decode cX7_add 186 = .ok (.goto 14, 3) := by decide +kernel
theorem dX7_add_189 : decode cX7_add 189 = .ok (.aload_n 0, 1) := by decide +kernel
theorem dX7_add_190 : decode cX7_add 190 = .ok (.getfield 20, 3) := by decide +kernel
theorem dX7_add_193 : decode cX7_add 193 = .ok (.iload 9, 2) := by decide +kernel
theorem dX7_add_195 : decode cX7_add 195 = .ok (.laload, 1) := by decide +kernel
theorem dX7_add_196 : decode cX7_add 196 = .ok (.iload 4, 2) := by decide +kernel
theorem dX7_add_198 : decode cX7_add 198 = .ok (.i2l, 1) := by decide +kernel
theorem dX7_add_199 : decode cX7_add 199 = .ok (.lmul, 1) := by decide +kernel
theorem dX7_add_200 : decode cX7_add 200 = .ok (.lstore 10, 2) := by decide +kernel
theorem dX7_add_202 : decode cX7_add 202 = .ok (.iload 4, 2) := by decide +kernel
theorem dX7_add_204 : decode cX7_add 204 = .ok (.iload 5, 2) := by decide +kernel
theorem dX7_add_206 : decode cX7_add 206 = .ok (.if_icmp .eq 11, 3) := by decide +kernel
theorem dX7_add_209 : decode cX7_add 209 = .ok (.iload 4, 2) := by decide +kernel
theorem dX7_add_211 : decode cX7_add 211 = .ok (.iload 5, 2) := by decide +kernel
theorem dX7_add_213 : decode cX7_add 213 = .ok (.ineg, 1) := by decide +kernel
theorem dX7_add_214 : decode cX7_add 214 = .ok (.if_icmp .ne 13, 3) := by decide +kernel
theorem dX7_add_217 : decode cX7_add 217 = .ok (.aload_n 0, 1) := by decide +kernel
theorem dX7_add_218 : decode cX7_add 218 = .ok (.getfield 24, 3) := by decide +kernel
theorem dX7_add_221 : decode cX7_add 221 = .ok (.iload 9, 2) := by decide +kernel
theorem dX7_add_223 : decode cX7_add 223 = .ok (.laload, 1) := by decide +kernel
theorem dX7_add_224 : decode cX7_add 224 = .ok (.goto 14, 3) := by decide +kernel
theorem dX7_add_227 : decode cX7_add 227 = .ok (.aload_n 0, 1) := by decide +kernel
theorem dX7_add_228 : decode cX7_add 228 = .ok (.getfield 24, 3) := by decide +kernel
theorem dX7_add_231 : decode cX7_add 231 = .ok (.iload 9, 2) := by decide +kernel
theorem dX7_add_233 : decode cX7_add 233 = .ok (.laload, 1) := by decide +kernel
theorem dX7_add_234 : decode cX7_add 234 = .ok (.iload 5, 2) := by decide +kernel
theorem dX7_add_236 : decode cX7_add 236 = .ok (.i2l, 1) := by decide +kernel
theorem dX7_add_237 : decode cX7_add 237 = .ok (.lmul, 1) := by decide +kernel
theorem dX7_add_238 : decode cX7_add 238 = .ok (.lstore 12, 2) := by decide +kernel
theorem dX7_add_240 : decode cX7_add 240 = .ok (.lload 10, 2) := by decide +kernel
theorem dX7_add_242 : decode cX7_add 242 = .ok (.lload 12, 2) := by decide +kernel
theorem dX7_add_244 : decode cX7_add 244 = .ok (.invokestatic 38, 3) := by decide +kernel
theorem dX7_add_247 : decode cX7_add 247 = .ok (.lstore 14, 2) := by decide +kernel
theorem dX7_add_249 : decode cX7_add 249 = .ok (.aload_n 0, 1) := by decide +kernel
theorem dX7_add_250 : decode cX7_add 250 = .ok (.bipush 8, 2) := by decide +kernel
theorem dX7_add_252 : decode cX7_add 252 = .ok (.iload 7, 2) := by decide +kernel
theorem dX7_add_254 : decode cX7_add 254 = .ok (.invokestatic 141, 3) := by decide +kernel
theorem dX7_add_257 : decode cX7_add 257 = .ok (.iload 7, 2) := by decide +kernel
theorem dX7_add_259 : decode cX7_add 259 = .ok (.invokestatic 63, 3) := by decide +kernel
theorem dX7_add_262 : decode cX7_add 262 = .ok (.iload 8, 2) := by decide +kernel
theorem dX7_add_264 : decode cX7_add 264 = .ok (.lload 10, 2) := by decide +kernel
theorem dX7_add_266 : decode cX7_add 266 = .ok (.lload 14, 2) := by decide +kernel
theorem dX7_add_268 : decode cX7_add 268 = .ok (.ldiv, 1) := by decide +kernel
theorem dX7_add_269 : decode cX7_add 269 = .ok (.lload 12, 2) := by decide +kernel
theorem dX7_add_271 : decode cX7_add 271 = .ok (.lload 14, 2) := by decide +kernel
theorem dX7_add_273 : decode cX7_add 273 = .ok (.ldiv, 1) := by decide +kernel
theorem dX7_add_274 : decode cX7_add 274 = .ok (.invokevirtual 108, 3) := by decide +kernel
theorem dX7_add_277 : decode cX7_add 277 = .ok (.iinc 8 1, 3) := by decide +kernel
theorem dX7_add_280 : decode cX7_add 280 = .ok (.goto (-153), 3) := by decide +kernel
theorem dX7_add_283 : decode cX7_add 283 = .ok (.iinc 7 1, 3) := by decide +kernel
theorem dX7_add_286 : decode cX7_add 286 = .ok (.goto (-170), 3) := by decide +kernel
theorem dX7_add_289 : decode cX7_add 289 = .ok (.aload_n 0, 1) := by decide +kernel
theorem dX7_add_290 : decode cX7_add 290 = .ok (.iload_n 1, 1) := by decide +kernel
theorem dX7_add_291 : decode cX7_add 291 = .ok (.invokevirtual 126, 3) := by decide +kernel
theorem dX7_add_294 : decode cX7_add 294 = .ok (.ireturn, 1) := by decide +kernel
theorem dX7_clash_0 : decode cX7_clash 0 = .ok (.iload_n 0, 1) := by decide +kernel
theorem dX7_clash_1 : decode cX7_clash 1 = .ok (.iconst 1, 1) := by decide +kernel
theorem dX7_clash_2 : decode cX7_clash 2 = .ok (.if_icmp .ne 8, 3) := by decide +kernel
theorem dX7_clash_5 : decode cX7_clash 5 = .ok (.iload_n 1, 1) := by decide +kernel
theorem dX7_clash_6 : decode cX7_clash 6 = .ok (.iconst 1, 1) := by decide +kernel
theorem dX7_clash_7 : decode cX7_clash 7 = .ok (.if_icmp .gt 13, 3) := by decide +kernel
theorem dX7_clash_10 : decode cX7_clash 10 = .ok (.iload_n 0, 1) := by decide +kernel
theorem dX7_clash_11 : decode cX7_clash 11 = .ok (.iconst 2, 1) := by decide +kernel
theorem dX7_clash_12 : decode cX7_clash 12 = .ok (.if_icmp .ne 12, 3) := by decide +kernel
theorem dX7_clash_15 : decode cX7_clash 15 = .ok (.iload_n 1, 1) := by decide +kernel
theorem dX7_clash_16 : decode cX7_clash 16 = .ok (.iconst 2, 1) := by decide +kernel
theorem dX7_clash_17 : decode cX7_clash 17 = .ok (.if_icmp .le 7, 3) := by decide +kernel
theorem dX7_clash_20 : decode cX7_clash 20 = .ok (.iconst 1, 1) := by decide +kernel
theorem dX7_clash_21 : decode cX7_clash 21 = .ok (.goto 4, 3) := by decide +kernel
theorem dX7_clash_24 : decode cX7_clash 24 = .ok (.iconst 0, 1) := by decide +kernel
theorem dX7_clash_25 : decode cX7_clash 25 = .ok (.ireturn, 1) := by decide +kernel
theorem dX7_multiply_0 : decode cX7_multiply 0 = .ok (.iload_n 1, 1) := by decide +kernel
theorem dX7_multiply_1 : decode cX7_multiply 1 = .ok (.invokestatic 141, 3) := by decide +kernel
theorem dX7_multiply_4 : decode cX7_multiply 4 = .ok (.istore 8, 2) := by decide +kernel
theorem dX7_multiply_6 : decode cX7_multiply 6 = .ok (.iload_n 2, 1) := by decide +kernel
theorem dX7_multiply_7 : decode cX7_multiply 7 = .ok (.invokestatic 141, 3) := by decide +kernel
theorem dX7_multiply_10 : decode cX7_multiply 10 = .ok (.istore 9, 2) := by decide +kernel
theorem dX7_multiply_12 : decode cX7_multiply 12 = .ok (.iload_n 1, 1) := by decide +kernel
theorem dX7_multiply_13 : decode cX7_multiply 13 = .ok (.invokestatic 63, 3) := by decide +kernel
theorem dX7_multiply_16 : decode cX7_multiply 16 = .ok (.istore 10, 2) := by decide +kernel
theorem dX7_multiply_18 : decode cX7_multiply 18 = .ok (.iload_n 2, 1) := by decide +kernel
theorem dX7_multiply_19 : decode cX7_multiply 19 = .ok (.invokestatic 63, 3) := by decide +kernel
theorem dX7_multiply_22 : decode cX7_multiply 22 = .ok (.istore 11, 2) := by decide +kernel
theorem dX7_multiply_24 : decode cX7_multiply 24 = .ok (.iload 8, 2) := by decide +kernel
theorem dX7_multiply_26 : decode cX7_multiply 26 = .ok (.ifCond .eq 8, 3) := by decide +kernel
theorem dX7_multiply_29 : decode cX7_multiply 29 = .ok (.iload 9, 2) := by decide +kernel
theorem dX7_multiply_31 : decode cX7_multiply 31 = .ok (.ifCond .ne 41, 3) := by decide +kernel
theorem dX7_multiply_34 : decode cX7_multiply 34 = .ok (.aload_n 0, 1) := by decide +kernel
theorem dX7_multiply_35 : decode cX7_multiply 35 = .ok (.bipush 8, 2) := by decide +kernel
theorem dX7_multiply_37 : decode cX7_multiply 37 = .ok (.iload 8, 2) := by decide +kernel
theorem dX7_multiply_39 : decode cX7_multiply 39 = .ok (.ifCond .ne 8, 3) := by decide +kernel
theorem dX7_multiply_42 : decode cX7_multiply 42 = .ok (.iload 9, 2) := by decide +kernel
theorem dX7_multiply_44 : decode cX7_multiply 44 = .ok (.goto 5, 3) := by decide +kernel
theorem dX7_multiply_47 : decode cX7_multiply 47 = .ok (.iload 8, 2) := by decide +kernel
theorem dX7_multiply_49 : decode cX7_multiply 49 = .ok (.iload 8, 2) := by decide +kernel
theorem dX7_multiply_51 : decode cX7_multiply 51 = .ok (.ifCond .ne 8, 3) := by decide +kernel
theorem dX7_multiply_54 : decode cX7_multiply 54 = .ok (.iload 11, 2) := by decide +kernel
theorem dX7_multiply_56 : decode cX7_multiply 56 = .ok (.goto 5, 3) := by decide +kernel
theorem dX7_multiply_59 : decode cX7_multiply 59 = .ok (.iload 10, 2) := by decide +kernel
theorem dX7_multiply_61 : decode cX7_multiply 61 = .ok (.iload_n 3, 1) := by decide +kernel
theorem dX7_multiply_62 : decode cX7_multiply 62 = .ok (.lload 4, 2) := by decide +kernel
theorem dX7_multiply_64 : decode cX7_multiply 64 = .ok (.lload 6, 2) := by decide +kernel
theorem dX7_multiply_66 : decode cX7_multiply 66 = .ok (.invokevirtual 108, 3) := by decide +kernel
theorem dX7_multiply_69 : decode cX7_multiply 69 = .ok (.goto 166, 3) := by decide +kernel
theorem dX7_multiply_72 : decode cX7_multiply 72 = .ok (.iload 8, 2) := by decide +kernel
theorem dX7_multiply_74 : decode cX7_multiply 74 = .ok (.iconst 3, 1) := by decide +kernel
theorem dX7_multiply_75 : decode cX7_multiply 75 = .ok (.if_icmp .ge 24, 3) := by decide +kernel
theorem dX7_multiply_78 : decode cX7_multiply 78 = .ok (.aload_n 0, 1) := by decide +kernel
theorem dX7_multiply_79 : decode cX7_multiply 79 = .ok (.bipush 8, 2) := by decide +kernel
theorem dX7_multiply_81 : decode cX7_multiply 81 = .ok (.iload 8, 2) := by decide +kernel
theorem dX7_multiply_83 : decode cX7_multiply 83 = .ok (.iload 10, 2) := by decide +kernel
theorem dX7_multiply_85 : decode cX7_multiply 85 = .ok (.iload 11, 2) := by decide +kernel
theorem dX7_multiply_87 : decode cX7_multiply 87 = .ok (.iadd, 1) := by decide +kernel
theorem dX7_multiply_88 : decode cX7_multiply 88 = .ok (.iload_n 3, 1) := by decide +kernel
theorem dX7_multiply_89 : decode cX7_multiply 89 = .ok (.lload 4, 2) := by decide +kernel
theorem dX7_multiply_91 : decode cX7_multiply 91 = .ok (.lload 6, 2) := by decide +kernel
theorem dX7_multiply_93 : decode cX7_multiply 93 = .ok (.invokevirtual 108, 3) := by decide +kernel
theorem dX7_multiply_96 : decode cX7_multiply 96 = .ok (.goto 139, 3) := by decide +kernel
theorem dX7_multiply_99 : decode cX7_multiply 99 = .ok (.iload 8, 2) := by decide +kernel
theorem dX7_multiply_101 : decode cX7_multiply 101 = .ok (.iload 9, 2) := by decide +kernel
theorem dX7_multiply_103 : decode cX7_multiply 103 = .ok (.if_icmp .ne 60, 3) := by decide +kernel
theorem dX7_multiply_106 : decode cX7_multiply 106 = .ok (.aload_n 0, 1) := by decide +kernel
theorem dX7_multiply_107 : decode cX7_multiply 107 = .ok (.bipush 8, 2) := by decide +kernel
theorem dX7_multiply_109 : decode cX7_multiply 109 = .ok (.iconst 4, 1) := by decide +kernel
theorem dX7_multiply_110 : decode cX7_multiply 110 = .ok (.iload 10, 2) := by decide +kernel
theorem dX7_multiply_112 : decode cX7_multiply 112 = .ok (.iload 11, 2) := by decide +kernel
theorem dX7_multiply_114 : decode cX7_multiply 114 = .ok (.isub, 1) := by decide +kernel
theorem dX7_multiply_115 : decode cX7_multiply 115 = .ok (.iload_n 3, 1) := by decide +kernel
theorem dX7_multiply_116 : decode cX7_multiply 116 = .ok (.lload 4, 2) := by decide +kernel
theorem dX7_multiply_118 : decode cX7_multiply 118 = .ok (.ldc2_w 158, 3) := by decide +kernel
theorem dX7_multiply_121 : decode cX7_multiply 121 = .ok (.lload 6, 2) := by decide +kernel
theorem dX7_multiply_123 : decode cX7_multiply 123 = .ok (.lmul, 1) := by decide +kernel
theorem dX7_multiply_124 : decode cX7_multiply 124 = .ok (.invokevirtual 108, 3) := by decide +kernel
theorem dX7_multiply_127 : decode cX7_multiply 127 = .ok (.aload_n 0, 1) := by decide +kernel
theorem dX7_multiply_128 : decode cX7_multiply 128 = .ok (.bipush 8, 2) := by decide +kernel
theorem dX7_multiply_130 : decode cX7_multiply 130 = .ok (.iconst 4, 1) := by decide +kernel
theorem dX7_multiply_131 : decode cX7_multiply 131 = .ok (.iload 10, 2) := by decide +kernel
theorem dX7_multiply_133 : decode cX7_multiply 133 = .ok (.iload 11, 2) := by decide +kernel
theorem dX7_multiply_135 : decode cX7_multiply 135 = .ok (.iadd, 1) := by decide +kernel
theorem dX7_multiply_136 : decode cX7_multiply 136 = .ok (.iload_n 3, 1) := by decide +kernel
theorem dX7_multiply_137 : decode cX7_multiply 137 = .ok (.iload 8, 2) := by decide +kernel
theorem dX7_multiply_139 : decode cX7_multiply 139 = .ok (.iconst 3, 1) := by decide +kernel
theorem dX7_multiply_140 : decode cX7_multiply 140 = .ok (.if_icmp .ne 9, 3) := by decide +kernel
theorem dX7_multiply_143 : decode cX7_multiply 143 = .ok (.lload 4, 2) := by decide +kernel
theorem dX7_multiply_145 : decode cX7_multiply 145 = .ok (.lneg, 1) := by decide +kernel
theorem dX7_multiply_146 : decode cX7_multiply 146 = .ok (.goto 5, 3) := by decide +kernel
theorem dX7_multiply_149 : decode cX7_multiply 149 = .ok (.lload 4, 2) := by decide +kernel
theorem dX7_multiply_151 : decode cX7_multiply 151 = .ok (.ldc2_w 158, 3) := by decide +kernel
theorem dX7_multiply_154 : decode cX7_multiply 154 = .ok (.lload 6, 2) := by decide +kernel
theorem dX7_multiply_156 : decode cX7_multiply 156 = .ok (.lmul, 1) := by decide +kernel
theorem dX7_multiply_157 : decode cX7_multiply 157 = .ok (.invokevirtual 108, 3) := by decide +kernel
theorem dX7_multiply_160 : decode cX7_multiply 160 = .ok (.goto 75, 3) := by decide +kernel
theorem dX7_multiply_163 : decode cX7_multiply 163 = .ok (.iload 8, 2) := by decide +kernel
theorem dX7_multiply_165 : decode cX7_multiply 165 = .ok (.iconst 3, 1) := by decide +kernel
theorem dX7_multiply_166 : decode cX7_multiply 166 = .ok (.if_icmp .ne 8, 3) := by decide +kernel
theorem dX7_multiply_169 : decode cX7_multiply 169 = .ok (.iload 10, 2) := by decide +kernel
theorem dX7_multiply_171 : decode cX7_multiply 171 = .ok (.goto 5, 3) := by decide +kernel
theorem dX7_multiply_174 : decode cX7_multiply 174 = .ok (.iload 11, 2) := by decide +kernel
theorem dX7_multiply_176 : decode cX7_multiply 176 = .ok (.istore 12, 2) := by decide +kernel
theorem dX7_multiply_178 : decode cX7_multiply 178 = .ok (.iload 8, 2) := by decide +kernel
theorem dX7_multiply_180 : decode cX7_multiply 180 = .ok (.iconst 3, 1) := by decide +kernel
theorem dX7_multiply_181 : decode cX7_multiply 181 = .ok (.if_icmp .ne 8, 3) := by decide +kernel
theorem dX7_multiply_184 : decode cX7_multiply 184 = .ok (.iload 11, 2) := by decide +kernel
theorem dX7_multiply_186 : decode cX7_multiply 186 = .ok (.goto 5, 3) := by decide +kernel
theorem dX7_multiply_189 : decode cX7_multiply 189 = .ok (.iload 10, 2) := by decide +kernel
theorem dX7_multiply_191 : decode cX7_multiply 191 = .ok (.istore 13, 2) := by decide +kernel
theorem dX7_multiply_193 : decode cX7_multiply 193 = .ok (.aload_n 0, 1) := by decide +kernel
theorem dX7_multiply_194 : decode cX7_multiply 194 = .ok (.bipush 8, 2) := by decide +kernel
theorem dX7_multiply_196 : decode cX7_multiply 196 = .ok (.iconst 3, 1) := by decide +kernel
theorem dX7_multiply_197 : decode cX7_multiply 197 = .ok (.iload 12, 2) := by decide +kernel
theorem dX7_multiply_199 : decode cX7_multiply 199 = .ok (.iload 13, 2) := by decide +kernel
theorem dX7_multiply_201 : decode cX7_multiply 201 = .ok (.iadd, 1) := by decide +kernel
theorem dX7_multiply_202 : decode cX7_multiply 202 = .ok (.iload_n 3, 1) := by decide +kernel
theorem dX7_multiply_203 : decode cX7_multiply 203 = .ok (.lload 4, 2) := by decide +kernel
theorem dX7_multiply_205 : decode cX7_multiply 205 = .ok (.ldc2_w 158, 3) := by decide +kernel
theorem dX7_multiply_208 : decode cX7_multiply 208 = .ok (.lload 6, 2) := by decide +kernel
theorem dX7_multiply_210 : decode cX7_multiply 210 = .ok (.lmul, 1) := by decide +kernel
theorem dX7_multiply_211 : decode cX7_multiply 211 = .ok (.invokevirtual 108, 3) := by decide +kernel
theorem dX7_multiply_214 : decode cX7_multiply 214 = .ok (.aload_n 0, 1) := by decide +kernel
theorem dX7_multiply_215 : decode cX7_multiply 215 = .ok (.bipush 8, 2) := by decide +kernel
theorem dX7_multiply_217 : decode cX7_multiply 217 = .ok (.iconst 3, 1) := by decide +kernel
theorem dX7_multiply_218 : decode cX7_multiply 218 = .ok (.iload 12, 2) := by decide +kernel
theorem dX7_multiply_220 : decode cX7_multiply 220 = .ok (.iload 13, 2) := by decide +kernel
theorem dX7_multiply_222 : decode cX7_multiply 222 = .ok (.isub, 1) := by decide +kernel
theorem dX7_multiply_223 : decode cX7_multiply 223 = .ok (.iload_n 3, 1) := by decide +kernel
theorem dX7_multiply_224 : decode cX7_multiply 224 = .ok (.lload 4, 2) := by decide +kernel
theorem dX7_multiply_226 : decode cX7_multiply 226 = .ok (.ldc2_w 158, 3) := by decide +kernel
theorem dX7_multiply_229 : decode cX7_multiply 229 = .ok (.lload 6, 2) := by decide +kernel
theorem dX7_multiply_231 : decode cX7_multiply 231 = .ok (.lmul, 1) := by decide +kernel
theorem dX7_multiply_232 : decode cX7_multiply 232 = .ok (.invokevirtual 108, 3) := by decide +kernel
theorem dX7_multiply_235 : decode cX7_multiply 235 = .ok (.return_, 1) := by decide +kernel
theorem dX7_times_0 : decode cX7_times 0 = .ok (.iload_n 1, 1) := by decide +kernel
theorem dX7_times_1 : decode cX7_times 1 = .ok (.invokestatic 115, 3) := by decide +kernel
theorem dX7_times_4 : decode cX7_times 4 = .ok (.ifCond .eq 21, 3) := by decide +kernel
theorem dX7_times_7 : decode cX7_times 7 = .ok (.iload_n 2, 1) := by decide +kernel
theorem dX7_times_8 : decode cX7_times 8 = .ok (.invokestatic 115, 3) := by decide +kernel
theorem dX7_times_11 : decode cX7_times 11 = .ok (.ifCond .eq 14, 3) := by decide +kernel
theorem dX7_times_14 : decode cX7_times 14 = .ok (.iload_n 3, 1) := by decide +kernel
theorem dX7_times_15 : decode cX7_times 15 = .ok (.invokestatic 115, 3) := by decide +kernel
theorem dX7_times_18 : decode cX7_times 18 = .ok (.ifCond .eq 7, 3) := by decide +kernel
theorem dX7_times_21 : decode cX7_times 21 = .ok (.iconst 1, 1) := by decide +kernel
theorem dX7_times_22 : decode cX7_times 22 = .ok (.goto 4, 3) := by decide +kernel
theorem dX7_times_25 : decode cX7_times 25 = .ok (.iconst 0, 1) := by decide +kernel
theorem dX7_times_26 : decode cX7_times 26 = .ok (.istore 4, 2) := by decide +kernel
theorem dX7_times_28 : decode cX7_times 28 = .ok (.aload_n 0, 1) := by decide +kernel
theorem dX7_times_29 : decode cX7_times 29 = .ok (.iload 4, 2) := by decide +kernel
theorem dX7_times_31 : decode cX7_times 31 = .ok (.ifCond .ne 7, 3) := by decide +kernel
theorem dX7_times_34 : decode cX7_times 34 = .ok (.iconst 1, 1) := by decide +kernel
theorem dX7_times_35 : decode cX7_times 35 = .ok (.goto 24, 3) := by decide +kernel
theorem dX7_times_38 : decode cX7_times 38 = .ok (.aload_n 0, 1) := by decide +kernel
theorem dX7_times_39 : decode cX7_times 39 = .ok (.iload_n 2, 1) := by decide +kernel
theorem dX7_times_40 : decode cX7_times 40 = .ok (.invokevirtual 155, 3) := by decide +kernel
theorem dX7_times_43 : decode cX7_times 43 = .ok (.ifCond .eq 11, 3) := by decide +kernel
theorem dX7_times_46 : decode cX7_times 46 = .ok (.aload_n 0, 1) := by decide +kernel
theorem dX7_times_47 : decode cX7_times 47 = .ok (.iload_n 3, 1) := by decide +kernel
theorem dX7_times_48 : decode cX7_times 48 = .ok (.invokevirtual 155, 3) := by decide +kernel
theorem dX7_times_51 : decode cX7_times 51 = .ok (.ifCond .ne 7, 3) := by decide +kernel
theorem dX7_times_54 : decode cX7_times 54 = .ok (.iconst 2, 1) := by decide +kernel
theorem dX7_times_55 : decode cX7_times 55 = .ok (.goto 4, 3) := by decide +kernel
theorem dX7_times_58 : decode cX7_times 58 = .ok (.iconst 0, 1) := by decide +kernel
theorem dX7_times_59 : decode cX7_times 59 = .ok (.invokevirtual 78, 3) := by decide +kernel
theorem dX7_times_62 : decode cX7_times 62 = .ok (.ifCond .eq 5, 3) := by decide +kernel
theorem dX7_times_65 : decode cX7_times 65 = .ok (.iconst 0, 1) := by decide +kernel
theorem dX7_times_66 : decode cX7_times 66 = .ok (.ireturn, 1) := by decide +kernel
theorem dX7_times_67 : decode cX7_times 67 = .ok (.aload_n 0, 1) := by decide +kernel
theorem dX7_times_68 : decode cX7_times 68 = .ok (.iload_n 2, 1) := by decide +kernel
theorem dX7_times_69 : decode cX7_times 69 = .ok (.invokevirtual 48, 3) := by decide +kernel
theorem dX7_times_72 : decode cX7_times 72 = .ok (.aload_n 0, 1) := by decide +kernel
theorem dX7_times_73 : decode cX7_times 73 = .ok (.iload_n 3, 1) := by decide +kernel
theorem dX7_times_74 : decode cX7_times 74 = .ok (.invokevirtual 48, 3) := by decide +kernel
theorem dX7_times_77 : decode cX7_times 77 = .ok (.imul, 1) := by decide +kernel
theorem dX7_times_78 : decode cX7_times 78 = .ok (.bipush 100, 2) := by decide +kernel
theorem dX7_times_80 : decode cX7_times 80 = .ok (.if_icmp .le 6, 3) := by decide +kernel
theorem dX7_times_83 : decode cX7_times 83 = .ok (.bipush (-4), 2) := by decide +kernel
theorem dX7_times_85 : decode cX7_times 85 = .ok (.ireturn, 1) := by decide +kernel
theorem dX7_times_86 : decode cX7_times 86 = .ok (.aload_n 0, 1) := by decide +kernel
theorem dX7_times_87 : decode cX7_times 87 = .ok (.iconst 0, 1) := by decide +kernel
theorem dX7_times_88 : decode cX7_times 88 = .ok (.putfield 30, 3) := by decide +kernel
theorem dX7_times_91 : decode cX7_times 91 = .ok (.aload_n 0, 1) := by decide +kernel
theorem dX7_times_92 : decode cX7_times 92 = .ok (.bipush 8, 2) := by decide +kernel
theorem dX7_times_94 : decode cX7_times 94 = .ok (.invokevirtual 118, 3) := by decide +kernel
theorem dX7_times_97 : decode cX7_times 97 = .ok (.iconst 0, 1) := by decide +kernel
theorem dX7_times_98 : decode cX7_times 98 = .ok (.istore 5, 2) := by decide +kernel
theorem dX7_times_100 : decode cX7_times 100 = .ok (.iconst 0, 1) := by decide +kernel
theorem dX7_times_101 : decode cX7_times 101 = .ok (.istore 6, 2) := by decide +kernel
theorem dX7_times_103 : decode cX7_times 103 = .ok (.iload 6, 2) := by decide +kernel
theorem dX7_times_105 : decode cX7_times 105 = .ok (.sipush 1150, 3) := by decide +kernel
theorem dX7_times_108 : decode cX7_times 108 = .ok (.if_icmp .ge 193, 3) := by decide +kernel
theorem dX7_times_111 : decode cX7_times 111 = .ok (.iconst 0, 1) := by decide +kernel
theorem dX7_times_112 : decode cX7_times 112 = .ok (.istore 7, 2) := by decide +kernel
theorem dX7_times_114 : decode cX7_times 114 = .ok (.iload 7, 2) := by decide +kernel
theorem dX7_times_116 : decode cX7_times 116 = .ok (.sipush 1150, 3) := by decide +kernel
theorem dX7_times_119 : decode cX7_times 119 = .ok (.if_icmp .ge 176, 3) := by decide +kernel
theorem dX7_times_122 : decode cX7_times 122 = .ok (.aload_n 0, 1) := by decide +kernel
theorem dX7_times_123 : decode cX7_times 123 = .ok (.getfield 20, 3) := by decide +kernel
theorem dX7_times_126 : decode cX7_times 126 = .ok (.sipush 1150, 3) := by decide +kernel
theorem dX7_times_129 : decode cX7_times 129 = .ok (.iload_n 2, 1) := by decide +kernel
theorem dX7_times_130 : decode cX7_times 130 = .ok (.imul, 1) := by decide +kernel
theorem dX7_times_131 : decode cX7_times 131 = .ok (.iload 6, 2) := by decide +kernel
theorem dX7_times_133 : decode cX7_times 133 = .ok (.iadd, 1) := by decide +kernel
theorem dX7_times_134 : decode cX7_times 134 = .ok (.laload, 1) := by decide +kernel
theorem dX7_times_135 : decode cX7_times 135 = .ok (.lconst 0, 1) := by decide +kernel
theorem dX7_times_136 : decode cX7_times 136 = .ok (.lcmp, 1) := by decide +kernel
theorem dX7_times_137 : decode cX7_times 137 = .ok (.ifCond .eq 158, 3) := by decide +kernel
theorem dX7_times_140 : decode cX7_times 140 = .ok (.aload_n 0, 1) := by decide +kernel
theorem dX7_times_141 : decode cX7_times 141 = .ok (.getfield 20, 3) := by decide +kernel
theorem dX7_times_144 : decode cX7_times 144 = .ok (.sipush 1150, 3) := by decide +kernel
theorem dX7_times_147 : decode cX7_times 147 = .ok (.iload_n 3, 1) := by decide +kernel
theorem dX7_times_148 : decode cX7_times 148 = .ok (.imul, 1) := by decide +kernel
theorem dX7_times_149 : decode cX7_times 149 = .ok (.iload 7, 2) := by decide +kernel
theorem dX7_times_151 : decode cX7_times 151 = .ok (.iadd, 1) := by decide +kernel
theorem dX7_times_152 : decode cX7_times 152 = .ok (.laload, 1) := by decide +kernel
theorem dX7_times_153 : decode cX7_times 153 = .ok (.lconst 0, 1) := by decide +kernel
theorem dX7_times_154 : decode cX7_times 154 = .ok (.lcmp, 1) := by decide +kernel
theorem dX7_times_155 : decode cX7_times 155 = .ok (.ifCond .ne 6, 3) := by decide +kernel
theorem dX7_times_158 : decode cX7_times 158 = .ok (.goto 131, 3) := by decide +kernel
theorem dX7_times_161 : decode cX7_times 161 = .ok (.iload 6, 2) := by decide +kernel
theorem dX7_times_163 : decode cX7_times 163 = .ok (.bipush 25, 2) := by decide +kernel
theorem dX7_times_165 : decode cX7_times 165 = .ok (.idiv, 1) := by decide +kernel
theorem dX7_times_166 : decode cX7_times 166 = .ok (.istore 8, 2) := by decide +kernel
theorem dX7_times_168 : decode cX7_times 168 = .ok (.iload 7, 2) := by decide +kernel
theorem dX7_times_170 : decode cX7_times 170 = .ok (.bipush 25, 2) := by decide +kernel
theorem dX7_times_172 : decode cX7_times 172 = .ok (.idiv, 1) := by decide +kernel
theorem dX7_times_173 : decode cX7_times 173 = .ok (.istore 9, 2) := by decide +kernel
theorem dX7_times_175 : decode cX7_times 175 = .ok (.iload 8, 2) := by decide +kernel
theorem dX7_times_177 : decode cX7_times 177 = .ok (.invokestatic 141, 3) := by decide +kernel
theorem dX7_times_180 : decode cX7_times 180 = .ok (.iload 9, 2) := by decide +kernel
theorem dX7_times_182 : decode cX7_times 182 = .ok (.invokestatic 141, 3) := by decide +kernel
theorem dX7_times_185 : decode cX7_times 185 = .ok (.invokestatic 160, 3) := by decide +kernel
theorem dX7_times_188 : decode cX7_times 188 = .ok (.ifCond .ne 19, 3) := by decide +kernel
theorem dX7_times_191 : decode cX7_times 191 = .ok (.iload 9, 2) := by decide +kernel
theorem dX7_times_193 : decode cX7_times 193 = .ok (.invokestatic 141, 3) := by decide +kernel
theorem dX7_times_196 : decode cX7_times 196 = .ok (.iload 8, 2) := by decide +kernel
theorem dX7_times_198 : decode cX7_times 198 = .ok (.invokestatic 141, 3) := by decide +kernel
theorem dX7_times_201 : decode cX7_times 201 = .ok (.invokestatic 160, 3) := by decide +kernel
theorem dX7_times_204 : decode cX7_times 204 = .ok (.ifCond .eq 9, 3) := by decide +kernel
theorem dX7_times_207 : decode cX7_times 207 = .ok (.iconst 1, 1) := by decide +kernel
theorem dX7_times_208 : decode cX7_times 208 = .ok (.istore 5, 2) := by decide +kernel
theorem dX7_times_210 : decode cX7_times 210 = .ok (.goto 79, 3) := by decide +kernel
theorem dX7_times_213 : decode cX7_times 213 = .ok (.aload_n 0, 1) := by decide +kernel
theorem dX7_times_214 : decode cX7_times 214 = .ok (.iload 8, 2) := by decide +kernel
theorem dX7_times_216 : decode cX7_times 216 = .ok (.iload 9, 2) := by decide +kernel
theorem dX7_times_218 : decode cX7_times 218 = .ok (.iload 6, 2) := by decide +kernel
theorem dX7_times_220 : decode cX7_times 220 = .ok (.bipush 25, 2) := by decide +kernel
theorem dX7_times_222 : decode cX7_times 222 = .ok (.irem, 1) := by decide +kernel
theorem dX7_times_223 : decode cX7_times 223 = .ok (.iload 7, 2) := by decide +kernel
theorem dX7_times_225 : decode cX7_times 225 = .ok (.bipush 25, 2) := by decide +kernel
theorem dX7_times_227 : decode cX7_times 227 = .ok (.irem, 1) := by decide +kernel
theorem dX7_times_228 : decode cX7_times 228 = .ok (.iadd, 1) := by decide +kernel
theorem dX7_times_229 : decode cX7_times 229 = .ok (.bipush 24, 2) := by decide +kernel
theorem dX7_times_231 : decode cX7_times 231 = .ok (.isub, 1) := by decide +kernel
theorem dX7_times_232 : decode cX7_times 232 = .ok (.aload_n 0, 1) := by decide +kernel
theorem dX7_times_233 : decode cX7_times 233 = .ok (.getfield 20, 3) := by decide +kernel
theorem dX7_times_236 : decode cX7_times 236 = .ok (.sipush 1150, 3) := by decide +kernel
theorem dX7_times_239 : decode cX7_times 239 = .ok (.iload_n 2, 1) := by decide +kernel
theorem dX7_times_240 : decode cX7_times 240 = .ok (.imul, 1) := by decide +kernel
theorem dX7_times_241 : decode cX7_times 241 = .ok (.iload 6, 2) := by decide +kernel
theorem dX7_times_243 : decode cX7_times 243 = .ok (.iadd, 1) := by decide +kernel
theorem dX7_times_244 : decode cX7_times 244 = .ok (.laload, 1) := by decide +kernel
theorem dX7_times_245 : decode cX7_times 245 = .ok (.aload_n 0, 1) := by decide +kernel
theorem dX7_times_246 : decode cX7_times 246 = .ok (.getfield 20, 3) := by decide +kernel
theorem dX7_times_249 : decode cX7_times 249 = .ok (.sipush 1150, 3) := by decide +kernel
theorem dX7_times_252 : decode cX7_times 252 = .ok (.iload_n 3, 1) := by decide +kernel
theorem dX7_times_253 : decode cX7_times 253 = .ok (.imul, 1) := by decide +kernel
theorem dX7_times_254 : decode cX7_times 254 = .ok (.iload 7, 2) := by decide +kernel
theorem dX7_times_256 : decode cX7_times 256 = .ok (.iadd, 1) := by decide +kernel
theorem dX7_times_257 : decode cX7_times 257 = .ok (.laload, 1) := by decide +kernel
theorem dX7_times_258 : decode cX7_times 258 = .ok (.lmul, 1) := by decide +kernel
theorem dX7_times_259 : decode cX7_times 259 = .ok (.aload_n 0, 1) := by decide +kernel
theorem dX7_times_260 : decode cX7_times 260 = .ok (.getfield 24, 3) := by decide +kernel
theorem dX7_times_263 : decode cX7_times 263 = .ok (.sipush 1150, 3) := by decide +kernel
theorem dX7_times_266 : decode cX7_times 266 = .ok (.iload_n 2, 1) := by decide +kernel
theorem dX7_times_267 : decode cX7_times 267 = .ok (.imul, 1) := by decide +kernel
theorem dX7_times_268 : decode cX7_times 268 = .ok (.iload 6, 2) := by decide +kernel
theorem dX7_times_270 : decode cX7_times 270 = .ok (.iadd, 1) := by decide +kernel
theorem dX7_times_271 : decode cX7_times 271 = .ok (.laload, 1) := by decide +kernel
theorem dX7_times_272 : decode cX7_times 272 = .ok (.aload_n 0, 1) := by decide +kernel
theorem dX7_times_273 : decode cX7_times 273 = .ok (.getfield 24, 3) := by decide +kernel
theorem dX7_times_276 : decode cX7_times 276 = .ok (.sipush 1150, 3) := by decide +kernel
theorem dX7_times_279 : decode cX7_times 279 = .ok (.iload_n 3, 1) := by decide +kernel
theorem dX7_times_280 : decode cX7_times 280 = .ok (.imul, 1) := by decide +kernel
theorem dX7_times_281 : decode cX7_times 281 = .ok (.iload 7, 2) := by decide +kernel
theorem dX7_times_283 : decode cX7_times 283 = .ok (.iadd, 1) := by decide +kernel
theorem dX7_times_284 : decode cX7_times 284 = .ok (.laload, 1) := by decide +kernel
theorem dX7_times_285 : decode cX7_times 285 = .ok (.lmul, 1) := by decide +kernel
theorem dX7_times_286 : decode cX7_times 286 = .ok (.invokevirtual 164, 3) := by decide +kernel
theorem dX7_times_289 : decode cX7_times 289 = .ok (.iinc 7 1, 3) := by decide +kernel
theorem dX7_times_292 : decode cX7_times 292 = .ok (.goto (-178), 3) := by decide +kernel
theorem dX7_times_295 : decode cX7_times 295 = .ok (.iinc 6 1, 3) := by decide +kernel
theorem dX7_times_298 : decode cX7_times 298 = .ok (.goto (-195), 3) := by decide +kernel
theorem dX7_times_301 : decode cX7_times 301 = .ok (.iload 5, 2) := by decide +kernel
theorem dX7_times_303 : decode cX7_times 303 = .ok (.ifCond .eq 8, 3) := by decide +kernel
theorem dX7_times_306 : decode cX7_times 306 = .ok (.bipush (-5), 2) := by decide +kernel
theorem dX7_times_308 : decode cX7_times 308 = .ok (.goto 8, 3) := by decide +kernel
theorem dX7_times_311 : decode cX7_times 311 = .ok (.aload_n 0, 1) := by decide +kernel
theorem dX7_times_312 : decode cX7_times 312 = .ok (.iload_n 1, 1) := by decide +kernel
theorem dX7_times_313 : decode cX7_times 313 = .ok (.invokevirtual 126, 3) := by decide +kernel
theorem dX7_times_316 : decode cX7_times 316 = .ok (.ireturn, 1) := by decide +kernel
theorem dX7_derive_0 : decode cX7_derive 0 = .ok (.aload_n 0, 1) := by decide +kernel
theorem dX7_derive_1 : decode cX7_derive 1 = .ok (.iload_n 1, 1) := by decide +kernel
theorem dX7_derive_2 : decode cX7_derive 2 = .ok (.invokestatic 115, 3) := by decide +kernel
theorem dX7_derive_5 : decode cX7_derive 5 = .ok (.ifCond .eq 14, 3) := by decide +kernel
theorem dX7_derive_8 : decode cX7_derive 8 = .ok (.iload_n 2, 1) := by decide +kernel
theorem dX7_derive_9 : decode cX7_derive 9 = .ok (.invokestatic 115, 3) := by decide +kernel
theorem dX7_derive_12 : decode cX7_derive 12 = .ok (.ifCond .eq 7, 3) := by decide +kernel
theorem dX7_derive_15 : decode cX7_derive 15 = .ok (.iconst 0, 1) := by decide +kernel
theorem dX7_derive_16 : decode cX7_derive 16 = .ok (.goto 4, 3) := by decide +kernel
theorem dX7_derive_19 : decode cX7_derive 19 = .ok (.iconst 1, 1) := by decide +kernel
theorem dX7_derive_20 : decode cX7_derive 20 = .ok (.invokevirtual 78, 3) := by decide +kernel
theorem dX7_derive_23 : decode cX7_derive 23 = .ok (.ifCond .eq 5, 3) := by decide +kernel
theorem dX7_derive_26 : decode cX7_derive 26 = .ok (.iconst 0, 1) := by decide +kernel
theorem dX7_derive_27 : decode cX7_derive 27 = .ok (.ireturn, 1) := by decide +kernel
theorem dX7_derive_28 : decode cX7_derive 28 = .ok (.aload_n 0, 1) := by decide +kernel
theorem dX7_derive_29 : decode cX7_derive 29 = .ok (.iconst 0, 1) := by decide +kernel
theorem dX7_derive_30 : decode cX7_derive 30 = .ok (.putfield 30, 3) := by decide +kernel
theorem dX7_derive_33 : decode cX7_derive 33 = .ok (.aload_n 0, 1) := by decide +kernel
theorem dX7_derive_34 : decode cX7_derive 34 = .ok (.bipush 8, 2) := by decide +kernel
theorem dX7_derive_36 : decode cX7_derive 36 = .ok (.invokevirtual 118, 3) := by decide +kernel
theorem dX7_derive_39 : decode cX7_derive 39 = .ok (.iconst 0, 1) := by decide +kernel
theorem dX7_derive_40 : decode cX7_derive 40 = .ok (.istore_n 3, 1) := by decide +kernel
theorem dX7_derive_41 : decode cX7_derive 41 = .ok (.iload_n 3, 1) := by decide +kernel
theorem dX7_derive_42 : decode cX7_derive 42 = .ok (.sipush 1150, 3) := by decide +kernel
theorem dX7_derive_45 : decode cX7_derive 45 = .ok (.if_icmp .ge 207, 3) := by decide +kernel
theorem dX7_derive_48 : decode cX7_derive 48 = .ok (.aload_n 0, 1) := by decide +kernel
theorem dX7_derive_49 : decode cX7_derive 49 = .ok (.getfield 20, 3) := by decide +kernel
theorem dX7_derive_52 : decode cX7_derive 52 = .ok (.sipush 1150, 3) := by decide +kernel
theorem dX7_derive_55 : decode cX7_derive 55 = .ok (.iload_n 2, 1) := by decide +kernel
theorem dX7_derive_56 : decode cX7_derive 56 = .ok (.imul, 1) := by decide +kernel
theorem dX7_derive_57 : decode cX7_derive 57 = .ok (.iload_n 3, 1) := by decide +kernel
theorem dX7_derive_58 : decode cX7_derive 58 = .ok (.iadd, 1) := by decide +kernel
theorem dX7_derive_59 : decode cX7_derive 59 = .ok (.laload, 1) := by decide +kernel
theorem dX7_derive_60 : decode cX7_derive 60 = .ok (.lstore 4, 2) := by decide +kernel
theorem dX7_derive_62 : decode cX7_derive 62 = .ok (.aload_n 0, 1) := by decide +kernel
theorem dX7_derive_63 : decode cX7_derive 63 = .ok (.getfield 24, 3) := by decide +kernel
theorem dX7_derive_66 : decode cX7_derive 66 = .ok (.sipush 1150, 3) := by decide +kernel
theorem dX7_derive_69 : decode cX7_derive 69 = .ok (.iload_n 2, 1) := by decide +kernel
theorem dX7_derive_70 : decode cX7_derive 70 = .ok (.imul, 1) := by decide +kernel
theorem dX7_derive_71 : decode cX7_derive 71 = .ok (.iload_n 3, 1) := by decide +kernel
theorem dX7_derive_72 : decode cX7_derive 72 = .ok (.iadd, 1) := by decide +kernel
theorem dX7_derive_73 : decode cX7_derive 73 = .ok (.laload, 1) := by decide +kernel
theorem dX7_derive_74 : decode cX7_derive 74 = .ok (.lstore 6, 2) := by decide +kernel
theorem dX7_derive_76 : decode cX7_derive 76 = .ok (.iload_n 3, 1) := by decide +kernel
theorem dX7_derive_77 : decode cX7_derive 77 = .ok (.bipush 25, 2) := by decide +kernel
theorem dX7_derive_79 : decode cX7_derive 79 = .ok (.irem, 1) := by decide +kernel
theorem dX7_derive_80 : decode cX7_derive 80 = .ok (.bipush 12, 2) := by decide +kernel
theorem dX7_derive_82 : decode cX7_derive 82 = .ok (.isub, 1) := by decide +kernel
theorem dX7_derive_83 : decode cX7_derive 83 = .ok (.istore 8, 2) := by decide +kernel
theorem dX7_derive_85 : decode cX7_derive 85 = .ok (.iload_n 3, 1) := by decide +kernel
theorem dX7_derive_86 : decode cX7_derive 86 = .ok (.bipush 25, 2) := by decide +kernel
theorem dX7_derive_88 : decode cX7_derive 88 = .ok (.idiv, 1) := by decide +kernel
theorem dX7_derive_89 : decode cX7_derive 89 = .ok (.invokestatic 141, 3) := by decide +kernel
theorem dX7_derive_92 : decode cX7_derive 92 = .ok (.istore 9, 2) := by decide +kernel
theorem dX7_derive_94 : decode cX7_derive 94 = .ok (.iload_n 3, 1) := by decide +kernel
theorem dX7_derive_95 : decode cX7_derive 95 = .ok (.bipush 25, 2) := by decide +kernel
theorem dX7_derive_97 : decode cX7_derive 97 = .ok (.idiv, 1) := by decide +kernel
theorem dX7_derive_98 : decode cX7_derive 98 = .ok (.invokestatic 63, 3) := by decide +kernel
theorem dX7_derive_101 : decode cX7_derive 101 = .ok (.istore 10, 2) := by decide +kernel
theorem dX7_derive_103 : decode cX7_derive 103 = .ok (.lload 4, 2) := by decide +kernel
theorem dX7_derive_105 : decode cX7_derive 105 = .ok (.lconst 0, 1) := by decide +kernel
theorem dX7_derive_106 : decode cX7_derive 106 = .ok (.lcmp, 1) := by decide +kernel
theorem dX7_derive_107 : decode cX7_derive 107 = .ok (.ifCond .ne 6, 3) := by decide +kernel
theorem dX7_derive_110 : decode cX7_derive 110 = .ok (.goto 136, 3) := by decide +kernel
theorem dX7_derive_113 : decode cX7_derive 113 = .ok (.aload_n 0, 1) := by decide +kernel
theorem dX7_derive_114 : decode cX7_derive 114 = .ok (.bipush 8, 2) := by decide +kernel
theorem dX7_derive_116 : decode cX7_derive 116 = .ok (.iload 9, 2) := by decide +kernel
theorem dX7_derive_118 : decode cX7_derive 118 = .ok (.iload 10, 2) := by decide +kernel
theorem dX7_derive_120 : decode cX7_derive 120 = .ok (.iload 8, 2) := by decide +kernel
theorem dX7_derive_122 : decode cX7_derive 122 = .ok (.iconst 1, 1) := by decide +kernel
theorem dX7_derive_123 : decode cX7_derive 123 = .ok (.isub, 1) := by decide +kernel
theorem dX7_derive_124 : decode cX7_derive 124 = .ok (.lload 4, 2) := by decide +kernel
theorem dX7_derive_126 : decode cX7_derive 126 = .ok (.iload 8, 2) := by decide +kernel
theorem dX7_derive_128 : decode cX7_derive 128 = .ok (.i2l, 1) := by decide +kernel
theorem dX7_derive_129 : decode cX7_derive 129 = .ok (.lmul, 1) := by decide +kernel
theorem dX7_derive_130 : decode cX7_derive 130 = .ok (.lload 6, 2) := by decide +kernel
theorem dX7_derive_132 : decode cX7_derive 132 = .ok (.invokevirtual 108, 3) := by decide +kernel
theorem dX7_derive_135 : decode cX7_derive 135 = .ok (.iload 9, 2) := by decide +kernel
theorem dX7_derive_137 : decode cX7_derive 137 = .ok (.iconst 1, 1) := by decide +kernel
theorem dX7_derive_138 : decode cX7_derive 138 = .ok (.if_icmp .ne 29, 3) := by decide +kernel
theorem dX7_derive_141 : decode cX7_derive 141 = .ok (.aload_n 0, 1) := by decide +kernel
theorem dX7_derive_142 : decode cX7_derive 142 = .ok (.bipush 8, 2) := by decide +kernel
theorem dX7_derive_144 : decode cX7_derive 144 = .ok (.iconst 1, 1) := by decide +kernel
theorem dX7_derive_145 : decode cX7_derive 145 = .ok (.iload 10, 2) := by decide +kernel
theorem dX7_derive_147 : decode cX7_derive 147 = .ok (.iconst 1, 1) := by decide +kernel
theorem dX7_derive_148 : decode cX7_derive 148 = .ok (.isub, 1) := by decide +kernel
theorem dX7_derive_149 : decode cX7_derive 149 = .ok (.iload 8, 2) := by decide +kernel
theorem dX7_derive_151 : decode cX7_derive 151 = .ok (.iconst 1, 1) := by decide +kernel
theorem dX7_derive_152 : decode cX7_derive 152 = .ok (.isub, 1) := by decide +kernel
theorem dX7_derive_153 : decode cX7_derive 153 = .ok (.lload 4, 2) := by decide +kernel
theorem dX7_derive_155 : decode cX7_derive 155 = .ok (.iload 10, 2) := by decide +kernel
theorem dX7_derive_157 : decode cX7_derive 157 = .ok (.i2l, 1) := by decide +kernel
theorem dX7_derive_158 : decode cX7_derive 158 = .ok (.lmul, 1) := by decide +kernel
theorem dX7_derive_159 : decode cX7_derive 159 = .ok (.lload 6, 2) := by decide +kernel
theorem dX7_derive_161 : decode cX7_derive 161 = .ok (.invokevirtual 108, 3) := by decide +kernel
theorem dX7_derive_164 : decode cX7_derive 164 = .ok (.goto 82, 3) := by decide +kernel
theorem dX7_derive_167 : decode cX7_derive 167 = .ok (.iload 9, 2) := by decide +kernel
theorem dX7_derive_169 : decode cX7_derive 169 = .ok (.iconst 2, 1) := by decide +kernel
theorem dX7_derive_170 : decode cX7_derive 170 = .ok (.if_icmp .ne 25, 3) := by decide +kernel
theorem dX7_derive_173 : decode cX7_derive 173 = .ok (.aload_n 0, 1) := by decide +kernel
theorem dX7_derive_174 : decode cX7_derive 174 = .ok (.bipush 8, 2) := by decide +kernel
theorem dX7_derive_176 : decode cX7_derive 176 = .ok (.iconst 2, 1) := by decide +kernel
theorem dX7_derive_177 : decode cX7_derive 177 = .ok (.iload 10, 2) := by decide +kernel
theorem dX7_derive_179 : decode cX7_derive 179 = .ok (.iload 8, 2) := by decide +kernel
theorem dX7_derive_181 : decode cX7_derive 181 = .ok (.lload 4, 2) := by decide +kernel
theorem dX7_derive_183 : decode cX7_derive 183 = .ok (.iload 10, 2) := by decide +kernel
theorem dX7_derive_185 : decode cX7_derive 185 = .ok (.i2l, 1) := by decide +kernel
theorem dX7_derive_186 : decode cX7_derive 186 = .ok (.lmul, 1) := by decide +kernel
theorem dX7_derive_187 : decode cX7_derive 187 = .ok (.lload 6, 2) := by decide +kernel
theorem dX7_derive_189 : decode cX7_derive 189 = .ok (.invokevirtual 108, 3) := by decide +kernel
theorem dX7_derive_192 : decode cX7_derive 192 = .ok (.goto 54, 3) := by decide +kernel
theorem dX7_derive_195 : decode cX7_derive 195 = .ok (.iload 9, 2) := by decide +kernel
theorem dX7_derive_197 : decode cX7_derive 197 = .ok (.iconst 2, 1) := by decide +kernel
theorem dX7_derive_198 : decode cX7_derive 198 = .ok (.if_icmp .le 48, 3) := by decide +kernel
theorem dX7_derive_201 : decode cX7_derive 201 = .ok (.aload_n 0, 1) := by decide +kernel
theorem dX7_derive_202 : decode cX7_derive 202 = .ok (.bipush 8, 2) := by decide +kernel
theorem dX7_derive_204 : decode cX7_derive 204 = .ok (.iload 9, 2) := by decide +kernel
theorem dX7_derive_206 : decode cX7_derive 206 = .ok (.iconst 3, 1) := by decide +kernel
theorem dX7_derive_207 : decode cX7_derive 207 = .ok (.if_icmp .ne 7, 3) := by decide +kernel
theorem dX7_derive_210 : decode cX7_derive 210 = .ok (.iconst 4, 1) := by decide +kernel
theorem dX7_derive_211 : decode cX7_derive 211 = .ok (.goto 4, 3) := by decide +kernel
theorem dX7_derive_214 : decode cX7_derive 214 = .ok (.iconst 3, 1) := by decide +kernel
theorem dX7_derive_215 : decode cX7_derive 215 = .ok (.iload 10, 2) := by decide +kernel
theorem dX7_derive_217 : decode cX7_derive 217 = .ok (.iload 8, 2) := by decide +kernel
theorem dX7_derive_219 : decode cX7_derive 219 = .ok (.iload 9, 2) := by decide +kernel
theorem dX7_derive_221 : decode cX7_derive 221 = .ok (.iconst 3, 1) := by decide +kernel
theorem dX7_derive_222 : decode cX7_derive 222 = .ok (.if_icmp .ne 12, 3) := by decide +kernel
theorem dX7_derive_225 : decode cX7_derive 225 = .ok (.lload 4, 2) := by decide +kernel
theorem dX7_derive_227 : decode cX7_derive 227 = .ok (.iload 10, 2) := by decide +kernel
theorem dX7_derive_229 : decode cX7_derive 229 = .ok (.i2l, 1) := by decide +kernel
theorem dX7_derive_230 : decode cX7_derive 230 = .ok (.lmul, 1) := by decide +kernel
theorem dX7_derive_231 : decode cX7_derive 231 = .ok (.goto 10, 3) := by decide +kernel
theorem dX7_derive_234 : decode cX7_derive 234 = .ok (.lload 4, 2) := by decide +kernel
theorem dX7_derive_236 : decode cX7_derive 236 = .ok (.lneg, 1) := by decide +kernel
theorem dX7_derive_237 : decode cX7_derive 237 = .ok (.iload 10, 2) := by decide +kernel
theorem dX7_derive_239 : decode cX7_derive 239 = .ok (.i2l, 1) := by decide +kernel
theorem dX7_derive_240 : decode cX7_derive 240 = .ok (.lmul, 1) := by decide +kernel
theorem dX7_derive_241 : decode cX7_derive 241 = .ok (.lload 6, 2) := by decide +kernel
theorem dX7_derive_243 : decode cX7_derive 243 = .ok (.invokevirtual 108, 3) := by decide +kernel
theorem dX7_derive_246 : decode cX7_derive 246 = .ok (.iinc 3 1, 3) := by decide +kernel
theorem dX7_derive_249 : decode cX7_derive 249 = .ok (.goto (-208), 3) := by decide +kernel
theorem dX7_derive_252 : decode cX7_derive 252 = .ok (.aload_n 0, 1) := by decide +kernel
theorem dX7_derive_253 : decode cX7_derive 253 = .ok (.iload_n 1, 1) := by decide +kernel
theorem dX7_derive_254 : decode cX7_derive 254 = .ok (.invokevirtual 126, 3) := by decide +kernel
theorem dX7_derive_257 : decode cX7_derive 257 = .ok (.ireturn, 1) := by decide +kernel
theorem dX7_scale_0 : decode cX7_scale 0 = .ok (.aload_n 0, 1) := by decide +kernel
theorem dX7_scale_1 : decode cX7_scale 1 = .ok (.getfield 168, 3) := by decide +kernel
theorem dX7_scale_4 : decode cX7_scale 4 = .ok (.lload_n 1, 1) := by decide +kernel
theorem dX7_scale_5 : decode cX7_scale 5 = .ok (.lmul, 1) := by decide +kernel
theorem dX7_scale_6 : decode cX7_scale 6 = .ok (.lstore 5, 2) := by decide +kernel
theorem dX7_scale_8 : decode cX7_scale 8 = .ok (.aload_n 0, 1) := by decide +kernel
theorem dX7_scale_9 : decode cX7_scale 9 = .ok (.getfield 172, 3) := by decide +kernel
theorem dX7_scale_12 : decode cX7_scale 12 = .ok (.lload_n 3, 1) := by decide +kernel
theorem dX7_scale_13 : decode cX7_scale 13 = .ok (.lmul, 1) := by decide +kernel
theorem dX7_scale_14 : decode cX7_scale 14 = .ok (.lstore 7, 2) := by decide +kernel
theorem dX7_scale_16 : decode cX7_scale 16 = .ok (.lload 7, 2) := by decide +kernel
theorem dX7_scale_18 : decode cX7_scale 18 = .ok (.lconst 0, 1) := by decide +kernel
theorem dX7_scale_19 : decode cX7_scale 19 = .ok (.lcmp, 1) := by decide +kernel
theorem dX7_scale_20 : decode cX7_scale 20 = .ok (.ifCond .ge 13, 3) := by decide +kernel
theorem dX7_scale_23 : decode cX7_scale 23 = .ok (.lload 5, 2) := by decide +kernel
theorem dX7_scale_25 : decode cX7_scale 25 = .ok (.lneg, 1) := by decide +kernel
theorem dX7_scale_26 : decode cX7_scale 26 = .ok (.lstore 5, 2) := by decide +kernel
theorem dX7_scale_28 : decode cX7_scale 28 = .ok (.lload 7, 2) := by decide +kernel
theorem dX7_scale_30 : decode cX7_scale 30 = .ok (.lneg, 1) := by decide +kernel
theorem dX7_scale_31 : decode cX7_scale 31 = .ok (.lstore 7, 2) := by decide +kernel
theorem dX7_scale_33 : decode cX7_scale 33 = .ok (.lload 5, 2) := by decide +kernel
theorem dX7_scale_35 : decode cX7_scale 35 = .ok (.lload 7, 2) := by decide +kernel
theorem dX7_scale_37 : decode cX7_scale 37 = .ok (.invokestatic 38, 3) := by decide +kernel
theorem dX7_scale_40 : decode cX7_scale 40 = .ok (.lstore 9, 2) := by decide +kernel
theorem dX7_scale_42 : decode cX7_scale 42 = .ok (.aload_n 0, 1) := by decide +kernel
theorem dX7_scale_43 : decode cX7_scale 43 = .ok (.lload 5, 2) := by decide +kernel
theorem dX7_scale_45 : decode cX7_scale 45 = .ok (.lload 9, 2) := by decide +kernel
theorem dX7_scale_47 : decode cX7_scale 47 = .ok (.ldiv, 1) := by decide +kernel
theorem dX7_scale_48 : decode cX7_scale 48 = .ok (.putfield 168, 3) := by decide +kernel
theorem dX7_scale_51 : decode cX7_scale 51 = .ok (.aload_n 0, 1) := by decide +kernel
theorem dX7_scale_52 : decode cX7_scale 52 = .ok (.lload 7, 2) := by decide +kernel
theorem dX7_scale_54 : decode cX7_scale 54 = .ok (.lload 9, 2) := by decide +kernel
theorem dX7_scale_56 : decode cX7_scale 56 = .ok (.ldiv, 1) := by decide +kernel
theorem dX7_scale_57 : decode cX7_scale 57 = .ok (.putfield 172, 3) := by decide +kernel
theorem dX7_scale_60 : decode cX7_scale 60 = .ok (.return_, 1) := by decide +kernel
theorem dX7_lay_0 : decode cX7_lay 0 = .ok (.aload_n 0, 1) := by decide +kernel
theorem dX7_lay_1 : decode cX7_lay 1 = .ok (.getfield 168, 3) := by decide +kernel
theorem dX7_lay_4 : decode cX7_lay 4 = .ok (.lstore 8, 2) := by decide +kernel
theorem dX7_lay_6 : decode cX7_lay 6 = .ok (.aload_n 0, 1) := by decide +kernel
theorem dX7_lay_7 : decode cX7_lay 7 = .ok (.getfield 172, 3) := by decide +kernel
theorem dX7_lay_10 : decode cX7_lay 10 = .ok (.lstore 10, 2) := by decide +kernel
theorem dX7_lay_12 : decode cX7_lay 12 = .ok (.aload_n 0, 1) := by decide +kernel
theorem dX7_lay_13 : decode cX7_lay 13 = .ok (.lload 4, 2) := by decide +kernel
theorem dX7_lay_15 : decode cX7_lay 15 = .ok (.lload 6, 2) := by decide +kernel
theorem dX7_lay_17 : decode cX7_lay 17 = .ok (.invokevirtual 175, 3) := by decide +kernel
theorem dX7_lay_20 : decode cX7_lay 20 = .ok (.aload_n 0, 1) := by decide +kernel
theorem dX7_lay_21 : decode cX7_lay 21 = .ok (.bipush 8, 2) := by decide +kernel
theorem dX7_lay_23 : decode cX7_lay 23 = .ok (.iload_n 1, 1) := by decide +kernel
theorem dX7_lay_24 : decode cX7_lay 24 = .ok (.iload_n 2, 1) := by decide +kernel
theorem dX7_lay_25 : decode cX7_lay 25 = .ok (.iload_n 3, 1) := by decide +kernel
theorem dX7_lay_26 : decode cX7_lay 26 = .ok (.aload_n 0, 1) := by decide +kernel
theorem dX7_lay_27 : decode cX7_lay 27 = .ok (.getfield 168, 3) := by decide +kernel
theorem dX7_lay_30 : decode cX7_lay 30 = .ok (.aload_n 0, 1) := by decide +kernel
theorem dX7_lay_31 : decode cX7_lay 31 = .ok (.getfield 172, 3) := by decide +kernel
theorem dX7_lay_34 : decode cX7_lay 34 = .ok (.invokevirtual 108, 3) := by decide +kernel
theorem dX7_lay_37 : decode cX7_lay 37 = .ok (.aload_n 0, 1) := by decide +kernel
theorem dX7_lay_38 : decode cX7_lay 38 = .ok (.lload 8, 2) := by decide +kernel
theorem dX7_lay_40 : decode cX7_lay 40 = .ok (.putfield 168, 3) := by decide +kernel
theorem dX7_lay_43 : decode cX7_lay 43 = .ok (.aload_n 0, 1) := by decide +kernel
theorem dX7_lay_44 : decode cX7_lay 44 = .ok (.lload 10, 2) := by decide +kernel
theorem dX7_lay_46 : decode cX7_lay 46 = .ok (.putfield 172, 3) := by decide +kernel
theorem dX7_lay_49 : decode cX7_lay 49 = .ok (.return_, 1) := by decide +kernel
theorem dX7_integrateLog_0 : decode cX7_integrateLog 0 = .ok (.iload_n 1, 1) := by decide +kernel
theorem dX7_integrateLog_1 : decode cX7_integrateLog 1 = .ok (.istore_n 3, 1) := by decide +kernel
theorem dX7_integrateLog_2 : decode cX7_integrateLog 2 = .ok (.iload_n 2, 1) := by decide +kernel
theorem dX7_integrateLog_3 : decode cX7_integrateLog 3 = .ok (.iconst (-1), 1) := by decide +kernel
theorem dX7_integrateLog_4 : decode cX7_integrateLog 4 = .ok (.if_icmp .ne 18, 3) := by decide +kernel
theorem dX7_integrateLog_7 : decode cX7_integrateLog 7 = .ok (.aload_n 0, 1) := by decide +kernel
theorem dX7_integrateLog_8 : decode cX7_integrateLog 8 = .ok (.iconst 1, 1) := by decide +kernel
theorem dX7_integrateLog_9 : decode cX7_integrateLog 9 = .ok (.iload_n 3, 1) := by decide +kernel
theorem dX7_integrateLog_10 : decode cX7_integrateLog 10 = .ok (.iconst 1, 1) := by decide +kernel
theorem dX7_integrateLog_11 : decode cX7_integrateLog 11 = .ok (.iadd, 1) := by decide +kernel
theorem dX7_integrateLog_12 : decode cX7_integrateLog 12 = .ok (.iconst 0, 1) := by decide +kernel
theorem dX7_integrateLog_13 : decode cX7_integrateLog 13 = .ok (.lconst 1, 1) := by decide +kernel
theorem dX7_integrateLog_14 : decode cX7_integrateLog 14 = .ok (.iload_n 3, 1) := by decide +kernel
theorem dX7_integrateLog_15 : decode cX7_integrateLog 15 = .ok (.i2l, 1) := by decide +kernel
theorem dX7_integrateLog_16 : decode cX7_integrateLog 16 = .ok (.lconst 1, 1) := by decide +kernel
theorem dX7_integrateLog_17 : decode cX7_integrateLog 17 = .ok (.ladd, 1) := by decide +kernel
theorem dX7_integrateLog_18 : decode cX7_integrateLog 18 = .ok (.invokevirtual 179, 3) := by decide +kernel
theorem dX7_integrateLog_21 : decode cX7_integrateLog 21 = .ok (.return_, 1) := by decide +kernel
theorem dX7_integrateLog_22 : decode cX7_integrateLog 22 = .ok (.iload_n 3, 1) := by decide +kernel
theorem dX7_integrateLog_23 : decode cX7_integrateLog 23 = .ok (.ifCond .lt 43, 3) := by decide +kernel
theorem dX7_integrateLog_26 : decode cX7_integrateLog 26 = .ok (.aload_n 0, 1) := by decide +kernel
theorem dX7_integrateLog_27 : decode cX7_integrateLog 27 = .ok (.getfield 168, 3) := by decide +kernel
theorem dX7_integrateLog_30 : decode cX7_integrateLog 30 = .ok (.lconst 0, 1) := by decide +kernel
theorem dX7_integrateLog_31 : decode cX7_integrateLog 31 = .ok (.lcmp, 1) := by decide +kernel
theorem dX7_integrateLog_32 : decode cX7_integrateLog 32 = .ok (.ifCond .eq 34, 3) := by decide +kernel
theorem dX7_integrateLog_35 : decode cX7_integrateLog 35 = .ok (.aload_n 0, 1) := by decide +kernel
theorem dX7_integrateLog_36 : decode cX7_integrateLog 36 = .ok (.iconst 1, 1) := by decide +kernel
theorem dX7_integrateLog_37 : decode cX7_integrateLog 37 = .ok (.iload_n 3, 1) := by decide +kernel
theorem dX7_integrateLog_38 : decode cX7_integrateLog 38 = .ok (.iload_n 2, 1) := by decide +kernel
theorem dX7_integrateLog_39 : decode cX7_integrateLog 39 = .ok (.iconst 1, 1) := by decide +kernel
theorem dX7_integrateLog_40 : decode cX7_integrateLog 40 = .ok (.iadd, 1) := by decide +kernel
theorem dX7_integrateLog_41 : decode cX7_integrateLog 41 = .ok (.lconst 1, 1) := by decide +kernel
theorem dX7_integrateLog_42 : decode cX7_integrateLog 42 = .ok (.iload_n 2, 1) := by decide +kernel
theorem dX7_integrateLog_43 : decode cX7_integrateLog 43 = .ok (.i2l, 1) := by decide +kernel
theorem dX7_integrateLog_44 : decode cX7_integrateLog 44 = .ok (.lconst 1, 1) := by decide +kernel
theorem dX7_integrateLog_45 : decode cX7_integrateLog 45 = .ok (.ladd, 1) := by decide +kernel
theorem dX7_integrateLog_46 : decode cX7_integrateLog 46 = .ok (.invokevirtual 179, 3) := by decide +kernel
theorem dX7_integrateLog_49 : decode cX7_integrateLog 49 = .ok (.aload_n 0, 1) := by decide +kernel
theorem dX7_integrateLog_50 : decode cX7_integrateLog 50 = .ok (.iload_n 3, 1) := by decide +kernel
theorem dX7_integrateLog_51 : decode cX7_integrateLog 51 = .ok (.ineg, 1) := by decide +kernel
theorem dX7_integrateLog_52 : decode cX7_integrateLog 52 = .ok (.i2l, 1) := by decide +kernel
theorem dX7_integrateLog_53 : decode cX7_integrateLog 53 = .ok (.iload_n 2, 1) := by decide +kernel
theorem dX7_integrateLog_54 : decode cX7_integrateLog 54 = .ok (.i2l, 1) := by decide +kernel
theorem dX7_integrateLog_55 : decode cX7_integrateLog 55 = .ok (.lconst 1, 1) := by decide +kernel
theorem dX7_integrateLog_56 : decode cX7_integrateLog 56 = .ok (.ladd, 1) := by decide +kernel
theorem dX7_integrateLog_57 : decode cX7_integrateLog 57 = .ok (.invokevirtual 175, 3) := by decide +kernel
theorem dX7_integrateLog_60 : decode cX7_integrateLog 60 = .ok (.iinc 3 (-1), 3) := by decide +kernel
theorem dX7_integrateLog_63 : decode cX7_integrateLog 63 = .ok (.goto (-41), 3) := by decide +kernel
theorem dX7_integrateLog_66 : decode cX7_integrateLog 66 = .ok (.return_, 1) := by decide +kernel
theorem dX7_integrateOther_0 : decode cX7_integrateOther 0 = .ok (.iload_n 1, 1) := by decide +kernel
theorem dX7_integrateOther_1 : decode cX7_integrateOther 1 = .ok (.istore 4, 2) := by decide +kernel
theorem dX7_integrateOther_3 : decode cX7_integrateOther 3 = .ok (.iload_n 3, 1) := by decide +kernel
theorem dX7_integrateOther_4 : decode cX7_integrateOther 4 = .ok (.istore 5, 2) := by decide +kernel
theorem dX7_integrateOther_6 : decode cX7_integrateOther 6 = .ok (.iload 5, 2) := by decide +kernel
theorem dX7_integrateOther_8 : decode cX7_integrateOther 8 = .ok (.ifCond .lt 94, 3) := by decide +kernel
theorem dX7_integrateOther_11 : decode cX7_integrateOther 11 = .ok (.aload_n 0, 1) := by decide +kernel
theorem dX7_integrateOther_12 : decode cX7_integrateOther 12 = .ok (.getfield 168, 3) := by decide +kernel
theorem dX7_integrateOther_15 : decode cX7_integrateOther 15 = .ok (.lconst 0, 1) := by decide +kernel
theorem dX7_integrateOther_16 : decode cX7_integrateOther 16 = .ok (.lcmp, 1) := by decide +kernel
theorem dX7_integrateOther_17 : decode cX7_integrateOther 17 = .ok (.ifCond .eq 85, 3) := by decide +kernel
theorem dX7_integrateOther_20 : decode cX7_integrateOther 20 = .ok (.aload_n 0, 1) := by decide +kernel
theorem dX7_integrateOther_21 : decode cX7_integrateOther 21 = .ok (.iload 4, 2) := by decide +kernel
theorem dX7_integrateOther_23 : decode cX7_integrateOther 23 = .ok (.iconst 2, 1) := by decide +kernel
theorem dX7_integrateOther_24 : decode cX7_integrateOther 24 = .ok (.if_icmp .ne 7, 3) := by decide +kernel
theorem dX7_integrateOther_27 : decode cX7_integrateOther 27 = .ok (.iconst 2, 1) := by decide +kernel
theorem dX7_integrateOther_28 : decode cX7_integrateOther 28 = .ok (.goto 8, 3) := by decide +kernel
theorem dX7_integrateOther_31 : decode cX7_integrateOther 31 = .ok (.bipush 7, 2) := by decide +kernel
theorem dX7_integrateOther_33 : decode cX7_integrateOther 33 = .ok (.iload 4, 2) := by decide +kernel
theorem dX7_integrateOther_35 : decode cX7_integrateOther 35 = .ok (.isub, 1) := by decide +kernel
theorem dX7_integrateOther_36 : decode cX7_integrateOther 36 = .ok (.iload_n 2, 1) := by decide +kernel
theorem dX7_integrateOther_37 : decode cX7_integrateOther 37 = .ok (.iload 5, 2) := by decide +kernel
theorem dX7_integrateOther_39 : decode cX7_integrateOther 39 = .ok (.iload 4, 2) := by decide +kernel
theorem dX7_integrateOther_41 : decode cX7_integrateOther 41 = .ok (.iconst 3, 1) := by decide +kernel
theorem dX7_integrateOther_42 : decode cX7_integrateOther 42 = .ok (.if_icmp .ne 9, 3) := by decide +kernel
theorem dX7_integrateOther_45 : decode cX7_integrateOther 45 = .ok (.ldc2_w 182, 3) := by decide +kernel
theorem dX7_integrateOther_48 : decode cX7_integrateOther 48 = .ok (.goto 4, 3) := by decide +kernel
theorem dX7_integrateOther_51 : decode cX7_integrateOther 51 = .ok (.lconst 1, 1) := by decide +kernel
theorem dX7_integrateOther_52 : decode cX7_integrateOther 52 = .ok (.iload_n 2, 1) := by decide +kernel
theorem dX7_integrateOther_53 : decode cX7_integrateOther 53 = .ok (.i2l, 1) := by decide +kernel
theorem dX7_integrateOther_54 : decode cX7_integrateOther 54 = .ok (.invokevirtual 179, 3) := by decide +kernel
theorem dX7_integrateOther_57 : decode cX7_integrateOther 57 = .ok (.aload_n 0, 1) := by decide +kernel
theorem dX7_integrateOther_58 : decode cX7_integrateOther 58 = .ok (.iload 4, 2) := by decide +kernel
theorem dX7_integrateOther_60 : decode cX7_integrateOther 60 = .ok (.iconst 3, 1) := by decide +kernel
theorem dX7_integrateOther_61 : decode cX7_integrateOther 61 = .ok (.if_icmp .ne 9, 3) := by decide +kernel
theorem dX7_integrateOther_64 : decode cX7_integrateOther 64 = .ok (.iload 5, 2) := by decide +kernel
theorem dX7_integrateOther_66 : decode cX7_integrateOther 66 = .ok (.i2l, 1) := by decide +kernel
theorem dX7_integrateOther_67 : decode cX7_integrateOther 67 = .ok (.goto 7, 3) := by decide +kernel
theorem dX7_integrateOther_70 : decode cX7_integrateOther 70 = .ok (.iload 5, 2) := by decide +kernel
theorem dX7_integrateOther_72 : decode cX7_integrateOther 72 = .ok (.ineg, 1) := by decide +kernel
theorem dX7_integrateOther_73 : decode cX7_integrateOther 73 = .ok (.i2l, 1) := by decide +kernel
theorem dX7_integrateOther_74 : decode cX7_integrateOther 74 = .ok (.iload_n 2, 1) := by decide +kernel
theorem dX7_integrateOther_75 : decode cX7_integrateOther 75 = .ok (.i2l, 1) := by decide +kernel
theorem dX7_integrateOther_76 : decode cX7_integrateOther 76 = .ok (.invokevirtual 175, 3) := by decide +kernel
theorem dX7_integrateOther_79 : decode cX7_integrateOther 79 = .ok (.iload 4, 2) := by decide +kernel
theorem dX7_integrateOther_81 : decode cX7_integrateOther 81 = .ok (.iconst 2, 1) := by decide +kernel
theorem dX7_integrateOther_82 : decode cX7_integrateOther 82 = .ok (.if_icmp .ne 7, 3) := by decide +kernel
theorem dX7_integrateOther_85 : decode cX7_integrateOther 85 = .ok (.iconst 2, 1) := by decide +kernel
theorem dX7_integrateOther_86 : decode cX7_integrateOther 86 = .ok (.goto 8, 3) := by decide +kernel
theorem dX7_integrateOther_89 : decode cX7_integrateOther 89 = .ok (.bipush 7, 2) := by decide +kernel
theorem dX7_integrateOther_91 : decode cX7_integrateOther 91 = .ok (.iload 4, 2) := by decide +kernel
theorem dX7_integrateOther_93 : decode cX7_integrateOther 93 = .ok (.isub, 1) := by decide +kernel
theorem dX7_integrateOther_94 : decode cX7_integrateOther 94 = .ok (.istore 4, 2) := by decide +kernel
theorem dX7_integrateOther_96 : decode cX7_integrateOther 96 = .ok (.iinc 5 (-1), 3) := by decide +kernel
theorem dX7_integrateOther_99 : decode cX7_integrateOther 99 = .ok (.goto (-93), 3) := by decide +kernel
theorem dX7_integrateOther_102 : decode cX7_integrateOther 102 = .ok (.iload 5, 2) := by decide +kernel
theorem dX7_integrateOther_104 : decode cX7_integrateOther 104 = .ok (.iconst (-1), 1) := by decide +kernel
theorem dX7_integrateOther_105 : decode cX7_integrateOther 105 = .ok (.if_icmp .ge 66, 3) := by decide +kernel
theorem dX7_integrateOther_108 : decode cX7_integrateOther 108 = .ok (.aload_n 0, 1) := by decide +kernel
theorem dX7_integrateOther_109 : decode cX7_integrateOther 109 = .ok (.iload 4, 2) := by decide +kernel
theorem dX7_integrateOther_111 : decode cX7_integrateOther 111 = .ok (.iload_n 2, 1) := by decide +kernel
theorem dX7_integrateOther_112 : decode cX7_integrateOther 112 = .ok (.iload 5, 2) := by decide +kernel
theorem dX7_integrateOther_114 : decode cX7_integrateOther 114 = .ok (.iconst 1, 1) := by decide +kernel
theorem dX7_integrateOther_115 : decode cX7_integrateOther 115 = .ok (.iadd, 1) := by decide +kernel
theorem dX7_integrateOther_116 : decode cX7_integrateOther 116 = .ok (.lconst 1, 1) := by decide +kernel
theorem dX7_integrateOther_117 : decode cX7_integrateOther 117 = .ok (.iload 5, 2) := by decide +kernel
theorem dX7_integrateOther_119 : decode cX7_integrateOther 119 = .ok (.i2l, 1) := by decide +kernel
theorem dX7_integrateOther_120 : decode cX7_integrateOther 120 = .ok (.lconst 1, 1) := by decide +kernel
theorem dX7_integrateOther_121 : decode cX7_integrateOther 121 = .ok (.ladd, 1) := by decide +kernel
theorem dX7_integrateOther_122 : decode cX7_integrateOther 122 = .ok (.invokevirtual 179, 3) := by decide +kernel
theorem dX7_integrateOther_125 : decode cX7_integrateOther 125 = .ok (.aload_n 0, 1) := by decide +kernel
theorem dX7_integrateOther_126 : decode cX7_integrateOther 126 = .ok (.iload 4, 2) := by decide +kernel
theorem dX7_integrateOther_128 : decode cX7_integrateOther 128 = .ok (.iconst 4, 1) := by decide +kernel
theorem dX7_integrateOther_129 : decode cX7_integrateOther 129 = .ok (.if_icmp .ne 8, 3) := by decide +kernel
theorem dX7_integrateOther_132 : decode cX7_integrateOther 132 = .ok (.iload_n 2, 1) := by decide +kernel
theorem dX7_integrateOther_133 : decode cX7_integrateOther 133 = .ok (.i2l, 1) := by decide +kernel
theorem dX7_integrateOther_134 : decode cX7_integrateOther 134 = .ok (.goto 6, 3) := by decide +kernel
theorem dX7_integrateOther_137 : decode cX7_integrateOther 137 = .ok (.iload_n 2, 1) := by decide +kernel
theorem dX7_integrateOther_138 : decode cX7_integrateOther 138 = .ok (.ineg, 1) := by decide +kernel
theorem dX7_integrateOther_139 : decode cX7_integrateOther 139 = .ok (.i2l, 1) := by decide +kernel
theorem dX7_integrateOther_140 : decode cX7_integrateOther 140 = .ok (.iload 5, 2) := by decide +kernel
theorem dX7_integrateOther_142 : decode cX7_integrateOther 142 = .ok (.i2l, 1) := by decide +kernel
theorem dX7_integrateOther_143 : decode cX7_integrateOther 143 = .ok (.lconst 1, 1) := by decide +kernel
theorem dX7_integrateOther_144 : decode cX7_integrateOther 144 = .ok (.ladd, 1) := by decide +kernel
theorem dX7_integrateOther_145 : decode cX7_integrateOther 145 = .ok (.invokevirtual 175, 3) := by decide +kernel
theorem dX7_integrateOther_148 : decode cX7_integrateOther 148 = .ok (.iload 4, 2) := by decide +kernel
theorem dX7_integrateOther_150 : decode cX7_integrateOther 150 = .ok (.iconst 2, 1) := by decide +kernel
theorem dX7_integrateOther_151 : decode cX7_integrateOther 151 = .ok (.if_icmp .ne 7, 3) := by decide +kernel
theorem dX7_integrateOther_154 : decode cX7_integrateOther 154 = .ok (.iconst 2, 1) := by decide +kernel
theorem dX7_integrateOther_155 : decode cX7_integrateOther 155 = .ok (.goto 8, 3) := by decide +kernel
theorem dX7_integrateOther_158 : decode cX7_integrateOther 158 = .ok (.bipush 7, 2) := by decide +kernel
theorem dX7_integrateOther_160 : decode cX7_integrateOther 160 = .ok (.iload 4, 2) := by decide +kernel
theorem dX7_integrateOther_162 : decode cX7_integrateOther 162 = .ok (.isub, 1) := by decide +kernel
theorem dX7_integrateOther_163 : decode cX7_integrateOther 163 = .ok (.istore 4, 2) := by decide +kernel
theorem dX7_integrateOther_165 : decode cX7_integrateOther 165 = .ok (.iinc 5 1, 3) := by decide +kernel
theorem dX7_integrateOther_168 : decode cX7_integrateOther 168 = .ok (.goto (-66), 3) := by decide +kernel
theorem dX7_integrateOther_171 : decode cX7_integrateOther 171 = .ok (.iload_n 3, 1) := by decide +kernel
theorem dX7_integrateOther_172 : decode cX7_integrateOther 172 = .ok (.ifCond .ge 21, 3) := by decide +kernel
theorem dX7_integrateOther_175 : decode cX7_integrateOther 175 = .ok (.aload_n 0, 1) := by decide +kernel
theorem dX7_integrateOther_176 : decode cX7_integrateOther 176 = .ok (.bipush 9, 2) := by decide +kernel
theorem dX7_integrateOther_178 : decode cX7_integrateOther 178 = .ok (.iload 4, 2) := by decide +kernel
theorem dX7_integrateOther_180 : decode cX7_integrateOther 180 = .ok (.iload_n 2, 1) := by decide +kernel
theorem dX7_integrateOther_181 : decode cX7_integrateOther 181 = .ok (.iconst (-1), 1) := by decide +kernel
theorem dX7_integrateOther_182 : decode cX7_integrateOther 182 = .ok (.aload_n 0, 1) := by decide +kernel
theorem dX7_integrateOther_183 : decode cX7_integrateOther 183 = .ok (.getfield 168, 3) := by decide +kernel
theorem dX7_integrateOther_186 : decode cX7_integrateOther 186 = .ok (.aload_n 0, 1) := by decide +kernel
theorem dX7_integrateOther_187 : decode cX7_integrateOther 187 = .ok (.getfield 172, 3) := by decide +kernel
theorem dX7_integrateOther_190 : decode cX7_integrateOther 190 = .ok (.invokevirtual 108, 3) := by decide +kernel
theorem dX7_integrateOther_193 : decode cX7_integrateOther 193 = .ok (.return_, 1) := by decide +kernel
theorem dX7_integrate_0 : decode cX7_integrate 0 = .ok (.iload_n 1, 1) := by decide +kernel
theorem dX7_integrate_1 : decode cX7_integrate 1 = .ok (.invokestatic 115, 3) := by decide +kernel
theorem dX7_integrate_4 : decode cX7_integrate 4 = .ok (.ifCond .eq 21, 3) := by decide +kernel
theorem dX7_integrate_7 : decode cX7_integrate 7 = .ok (.iload_n 2, 1) := by decide +kernel
theorem dX7_integrate_8 : decode cX7_integrate 8 = .ok (.invokestatic 115, 3) := by decide +kernel
theorem dX7_integrate_11 : decode cX7_integrate 11 = .ok (.ifCond .eq 14, 3) := by decide +kernel
theorem dX7_integrate_14 : decode cX7_integrate 14 = .ok (.iload_n 3, 1) := by decide +kernel
theorem dX7_integrate_15 : decode cX7_integrate 15 = .ok (.invokestatic 115, 3) := by decide +kernel
theorem dX7_integrate_18 : decode cX7_integrate 18 = .ok (.ifCond .eq 7, 3) := by decide +kernel
theorem dX7_integrate_21 : decode cX7_integrate 21 = .ok (.iconst 1, 1) := by decide +kernel
theorem dX7_integrate_22 : decode cX7_integrate 22 = .ok (.goto 4, 3) := by decide +kernel
theorem dX7_integrate_25 : decode cX7_integrate 25 = .ok (.iconst 0, 1) := by decide +kernel
theorem dX7_integrate_26 : decode cX7_integrate 26 = .ok (.istore 4, 2) := by decide +kernel
theorem dX7_integrate_28 : decode cX7_integrate 28 = .ok (.aload_n 0, 1) := by decide +kernel
theorem dX7_integrate_29 : decode cX7_integrate 29 = .ok (.iload 4, 2) := by decide +kernel
theorem dX7_integrate_31 : decode cX7_integrate 31 = .ok (.ifCond .ne 7, 3) := by decide +kernel
theorem dX7_integrate_34 : decode cX7_integrate 34 = .ok (.iconst 1, 1) := by decide +kernel
theorem dX7_integrate_35 : decode cX7_integrate 35 = .ok (.goto 16, 3) := by decide +kernel
theorem dX7_integrate_38 : decode cX7_integrate 38 = .ok (.aload_n 0, 1) := by decide +kernel
theorem dX7_integrate_39 : decode cX7_integrate 39 = .ok (.iload_n 3, 1) := by decide +kernel
theorem dX7_integrate_40 : decode cX7_integrate 40 = .ok (.invokevirtual 155, 3) := by decide +kernel
theorem dX7_integrate_43 : decode cX7_integrate 43 = .ok (.ifCond .ne 7, 3) := by decide +kernel
theorem dX7_integrate_46 : decode cX7_integrate 46 = .ok (.iconst 2, 1) := by decide +kernel
theorem dX7_integrate_47 : decode cX7_integrate 47 = .ok (.goto 4, 3) := by decide +kernel
theorem dX7_integrate_50 : decode cX7_integrate 50 = .ok (.iconst 0, 1) := by decide +kernel
theorem dX7_integrate_51 : decode cX7_integrate 51 = .ok (.invokevirtual 78, 3) := by decide +kernel
theorem dX7_integrate_54 : decode cX7_integrate 54 = .ok (.ifCond .eq 5, 3) := by decide +kernel
theorem dX7_integrate_57 : decode cX7_integrate 57 = .ok (.iconst 0, 1) := by decide +kernel
theorem dX7_integrate_58 : decode cX7_integrate 58 = .ok (.ireturn, 1) := by decide +kernel
theorem dX7_integrate_59 : decode cX7_integrate 59 = .ok (.aload_n 0, 1) := by decide +kernel
theorem dX7_integrate_60 : decode cX7_integrate 60 = .ok (.iconst 0, 1) := by decide +kernel
theorem dX7_integrate_61 : decode cX7_integrate 61 = .ok (.putfield 30, 3) := by decide +kernel
theorem dX7_integrate_64 : decode cX7_integrate 64 = .ok (.aload_n 0, 1) := by decide +kernel
theorem dX7_integrate_65 : decode cX7_integrate 65 = .ok (.bipush 8, 2) := by decide +kernel
theorem dX7_integrate_67 : decode cX7_integrate 67 = .ok (.invokevirtual 118, 3) := by decide +kernel
theorem dX7_integrate_70 : decode cX7_integrate 70 = .ok (.aload_n 0, 1) := by decide +kernel
theorem dX7_integrate_71 : decode cX7_integrate 71 = .ok (.bipush 9, 2) := by decide +kernel
theorem dX7_integrate_73 : decode cX7_integrate 73 = .ok (.invokevirtual 118, 3) := by decide +kernel
theorem dX7_integrate_76 : decode cX7_integrate 76 = .ok (.iconst 0, 1) := by decide +kernel
theorem dX7_integrate_77 : decode cX7_integrate 77 = .ok (.istore 5, 2) := by decide +kernel
theorem dX7_integrate_79 : decode cX7_integrate 79 = .ok (.iload 5, 2) := by decide +kernel
theorem dX7_integrate_81 : decode cX7_integrate 81 = .ok (.sipush 1150, 3) := by decide +kernel
theorem dX7_integrate_84 : decode cX7_integrate 84 = .ok (.if_icmp .ge 109, 3) := by decide +kernel
theorem dX7_integrate_87 : decode cX7_integrate 87 = .ok (.aload_n 0, 1) := by decide +kernel
theorem dX7_integrate_88 : decode cX7_integrate 88 = .ok (.aload_n 0, 1) := by decide +kernel
theorem dX7_integrate_89 : decode cX7_integrate 89 = .ok (.getfield 20, 3) := by decide +kernel
theorem dX7_integrate_92 : decode cX7_integrate 92 = .ok (.sipush 1150, 3) := by decide +kernel
theorem dX7_integrate_95 : decode cX7_integrate 95 = .ok (.iload_n 3, 1) := by decide +kernel
theorem dX7_integrate_96 : decode cX7_integrate 96 = .ok (.imul, 1) := by decide +kernel
theorem dX7_integrate_97 : decode cX7_integrate 97 = .ok (.iload 5, 2) := by decide +kernel
theorem dX7_integrate_99 : decode cX7_integrate 99 = .ok (.iadd, 1) := by decide +kernel
theorem dX7_integrate_100 : decode cX7_integrate 100 = .ok (.laload, 1) := by decide +kernel
theorem dX7_integrate_101 : decode cX7_integrate 101 = .ok (.putfield 168, 3) := by decide +kernel
theorem dX7_integrate_104 : decode cX7_integrate 104 = .ok (.aload_n 0, 1) := by decide +kernel
theorem dX7_integrate_105 : decode cX7_integrate 105 = .ok (.aload_n 0, 1) := by decide +kernel
theorem dX7_integrate_106 : decode cX7_integrate 106 = .ok (.getfield 24, 3) := by decide +kernel
theorem dX7_integrate_109 : decode cX7_integrate 109 = .ok (.sipush 1150, 3) := by decide +kernel
theorem dX7_integrate_112 : decode cX7_integrate 112 = .ok (.iload_n 3, 1) := by decide +kernel
theorem dX7_integrate_113 : decode cX7_integrate 113 = .ok (.imul, 1) := by decide +kernel
theorem dX7_integrate_114 : decode cX7_integrate 114 = .ok (.iload 5, 2) := by decide +kernel
theorem dX7_integrate_116 : decode cX7_integrate 116 = .ok (.iadd, 1) := by decide +kernel
theorem dX7_integrate_117 : decode cX7_integrate 117 = .ok (.laload, 1) := by decide +kernel
theorem dX7_integrate_118 : decode cX7_integrate 118 = .ok (.putfield 172, 3) := by decide +kernel
theorem dX7_integrate_121 : decode cX7_integrate 121 = .ok (.aload_n 0, 1) := by decide +kernel
theorem dX7_integrate_122 : decode cX7_integrate 122 = .ok (.getfield 168, 3) := by decide +kernel
theorem dX7_integrate_125 : decode cX7_integrate 125 = .ok (.lconst 0, 1) := by decide +kernel
theorem dX7_integrate_126 : decode cX7_integrate 126 = .ok (.lcmp, 1) := by decide +kernel
theorem dX7_integrate_127 : decode cX7_integrate 127 = .ok (.ifCond .ne 6, 3) := by decide +kernel
theorem dX7_integrate_130 : decode cX7_integrate 130 = .ok (.goto 57, 3) := by decide +kernel
theorem dX7_integrate_133 : decode cX7_integrate 133 = .ok (.iload 5, 2) := by decide +kernel
theorem dX7_integrate_135 : decode cX7_integrate 135 = .ok (.bipush 25, 2) := by decide +kernel
theorem dX7_integrate_137 : decode cX7_integrate 137 = .ok (.idiv, 1) := by decide +kernel
theorem dX7_integrate_138 : decode cX7_integrate 138 = .ok (.istore 6, 2) := by decide +kernel
theorem dX7_integrate_140 : decode cX7_integrate 140 = .ok (.iload 5, 2) := by decide +kernel
theorem dX7_integrate_142 : decode cX7_integrate 142 = .ok (.bipush 25, 2) := by decide +kernel
theorem dX7_integrate_144 : decode cX7_integrate 144 = .ok (.irem, 1) := by decide +kernel
theorem dX7_integrate_145 : decode cX7_integrate 145 = .ok (.bipush 12, 2) := by decide +kernel
theorem dX7_integrate_147 : decode cX7_integrate 147 = .ok (.isub, 1) := by decide +kernel
theorem dX7_integrate_148 : decode cX7_integrate 148 = .ok (.istore 7, 2) := by decide +kernel
theorem dX7_integrate_150 : decode cX7_integrate 150 = .ok (.iload 6, 2) := by decide +kernel
theorem dX7_integrate_152 : decode cX7_integrate 152 = .ok (.bipush 10, 2) := by decide +kernel
theorem dX7_integrate_154 : decode cX7_integrate 154 = .ok (.if_icmp .ge 17, 3) := by decide +kernel
theorem dX7_integrate_157 : decode cX7_integrate 157 = .ok (.aload_n 0, 1) := by decide +kernel
theorem dX7_integrate_158 : decode cX7_integrate 158 = .ok (.iload 6, 2) := by decide +kernel
theorem dX7_integrate_160 : decode cX7_integrate 160 = .ok (.invokestatic 63, 3) := by decide +kernel
theorem dX7_integrate_163 : decode cX7_integrate 163 = .ok (.iload 7, 2) := by decide +kernel
theorem dX7_integrate_165 : decode cX7_integrate 165 = .ok (.invokevirtual 184, 3) := by decide +kernel
theorem dX7_integrate_168 : decode cX7_integrate 168 = .ok (.goto 19, 3) := by decide +kernel
theorem dX7_integrate_171 : decode cX7_integrate 171 = .ok (.aload_n 0, 1) := by decide +kernel
theorem dX7_integrate_172 : decode cX7_integrate 172 = .ok (.iload 6, 2) := by decide +kernel
theorem dX7_integrate_174 : decode cX7_integrate 174 = .ok (.invokestatic 141, 3) := by decide +kernel
theorem dX7_integrate_177 : decode cX7_integrate 177 = .ok (.iload 6, 2) := by decide +kernel
theorem dX7_integrate_179 : decode cX7_integrate 179 = .ok (.invokestatic 63, 3) := by decide +kernel
theorem dX7_integrate_182 : decode cX7_integrate 182 = .ok (.iload 7, 2) := by decide +kernel
theorem dX7_integrate_184 : decode cX7_integrate 184 = .ok (.invokevirtual 187, 3) := by decide +kernel
theorem dX7_integrate_187 : decode cX7_integrate 187 = .ok (.iinc 5 1, 3) := by decide +kernel
theorem dX7_integrate_190 : decode cX7_integrate 190 = .ok (.goto (-111), 3) := by decide +kernel
theorem dX7_integrate_193 : decode cX7_integrate 193 = .ok (.aload_n 0, 1) := by decide +kernel
theorem dX7_integrate_194 : decode cX7_integrate 194 = .ok (.bipush 8, 2) := by decide +kernel
theorem dX7_integrate_196 : decode cX7_integrate 196 = .ok (.invokevirtual 56, 3) := by decide +kernel
theorem dX7_integrate_199 : decode cX7_integrate 199 = .ok (.ifCond .eq 12, 3) := by decide +kernel
theorem dX7_integrate_202 : decode cX7_integrate 202 = .ok (.aload_n 0, 1) := by decide +kernel
theorem dX7_integrate_203 : decode cX7_integrate 203 = .ok (.bipush 9, 2) := by decide +kernel
theorem dX7_integrate_205 : decode cX7_integrate 205 = .ok (.invokevirtual 56, 3) := by decide +kernel
theorem dX7_integrate_208 : decode cX7_integrate 208 = .ok (.ifCond .ne 6, 3) := by decide +kernel
theorem dX7_integrate_211 : decode cX7_integrate 211 = .ok (.bipush (-4), 2) := by decide +kernel
theorem dX7_integrate_213 : decode cX7_integrate 213 = .ok (.ireturn, 1) := by decide +kernel
theorem dX7_integrate_214 : decode cX7_integrate 214 = .ok (.aload_n 0, 1) := by decide +kernel
theorem dX7_integrate_215 : decode cX7_integrate 215 = .ok (.iload_n 1, 1) := by decide +kernel
theorem dX7_integrate_216 : decode cX7_integrate 216 = .ok (.bipush 8, 2) := by decide +kernel
theorem dX7_integrate_218 : decode cX7_integrate 218 = .ok (.invokevirtual 59, 3) := by decide +kernel
theorem dX7_integrate_221 : decode cX7_integrate 221 = .ok (.aload_n 0, 1) := by decide +kernel
theorem dX7_integrate_222 : decode cX7_integrate 222 = .ok (.iload_n 2, 1) := by decide +kernel
theorem dX7_integrate_223 : decode cX7_integrate 223 = .ok (.bipush 9, 2) := by decide +kernel
theorem dX7_integrate_225 : decode cX7_integrate 225 = .ok (.invokevirtual 59, 3) := by decide +kernel
theorem dX7_integrate_228 : decode cX7_integrate 228 = .ok (.aload_n 0, 1) := by decide +kernel
theorem dX7_integrate_229 : decode cX7_integrate 229 = .ok (.bipush 9, 2) := by decide +kernel
theorem dX7_integrate_231 : decode cX7_integrate 231 = .ok (.invokevirtual 48, 3) := by decide +kernel
theorem dX7_integrate_234 : decode cX7_integrate 234 = .ok (.ireturn, 1) := by decide +kernel
theorem dX7_same_0 : decode cX7_same 0 = .ok (.aload_n 0, 1) := by decide +kernel
theorem dX7_same_1 : decode cX7_same 1 = .ok (.iload_n 1, 1) := by decide +kernel
theorem dX7_same_2 : decode cX7_same 2 = .ok (.invokestatic 115, 3) := by decide +kernel
theorem dX7_same_5 : decode cX7_same 5 = .ok (.ifCond .eq 14, 3) := by decide +kernel
theorem dX7_same_8 : decode cX7_same 8 = .ok (.iload_n 2, 1) := by decide +kernel
theorem dX7_same_9 : decode cX7_same 9 = .ok (.invokestatic 115, 3) := by decide +kernel
theorem dX7_same_12 : decode cX7_same 12 = .ok (.ifCond .eq 7, 3) := by decide +kernel
theorem dX7_same_15 : decode cX7_same 15 = .ok (.iconst 0, 1) := by decide +kernel
theorem dX7_same_16 : decode cX7_same 16 = .ok (.goto 4, 3) := by decide +kernel
theorem dX7_same_19 : decode cX7_same 19 = .ok (.iconst 1, 1) := by decide +kernel
theorem dX7_same_20 : decode cX7_same 20 = .ok (.invokevirtual 78, 3) := by decide +kernel
theorem dX7_same_23 : decode cX7_same 23 = .ok (.ifCond .eq 5, 3) := by decide +kernel
theorem dX7_same_26 : decode cX7_same 26 = .ok (.iconst 0, 1) := by decide +kernel
theorem dX7_same_27 : decode cX7_same 27 = .ok (.ireturn, 1) := by decide +kernel
theorem dX7_same_28 : decode cX7_same 28 = .ok (.iconst 1, 1) := by decide +kernel
theorem dX7_same_29 : decode cX7_same 29 = .ok (.istore_n 3, 1) := by decide +kernel
theorem dX7_same_30 : decode cX7_same 30 = .ok (.iconst 0, 1) := by decide +kernel
theorem dX7_same_31 : decode cX7_same 31 = .ok (.istore 4, 2) := by decide +kernel
theorem dX7_same_33 : decode cX7_same 33 = .ok (.iload 4, 2) := by decide +kernel
theorem dX7_same_35 : decode cX7_same 35 = .ok (.sipush 1150, 3) := by decide +kernel
theorem dX7_same_38 : decode cX7_same 38 = .ok (.if_icmp .ge 79, 3) := by decide +kernel
theorem dX7_same_41 : decode cX7_same 41 = .ok (.iload_n 3, 1) := by decide +kernel
theorem dX7_same_42 : decode cX7_same 42 = .ok (.ifCond .eq 67, 3) := by decide +kernel
theorem dX7_same_45 : decode cX7_same 45 = .ok (.aload_n 0, 1) := by decide +kernel
theorem dX7_same_46 : decode cX7_same 46 = .ok (.getfield 20, 3) := by decide +kernel
theorem dX7_same_49 : decode cX7_same 49 = .ok (.sipush 1150, 3) := by decide +kernel
theorem dX7_same_52 : decode cX7_same 52 = .ok (.iload_n 1, 1) := by decide +kernel
theorem dX7_same_53 : decode cX7_same 53 = .ok (.imul, 1) := by decide +kernel
theorem dX7_same_54 : decode cX7_same 54 = .ok (.iload 4, 2) := by decide +kernel
theorem dX7_same_56 : decode cX7_same 56 = .ok (.iadd, 1) := by decide +kernel
theorem dX7_same_57 : decode cX7_same 57 = .ok (.laload, 1) := by decide +kernel
theorem dX7_same_58 : decode cX7_same 58 = .ok (.aload_n 0, 1) := by decide +kernel
theorem dX7_same_59 : decode cX7_same 59 = .ok (.getfield 20, 3) := by decide +kernel
theorem dX7_same_62 : decode cX7_same 62 = .ok (.sipush 1150, 3) := by decide +kernel
theorem dX7_same_65 : decode cX7_same 65 = .ok (.iload_n 2, 1) := by decide +kernel
theorem dX7_same_66 : decode cX7_same 66 = .ok (.imul, 1) := by decide +kernel
theorem dX7_same_67 : decode cX7_same 67 = .ok (.iload 4, 2) := by decide +kernel
theorem dX7_same_69 : decode cX7_same 69 = .ok (.iadd, 1) := by decide +kernel
theorem dX7_same_70 : decode cX7_same 70 = .ok (.laload, 1) := by decide +kernel
theorem dX7_same_71 : decode cX7_same 71 = .ok (.lcmp, 1) := by decide +kernel
theorem dX7_same_72 : decode cX7_same 72 = .ok (.ifCond .ne 37, 3) := by decide +kernel
theorem dX7_same_75 : decode cX7_same 75 = .ok (.aload_n 0, 1) := by decide +kernel
theorem dX7_same_76 : decode cX7_same 76 = .ok (.getfield 24, 3) := by decide +kernel
theorem dX7_same_79 : decode cX7_same 79 = .ok (.sipush 1150, 3) := by decide +kernel
theorem dX7_same_82 : decode cX7_same 82 = .ok (.iload_n 1, 1) := by decide +kernel
theorem dX7_same_83 : decode cX7_same 83 = .ok (.imul, 1) := by decide +kernel
theorem dX7_same_84 : decode cX7_same 84 = .ok (.iload 4, 2) := by decide +kernel
theorem dX7_same_86 : decode cX7_same 86 = .ok (.iadd, 1) := by decide +kernel
theorem dX7_same_87 : decode cX7_same 87 = .ok (.laload, 1) := by decide +kernel
theorem dX7_same_88 : decode cX7_same 88 = .ok (.aload_n 0, 1) := by decide +kernel
theorem dX7_same_89 : decode cX7_same 89 = .ok (.getfield 24, 3) := by decide +kernel
theorem dX7_same_92 : decode cX7_same 92 = .ok (.sipush 1150, 3) := by decide +kernel
theorem dX7_same_95 : decode cX7_same 95 = .ok (.iload_n 2, 1) := by decide +kernel
theorem dX7_same_96 : decode cX7_same 96 = .ok (.imul, 1) := by decide +kernel
theorem dX7_same_97 : decode cX7_same 97 = .ok (.iload 4, 2) := by decide +kernel
theorem dX7_same_99 : decode cX7_same 99 = .ok (.iadd, 1) := by decide +kernel
theorem dX7_same_100 : decode cX7_same 100 = .ok (.laload, 1) := by decide +kernel
theorem dX7_same_101 : decode cX7_same 101 = .ok (.lcmp, 1) := by decide +kernel
theorem dX7_same_102 : decode cX7_same 102 = .ok (.ifCond .ne 7, 3) := by decide +kernel
theorem dX7_same_105 : decode cX7_same 105 = .ok (.iconst 1, 1) := by decide +kernel
theorem dX7_same_106 : decode cX7_same 106 = .ok (.goto 4, 3) := by decide +kernel
theorem dX7_same_109 : decode cX7_same 109 = .ok (.iconst 0, 1) := by decide +kernel
theorem dX7_same_110 : decode cX7_same 110 = .ok (.istore_n 3, 1) := by decide +kernel
theorem dX7_same_111 : decode cX7_same 111 = .ok (.iinc 4 1, 3) := by decide +kernel
theorem dX7_same_114 : decode cX7_same 114 = .ok (.goto (-81), 3) := by decide +kernel
theorem dX7_same_117 : decode cX7_same 117 = .ok (.iload_n 3, 1) := by decide +kernel
theorem dX7_same_118 : decode cX7_same 118 = .ok (.ireturn, 1) := by decide +kernel
theorem dX7_terms_0 : decode cX7_terms 0 = .ok (.aload_n 0, 1) := by decide +kernel
theorem dX7_terms_1 : decode cX7_terms 1 = .ok (.iload_n 1, 1) := by decide +kernel
theorem dX7_terms_2 : decode cX7_terms 2 = .ok (.invokestatic 115, 3) := by decide +kernel
theorem dX7_terms_5 : decode cX7_terms 5 = .ok (.ifCond .eq 7, 3) := by decide +kernel
theorem dX7_terms_8 : decode cX7_terms 8 = .ok (.iconst 0, 1) := by decide +kernel
theorem dX7_terms_9 : decode cX7_terms 9 = .ok (.goto 4, 3) := by decide +kernel
theorem dX7_terms_12 : decode cX7_terms 12 = .ok (.iconst 1, 1) := by decide +kernel
theorem dX7_terms_13 : decode cX7_terms 13 = .ok (.invokevirtual 78, 3) := by decide +kernel
theorem dX7_terms_16 : decode cX7_terms 16 = .ok (.ifCond .eq 5, 3) := by decide +kernel
theorem dX7_terms_19 : decode cX7_terms 19 = .ok (.iconst 0, 1) := by decide +kernel
theorem dX7_terms_20 : decode cX7_terms 20 = .ok (.ireturn, 1) := by decide +kernel
theorem dX7_terms_21 : decode cX7_terms 21 = .ok (.aload_n 0, 1) := by decide +kernel
theorem dX7_terms_22 : decode cX7_terms 22 = .ok (.iload_n 1, 1) := by decide +kernel
theorem dX7_terms_23 : decode cX7_terms 23 = .ok (.invokevirtual 48, 3) := by decide +kernel
theorem dX7_terms_26 : decode cX7_terms 26 = .ok (.ireturn, 1) := by decide +kernel
theorem dX7_term_0 : decode cX7_term 0 = .ok (.aload_n 0, 1) := by decide +kernel
theorem dX7_term_1 : decode cX7_term 1 = .ok (.iload_n 1, 1) := by decide +kernel
theorem dX7_term_2 : decode cX7_term 2 = .ok (.invokestatic 115, 3) := by decide +kernel
theorem dX7_term_5 : decode cX7_term 5 = .ok (.ifCond .eq 16, 3) := by decide +kernel
theorem dX7_term_8 : decode cX7_term 8 = .ok (.iload_n 3, 1) := by decide +kernel
theorem dX7_term_9 : decode cX7_term 9 = .ok (.ifCond .lt 12, 3) := by decide +kernel
theorem dX7_term_12 : decode cX7_term 12 = .ok (.iload_n 3, 1) := by decide +kernel
theorem dX7_term_13 : decode cX7_term 13 = .ok (.iconst 4, 1) := by decide +kernel
theorem dX7_term_14 : decode cX7_term 14 = .ok (.if_icmp .gt 7, 3) := by decide +kernel
theorem dX7_term_17 : decode cX7_term 17 = .ok (.iconst 0, 1) := by decide +kernel
theorem dX7_term_18 : decode cX7_term 18 = .ok (.goto 4, 3) := by decide +kernel
theorem dX7_term_21 : decode cX7_term 21 = .ok (.iconst 1, 1) := by decide +kernel
theorem dX7_term_22 : decode cX7_term 22 = .ok (.invokevirtual 78, 3) := by decide +kernel
theorem dX7_term_25 : decode cX7_term 25 = .ok (.ifCond .eq 5, 3) := by decide +kernel
theorem dX7_term_28 : decode cX7_term 28 = .ok (.lconst 0, 1) := by decide +kernel
theorem dX7_term_29 : decode cX7_term 29 = .ok (.lreturn, 1) := by decide +kernel
theorem dX7_term_30 : decode cX7_term 30 = .ok (.iload_n 2, 1) := by decide +kernel
theorem dX7_term_31 : decode cX7_term 31 = .ok (.istore 4, 2) := by decide +kernel
theorem dX7_term_33 : decode cX7_term 33 = .ok (.iconst 0, 1) := by decide +kernel
theorem dX7_term_34 : decode cX7_term 34 = .ok (.istore 5, 2) := by decide +kernel
theorem dX7_term_36 : decode cX7_term 36 = .ok (.iload 5, 2) := by decide +kernel
theorem dX7_term_38 : decode cX7_term 38 = .ok (.bipush 46, 2) := by decide +kernel
theorem dX7_term_40 : decode cX7_term 40 = .ok (.if_icmp .ge 133, 3) := by decide +kernel
theorem dX7_term_43 : decode cX7_term 43 = .ok (.iload_n 2, 1) := by decide +kernel
theorem dX7_term_44 : decode cX7_term 44 = .ok (.ifCond .lt 129, 3) := by decide +kernel
theorem dX7_term_47 : decode cX7_term 47 = .ok (.bipush 12, 2) := by decide +kernel
theorem dX7_term_49 : decode cX7_term 49 = .ok (.istore 6, 2) := by decide +kernel
theorem dX7_term_51 : decode cX7_term 51 = .ok (.iload 6, 2) := by decide +kernel
theorem dX7_term_53 : decode cX7_term 53 = .ok (.bipush (-13), 2) := by decide +kernel
theorem dX7_term_55 : decode cX7_term 55 = .ok (.if_icmp .le 112, 3) := by decide +kernel
theorem dX7_term_58 : decode cX7_term 58 = .ok (.sipush 1150, 3) := by decide +kernel
theorem dX7_term_61 : decode cX7_term 61 = .ok (.iload_n 1, 1) := by decide +kernel
theorem dX7_term_62 : decode cX7_term 62 = .ok (.imul, 1) := by decide +kernel
theorem dX7_term_63 : decode cX7_term 63 = .ok (.bipush 25, 2) := by decide +kernel
theorem dX7_term_65 : decode cX7_term 65 = .ok (.iload 5, 2) := by decide +kernel
theorem dX7_term_67 : decode cX7_term 67 = .ok (.imul, 1) := by decide +kernel
theorem dX7_term_68 : decode cX7_term 68 = .ok (.iadd, 1) := by decide +kernel
theorem dX7_term_69 : decode cX7_term 69 = .ok (.iload 6, 2) := by decide +kernel
theorem dX7_term_71 : decode cX7_term 71 = .ok (.iadd, 1) := by decide +kernel
theorem dX7_term_72 : decode cX7_term 72 = .ok (.bipush 12, 2) := by decide +kernel
theorem dX7_term_74 : decode cX7_term 74 = .ok (.iadd, 1) := by decide +kernel
theorem dX7_term_75 : decode cX7_term 75 = .ok (.istore 7, 2) := by decide +kernel
theorem dX7_term_77 : decode cX7_term 77 = .ok (.aload_n 0, 1) := by decide +kernel
theorem dX7_term_78 : decode cX7_term 78 = .ok (.getfield 20, 3) := by decide +kernel
theorem dX7_term_81 : decode cX7_term 81 = .ok (.iload 7, 2) := by decide +kernel
theorem dX7_term_83 : decode cX7_term 83 = .ok (.laload, 1) := by decide +kernel
theorem dX7_term_84 : decode cX7_term 84 = .ok (.lconst 0, 1) := by decide +kernel
theorem dX7_term_85 : decode cX7_term 85 = .ok (.lcmp, 1) := by decide +kernel
theorem dX7_term_86 : decode cX7_term 86 = .ok (.ifCond .ne 6, 3) := by decide +kernel
theorem dX7_term_89 : decode cX7_term 89 = .ok (.goto 72, 3) := by decide +kernel
theorem dX7_term_92 : decode cX7_term 92 = .ok (.iload 4, 2) := by decide +kernel
theorem dX7_term_94 : decode cX7_term 94 = .ok (.ifCond .ne 64, 3) := by decide +kernel
theorem dX7_term_97 : decode cX7_term 97 = .ok (.iload_n 3, 1) := by decide +kernel
theorem dX7_term_98 : decode cX7_term 98 = .ok (.ifCond .ne 13, 3) := by decide +kernel
theorem dX7_term_101 : decode cX7_term 101 = .ok (.aload_n 0, 1) := by decide +kernel
theorem dX7_term_102 : decode cX7_term 102 = .ok (.getfield 20, 3) := by decide +kernel
theorem dX7_term_105 : decode cX7_term 105 = .ok (.iload 7, 2) := by decide +kernel
theorem dX7_term_107 : decode cX7_term 107 = .ok (.laload, 1) := by decide +kernel
theorem dX7_term_108 : decode cX7_term 108 = .ok (.goto 49, 3) := by decide +kernel
theorem dX7_term_111 : decode cX7_term 111 = .ok (.iload_n 3, 1) := by decide +kernel
theorem dX7_term_112 : decode cX7_term 112 = .ok (.iconst 1, 1) := by decide +kernel
theorem dX7_term_113 : decode cX7_term 113 = .ok (.if_icmp .ne 13, 3) := by decide +kernel
theorem dX7_term_116 : decode cX7_term 116 = .ok (.aload_n 0, 1) := by decide +kernel
theorem dX7_term_117 : decode cX7_term 117 = .ok (.getfield 24, 3) := by decide +kernel
theorem dX7_term_120 : decode cX7_term 120 = .ok (.iload 7, 2) := by decide +kernel
theorem dX7_term_122 : decode cX7_term 122 = .ok (.laload, 1) := by decide +kernel
theorem dX7_term_123 : decode cX7_term 123 = .ok (.goto 34, 3) := by decide +kernel
theorem dX7_term_126 : decode cX7_term 126 = .ok (.iload_n 3, 1) := by decide +kernel
theorem dX7_term_127 : decode cX7_term 127 = .ok (.iconst 2, 1) := by decide +kernel
theorem dX7_term_128 : decode cX7_term 128 = .ok (.if_icmp .ne 12, 3) := by decide +kernel
theorem dX7_term_131 : decode cX7_term 131 = .ok (.iload 5, 2) := by decide +kernel
theorem dX7_term_133 : decode cX7_term 133 = .ok (.invokestatic 141, 3) := by decide +kernel
theorem dX7_term_136 : decode cX7_term 136 = .ok (.i2l, 1) := by decide +kernel
theorem dX7_term_137 : decode cX7_term 137 = .ok (.goto 20, 3) := by decide +kernel
theorem dX7_term_140 : decode cX7_term 140 = .ok (.iload_n 3, 1) := by decide +kernel
theorem dX7_term_141 : decode cX7_term 141 = .ok (.iconst 3, 1) := by decide +kernel
theorem dX7_term_142 : decode cX7_term 142 = .ok (.if_icmp .ne 12, 3) := by decide +kernel
theorem dX7_term_145 : decode cX7_term 145 = .ok (.iload 5, 2) := by decide +kernel
theorem dX7_term_147 : decode cX7_term 147 = .ok (.invokestatic 63, 3) := by decide +kernel
theorem dX7_term_150 : decode cX7_term 150 = .ok (.i2l, 1) := by decide +kernel
theorem dX7_term_151 : decode cX7_term 151 = .ok (.goto 6, 3) := by decide +kernel
theorem dX7_term_154 : decode cX7_term 154 = .ok (.iload 6, 2) := by decide +kernel
theorem dX7_term_156 : decode cX7_term 156 = .ok (.i2l, 1) := by decide +kernel
theorem dX7_term_157 : decode cX7_term 157 = .ok (.lreturn, 1) := by decide +kernel
theorem dX7_term_158 : decode cX7_term 158 = .ok (.iinc 4 (-1), 3) := by decide +kernel
theorem dX7_term_161 : decode cX7_term 161 = .ok (.iinc 6 (-1), 3) := by decide +kernel
theorem dX7_term_164 : decode cX7_term 164 = .ok (.goto (-113), 3) := by decide +kernel
theorem dX7_term_167 : decode cX7_term 167 = .ok (.iinc 5 1, 3) := by decide +kernel
theorem dX7_term_170 : decode cX7_term 170 = .ok (.goto (-134), 3) := by decide +kernel
theorem dX7_term_173 : decode cX7_term 173 = .ok (.lconst 0, 1) := by decide +kernel
theorem dX7_term_174 : decode cX7_term 174 = .ok (.lreturn, 1) := by decide +kernel
end
section
/-! own kit: contracts of two forms. RO: the method reads cells 'rs' and changes nothing. RW: it owns the cells 'w', which become 'w'' at the same addresses, and may read 'rs' apart from them. -/
abbrev tysA (cA : Nat → ClassId) : List (ClassId × FieldType) := [(cA 0, .int), (cA 1, .long), (cA 2, .char), (cA 3, .object "AntiDesk$Sum")]
def nst (U : State) : Prop := va_Nw (.fieldLinkNest "AntiDesk$Reader" 108 "AntiDesk$Line" "length" "I" "AntiDesk") U ∧ va_Nw (.fieldLinkNest "AntiDesk$Reader" 111 "AntiDesk$Line" "characters" "[C" "AntiDesk") U
def kOK (G : va_G) (cA : Nat → ClassId) (U : State) : Prop := va_K G vwCl (tysA cA) U ∧ nst U
theorem kOK.warm {G : va_G} {cA : Nat → ClassId} {s U : State} (hW : s.WarmedH U.vm) (h : kOK G cA s) : kOK G cA U := ⟨va_K.moved hW.alike h.1, va_Nw.warmF hW h.2.1, va_Nw.warmF hW h.2.2⟩
theorem kOK.same {G : va_G} {cA : Nat → ClassId} {u U : State} (e : u.vm = U.vm) (h : kOK G cA u) : kOK G cA U := ⟨va_K.moved (by rw [e]; exact Vm.Alike.refl _) h.1, va_Nw.same rfl e h.2.1, va_Nw.same rfl e h.2.2⟩
/-- the addresses of a world -/
def adr (ws : va_W) : Nat → Prop := fun q => ∃ (k : Nat) (e : va_E), ws[k]? = some (q, e)
theorem adr.self {ws : va_W} {A : Nat → Prop} (h : va_D A ws) : va_D (adr ws) ws := ⟨h.1, fun k q hk => ⟨k, q.2, hk⟩⟩
def apart (rs ws : va_W) : Prop := ∀ (k : Nat) (q : Nat × va_E), rs[k]? = some q → ¬ adr ws q.1
def cR (G : va_G) (cA : Nat → ClassId) (av : List Value) (rs : va_W) : Array Value → State → Prop := va_Pc av (fun U => kOK G cA U ∧ va_P G vwCl rs U.heap)
def cW (G : va_G) (cA : Nat → ClassId) (av : List Value) (ws rs : va_W) : Array Value → State → Prop := va_Pc av (fun U => kOK G cA U ∧ va_P G vwCl ws U.heap ∧ va_D (fun _ => True) ws ∧ va_P G vwCl rs U.heap ∧ apart rs ws)
theorem cR.blind {G : va_G} {cA : Nat → ClassId} {av : List Value} {rs : va_W} : FrameBlind (cR G cA av rs) := fun a U g mk q => ⟨q.1, kOK.same (u := U) rfl q.2.1, q.2.2⟩
theorem cW.blind {G : va_G} {cA : Nat → ClassId} {av : List Value} {ws rs : va_W} : FrameBlind (cW G cA av ws rs) := fun a U g mk q => ⟨q.1, kOK.same (u := U) rfl q.2.1, q.2.2⟩
def qWi (G : va_G) (w w' : va_W) (r : Int32) : Array Value → State → Outcome → State → Prop := va_Qi (fun x (_ : Unit) => x = r) (fun _ t => va_P G vwCl w' t.heap) (adr w)
def qWl (G : va_G) (w w' : va_W) (r : Int64) : Array Value → State → Outcome → State → Prop := va_Ql (fun x (_ : Unit) => x = r) (fun _ t => va_P G vwCl w' t.heap) (adr w)
def qWv (G : va_G) (w w' : va_W) : Array Value → State → Outcome → State → Prop := va_Qv (fun (_ : Unit) => True) (fun _ t => va_P G vwCl w' t.heap) (adr w)
def MRi (l : Launch) (y : MethodName) (ws : List Cond) (rm : Room) (G : va_G) (cA : Nat → ClassId) (av : List Value) (rs : va_W) (r : Int32) : Prop := Met l y ws rm (cR G cA av rs) (vp_Si (fun x => x = r)) 0 0 (fun _ => False)
def MRl (l : Launch) (y : MethodName) (ws : List Cond) (rm : Room) (G : va_G) (cA : Nat → ClassId) (av : List Value) (rs : va_W) (r : Int64) : Prop := Met l y ws rm (cR G cA av rs) (vp_Sl (fun x => x = r)) 0 0 (fun _ => False)
def MWi (l : Launch) (y : MethodName) (ws : List Cond) (rm : Room) (G : va_G) (cA : Nat → ClassId) (av : List Value) (w rs w' : va_W) (r : Int32) : Prop := Met l y ws rm (cW G cA av w rs) (qWi G w w' r) 0 0 (adr w)
def MWl (l : Launch) (y : MethodName) (ws : List Cond) (rm : Room) (G : va_G) (cA : Nat → ClassId) (av : List Value) (w rs w' : va_W) (r : Int64) : Prop := Met l y ws rm (cW G cA av w rs) (qWl G w w' r) 0 0 (adr w)
def MWv (l : Launch) (y : MethodName) (ws : List Cond) (rm : Room) (G : va_G) (cA : Nat → ClassId) (av : List Value) (w rs w' : va_W) : Prop := Met l y ws rm (cW G cA av w rs) (qWv G w w') 0 0 (adr w)
theorem pick_at {W0 w : va_W} {is : List Nat} (hs : is.map (fun i => W0[i]?) = w.map some) {k : Nat} {q : Nat × va_E} (hq : w[k]? = some q) : ∃ i, is[k]? = some i ∧ W0[i]? = some q := by
  have h1 : (is.map (fun i => W0[i]?))[k]? = some (some q) := by rw [hs, List.getElem?_map, hq]; rfl
  rw [List.getElem?_map] at h1
  cases hi : is[k]? with
  | none => rw [hi] at h1; cases h1
  | some i => rw [hi] at h1; exact ⟨i, rfl, Option.some.inj h1⟩
theorem pk {G : va_G} {cl : List vw_C} {W0 w : va_W} {H : Heap} (hP : va_P G cl W0 H) (is : List Nat) (hs : is.map (fun i => W0[i]?) = w.map some) : va_P G cl w H := fun k q hq => by
  obtain ⟨i, -, h⟩ := pick_at hs hq
  exact hP i q h
theorem va_D.same {A : Nat → Prop} {W0 W1 : va_W} (h : W1.map Prod.fst = W0.map Prod.fst) (hD : va_D A W0) : va_D A W1 := by
  have at' : ∀ (i : Nat) (p : Nat × va_E), W1[i]? = some p → ∃ p0 : Nat × va_E, W0[i]? = some p0 ∧ p0.1 = p.1 := by
    intro i p hp
    have h1 : (W1.map Prod.fst)[i]? = some p.1 := by rw [List.getElem?_map, hp]; rfl
    rw [h, List.getElem?_map] at h1
    cases h0 : W0[i]? with
    | none => rw [h0] at h1; cases h1
    | some p0 => rw [h0] at h1; exact ⟨p0, rfl, Option.some.inj h1⟩
  refine ⟨fun i j p q hp hq e => ?_, fun k q hq => ?_⟩
  · obtain ⟨p0, h1, e1⟩ := at' i p hp
    obtain ⟨q0, h2, e2⟩ := at' j q hq
    exact hD.1 i j p0 q0 h1 h2 (by rw [e1, e2, e])
  · obtain ⟨q0, h1, e1⟩ := at' k q hq
    rw [← e1]
    exact hD.2 k q0 h1
theorem adr_in {A : Nat → Prop} {W0 w : va_W} (hD : va_D A W0) {is : List Nat} (hs : is.map (fun i => W0[i]?) = w.map some) : ∀ q, adr w q → A q := fun q ⟨k, e, h⟩ => by
  obtain ⟨i, -, h1⟩ := pick_at hs h
  exact hD.2 i _ h1
/-- behind a call: the callee's cells as they became, the caller's others as they were -/
theorem w_call {G : va_G} {cl : List vw_C} {A : Nat → Prop} {W0 w w' W1 : va_W} {H H1 : Heap} (hP : va_P G cl W0 H) (hD : va_D A W0) (isC isB : List Nat) (hC : isC.map (fun i => W0[i]?) = w.map some) (hB : isB.map (fun i => (W0 ++ w')[i]?) = W1.map some) (hdis : ∀ i ∈ isB, i ∉ isC) (hadr : W1.map Prod.fst = W0.map Prod.fst) (hk : ∀ q : Nat, q < H.size → ¬ adr w q → H1[q]? = H[q]?) (hP1 : va_P G cl w' H1) : va_P G cl W1 H1 ∧ va_D A W1 := by
  refine ⟨fun k q hq => ?_, va_D.same hadr hD⟩
  obtain ⟨i, h1, h2⟩ := pick_at hB hq
  rcases Nat.lt_or_ge i W0.length with hi | hi
  · rw [List.getElem?_append_left hi] at h2
    refine (hP i q h2).kept (hk q.1 (hP i q h2).lt (fun ⟨k2, e, h3⟩ => ?_))
    obtain ⟨j, h4, h5⟩ := pick_at hC h3
    have hij := hD.1 i j q (q.1, e) h2 h5 rfl
    subst hij
    exact hdis i (List.mem_of_getElem? h1) (List.mem_of_getElem? h4)
  · rw [List.getElem?_append_right hi] at h2
    exact hP1 _ q h2
theorem roP {G : va_G} {cl : List vw_C} {A : Nat → Prop} {rs : va_W} {H0 H : Heap} {locs : List Loc} (hR : va_P G cl rs H0) (hRA : ∀ (k : Nat) (q : Nat × va_E), rs[k]? = some q → ¬ A q.1) (hS : va_S A H0 H locs) : va_P G cl rs H := fun k q hq => (hR k q hq).kept (hS.2.1 q.1 (hR k q hq).lt (hRA k q hq))
theorem dj_own {A : Nat → Prop} {W0 w r : va_W} (hD : va_D A W0) {isC : List Nat} (isR : List Nat) (hC : isC.map (fun i => W0[i]?) = w.map some) (hR : isR.map (fun i => W0[i]?) = r.map some) (hdis : ∀ i ∈ isR, i ∉ isC) : apart r w := fun k q hq ⟨k2, e, h3⟩ => by
  obtain ⟨i, h1, h2⟩ := pick_at hR hq
  obtain ⟨j, h4, h5⟩ := pick_at hC h3
  have hij := hD.1 i j q (q.1, e) h2 h5 rfl
  subst hij
  exact hdis i (List.mem_of_getElem? h1) (List.mem_of_getElem? h4)
theorem dj_ro {A : Nat → Prop} {W0 w rs r : va_W} (hD : va_D A W0) (hRA : ∀ (k : Nat) (q : Nat × va_E), rs[k]? = some q → ¬ A q.1) {isC : List Nat} (isR : List Nat) (hC : isC.map (fun i => W0[i]?) = w.map some) (hR : isR.map (fun i => rs[i]?) = r.map some) : apart r w := fun k q hq hz => by
  obtain ⟨i, h1, h2⟩ := pick_at hR hq
  exact hRA i q h2 (adr_in hD hC q.1 hz)
theorem dj_nil {w : va_W} : apart [] w := fun k q hq => by simp at hq
theorem va_Pnil {G : va_G} {cl : List vw_C} {H : Heap} : va_P G cl [] H := fun k q hq => by simp at hq
theorem dj_app {a b w : va_W} (ha : apart a w) (hb : apart b w) : apart (a ++ b) w := fun k q hq => by
  rcases List.mem_append.mp (List.mem_of_getElem? hq) with h | h
  · obtain ⟨i, hi⟩ := List.getElem?_of_mem h
    exact ha i q hi
  · obtain ⟨i, hi⟩ := List.getElem?_of_mem h
    exact hb i q hi
/-! pure words of the functions that are read off the bytecode -/
def inb (i : Int32) (n : Nat) : Bool := decide (0 ≤ i.toInt ∧ i.toInt < (n : Int))
theorem inb_in {i : Int32} {n : Nat} (h : inb i n = true) : vp_in i n := vp_in_iff.mpr (of_decide_eq_true h)
def zb (v : Int32) : Bool := v == 0 || v == 1
theorem zb_n {v : Int32} (h : zb v = true) : narrow .boolean (.int v) = .int v := by
  unfold zb at h
  rw [Bool.or_eq_true, beq_iff_eq, beq_iff_eq] at h
  rcases h with rfl | rfl <;> decide
theorem zb_f {v : Int32} (h : zb v = true) : fits .boolean (.int v) = true := by
  unfold zb at h
  rw [Bool.or_eq_true, beq_iff_eq, beq_iff_eq] at h
  rcases h with rfl | rfl <;> decide
def cb (v : Int32) : Bool := vp_nar .char v == v
theorem cb_n {v : Int32} (h : cb v = true) : narrow .char (.int v) = .int v := by
  have h1 : vp_nar .char v = v := by unfold cb at h; exact beq_iff_eq.mp h
  have h2 : narrow .char (.int v) = .int (vp_nar .char v) := rfl
  rw [h2, h1]
theorem oif {α : Type} {c : Prop} [Decidable c] {x : Option α} {r : α} (h : (if c then x else none) = some r) : c ∧ x = some r := by
  by_cases hc : c
  · rw [if_pos hc] at h; exact ⟨hc, h⟩
  · rw [if_neg hc] at h; cases h
theorem obd {α β : Type} {x : Option α} {f : α → Option β} {r : β} (h : x.bind f = some r) : ∃ q, x = some q ∧ f q = some r := by
  cases x with
  | none => cases h
  | some q => exact ⟨q, rfl, h⟩
/-- the fuel of every loop: more than any loop here runs -/
def fuel : Nat := 12000
section OKC
variable {p : Program} {l : Launch} {e : Env} {R : Room} {s : State} {m : MethodId} {args : Array Value} {below : List Frame} {meth : Method} {c : Code} {H : Heap} {locs : List Loc} {cells slots : Nat} {Q : State → Prop}
variable {y : MethodName} {bytes cc : ByteArray} {maxL nL n index : Nat} {ret : Option FieldType} {ws : List Cond} {rm : Room} {own C : String} {b : Addr} {As rest st0 : List Value} {pc : Nat} {ls : Array Slot}
variable {G : va_G} {cA : Nat → ClassId} {rs w w' W0 W1 : va_W} {A : Nat → Prop} {H0 : Heap}
theorem cwV9 {index : Nat} (n : Nat) (ht : ∀ w ∈ wd, w.before args s = true) (hcode : Cond.code y bytes maxL ret ∈ wd) (hinst : Cond.instanceMethod y ∈ wd) (hsel : Cond.selects C y y ∈ wd) (hini : Cond.initialized C ∈ wd) (hlink : Cond.methodLink own index y ∈ wd)
    (hd : y.cls = C ∧ y.cls ≠ "java/lang/invoke/MethodHandle" ∧ y.cls ≠ "java/lang/invoke/VarHandle" ∧ (parseMethodDescriptor y.desc).map (fun d => d.parameters.length) = some n) (hrc : rm.cells = 0) (hrs : rm.slots = 0) (hR : rm.frames + 1 ≤ R.frames ∧ 8 + (maxL + 11) + rm.locals ≤ R.locals) :
    CallW R s args own C index y bytes maxL ret (Cond.code y bytes maxL ret :: wd) rm 0 0 n := by
  obtain ⟨hC, hd⟩ := hd
  subst hC
  have hG : GoodIn wd (Cond.code y bytes maxL ret :: wd) := fun w h => by
    rcases List.mem_cons.mp h with rfl | h
    · exact ⟨hcode, good_of_word (List.mem_filter.mp hcode).2⟩
    · exact ⟨h, good_of_word (List.mem_filter.mp h).2⟩
  exact ⟨callB_of n ht hG rfl hrc hrs (ht _ hini) (ht _ hlink) hd hR, ht _ hinst, ht _ hsel⟩
theorem cwS9 {index : Nat} (n : Nat) (ht : ∀ w ∈ wd, w.before args s = true) (hcode : Cond.code y bytes maxL ret ∈ wd) (hstat : Cond.static y ∈ wd) (hini : Cond.initialized y.cls ∈ wd) (hlink : Cond.methodLink own index y ∈ wd)
    (hd : y.cls ≠ "java/lang/invoke/MethodHandle" ∧ y.cls ≠ "java/lang/invoke/VarHandle" ∧ (parseMethodDescriptor y.desc).map (fun d => d.parameters.length) = some n) (hrc : rm.cells = 0) (hrs : rm.slots = 0) (hR : rm.frames + 1 ≤ R.frames ∧ 8 + (maxL + 11) + rm.locals ≤ R.locals) :
    CallB R s args own index y bytes maxL ret (Cond.code y bytes maxL ret :: wd) rm 0 0 n ∧ (Cond.static y).before args s = true := by
  have hG : GoodIn wd (Cond.code y bytes maxL ret :: wd) := fun w h => by
    rcases List.mem_cons.mp h with rfl | h
    · exact ⟨hcode, good_of_word (List.mem_filter.mp hcode).2⟩
    · exact ⟨h, good_of_word (List.mem_filter.mp h).2⟩
  exact ⟨callB_of n ht hG rfl hrc hrs (ht _ hini) (ht _ hlink) hd hR, ht _ hstat⟩
/-! calls that read -/
theorem cRiV {r : Int32} (S : CallFix p m c cc nL s args wd own) (hM : MRi l y ws rm G cA (.ref b :: As) rs r) (cw : CallW R s args own C index y bytes maxL ret ws rm 0 0 n) (hk : kOK G cA s) (hP : va_P G vwCl rs H) (hrecv : ∃ cellB : Cell, H[b]? = some cellB ∧ cellB.vm.isStatics = false ∧ s.vm.findClass C = some cellB.cls)
    (hn : As.length = n) (hsize : ls.size = nL) (hst : st0 = As.reverse ++ .ref b :: rest) (hW : (rest.map fun v => v.category).sum ≤ 8) (hdg : decode cc pc = .ok (.invokevirtual index, 3)) (hf : cells + 0 ≤ R.cells ∧ slots + 0 ≤ R.slots)
    (kk : W p l e R s m args below meth c H locs cells slots Q (F0 m (pc + 3) ls (.int r :: rest))) : W p l e R s m args below meth c H locs cells slots Q (F0 m pc ls st0) :=
  vp_callSi (W.runV (g := F0 m pc ls st0) S hM cw ⟨cR.blind, hrecv, fun U hU hW => ⟨rfl, hk.warm hW, by rw [hU]; exact hP⟩⟩ rfl hn hsize hst (lv_room hW) hdg hf) (fun x hx => by rw [hx]; exact kk)
theorem cRlV {r : Int64} (S : CallFix p m c cc nL s args wd own) (hM : MRl l y ws rm G cA (.ref b :: As) rs r) (cw : CallW R s args own C index y bytes maxL ret ws rm 0 0 n) (hk : kOK G cA s) (hP : va_P G vwCl rs H) (hrecv : ∃ cellB : Cell, H[b]? = some cellB ∧ cellB.vm.isStatics = false ∧ s.vm.findClass C = some cellB.cls)
    (hn : As.length = n) (hsize : ls.size = nL) (hst : st0 = As.reverse ++ .ref b :: rest) (hW : (rest.map fun v => v.category).sum ≤ 8) (hdg : decode cc pc = .ok (.invokevirtual index, 3)) (hf : cells + 0 ≤ R.cells ∧ slots + 0 ≤ R.slots)
    (kk : W p l e R s m args below meth c H locs cells slots Q (F0 m (pc + 3) ls (.long r :: rest))) : W p l e R s m args below meth c H locs cells slots Q (F0 m pc ls st0) :=
  vp_callSl (W.runV (g := F0 m pc ls st0) S hM cw ⟨cR.blind, hrecv, fun U hU hW => ⟨rfl, hk.warm hW, by rw [hU]; exact hP⟩⟩ rfl hn hsize hst (lv_room hW) hdg hf) (fun x hx => by rw [hx]; exact kk)
theorem cRiS {r : Int32} (S : CallFix p m c cc nL s args wd own) (hM : MRi l y ws rm G cA As rs r) (cw : CallB R s args own index y bytes maxL ret ws rm 0 0 n ∧ (Cond.static y).before args s = true) (hk : kOK G cA s) (hP : va_P G vwCl rs H)
    (hn : As.length = n) (hsize : ls.size = nL) (hst : st0 = As.reverse ++ rest) (hW : (rest.map fun v => v.category).sum ≤ 8) (hdg : decode cc pc = .ok (.invokestatic index, 3)) (hf : cells + 0 ≤ R.cells ∧ slots + 0 ≤ R.slots)
    (kk : W p l e R s m args below meth c H locs cells slots Q (F0 m (pc + 3) ls (.int r :: rest))) : W p l e R s m args below meth c H locs cells slots Q (F0 m pc ls st0) :=
  vp_callSi (W.runS (g := F0 m pc ls st0) S hM cw ⟨cR.blind, fun U hU hW => ⟨rfl, hk.warm hW, by rw [hU]; exact hP⟩⟩ rfl hn hsize hst (lv_room hW) hdg hf) (fun x hx => by rw [hx]; exact kk)
theorem cRlS {r : Int64} (S : CallFix p m c cc nL s args wd own) (hM : MRl l y ws rm G cA As rs r) (cw : CallB R s args own index y bytes maxL ret ws rm 0 0 n ∧ (Cond.static y).before args s = true) (hk : kOK G cA s) (hP : va_P G vwCl rs H)
    (hn : As.length = n) (hsize : ls.size = nL) (hst : st0 = As.reverse ++ rest) (hW : (rest.map fun v => v.category).sum ≤ 8) (hdg : decode cc pc = .ok (.invokestatic index, 3)) (hf : cells + 0 ≤ R.cells ∧ slots + 0 ≤ R.slots)
    (kk : W p l e R s m args below meth c H locs cells slots Q (F0 m (pc + 3) ls (.long r :: rest))) : W p l e R s m args below meth c H locs cells slots Q (F0 m pc ls st0) :=
  vp_callSl (W.runS (g := F0 m pc ls st0) S hM cw ⟨cR.blind, fun U hU hW => ⟨rfl, hk.warm hW, by rw [hU]; exact hP⟩⟩ rfl hn hsize hst (lv_room hW) hdg hf) (fun x hx => by rw [hx]; exact kk)
/-! calls that write -/
theorem pre9 (hk : kOK G cA s) (hP : va_P G vwCl W0 H) (hD : va_D A W0) {isC : List Nat} (hC : isC.map (fun i => W0[i]?) = w.map some) (hnC : va_nd isC = true) (hR : va_P G vwCl rs H) (hRd : apart rs w) {av : List Value} : ∀ U : State, U.heap = H → s.WarmedH U.vm → cW G cA av w rs av.toArray U := fun U hU hW => ⟨rfl, hk.warm hW, by rw [hU]; exact pk hP isC hC, (hD.sub isC hnC hC).weaken (fun _ _ _ _ => trivial), by rw [hU]; exact hR, hRd⟩
theorem cWiV {r : Int32} (S : CallFix p m c cc nL s args wd own) (hM : MWi l y ws rm G cA (.ref b :: As) w rs w' r) (cw : CallW R s args own C index y bytes maxL ret ws rm 0 0 n) (hk : kOK G cA s) (hP : va_P G vwCl W0 H) (hD : va_D A W0) (hS : va_S A H0 H locs) (isC isB : List Nat) (hC : isC.map (fun i => W0[i]?) = w.map some) (hnC : va_nd isC = true) (hB : isB.map (fun i => (W0 ++ w')[i]?) = W1.map some) (hdis : ∀ i ∈ isB, i ∉ isC) (hadr : W1.map Prod.fst = W0.map Prod.fst) (hR : va_P G vwCl rs H) (hRd : apart rs w) (hrecv : ∃ cellB : Cell, H[b]? = some cellB ∧ cellB.vm.isStatics = false ∧ s.vm.findClass C = some cellB.cls)
    (hn : As.length = n) (hsize : ls.size = nL) (hst : st0 = As.reverse ++ .ref b :: rest) (hW : (rest.map fun v => v.category).sum ≤ 8) (hdg : decode cc pc = .ok (.invokevirtual index, 3)) (hf : cells + 0 ≤ R.cells ∧ slots + 0 ≤ R.slots)
    (kk : ∀ (H1 : Heap) (locs1 : List Loc), va_P G vwCl W1 H1 → va_D A W1 → va_S A H0 H1 locs1 → W p l e R s m args below meth c H1 locs1 cells slots Q (F0 m (pc + 3) ls (.int r :: rest))) : W p l e R s m args below meth c H locs cells slots Q (F0 m pc ls st0) := by
  refine va_calli (va_runV (g := F0 m pc ls st0) S hM cw ⟨cW.blind, hrecv, pre9 hk hP hD hC hnC hR hRd⟩ rfl hn hsize hst (lv_room hW) hdg hf) hS (fun q _ h => adr_in hD hC q h) (adr_in hD hC) (fun x u t H1 locs1 ht hvm hw hB1 hz1 hk1 hS1 => ?_)
  obtain ⟨hP2, hD2⟩ := w_call hP hD isC isB hC hB hdis hadr hk1 (by rw [← ht]; exact hB1)
  subst hw
  exact kk H1 locs1 hP2 hD2 hS1
theorem cWlV {r : Int64} (S : CallFix p m c cc nL s args wd own) (hM : MWl l y ws rm G cA (.ref b :: As) w rs w' r) (cw : CallW R s args own C index y bytes maxL ret ws rm 0 0 n) (hk : kOK G cA s) (hP : va_P G vwCl W0 H) (hD : va_D A W0) (hS : va_S A H0 H locs) (isC isB : List Nat) (hC : isC.map (fun i => W0[i]?) = w.map some) (hnC : va_nd isC = true) (hB : isB.map (fun i => (W0 ++ w')[i]?) = W1.map some) (hdis : ∀ i ∈ isB, i ∉ isC) (hadr : W1.map Prod.fst = W0.map Prod.fst) (hR : va_P G vwCl rs H) (hRd : apart rs w) (hrecv : ∃ cellB : Cell, H[b]? = some cellB ∧ cellB.vm.isStatics = false ∧ s.vm.findClass C = some cellB.cls)
    (hn : As.length = n) (hsize : ls.size = nL) (hst : st0 = As.reverse ++ .ref b :: rest) (hW : (rest.map fun v => v.category).sum ≤ 8) (hdg : decode cc pc = .ok (.invokevirtual index, 3)) (hf : cells + 0 ≤ R.cells ∧ slots + 0 ≤ R.slots)
    (kk : ∀ (H1 : Heap) (locs1 : List Loc), va_P G vwCl W1 H1 → va_D A W1 → va_S A H0 H1 locs1 → W p l e R s m args below meth c H1 locs1 cells slots Q (F0 m (pc + 3) ls (.long r :: rest))) : W p l e R s m args below meth c H locs cells slots Q (F0 m pc ls st0) := by
  refine va_calll (va_runV (g := F0 m pc ls st0) S hM cw ⟨cW.blind, hrecv, pre9 hk hP hD hC hnC hR hRd⟩ rfl hn hsize hst (lv_room hW) hdg hf) hS (fun q _ h => adr_in hD hC q h) (adr_in hD hC) (fun x u t H1 locs1 ht hvm hw hB1 hz1 hk1 hS1 => ?_)
  obtain ⟨hP2, hD2⟩ := w_call hP hD isC isB hC hB hdis hadr hk1 (by rw [← ht]; exact hB1)
  subst hw
  exact kk H1 locs1 hP2 hD2 hS1
theorem cWvV (S : CallFix p m c cc nL s args wd own) (hM : MWv l y ws rm G cA (.ref b :: As) w rs w') (cw : CallW R s args own C index y bytes maxL ret ws rm 0 0 n) (hk : kOK G cA s) (hP : va_P G vwCl W0 H) (hD : va_D A W0) (hS : va_S A H0 H locs) (isC isB : List Nat) (hC : isC.map (fun i => W0[i]?) = w.map some) (hnC : va_nd isC = true) (hB : isB.map (fun i => (W0 ++ w')[i]?) = W1.map some) (hdis : ∀ i ∈ isB, i ∉ isC) (hadr : W1.map Prod.fst = W0.map Prod.fst) (hR : va_P G vwCl rs H) (hRd : apart rs w) (hrecv : ∃ cellB : Cell, H[b]? = some cellB ∧ cellB.vm.isStatics = false ∧ s.vm.findClass C = some cellB.cls)
    (hn : As.length = n) (hsize : ls.size = nL) (hst : st0 = As.reverse ++ .ref b :: rest) (hW : (rest.map fun v => v.category).sum ≤ 8) (hdg : decode cc pc = .ok (.invokevirtual index, 3)) (hf : cells + 0 ≤ R.cells ∧ slots + 0 ≤ R.slots)
    (kk : ∀ (H1 : Heap) (locs1 : List Loc), va_P G vwCl W1 H1 → va_D A W1 → va_S A H0 H1 locs1 → W p l e R s m args below meth c H1 locs1 cells slots Q (F0 m (pc + 3) ls rest)) : W p l e R s m args below meth c H locs cells slots Q (F0 m pc ls st0) := by
  refine va_callv (va_runV (g := F0 m pc ls st0) S hM cw ⟨cW.blind, hrecv, pre9 hk hP hD hC hnC hR hRd⟩ rfl hn hsize hst (lv_room hW) hdg hf) hS (fun q _ h => adr_in hD hC q h) (adr_in hD hC) (fun u t H1 locs1 ht hvm hw hB1 hz1 hk1 hS1 => ?_)
  obtain ⟨hP2, hD2⟩ := w_call hP hD isC isB hC hB hdis hadr hk1 (by rw [← ht]; exact hB1)
  exact kk H1 locs1 hP2 hD2 hS1
theorem cWiS {r : Int32} (S : CallFix p m c cc nL s args wd own) (hM : MWi l y ws rm G cA As w rs w' r) (cw : CallB R s args own index y bytes maxL ret ws rm 0 0 n ∧ (Cond.static y).before args s = true) (hk : kOK G cA s) (hP : va_P G vwCl W0 H) (hD : va_D A W0) (hS : va_S A H0 H locs) (isC isB : List Nat) (hC : isC.map (fun i => W0[i]?) = w.map some) (hnC : va_nd isC = true) (hB : isB.map (fun i => (W0 ++ w')[i]?) = W1.map some) (hdis : ∀ i ∈ isB, i ∉ isC) (hadr : W1.map Prod.fst = W0.map Prod.fst) (hR : va_P G vwCl rs H) (hRd : apart rs w)
    (hn : As.length = n) (hsize : ls.size = nL) (hst : st0 = As.reverse ++ rest) (hW : (rest.map fun v => v.category).sum ≤ 8) (hdg : decode cc pc = .ok (.invokestatic index, 3)) (hf : cells + 0 ≤ R.cells ∧ slots + 0 ≤ R.slots)
    (kk : ∀ (H1 : Heap) (locs1 : List Loc), va_P G vwCl W1 H1 → va_D A W1 → va_S A H0 H1 locs1 → W p l e R s m args below meth c H1 locs1 cells slots Q (F0 m (pc + 3) ls (.int r :: rest))) : W p l e R s m args below meth c H locs cells slots Q (F0 m pc ls st0) := by
  refine va_calli (va_runS (g := F0 m pc ls st0) S hM cw ⟨cW.blind, pre9 hk hP hD hC hnC hR hRd⟩ rfl hn hsize hst (lv_room hW) hdg hf) hS (fun q _ h => adr_in hD hC q h) (adr_in hD hC) (fun x u t H1 locs1 ht hvm hw hB1 hz1 hk1 hS1 => ?_)
  obtain ⟨hP2, hD2⟩ := w_call hP hD isC isB hC hB hdis hadr hk1 (by rw [← ht]; exact hB1)
  subst hw
  exact kk H1 locs1 hP2 hD2 hS1
theorem cWvS (S : CallFix p m c cc nL s args wd own) (hM : MWv l y ws rm G cA As w rs w') (cw : CallB R s args own index y bytes maxL ret ws rm 0 0 n ∧ (Cond.static y).before args s = true) (hk : kOK G cA s) (hP : va_P G vwCl W0 H) (hD : va_D A W0) (hS : va_S A H0 H locs) (isC isB : List Nat) (hC : isC.map (fun i => W0[i]?) = w.map some) (hnC : va_nd isC = true) (hB : isB.map (fun i => (W0 ++ w')[i]?) = W1.map some) (hdis : ∀ i ∈ isB, i ∉ isC) (hadr : W1.map Prod.fst = W0.map Prod.fst) (hR : va_P G vwCl rs H) (hRd : apart rs w)
    (hn : As.length = n) (hsize : ls.size = nL) (hst : st0 = As.reverse ++ rest) (hW : (rest.map fun v => v.category).sum ≤ 8) (hdg : decode cc pc = .ok (.invokestatic index, 3)) (hf : cells + 0 ≤ R.cells ∧ slots + 0 ≤ R.slots)
    (kk : ∀ (H1 : Heap) (locs1 : List Loc), va_P G vwCl W1 H1 → va_D A W1 → va_S A H0 H1 locs1 → W p l e R s m args below meth c H1 locs1 cells slots Q (F0 m (pc + 3) ls rest)) : W p l e R s m args below meth c H locs cells slots Q (F0 m pc ls st0) := by
  refine va_callv (va_runS (g := F0 m pc ls st0) S hM cw ⟨cW.blind, pre9 hk hP hD hC hnC hR hRd⟩ rfl hn hsize hst (lv_room hW) hdg hf) hS (fun q _ h => adr_in hD hC q h) (adr_in hD hC) (fun u t H1 locs1 ht hvm hw hB1 hz1 hk1 hS1 => ?_)
  obtain ⟨hP2, hD2⟩ := w_call hP hD isC isB hC hB hdis hadr hk1 (by rw [← ht]; exact hB1)
  exact kk H1 locs1 hP2 hD2 hS1
end OKC
/-- what stands all through a method's body -/
def Amb (p : Program) (s : State) (m : MethodId) (args : Array Value) (meth : Method) (c : Code) (cc : ByteArray) (own : String) (nL : Nat) (ret : Option FieldType) (G : va_G) (cA : Nat → ClassId) (A : Nat → Prop) (rs : va_W) : Prop :=
  p.tables.exec = Jvm.exec ∧ c.code = cc ∧ meth.sig.returnType = ret ∧ c.maxLocals = nL ∧ s.vm.findClass own = some m.cls ∧ (∀ w ∈ wd, w.before args s = true) ∧ meth.locks = false ∧ kOK G cA s ∧ va_P G vwCl rs s.heap ∧ ∀ (k : Nat) (q : Nat × va_E), rs[k]? = some q → ¬ A q.1
theorem toT {G : va_G} {cl : List vw_C} {w : va_W} {H : Heap} {t : State} (ht : t.heap = H) (hP : va_P G cl w H) : va_P G cl w t.heap := by rw [ht]; exact hP
def mabs32 (x : Int32) : Int32 := if 0 ≤ x then x else 0 - x
def mabs64 (x : Int64) : Int64 := if 0 < x then x else -x
def mmax32 (x y : Int32) : Int32 := if x < y then y else x
def mmin32 (x y : Int32) : Int32 := if y < x then y else x
theorem wm_abs32 : Cond.code Lib.Math.abs.name Lib.Math.abs.code 1 (some .int) ∈ wd := wi_443
theorem wm_abs64 : Cond.code Lib.MathLoose.abs_long.x Lib.MathLoose.abs_long.code 2 (some .long) ∈ wd := wi_419
theorem wm_max32 : Cond.code Lib.Math.max.name Lib.Math.max.code 2 (some .int) ∈ wd := wi_586
theorem wm_min32 : Cond.code Lib.Math.min.name Lib.Math.min.code 2 (some .int) ∈ wd := wi_459
section OKM
variable {p : Program} {l : Launch} {e : Env} {R : Room} {s : State} {m : MethodId} {args : Array Value} {below : List Frame} {meth : Method} {c : Code} {H : Heap} {locs : List Loc} {cells slots : Nat} {Q : State → Prop} {cc : ByteArray} {pc : Nat} {ls : Array Slot} {rest : List Value} {own : String} {index : Nat}
theorem k_abs32 (hexec : p.tables.exec = Jvm.exec) (hb : c.code = cc) (hml : c.maxLocals = ls.size) (hown : s.vm.findClass own = some m.cls) (hts : ∀ w ∈ wd, w.before args s = true) (hlink : Cond.methodLink own index yJ9_abs_0f7a4 ∈ wd) (hframes : 1 ≤ R.frames) (hlocals : (rest.map fun v => v.category).sum + 13 ≤ R.locals) (hc : cells ≤ R.cells) (hs : slots ≤ R.slots) {x : Int32} (hdg : decode cc pc = .ok (.invokestatic index, 3))
    (kk : W p l e R s m args below meth c H locs cells slots Q (F0 m (pc + 3) ls (.int (mabs32 x) :: rest))) : W p l e R s m args below meth c H locs cells slots Q (F0 m pc ls (.int x :: rest)) :=
  va_mabs hexec hb hml hown (hts _ hlink) (hts _ wi_442) (hts _ wi_66) (hts _ wm_abs32) hframes hlocals hc hs hdg kk
theorem k_abs64 (hexec : p.tables.exec = Jvm.exec) (hb : c.code = cc) (hml : c.maxLocals = ls.size) (hown : s.vm.findClass own = some m.cls) (hts : ∀ w ∈ wd, w.before args s = true) (hlink : Cond.methodLink own index yJ9_abs_067f4 ∈ wd) (hframes : 1 ≤ R.frames) (hlocals : (rest.map fun v => v.category).sum + 13 ≤ R.locals) (hc : cells ≤ R.cells) (hs : slots ≤ R.slots) {x : Int64} (hdg : decode cc pc = .ok (.invokestatic index, 3))
    (kk : W p l e R s m args below meth c H locs cells slots Q (F0 m (pc + 3) ls (.long (mabs64 x) :: rest))) : W p l e R s m args below meth c H locs cells slots Q (F0 m pc ls (.long x :: rest)) :=
  va_mabs_long hexec hb hml hown (hts _ hlink) (hts _ wi_418) (hts _ wi_66) (hts _ wm_abs64) hframes hlocals hc hs hdg kk
theorem k_max32 (hexec : p.tables.exec = Jvm.exec) (hb : c.code = cc) (hml : c.maxLocals = ls.size) (hown : s.vm.findClass own = some m.cls) (hts : ∀ w ∈ wd, w.before args s = true) (hlink : Cond.methodLink own index yJ9_max_7cf53 ∈ wd) (hframes : 1 ≤ R.frames) (hlocals : (rest.map fun v => v.category).sum + 13 ≤ R.locals) (hc : cells ≤ R.cells) (hs : slots ≤ R.slots) {x y : Int32} (hdg : decode cc pc = .ok (.invokestatic index, 3))
    (kk : W p l e R s m args below meth c H locs cells slots Q (F0 m (pc + 3) ls (.int (mmax32 x y) :: rest))) : W p l e R s m args below meth c H locs cells slots Q (F0 m pc ls (.int y :: .int x :: rest)) :=
  va_mmax hexec hb hml hown (hts _ hlink) (hts _ wi_585) (hts _ wi_66) (hts _ wm_max32) hframes hlocals hc hs hdg kk
theorem k_min32 (hexec : p.tables.exec = Jvm.exec) (hb : c.code = cc) (hml : c.maxLocals = ls.size) (hown : s.vm.findClass own = some m.cls) (hts : ∀ w ∈ wd, w.before args s = true) (hlink : Cond.methodLink own index yJ9_min_7cf53 ∈ wd) (hframes : 1 ≤ R.frames) (hlocals : (rest.map fun v => v.category).sum + 13 ≤ R.locals) (hc : cells ≤ R.cells) (hs : slots ≤ R.slots) {x y : Int32} (hdg : decode cc pc = .ok (.invokestatic index, 3))
    (kk : W p l e R s m args below meth c H locs cells slots Q (F0 m (pc + 3) ls (.int (mmin32 x y) :: rest))) : W p l e R s m args below meth c H locs cells slots Q (F0 m pc ls (.int y :: .int x :: rest)) :=
  va_mmin hexec hb hml hown (hts _ hlink) (hts _ wi_458) (hts _ wi_66) (hts _ wm_min32) hframes hlocals hc hs hdg kk
end OKM
end
section
/-- the length of the reference's two tables, as a name that unification leaves alone -/
def nUD : Nat := 11500
abbrev SumS : Type := Int32 × Int32 × (Nat → Int32) × (Nat → Int64) × (Nat → Int64)
def gS_size (z : SumS) : Int32 := z.1
def gS_ov (z : SumS) : Int32 := z.2.1
def gS_keys (z : SumS) : (Nat → Int32) := z.2.2.1
def gS_tops (z : SumS) : (Nat → Int64) := z.2.2.2.1
def gS_bots (z : SumS) : (Nat → Int64) := z.2.2.2.2
def uS_size (z : SumS) (v : Int32) : SumS := (v, z.2.1, z.2.2.1, z.2.2.2.1, z.2.2.2.2)
def uS_ov (z : SumS) (v : Int32) : SumS := (z.1, v, z.2.2.1, z.2.2.2.1, z.2.2.2.2)
def uS_keys (z : SumS) (v : (Nat → Int32)) : SumS := (z.1, z.2.1, v, z.2.2.2.1, z.2.2.2.2)
def uS_tops (z : SumS) (v : (Nat → Int64)) : SumS := (z.1, z.2.1, z.2.2.1, v, z.2.2.2.2)
def uS_bots (z : SumS) (v : (Nat → Int64)) : SumS := (z.1, z.2.1, z.2.2.1, z.2.2.2.1, v)
theorem gS_size_size (z : SumS) (v : Int32) : gS_size (uS_size z v) = v := rfl
theorem gS_size_ov (z : SumS) (v : Int32) : gS_size (uS_ov z v) = gS_size z := rfl
theorem gS_size_keys (z : SumS) (v : (Nat → Int32)) : gS_size (uS_keys z v) = gS_size z := rfl
theorem gS_size_tops (z : SumS) (v : (Nat → Int64)) : gS_size (uS_tops z v) = gS_size z := rfl
theorem gS_size_bots (z : SumS) (v : (Nat → Int64)) : gS_size (uS_bots z v) = gS_size z := rfl
theorem gS_ov_size (z : SumS) (v : Int32) : gS_ov (uS_size z v) = gS_ov z := rfl
theorem gS_ov_ov (z : SumS) (v : Int32) : gS_ov (uS_ov z v) = v := rfl
theorem gS_ov_keys (z : SumS) (v : (Nat → Int32)) : gS_ov (uS_keys z v) = gS_ov z := rfl
theorem gS_ov_tops (z : SumS) (v : (Nat → Int64)) : gS_ov (uS_tops z v) = gS_ov z := rfl
theorem gS_ov_bots (z : SumS) (v : (Nat → Int64)) : gS_ov (uS_bots z v) = gS_ov z := rfl
theorem gS_keys_size (z : SumS) (v : Int32) : gS_keys (uS_size z v) = gS_keys z := rfl
theorem gS_keys_ov (z : SumS) (v : Int32) : gS_keys (uS_ov z v) = gS_keys z := rfl
theorem gS_keys_keys (z : SumS) (v : (Nat → Int32)) : gS_keys (uS_keys z v) = v := rfl
theorem gS_keys_tops (z : SumS) (v : (Nat → Int64)) : gS_keys (uS_tops z v) = gS_keys z := rfl
theorem gS_keys_bots (z : SumS) (v : (Nat → Int64)) : gS_keys (uS_bots z v) = gS_keys z := rfl
theorem gS_tops_size (z : SumS) (v : Int32) : gS_tops (uS_size z v) = gS_tops z := rfl
theorem gS_tops_ov (z : SumS) (v : Int32) : gS_tops (uS_ov z v) = gS_tops z := rfl
theorem gS_tops_keys (z : SumS) (v : (Nat → Int32)) : gS_tops (uS_keys z v) = gS_tops z := rfl
theorem gS_tops_tops (z : SumS) (v : (Nat → Int64)) : gS_tops (uS_tops z v) = v := rfl
theorem gS_tops_bots (z : SumS) (v : (Nat → Int64)) : gS_tops (uS_bots z v) = gS_tops z := rfl
theorem gS_bots_size (z : SumS) (v : Int32) : gS_bots (uS_size z v) = gS_bots z := rfl
theorem gS_bots_ov (z : SumS) (v : Int32) : gS_bots (uS_ov z v) = gS_bots z := rfl
theorem gS_bots_keys (z : SumS) (v : (Nat → Int32)) : gS_bots (uS_keys z v) = gS_bots z := rfl
theorem gS_bots_tops (z : SumS) (v : (Nat → Int64)) : gS_bots (uS_tops z v) = gS_bots z := rfl
theorem gS_bots_bots (z : SumS) (v : (Nat → Int64)) : gS_bots (uS_bots z v) = v := rfl
abbrev LineS : Type := Int32 × (Nat → Int32)
def gL_len (z : LineS) : Int32 := z.1
def gL_ch (z : LineS) : (Nat → Int32) := z.2
def uL_len (z : LineS) (v : Int32) : LineS := (v, z.2)
def uL_ch (z : LineS) (v : (Nat → Int32)) : LineS := (z.1, v)
theorem gL_len_len (z : LineS) (v : Int32) : gL_len (uL_len z v) = v := rfl
theorem gL_len_ch (z : LineS) (v : (Nat → Int32)) : gL_len (uL_ch z v) = gL_len z := rfl
theorem gL_ch_len (z : LineS) (v : Int32) : gL_ch (uL_len z v) = gL_ch z := rfl
theorem gL_ch_ch (z : LineS) (v : (Nat → Int32)) : gL_ch (uL_ch z v) = v := rfl
abbrev RdS : Type := Int32 × Int32 × Int32 × Int64 × Int64 × Int32 × Int32 × Int32
def gR_at (z : RdS) : Int32 := z.1
def gR_fault (z : RdS) : Int32 := z.2.1
def gR_place (z : RdS) : Int32 := z.2.2.1
def gR_top (z : RdS) : Int64 := z.2.2.2.1
def gR_bottom (z : RdS) : Int64 := z.2.2.2.2.1
def gR_power (z : RdS) : Int32 := z.2.2.2.2.2.1
def gR_kind (z : RdS) : Int32 := z.2.2.2.2.2.2.1
def gR_arg (z : RdS) : Int32 := z.2.2.2.2.2.2.2
def uR_at (z : RdS) (v : Int32) : RdS := (v, z.2.1, z.2.2.1, z.2.2.2.1, z.2.2.2.2.1, z.2.2.2.2.2.1, z.2.2.2.2.2.2.1, z.2.2.2.2.2.2.2)
def uR_fault (z : RdS) (v : Int32) : RdS := (z.1, v, z.2.2.1, z.2.2.2.1, z.2.2.2.2.1, z.2.2.2.2.2.1, z.2.2.2.2.2.2.1, z.2.2.2.2.2.2.2)
def uR_place (z : RdS) (v : Int32) : RdS := (z.1, z.2.1, v, z.2.2.2.1, z.2.2.2.2.1, z.2.2.2.2.2.1, z.2.2.2.2.2.2.1, z.2.2.2.2.2.2.2)
def uR_top (z : RdS) (v : Int64) : RdS := (z.1, z.2.1, z.2.2.1, v, z.2.2.2.2.1, z.2.2.2.2.2.1, z.2.2.2.2.2.2.1, z.2.2.2.2.2.2.2)
def uR_bottom (z : RdS) (v : Int64) : RdS := (z.1, z.2.1, z.2.2.1, z.2.2.2.1, v, z.2.2.2.2.2.1, z.2.2.2.2.2.2.1, z.2.2.2.2.2.2.2)
def uR_power (z : RdS) (v : Int32) : RdS := (z.1, z.2.1, z.2.2.1, z.2.2.2.1, z.2.2.2.2.1, v, z.2.2.2.2.2.2.1, z.2.2.2.2.2.2.2)
def uR_kind (z : RdS) (v : Int32) : RdS := (z.1, z.2.1, z.2.2.1, z.2.2.2.1, z.2.2.2.2.1, z.2.2.2.2.2.1, v, z.2.2.2.2.2.2.2)
def uR_arg (z : RdS) (v : Int32) : RdS := (z.1, z.2.1, z.2.2.1, z.2.2.2.1, z.2.2.2.2.1, z.2.2.2.2.2.1, z.2.2.2.2.2.2.1, v)
theorem gR_at_at (z : RdS) (v : Int32) : gR_at (uR_at z v) = v := rfl
theorem gR_at_fault (z : RdS) (v : Int32) : gR_at (uR_fault z v) = gR_at z := rfl
theorem gR_at_place (z : RdS) (v : Int32) : gR_at (uR_place z v) = gR_at z := rfl
theorem gR_at_top (z : RdS) (v : Int64) : gR_at (uR_top z v) = gR_at z := rfl
theorem gR_at_bottom (z : RdS) (v : Int64) : gR_at (uR_bottom z v) = gR_at z := rfl
theorem gR_at_power (z : RdS) (v : Int32) : gR_at (uR_power z v) = gR_at z := rfl
theorem gR_at_kind (z : RdS) (v : Int32) : gR_at (uR_kind z v) = gR_at z := rfl
theorem gR_at_arg (z : RdS) (v : Int32) : gR_at (uR_arg z v) = gR_at z := rfl
theorem gR_fault_at (z : RdS) (v : Int32) : gR_fault (uR_at z v) = gR_fault z := rfl
theorem gR_fault_fault (z : RdS) (v : Int32) : gR_fault (uR_fault z v) = v := rfl
theorem gR_fault_place (z : RdS) (v : Int32) : gR_fault (uR_place z v) = gR_fault z := rfl
theorem gR_fault_top (z : RdS) (v : Int64) : gR_fault (uR_top z v) = gR_fault z := rfl
theorem gR_fault_bottom (z : RdS) (v : Int64) : gR_fault (uR_bottom z v) = gR_fault z := rfl
theorem gR_fault_power (z : RdS) (v : Int32) : gR_fault (uR_power z v) = gR_fault z := rfl
theorem gR_fault_kind (z : RdS) (v : Int32) : gR_fault (uR_kind z v) = gR_fault z := rfl
theorem gR_fault_arg (z : RdS) (v : Int32) : gR_fault (uR_arg z v) = gR_fault z := rfl
theorem gR_place_at (z : RdS) (v : Int32) : gR_place (uR_at z v) = gR_place z := rfl
theorem gR_place_fault (z : RdS) (v : Int32) : gR_place (uR_fault z v) = gR_place z := rfl
theorem gR_place_place (z : RdS) (v : Int32) : gR_place (uR_place z v) = v := rfl
theorem gR_place_top (z : RdS) (v : Int64) : gR_place (uR_top z v) = gR_place z := rfl
theorem gR_place_bottom (z : RdS) (v : Int64) : gR_place (uR_bottom z v) = gR_place z := rfl
theorem gR_place_power (z : RdS) (v : Int32) : gR_place (uR_power z v) = gR_place z := rfl
theorem gR_place_kind (z : RdS) (v : Int32) : gR_place (uR_kind z v) = gR_place z := rfl
theorem gR_place_arg (z : RdS) (v : Int32) : gR_place (uR_arg z v) = gR_place z := rfl
theorem gR_top_at (z : RdS) (v : Int32) : gR_top (uR_at z v) = gR_top z := rfl
theorem gR_top_fault (z : RdS) (v : Int32) : gR_top (uR_fault z v) = gR_top z := rfl
theorem gR_top_place (z : RdS) (v : Int32) : gR_top (uR_place z v) = gR_top z := rfl
theorem gR_top_top (z : RdS) (v : Int64) : gR_top (uR_top z v) = v := rfl
theorem gR_top_bottom (z : RdS) (v : Int64) : gR_top (uR_bottom z v) = gR_top z := rfl
theorem gR_top_power (z : RdS) (v : Int32) : gR_top (uR_power z v) = gR_top z := rfl
theorem gR_top_kind (z : RdS) (v : Int32) : gR_top (uR_kind z v) = gR_top z := rfl
theorem gR_top_arg (z : RdS) (v : Int32) : gR_top (uR_arg z v) = gR_top z := rfl
theorem gR_bottom_at (z : RdS) (v : Int32) : gR_bottom (uR_at z v) = gR_bottom z := rfl
theorem gR_bottom_fault (z : RdS) (v : Int32) : gR_bottom (uR_fault z v) = gR_bottom z := rfl
theorem gR_bottom_place (z : RdS) (v : Int32) : gR_bottom (uR_place z v) = gR_bottom z := rfl
theorem gR_bottom_top (z : RdS) (v : Int64) : gR_bottom (uR_top z v) = gR_bottom z := rfl
theorem gR_bottom_bottom (z : RdS) (v : Int64) : gR_bottom (uR_bottom z v) = v := rfl
theorem gR_bottom_power (z : RdS) (v : Int32) : gR_bottom (uR_power z v) = gR_bottom z := rfl
theorem gR_bottom_kind (z : RdS) (v : Int32) : gR_bottom (uR_kind z v) = gR_bottom z := rfl
theorem gR_bottom_arg (z : RdS) (v : Int32) : gR_bottom (uR_arg z v) = gR_bottom z := rfl
theorem gR_power_at (z : RdS) (v : Int32) : gR_power (uR_at z v) = gR_power z := rfl
theorem gR_power_fault (z : RdS) (v : Int32) : gR_power (uR_fault z v) = gR_power z := rfl
theorem gR_power_place (z : RdS) (v : Int32) : gR_power (uR_place z v) = gR_power z := rfl
theorem gR_power_top (z : RdS) (v : Int64) : gR_power (uR_top z v) = gR_power z := rfl
theorem gR_power_bottom (z : RdS) (v : Int64) : gR_power (uR_bottom z v) = gR_power z := rfl
theorem gR_power_power (z : RdS) (v : Int32) : gR_power (uR_power z v) = v := rfl
theorem gR_power_kind (z : RdS) (v : Int32) : gR_power (uR_kind z v) = gR_power z := rfl
theorem gR_power_arg (z : RdS) (v : Int32) : gR_power (uR_arg z v) = gR_power z := rfl
theorem gR_kind_at (z : RdS) (v : Int32) : gR_kind (uR_at z v) = gR_kind z := rfl
theorem gR_kind_fault (z : RdS) (v : Int32) : gR_kind (uR_fault z v) = gR_kind z := rfl
theorem gR_kind_place (z : RdS) (v : Int32) : gR_kind (uR_place z v) = gR_kind z := rfl
theorem gR_kind_top (z : RdS) (v : Int64) : gR_kind (uR_top z v) = gR_kind z := rfl
theorem gR_kind_bottom (z : RdS) (v : Int64) : gR_kind (uR_bottom z v) = gR_kind z := rfl
theorem gR_kind_power (z : RdS) (v : Int32) : gR_kind (uR_power z v) = gR_kind z := rfl
theorem gR_kind_kind (z : RdS) (v : Int32) : gR_kind (uR_kind z v) = v := rfl
theorem gR_kind_arg (z : RdS) (v : Int32) : gR_kind (uR_arg z v) = gR_kind z := rfl
theorem gR_arg_at (z : RdS) (v : Int32) : gR_arg (uR_at z v) = gR_arg z := rfl
theorem gR_arg_fault (z : RdS) (v : Int32) : gR_arg (uR_fault z v) = gR_arg z := rfl
theorem gR_arg_place (z : RdS) (v : Int32) : gR_arg (uR_place z v) = gR_arg z := rfl
theorem gR_arg_top (z : RdS) (v : Int64) : gR_arg (uR_top z v) = gR_arg z := rfl
theorem gR_arg_bottom (z : RdS) (v : Int64) : gR_arg (uR_bottom z v) = gR_arg z := rfl
theorem gR_arg_power (z : RdS) (v : Int32) : gR_arg (uR_power z v) = gR_arg z := rfl
theorem gR_arg_kind (z : RdS) (v : Int32) : gR_arg (uR_kind z v) = gR_arg z := rfl
theorem gR_arg_arg (z : RdS) (v : Int32) : gR_arg (uR_arg z v) = v := rfl
abbrev WrS : Type := Int32 × (Nat → Int32)
def gW_len (z : WrS) : Int32 := z.1
def gW_ch (z : WrS) : (Nat → Int32) := z.2
def uW_len (z : WrS) (v : Int32) : WrS := (v, z.2)
def uW_ch (z : WrS) (v : (Nat → Int32)) : WrS := (z.1, v)
theorem gW_len_len (z : WrS) (v : Int32) : gW_len (uW_len z v) = v := rfl
theorem gW_len_ch (z : WrS) (v : (Nat → Int32)) : gW_len (uW_ch z v) = gW_len z := rfl
theorem gW_ch_len (z : WrS) (v : Int32) : gW_ch (uW_len z v) = gW_ch z := rfl
theorem gW_ch_ch (z : WrS) (v : (Nat → Int32)) : gW_ch (uW_ch z v) = v := rfl
abbrev MdS : Type := Int32 × Int32 × Int32 × Int32 × Int32 × Int32 × Int32 × Int64 × Int64 × (Nat → Int32) × (Nat → Int32) × (Nat → Int64) × (Nat → Int64)
def gM_refusal (z : MdS) : Int32 := z.1
def gM_lineSize (z : MdS) : Int32 := z.2.1
def gM_outSize (z : MdS) : Int32 := z.2.2.1
def gM_wrongPlace (z : MdS) : Int32 := z.2.2.2.1
def gM_isFull (z : MdS) : Int32 := z.2.2.2.2.1
def gM_at (z : MdS) : Int32 := z.2.2.2.2.2.1
def gM_fault (z : MdS) : Int32 := z.2.2.2.2.2.2.1
def gM_top (z : MdS) : Int64 := z.2.2.2.2.2.2.2.1
def gM_bottom (z : MdS) : Int64 := z.2.2.2.2.2.2.2.2.1
def gM_line (z : MdS) : (Nat → Int32) := z.2.2.2.2.2.2.2.2.2.1
def gM_out (z : MdS) : (Nat → Int32) := z.2.2.2.2.2.2.2.2.2.2.1
def gM_up (z : MdS) : (Nat → Int64) := z.2.2.2.2.2.2.2.2.2.2.2.1
def gM_down (z : MdS) : (Nat → Int64) := z.2.2.2.2.2.2.2.2.2.2.2.2
def uM_refusal (z : MdS) (v : Int32) : MdS := (v, z.2.1, z.2.2.1, z.2.2.2.1, z.2.2.2.2.1, z.2.2.2.2.2.1, z.2.2.2.2.2.2.1, z.2.2.2.2.2.2.2.1, z.2.2.2.2.2.2.2.2.1, z.2.2.2.2.2.2.2.2.2.1, z.2.2.2.2.2.2.2.2.2.2.1, z.2.2.2.2.2.2.2.2.2.2.2.1, z.2.2.2.2.2.2.2.2.2.2.2.2)
def uM_lineSize (z : MdS) (v : Int32) : MdS := (z.1, v, z.2.2.1, z.2.2.2.1, z.2.2.2.2.1, z.2.2.2.2.2.1, z.2.2.2.2.2.2.1, z.2.2.2.2.2.2.2.1, z.2.2.2.2.2.2.2.2.1, z.2.2.2.2.2.2.2.2.2.1, z.2.2.2.2.2.2.2.2.2.2.1, z.2.2.2.2.2.2.2.2.2.2.2.1, z.2.2.2.2.2.2.2.2.2.2.2.2)
def uM_outSize (z : MdS) (v : Int32) : MdS := (z.1, z.2.1, v, z.2.2.2.1, z.2.2.2.2.1, z.2.2.2.2.2.1, z.2.2.2.2.2.2.1, z.2.2.2.2.2.2.2.1, z.2.2.2.2.2.2.2.2.1, z.2.2.2.2.2.2.2.2.2.1, z.2.2.2.2.2.2.2.2.2.2.1, z.2.2.2.2.2.2.2.2.2.2.2.1, z.2.2.2.2.2.2.2.2.2.2.2.2)
def uM_wrongPlace (z : MdS) (v : Int32) : MdS := (z.1, z.2.1, z.2.2.1, v, z.2.2.2.2.1, z.2.2.2.2.2.1, z.2.2.2.2.2.2.1, z.2.2.2.2.2.2.2.1, z.2.2.2.2.2.2.2.2.1, z.2.2.2.2.2.2.2.2.2.1, z.2.2.2.2.2.2.2.2.2.2.1, z.2.2.2.2.2.2.2.2.2.2.2.1, z.2.2.2.2.2.2.2.2.2.2.2.2)
def uM_isFull (z : MdS) (v : Int32) : MdS := (z.1, z.2.1, z.2.2.1, z.2.2.2.1, v, z.2.2.2.2.2.1, z.2.2.2.2.2.2.1, z.2.2.2.2.2.2.2.1, z.2.2.2.2.2.2.2.2.1, z.2.2.2.2.2.2.2.2.2.1, z.2.2.2.2.2.2.2.2.2.2.1, z.2.2.2.2.2.2.2.2.2.2.2.1, z.2.2.2.2.2.2.2.2.2.2.2.2)
def uM_at (z : MdS) (v : Int32) : MdS := (z.1, z.2.1, z.2.2.1, z.2.2.2.1, z.2.2.2.2.1, v, z.2.2.2.2.2.2.1, z.2.2.2.2.2.2.2.1, z.2.2.2.2.2.2.2.2.1, z.2.2.2.2.2.2.2.2.2.1, z.2.2.2.2.2.2.2.2.2.2.1, z.2.2.2.2.2.2.2.2.2.2.2.1, z.2.2.2.2.2.2.2.2.2.2.2.2)
def uM_fault (z : MdS) (v : Int32) : MdS := (z.1, z.2.1, z.2.2.1, z.2.2.2.1, z.2.2.2.2.1, z.2.2.2.2.2.1, v, z.2.2.2.2.2.2.2.1, z.2.2.2.2.2.2.2.2.1, z.2.2.2.2.2.2.2.2.2.1, z.2.2.2.2.2.2.2.2.2.2.1, z.2.2.2.2.2.2.2.2.2.2.2.1, z.2.2.2.2.2.2.2.2.2.2.2.2)
def uM_top (z : MdS) (v : Int64) : MdS := (z.1, z.2.1, z.2.2.1, z.2.2.2.1, z.2.2.2.2.1, z.2.2.2.2.2.1, z.2.2.2.2.2.2.1, v, z.2.2.2.2.2.2.2.2.1, z.2.2.2.2.2.2.2.2.2.1, z.2.2.2.2.2.2.2.2.2.2.1, z.2.2.2.2.2.2.2.2.2.2.2.1, z.2.2.2.2.2.2.2.2.2.2.2.2)
def uM_bottom (z : MdS) (v : Int64) : MdS := (z.1, z.2.1, z.2.2.1, z.2.2.2.1, z.2.2.2.2.1, z.2.2.2.2.2.1, z.2.2.2.2.2.2.1, z.2.2.2.2.2.2.2.1, v, z.2.2.2.2.2.2.2.2.2.1, z.2.2.2.2.2.2.2.2.2.2.1, z.2.2.2.2.2.2.2.2.2.2.2.1, z.2.2.2.2.2.2.2.2.2.2.2.2)
def uM_line (z : MdS) (v : (Nat → Int32)) : MdS := (z.1, z.2.1, z.2.2.1, z.2.2.2.1, z.2.2.2.2.1, z.2.2.2.2.2.1, z.2.2.2.2.2.2.1, z.2.2.2.2.2.2.2.1, z.2.2.2.2.2.2.2.2.1, v, z.2.2.2.2.2.2.2.2.2.2.1, z.2.2.2.2.2.2.2.2.2.2.2.1, z.2.2.2.2.2.2.2.2.2.2.2.2)
def uM_out (z : MdS) (v : (Nat → Int32)) : MdS := (z.1, z.2.1, z.2.2.1, z.2.2.2.1, z.2.2.2.2.1, z.2.2.2.2.2.1, z.2.2.2.2.2.2.1, z.2.2.2.2.2.2.2.1, z.2.2.2.2.2.2.2.2.1, z.2.2.2.2.2.2.2.2.2.1, v, z.2.2.2.2.2.2.2.2.2.2.2.1, z.2.2.2.2.2.2.2.2.2.2.2.2)
def uM_up (z : MdS) (v : (Nat → Int64)) : MdS := (z.1, z.2.1, z.2.2.1, z.2.2.2.1, z.2.2.2.2.1, z.2.2.2.2.2.1, z.2.2.2.2.2.2.1, z.2.2.2.2.2.2.2.1, z.2.2.2.2.2.2.2.2.1, z.2.2.2.2.2.2.2.2.2.1, z.2.2.2.2.2.2.2.2.2.2.1, v, z.2.2.2.2.2.2.2.2.2.2.2.2)
def uM_down (z : MdS) (v : (Nat → Int64)) : MdS := (z.1, z.2.1, z.2.2.1, z.2.2.2.1, z.2.2.2.2.1, z.2.2.2.2.2.1, z.2.2.2.2.2.2.1, z.2.2.2.2.2.2.2.1, z.2.2.2.2.2.2.2.2.1, z.2.2.2.2.2.2.2.2.2.1, z.2.2.2.2.2.2.2.2.2.2.1, z.2.2.2.2.2.2.2.2.2.2.2.1, v)
theorem gM_refusal_refusal (z : MdS) (v : Int32) : gM_refusal (uM_refusal z v) = v := rfl
theorem gM_refusal_lineSize (z : MdS) (v : Int32) : gM_refusal (uM_lineSize z v) = gM_refusal z := rfl
theorem gM_refusal_outSize (z : MdS) (v : Int32) : gM_refusal (uM_outSize z v) = gM_refusal z := rfl
theorem gM_refusal_wrongPlace (z : MdS) (v : Int32) : gM_refusal (uM_wrongPlace z v) = gM_refusal z := rfl
theorem gM_refusal_isFull (z : MdS) (v : Int32) : gM_refusal (uM_isFull z v) = gM_refusal z := rfl
theorem gM_refusal_at (z : MdS) (v : Int32) : gM_refusal (uM_at z v) = gM_refusal z := rfl
theorem gM_refusal_fault (z : MdS) (v : Int32) : gM_refusal (uM_fault z v) = gM_refusal z := rfl
theorem gM_refusal_top (z : MdS) (v : Int64) : gM_refusal (uM_top z v) = gM_refusal z := rfl
theorem gM_refusal_bottom (z : MdS) (v : Int64) : gM_refusal (uM_bottom z v) = gM_refusal z := rfl
theorem gM_refusal_line (z : MdS) (v : (Nat → Int32)) : gM_refusal (uM_line z v) = gM_refusal z := rfl
theorem gM_refusal_out (z : MdS) (v : (Nat → Int32)) : gM_refusal (uM_out z v) = gM_refusal z := rfl
theorem gM_refusal_up (z : MdS) (v : (Nat → Int64)) : gM_refusal (uM_up z v) = gM_refusal z := rfl
theorem gM_refusal_down (z : MdS) (v : (Nat → Int64)) : gM_refusal (uM_down z v) = gM_refusal z := rfl
theorem gM_lineSize_refusal (z : MdS) (v : Int32) : gM_lineSize (uM_refusal z v) = gM_lineSize z := rfl
theorem gM_lineSize_lineSize (z : MdS) (v : Int32) : gM_lineSize (uM_lineSize z v) = v := rfl
theorem gM_lineSize_outSize (z : MdS) (v : Int32) : gM_lineSize (uM_outSize z v) = gM_lineSize z := rfl
theorem gM_lineSize_wrongPlace (z : MdS) (v : Int32) : gM_lineSize (uM_wrongPlace z v) = gM_lineSize z := rfl
theorem gM_lineSize_isFull (z : MdS) (v : Int32) : gM_lineSize (uM_isFull z v) = gM_lineSize z := rfl
theorem gM_lineSize_at (z : MdS) (v : Int32) : gM_lineSize (uM_at z v) = gM_lineSize z := rfl
theorem gM_lineSize_fault (z : MdS) (v : Int32) : gM_lineSize (uM_fault z v) = gM_lineSize z := rfl
theorem gM_lineSize_top (z : MdS) (v : Int64) : gM_lineSize (uM_top z v) = gM_lineSize z := rfl
theorem gM_lineSize_bottom (z : MdS) (v : Int64) : gM_lineSize (uM_bottom z v) = gM_lineSize z := rfl
theorem gM_lineSize_line (z : MdS) (v : (Nat → Int32)) : gM_lineSize (uM_line z v) = gM_lineSize z := rfl
theorem gM_lineSize_out (z : MdS) (v : (Nat → Int32)) : gM_lineSize (uM_out z v) = gM_lineSize z := rfl
theorem gM_lineSize_up (z : MdS) (v : (Nat → Int64)) : gM_lineSize (uM_up z v) = gM_lineSize z := rfl
theorem gM_lineSize_down (z : MdS) (v : (Nat → Int64)) : gM_lineSize (uM_down z v) = gM_lineSize z := rfl
theorem gM_outSize_refusal (z : MdS) (v : Int32) : gM_outSize (uM_refusal z v) = gM_outSize z := rfl
theorem gM_outSize_lineSize (z : MdS) (v : Int32) : gM_outSize (uM_lineSize z v) = gM_outSize z := rfl
theorem gM_outSize_outSize (z : MdS) (v : Int32) : gM_outSize (uM_outSize z v) = v := rfl
theorem gM_outSize_wrongPlace (z : MdS) (v : Int32) : gM_outSize (uM_wrongPlace z v) = gM_outSize z := rfl
theorem gM_outSize_isFull (z : MdS) (v : Int32) : gM_outSize (uM_isFull z v) = gM_outSize z := rfl
theorem gM_outSize_at (z : MdS) (v : Int32) : gM_outSize (uM_at z v) = gM_outSize z := rfl
theorem gM_outSize_fault (z : MdS) (v : Int32) : gM_outSize (uM_fault z v) = gM_outSize z := rfl
theorem gM_outSize_top (z : MdS) (v : Int64) : gM_outSize (uM_top z v) = gM_outSize z := rfl
theorem gM_outSize_bottom (z : MdS) (v : Int64) : gM_outSize (uM_bottom z v) = gM_outSize z := rfl
theorem gM_outSize_line (z : MdS) (v : (Nat → Int32)) : gM_outSize (uM_line z v) = gM_outSize z := rfl
theorem gM_outSize_out (z : MdS) (v : (Nat → Int32)) : gM_outSize (uM_out z v) = gM_outSize z := rfl
theorem gM_outSize_up (z : MdS) (v : (Nat → Int64)) : gM_outSize (uM_up z v) = gM_outSize z := rfl
theorem gM_outSize_down (z : MdS) (v : (Nat → Int64)) : gM_outSize (uM_down z v) = gM_outSize z := rfl
theorem gM_wrongPlace_refusal (z : MdS) (v : Int32) : gM_wrongPlace (uM_refusal z v) = gM_wrongPlace z := rfl
theorem gM_wrongPlace_lineSize (z : MdS) (v : Int32) : gM_wrongPlace (uM_lineSize z v) = gM_wrongPlace z := rfl
theorem gM_wrongPlace_outSize (z : MdS) (v : Int32) : gM_wrongPlace (uM_outSize z v) = gM_wrongPlace z := rfl
theorem gM_wrongPlace_wrongPlace (z : MdS) (v : Int32) : gM_wrongPlace (uM_wrongPlace z v) = v := rfl
theorem gM_wrongPlace_isFull (z : MdS) (v : Int32) : gM_wrongPlace (uM_isFull z v) = gM_wrongPlace z := rfl
theorem gM_wrongPlace_at (z : MdS) (v : Int32) : gM_wrongPlace (uM_at z v) = gM_wrongPlace z := rfl
theorem gM_wrongPlace_fault (z : MdS) (v : Int32) : gM_wrongPlace (uM_fault z v) = gM_wrongPlace z := rfl
theorem gM_wrongPlace_top (z : MdS) (v : Int64) : gM_wrongPlace (uM_top z v) = gM_wrongPlace z := rfl
theorem gM_wrongPlace_bottom (z : MdS) (v : Int64) : gM_wrongPlace (uM_bottom z v) = gM_wrongPlace z := rfl
theorem gM_wrongPlace_line (z : MdS) (v : (Nat → Int32)) : gM_wrongPlace (uM_line z v) = gM_wrongPlace z := rfl
theorem gM_wrongPlace_out (z : MdS) (v : (Nat → Int32)) : gM_wrongPlace (uM_out z v) = gM_wrongPlace z := rfl
theorem gM_wrongPlace_up (z : MdS) (v : (Nat → Int64)) : gM_wrongPlace (uM_up z v) = gM_wrongPlace z := rfl
theorem gM_wrongPlace_down (z : MdS) (v : (Nat → Int64)) : gM_wrongPlace (uM_down z v) = gM_wrongPlace z := rfl
theorem gM_isFull_refusal (z : MdS) (v : Int32) : gM_isFull (uM_refusal z v) = gM_isFull z := rfl
theorem gM_isFull_lineSize (z : MdS) (v : Int32) : gM_isFull (uM_lineSize z v) = gM_isFull z := rfl
theorem gM_isFull_outSize (z : MdS) (v : Int32) : gM_isFull (uM_outSize z v) = gM_isFull z := rfl
theorem gM_isFull_wrongPlace (z : MdS) (v : Int32) : gM_isFull (uM_wrongPlace z v) = gM_isFull z := rfl
theorem gM_isFull_isFull (z : MdS) (v : Int32) : gM_isFull (uM_isFull z v) = v := rfl
theorem gM_isFull_at (z : MdS) (v : Int32) : gM_isFull (uM_at z v) = gM_isFull z := rfl
theorem gM_isFull_fault (z : MdS) (v : Int32) : gM_isFull (uM_fault z v) = gM_isFull z := rfl
theorem gM_isFull_top (z : MdS) (v : Int64) : gM_isFull (uM_top z v) = gM_isFull z := rfl
theorem gM_isFull_bottom (z : MdS) (v : Int64) : gM_isFull (uM_bottom z v) = gM_isFull z := rfl
theorem gM_isFull_line (z : MdS) (v : (Nat → Int32)) : gM_isFull (uM_line z v) = gM_isFull z := rfl
theorem gM_isFull_out (z : MdS) (v : (Nat → Int32)) : gM_isFull (uM_out z v) = gM_isFull z := rfl
theorem gM_isFull_up (z : MdS) (v : (Nat → Int64)) : gM_isFull (uM_up z v) = gM_isFull z := rfl
theorem gM_isFull_down (z : MdS) (v : (Nat → Int64)) : gM_isFull (uM_down z v) = gM_isFull z := rfl
theorem gM_at_refusal (z : MdS) (v : Int32) : gM_at (uM_refusal z v) = gM_at z := rfl
theorem gM_at_lineSize (z : MdS) (v : Int32) : gM_at (uM_lineSize z v) = gM_at z := rfl
theorem gM_at_outSize (z : MdS) (v : Int32) : gM_at (uM_outSize z v) = gM_at z := rfl
theorem gM_at_wrongPlace (z : MdS) (v : Int32) : gM_at (uM_wrongPlace z v) = gM_at z := rfl
theorem gM_at_isFull (z : MdS) (v : Int32) : gM_at (uM_isFull z v) = gM_at z := rfl
theorem gM_at_at (z : MdS) (v : Int32) : gM_at (uM_at z v) = v := rfl
theorem gM_at_fault (z : MdS) (v : Int32) : gM_at (uM_fault z v) = gM_at z := rfl
theorem gM_at_top (z : MdS) (v : Int64) : gM_at (uM_top z v) = gM_at z := rfl
theorem gM_at_bottom (z : MdS) (v : Int64) : gM_at (uM_bottom z v) = gM_at z := rfl
theorem gM_at_line (z : MdS) (v : (Nat → Int32)) : gM_at (uM_line z v) = gM_at z := rfl
theorem gM_at_out (z : MdS) (v : (Nat → Int32)) : gM_at (uM_out z v) = gM_at z := rfl
theorem gM_at_up (z : MdS) (v : (Nat → Int64)) : gM_at (uM_up z v) = gM_at z := rfl
theorem gM_at_down (z : MdS) (v : (Nat → Int64)) : gM_at (uM_down z v) = gM_at z := rfl
theorem gM_fault_refusal (z : MdS) (v : Int32) : gM_fault (uM_refusal z v) = gM_fault z := rfl
theorem gM_fault_lineSize (z : MdS) (v : Int32) : gM_fault (uM_lineSize z v) = gM_fault z := rfl
theorem gM_fault_outSize (z : MdS) (v : Int32) : gM_fault (uM_outSize z v) = gM_fault z := rfl
theorem gM_fault_wrongPlace (z : MdS) (v : Int32) : gM_fault (uM_wrongPlace z v) = gM_fault z := rfl
theorem gM_fault_isFull (z : MdS) (v : Int32) : gM_fault (uM_isFull z v) = gM_fault z := rfl
theorem gM_fault_at (z : MdS) (v : Int32) : gM_fault (uM_at z v) = gM_fault z := rfl
theorem gM_fault_fault (z : MdS) (v : Int32) : gM_fault (uM_fault z v) = v := rfl
theorem gM_fault_top (z : MdS) (v : Int64) : gM_fault (uM_top z v) = gM_fault z := rfl
theorem gM_fault_bottom (z : MdS) (v : Int64) : gM_fault (uM_bottom z v) = gM_fault z := rfl
theorem gM_fault_line (z : MdS) (v : (Nat → Int32)) : gM_fault (uM_line z v) = gM_fault z := rfl
theorem gM_fault_out (z : MdS) (v : (Nat → Int32)) : gM_fault (uM_out z v) = gM_fault z := rfl
theorem gM_fault_up (z : MdS) (v : (Nat → Int64)) : gM_fault (uM_up z v) = gM_fault z := rfl
theorem gM_fault_down (z : MdS) (v : (Nat → Int64)) : gM_fault (uM_down z v) = gM_fault z := rfl
theorem gM_top_refusal (z : MdS) (v : Int32) : gM_top (uM_refusal z v) = gM_top z := rfl
theorem gM_top_lineSize (z : MdS) (v : Int32) : gM_top (uM_lineSize z v) = gM_top z := rfl
theorem gM_top_outSize (z : MdS) (v : Int32) : gM_top (uM_outSize z v) = gM_top z := rfl
theorem gM_top_wrongPlace (z : MdS) (v : Int32) : gM_top (uM_wrongPlace z v) = gM_top z := rfl
theorem gM_top_isFull (z : MdS) (v : Int32) : gM_top (uM_isFull z v) = gM_top z := rfl
theorem gM_top_at (z : MdS) (v : Int32) : gM_top (uM_at z v) = gM_top z := rfl
theorem gM_top_fault (z : MdS) (v : Int32) : gM_top (uM_fault z v) = gM_top z := rfl
theorem gM_top_top (z : MdS) (v : Int64) : gM_top (uM_top z v) = v := rfl
theorem gM_top_bottom (z : MdS) (v : Int64) : gM_top (uM_bottom z v) = gM_top z := rfl
theorem gM_top_line (z : MdS) (v : (Nat → Int32)) : gM_top (uM_line z v) = gM_top z := rfl
theorem gM_top_out (z : MdS) (v : (Nat → Int32)) : gM_top (uM_out z v) = gM_top z := rfl
theorem gM_top_up (z : MdS) (v : (Nat → Int64)) : gM_top (uM_up z v) = gM_top z := rfl
theorem gM_top_down (z : MdS) (v : (Nat → Int64)) : gM_top (uM_down z v) = gM_top z := rfl
theorem gM_bottom_refusal (z : MdS) (v : Int32) : gM_bottom (uM_refusal z v) = gM_bottom z := rfl
theorem gM_bottom_lineSize (z : MdS) (v : Int32) : gM_bottom (uM_lineSize z v) = gM_bottom z := rfl
theorem gM_bottom_outSize (z : MdS) (v : Int32) : gM_bottom (uM_outSize z v) = gM_bottom z := rfl
theorem gM_bottom_wrongPlace (z : MdS) (v : Int32) : gM_bottom (uM_wrongPlace z v) = gM_bottom z := rfl
theorem gM_bottom_isFull (z : MdS) (v : Int32) : gM_bottom (uM_isFull z v) = gM_bottom z := rfl
theorem gM_bottom_at (z : MdS) (v : Int32) : gM_bottom (uM_at z v) = gM_bottom z := rfl
theorem gM_bottom_fault (z : MdS) (v : Int32) : gM_bottom (uM_fault z v) = gM_bottom z := rfl
theorem gM_bottom_top (z : MdS) (v : Int64) : gM_bottom (uM_top z v) = gM_bottom z := rfl
theorem gM_bottom_bottom (z : MdS) (v : Int64) : gM_bottom (uM_bottom z v) = v := rfl
theorem gM_bottom_line (z : MdS) (v : (Nat → Int32)) : gM_bottom (uM_line z v) = gM_bottom z := rfl
theorem gM_bottom_out (z : MdS) (v : (Nat → Int32)) : gM_bottom (uM_out z v) = gM_bottom z := rfl
theorem gM_bottom_up (z : MdS) (v : (Nat → Int64)) : gM_bottom (uM_up z v) = gM_bottom z := rfl
theorem gM_bottom_down (z : MdS) (v : (Nat → Int64)) : gM_bottom (uM_down z v) = gM_bottom z := rfl
theorem gM_line_refusal (z : MdS) (v : Int32) : gM_line (uM_refusal z v) = gM_line z := rfl
theorem gM_line_lineSize (z : MdS) (v : Int32) : gM_line (uM_lineSize z v) = gM_line z := rfl
theorem gM_line_outSize (z : MdS) (v : Int32) : gM_line (uM_outSize z v) = gM_line z := rfl
theorem gM_line_wrongPlace (z : MdS) (v : Int32) : gM_line (uM_wrongPlace z v) = gM_line z := rfl
theorem gM_line_isFull (z : MdS) (v : Int32) : gM_line (uM_isFull z v) = gM_line z := rfl
theorem gM_line_at (z : MdS) (v : Int32) : gM_line (uM_at z v) = gM_line z := rfl
theorem gM_line_fault (z : MdS) (v : Int32) : gM_line (uM_fault z v) = gM_line z := rfl
theorem gM_line_top (z : MdS) (v : Int64) : gM_line (uM_top z v) = gM_line z := rfl
theorem gM_line_bottom (z : MdS) (v : Int64) : gM_line (uM_bottom z v) = gM_line z := rfl
theorem gM_line_line (z : MdS) (v : (Nat → Int32)) : gM_line (uM_line z v) = v := rfl
theorem gM_line_out (z : MdS) (v : (Nat → Int32)) : gM_line (uM_out z v) = gM_line z := rfl
theorem gM_line_up (z : MdS) (v : (Nat → Int64)) : gM_line (uM_up z v) = gM_line z := rfl
theorem gM_line_down (z : MdS) (v : (Nat → Int64)) : gM_line (uM_down z v) = gM_line z := rfl
theorem gM_out_refusal (z : MdS) (v : Int32) : gM_out (uM_refusal z v) = gM_out z := rfl
theorem gM_out_lineSize (z : MdS) (v : Int32) : gM_out (uM_lineSize z v) = gM_out z := rfl
theorem gM_out_outSize (z : MdS) (v : Int32) : gM_out (uM_outSize z v) = gM_out z := rfl
theorem gM_out_wrongPlace (z : MdS) (v : Int32) : gM_out (uM_wrongPlace z v) = gM_out z := rfl
theorem gM_out_isFull (z : MdS) (v : Int32) : gM_out (uM_isFull z v) = gM_out z := rfl
theorem gM_out_at (z : MdS) (v : Int32) : gM_out (uM_at z v) = gM_out z := rfl
theorem gM_out_fault (z : MdS) (v : Int32) : gM_out (uM_fault z v) = gM_out z := rfl
theorem gM_out_top (z : MdS) (v : Int64) : gM_out (uM_top z v) = gM_out z := rfl
theorem gM_out_bottom (z : MdS) (v : Int64) : gM_out (uM_bottom z v) = gM_out z := rfl
theorem gM_out_line (z : MdS) (v : (Nat → Int32)) : gM_out (uM_line z v) = gM_out z := rfl
theorem gM_out_out (z : MdS) (v : (Nat → Int32)) : gM_out (uM_out z v) = v := rfl
theorem gM_out_up (z : MdS) (v : (Nat → Int64)) : gM_out (uM_up z v) = gM_out z := rfl
theorem gM_out_down (z : MdS) (v : (Nat → Int64)) : gM_out (uM_down z v) = gM_out z := rfl
theorem gM_up_refusal (z : MdS) (v : Int32) : gM_up (uM_refusal z v) = gM_up z := rfl
theorem gM_up_lineSize (z : MdS) (v : Int32) : gM_up (uM_lineSize z v) = gM_up z := rfl
theorem gM_up_outSize (z : MdS) (v : Int32) : gM_up (uM_outSize z v) = gM_up z := rfl
theorem gM_up_wrongPlace (z : MdS) (v : Int32) : gM_up (uM_wrongPlace z v) = gM_up z := rfl
theorem gM_up_isFull (z : MdS) (v : Int32) : gM_up (uM_isFull z v) = gM_up z := rfl
theorem gM_up_at (z : MdS) (v : Int32) : gM_up (uM_at z v) = gM_up z := rfl
theorem gM_up_fault (z : MdS) (v : Int32) : gM_up (uM_fault z v) = gM_up z := rfl
theorem gM_up_top (z : MdS) (v : Int64) : gM_up (uM_top z v) = gM_up z := rfl
theorem gM_up_bottom (z : MdS) (v : Int64) : gM_up (uM_bottom z v) = gM_up z := rfl
theorem gM_up_line (z : MdS) (v : (Nat → Int32)) : gM_up (uM_line z v) = gM_up z := rfl
theorem gM_up_out (z : MdS) (v : (Nat → Int32)) : gM_up (uM_out z v) = gM_up z := rfl
theorem gM_up_up (z : MdS) (v : (Nat → Int64)) : gM_up (uM_up z v) = v := rfl
theorem gM_up_down (z : MdS) (v : (Nat → Int64)) : gM_up (uM_down z v) = gM_up z := rfl
theorem gM_down_refusal (z : MdS) (v : Int32) : gM_down (uM_refusal z v) = gM_down z := rfl
theorem gM_down_lineSize (z : MdS) (v : Int32) : gM_down (uM_lineSize z v) = gM_down z := rfl
theorem gM_down_outSize (z : MdS) (v : Int32) : gM_down (uM_outSize z v) = gM_down z := rfl
theorem gM_down_wrongPlace (z : MdS) (v : Int32) : gM_down (uM_wrongPlace z v) = gM_down z := rfl
theorem gM_down_isFull (z : MdS) (v : Int32) : gM_down (uM_isFull z v) = gM_down z := rfl
theorem gM_down_at (z : MdS) (v : Int32) : gM_down (uM_at z v) = gM_down z := rfl
theorem gM_down_fault (z : MdS) (v : Int32) : gM_down (uM_fault z v) = gM_down z := rfl
theorem gM_down_top (z : MdS) (v : Int64) : gM_down (uM_top z v) = gM_down z := rfl
theorem gM_down_bottom (z : MdS) (v : Int64) : gM_down (uM_bottom z v) = gM_down z := rfl
theorem gM_down_line (z : MdS) (v : (Nat → Int32)) : gM_down (uM_line z v) = gM_down z := rfl
theorem gM_down_out (z : MdS) (v : (Nat → Int32)) : gM_down (uM_out z v) = gM_down z := rfl
theorem gM_down_up (z : MdS) (v : (Nat → Int64)) : gM_down (uM_up z v) = gM_down z := rfl
theorem gM_down_down (z : MdS) (v : (Nat → Int64)) : gM_down (uM_down z v) = v := rfl
def wSum (cA : Nat → ClassId) (q : Nat → Nat) (R : Nat) (z : SumS) : va_W := [(q 0, .inr (2, [.int (nI R), .ref (q 1), .ref (q 2), .ref (q 3), .int (gS_size z), .int (gS_ov z)])), (q 1, .inl (cA 0, R, .inl (gS_keys z))), (q 2, .inl (cA 1, R, .inr (.inl (gS_tops z)))), (q 3, .inl (cA 1, R, .inr (.inl (gS_bots z))))]
def wLine (cA : Nat → ClassId) (q : Nat → Nat) (z : LineS) : va_W := [(q 0, .inr (0, [.ref (q 1), .int (gL_len z)])), (q 1, .inl (cA 2, 100, .inl (gL_ch z)))]
def wRd (q ql qs : Nat → Nat) (z : RdS) : va_W := [(q 0, .inr (1, [.ref (ql 0), .ref (qs 0), .int (gR_at z), .int (gR_fault z), .int (gR_place z), .long (gR_top z), .long (gR_bottom z), .int (gR_power z), .int (gR_kind z), .int (gR_arg z)]))]
def wWr (cA : Nat → ClassId) (q : Nat → Nat) (z : WrS) : va_W := [(q 0, .inr (3, [.ref (q 1), .int (gW_len z)])), (q 1, .inl (cA 2, 1200, .inl (gW_ch z)))]
def wMd (cA : Nat → ClassId) (q : Nat → Nat) (z : MdS) : va_W := [(q 0, .inr (5, [.int (gM_refusal z), .ref (q 1), .int (gM_lineSize z), .ref (q 2), .int (gM_outSize z), .int (gM_wrongPlace z), .ref (q 3), .ref (q 4), .int (gM_isFull z), .int (gM_at z), .int (gM_fault z), .long (gM_top z), .long (gM_bottom z)])), (q 1, .inl (cA 2, 100, .inl (gM_line z))), (q 2, .inl (cA 2, 1400, .inl (gM_out z))), (q 3, .inl (cA 1, nUD, .inr (.inl (gM_up z)))), (q 4, .inl (cA 1, nUD, .inr (.inl (gM_down z))))]
theorem sS_size_P {G : va_G} {cl : List vw_C} {cA : Nat → ClassId} {q : Nat → Nat} {R : Nat} {z : SumS} {v : Int32} {H : Heap} (h : va_P G cl ((wSum cA q R z).set 0 (q 0, .inr (2, ([.int (nI R), .ref (q 1), .ref (q 2), .ref (q 3), .int (gS_size z), .int (gS_ov z)] : List Value).set 4 (.int v)))) H) : va_P G cl (wSum cA q R (uS_size z v)) H := h
theorem sS_size_D {A : Nat → Prop} {cA : Nat → ClassId} {q : Nat → Nat} {R : Nat} {z : SumS} {v : Int32} (h : va_D A ((wSum cA q R z).set 0 (q 0, .inr (2, ([.int (nI R), .ref (q 1), .ref (q 2), .ref (q 3), .int (gS_size z), .int (gS_ov z)] : List Value).set 4 (.int v))))) : va_D A (wSum cA q R (uS_size z v)) := h
theorem sS_ov_P {G : va_G} {cl : List vw_C} {cA : Nat → ClassId} {q : Nat → Nat} {R : Nat} {z : SumS} {v : Int32} {H : Heap} (h : va_P G cl ((wSum cA q R z).set 0 (q 0, .inr (2, ([.int (nI R), .ref (q 1), .ref (q 2), .ref (q 3), .int (gS_size z), .int (gS_ov z)] : List Value).set 5 (.int v)))) H) : va_P G cl (wSum cA q R (uS_ov z v)) H := h
theorem sS_ov_D {A : Nat → Prop} {cA : Nat → ClassId} {q : Nat → Nat} {R : Nat} {z : SumS} {v : Int32} (h : va_D A ((wSum cA q R z).set 0 (q 0, .inr (2, ([.int (nI R), .ref (q 1), .ref (q 2), .ref (q 3), .int (gS_size z), .int (gS_ov z)] : List Value).set 5 (.int v))))) : va_D A (wSum cA q R (uS_ov z v)) := h
theorem sS_keys_P {G : va_G} {cl : List vw_C} {cA : Nat → ClassId} {q : Nat → Nat} {R : Nat} {z : SumS} {v : (Nat → Int32)} {H : Heap} (h : va_P G cl ((wSum cA q R z).set 1 (q 1, .inl (cA 0, R, .inl v))) H) : va_P G cl (wSum cA q R (uS_keys z v)) H := h
theorem sS_keys_D {A : Nat → Prop} {cA : Nat → ClassId} {q : Nat → Nat} {R : Nat} {z : SumS} {v : (Nat → Int32)} (h : va_D A ((wSum cA q R z).set 1 (q 1, .inl (cA 0, R, .inl v)))) : va_D A (wSum cA q R (uS_keys z v)) := h
theorem sS_tops_P {G : va_G} {cl : List vw_C} {cA : Nat → ClassId} {q : Nat → Nat} {R : Nat} {z : SumS} {v : (Nat → Int64)} {H : Heap} (h : va_P G cl ((wSum cA q R z).set 2 (q 2, .inl (cA 1, R, .inr (.inl v)))) H) : va_P G cl (wSum cA q R (uS_tops z v)) H := h
theorem sS_tops_D {A : Nat → Prop} {cA : Nat → ClassId} {q : Nat → Nat} {R : Nat} {z : SumS} {v : (Nat → Int64)} (h : va_D A ((wSum cA q R z).set 2 (q 2, .inl (cA 1, R, .inr (.inl v))))) : va_D A (wSum cA q R (uS_tops z v)) := h
theorem sS_bots_P {G : va_G} {cl : List vw_C} {cA : Nat → ClassId} {q : Nat → Nat} {R : Nat} {z : SumS} {v : (Nat → Int64)} {H : Heap} (h : va_P G cl ((wSum cA q R z).set 3 (q 3, .inl (cA 1, R, .inr (.inl v)))) H) : va_P G cl (wSum cA q R (uS_bots z v)) H := h
theorem sS_bots_D {A : Nat → Prop} {cA : Nat → ClassId} {q : Nat → Nat} {R : Nat} {z : SumS} {v : (Nat → Int64)} (h : va_D A ((wSum cA q R z).set 3 (q 3, .inl (cA 1, R, .inr (.inl v))))) : va_D A (wSum cA q R (uS_bots z v)) := h
theorem sL_len_P {G : va_G} {cl : List vw_C} {cA : Nat → ClassId} {q : Nat → Nat} {z : LineS} {v : Int32} {H : Heap} (h : va_P G cl ((wLine cA q z).set 0 (q 0, .inr (0, ([.ref (q 1), .int (gL_len z)] : List Value).set 1 (.int v)))) H) : va_P G cl (wLine cA q (uL_len z v)) H := h
theorem sL_len_D {A : Nat → Prop} {cA : Nat → ClassId} {q : Nat → Nat} {z : LineS} {v : Int32} (h : va_D A ((wLine cA q z).set 0 (q 0, .inr (0, ([.ref (q 1), .int (gL_len z)] : List Value).set 1 (.int v))))) : va_D A (wLine cA q (uL_len z v)) := h
theorem sL_ch_P {G : va_G} {cl : List vw_C} {cA : Nat → ClassId} {q : Nat → Nat} {z : LineS} {v : (Nat → Int32)} {H : Heap} (h : va_P G cl ((wLine cA q z).set 1 (q 1, .inl (cA 2, 100, .inl v))) H) : va_P G cl (wLine cA q (uL_ch z v)) H := h
theorem sL_ch_D {A : Nat → Prop} {cA : Nat → ClassId} {q : Nat → Nat} {z : LineS} {v : (Nat → Int32)} (h : va_D A ((wLine cA q z).set 1 (q 1, .inl (cA 2, 100, .inl v)))) : va_D A (wLine cA q (uL_ch z v)) := h
theorem sR_at_P {G : va_G} {cl : List vw_C} {q ql qs : Nat → Nat} {z : RdS} {v : Int32} {H : Heap} (h : va_P G cl ((wRd q ql qs z).set 0 (q 0, .inr (1, ([.ref (ql 0), .ref (qs 0), .int (gR_at z), .int (gR_fault z), .int (gR_place z), .long (gR_top z), .long (gR_bottom z), .int (gR_power z), .int (gR_kind z), .int (gR_arg z)] : List Value).set 2 (.int v)))) H) : va_P G cl (wRd q ql qs (uR_at z v)) H := h
theorem sR_at_D {A : Nat → Prop} {q ql qs : Nat → Nat} {z : RdS} {v : Int32} (h : va_D A ((wRd q ql qs z).set 0 (q 0, .inr (1, ([.ref (ql 0), .ref (qs 0), .int (gR_at z), .int (gR_fault z), .int (gR_place z), .long (gR_top z), .long (gR_bottom z), .int (gR_power z), .int (gR_kind z), .int (gR_arg z)] : List Value).set 2 (.int v))))) : va_D A (wRd q ql qs (uR_at z v)) := h
theorem sR_fault_P {G : va_G} {cl : List vw_C} {q ql qs : Nat → Nat} {z : RdS} {v : Int32} {H : Heap} (h : va_P G cl ((wRd q ql qs z).set 0 (q 0, .inr (1, ([.ref (ql 0), .ref (qs 0), .int (gR_at z), .int (gR_fault z), .int (gR_place z), .long (gR_top z), .long (gR_bottom z), .int (gR_power z), .int (gR_kind z), .int (gR_arg z)] : List Value).set 3 (.int v)))) H) : va_P G cl (wRd q ql qs (uR_fault z v)) H := h
theorem sR_fault_D {A : Nat → Prop} {q ql qs : Nat → Nat} {z : RdS} {v : Int32} (h : va_D A ((wRd q ql qs z).set 0 (q 0, .inr (1, ([.ref (ql 0), .ref (qs 0), .int (gR_at z), .int (gR_fault z), .int (gR_place z), .long (gR_top z), .long (gR_bottom z), .int (gR_power z), .int (gR_kind z), .int (gR_arg z)] : List Value).set 3 (.int v))))) : va_D A (wRd q ql qs (uR_fault z v)) := h
theorem sR_place_P {G : va_G} {cl : List vw_C} {q ql qs : Nat → Nat} {z : RdS} {v : Int32} {H : Heap} (h : va_P G cl ((wRd q ql qs z).set 0 (q 0, .inr (1, ([.ref (ql 0), .ref (qs 0), .int (gR_at z), .int (gR_fault z), .int (gR_place z), .long (gR_top z), .long (gR_bottom z), .int (gR_power z), .int (gR_kind z), .int (gR_arg z)] : List Value).set 4 (.int v)))) H) : va_P G cl (wRd q ql qs (uR_place z v)) H := h
theorem sR_place_D {A : Nat → Prop} {q ql qs : Nat → Nat} {z : RdS} {v : Int32} (h : va_D A ((wRd q ql qs z).set 0 (q 0, .inr (1, ([.ref (ql 0), .ref (qs 0), .int (gR_at z), .int (gR_fault z), .int (gR_place z), .long (gR_top z), .long (gR_bottom z), .int (gR_power z), .int (gR_kind z), .int (gR_arg z)] : List Value).set 4 (.int v))))) : va_D A (wRd q ql qs (uR_place z v)) := h
theorem sR_top_P {G : va_G} {cl : List vw_C} {q ql qs : Nat → Nat} {z : RdS} {v : Int64} {H : Heap} (h : va_P G cl ((wRd q ql qs z).set 0 (q 0, .inr (1, ([.ref (ql 0), .ref (qs 0), .int (gR_at z), .int (gR_fault z), .int (gR_place z), .long (gR_top z), .long (gR_bottom z), .int (gR_power z), .int (gR_kind z), .int (gR_arg z)] : List Value).set 5 (.long v)))) H) : va_P G cl (wRd q ql qs (uR_top z v)) H := h
theorem sR_top_D {A : Nat → Prop} {q ql qs : Nat → Nat} {z : RdS} {v : Int64} (h : va_D A ((wRd q ql qs z).set 0 (q 0, .inr (1, ([.ref (ql 0), .ref (qs 0), .int (gR_at z), .int (gR_fault z), .int (gR_place z), .long (gR_top z), .long (gR_bottom z), .int (gR_power z), .int (gR_kind z), .int (gR_arg z)] : List Value).set 5 (.long v))))) : va_D A (wRd q ql qs (uR_top z v)) := h
theorem sR_bottom_P {G : va_G} {cl : List vw_C} {q ql qs : Nat → Nat} {z : RdS} {v : Int64} {H : Heap} (h : va_P G cl ((wRd q ql qs z).set 0 (q 0, .inr (1, ([.ref (ql 0), .ref (qs 0), .int (gR_at z), .int (gR_fault z), .int (gR_place z), .long (gR_top z), .long (gR_bottom z), .int (gR_power z), .int (gR_kind z), .int (gR_arg z)] : List Value).set 6 (.long v)))) H) : va_P G cl (wRd q ql qs (uR_bottom z v)) H := h
theorem sR_bottom_D {A : Nat → Prop} {q ql qs : Nat → Nat} {z : RdS} {v : Int64} (h : va_D A ((wRd q ql qs z).set 0 (q 0, .inr (1, ([.ref (ql 0), .ref (qs 0), .int (gR_at z), .int (gR_fault z), .int (gR_place z), .long (gR_top z), .long (gR_bottom z), .int (gR_power z), .int (gR_kind z), .int (gR_arg z)] : List Value).set 6 (.long v))))) : va_D A (wRd q ql qs (uR_bottom z v)) := h
theorem sR_power_P {G : va_G} {cl : List vw_C} {q ql qs : Nat → Nat} {z : RdS} {v : Int32} {H : Heap} (h : va_P G cl ((wRd q ql qs z).set 0 (q 0, .inr (1, ([.ref (ql 0), .ref (qs 0), .int (gR_at z), .int (gR_fault z), .int (gR_place z), .long (gR_top z), .long (gR_bottom z), .int (gR_power z), .int (gR_kind z), .int (gR_arg z)] : List Value).set 7 (.int v)))) H) : va_P G cl (wRd q ql qs (uR_power z v)) H := h
theorem sR_power_D {A : Nat → Prop} {q ql qs : Nat → Nat} {z : RdS} {v : Int32} (h : va_D A ((wRd q ql qs z).set 0 (q 0, .inr (1, ([.ref (ql 0), .ref (qs 0), .int (gR_at z), .int (gR_fault z), .int (gR_place z), .long (gR_top z), .long (gR_bottom z), .int (gR_power z), .int (gR_kind z), .int (gR_arg z)] : List Value).set 7 (.int v))))) : va_D A (wRd q ql qs (uR_power z v)) := h
theorem sR_kind_P {G : va_G} {cl : List vw_C} {q ql qs : Nat → Nat} {z : RdS} {v : Int32} {H : Heap} (h : va_P G cl ((wRd q ql qs z).set 0 (q 0, .inr (1, ([.ref (ql 0), .ref (qs 0), .int (gR_at z), .int (gR_fault z), .int (gR_place z), .long (gR_top z), .long (gR_bottom z), .int (gR_power z), .int (gR_kind z), .int (gR_arg z)] : List Value).set 8 (.int v)))) H) : va_P G cl (wRd q ql qs (uR_kind z v)) H := h
theorem sR_kind_D {A : Nat → Prop} {q ql qs : Nat → Nat} {z : RdS} {v : Int32} (h : va_D A ((wRd q ql qs z).set 0 (q 0, .inr (1, ([.ref (ql 0), .ref (qs 0), .int (gR_at z), .int (gR_fault z), .int (gR_place z), .long (gR_top z), .long (gR_bottom z), .int (gR_power z), .int (gR_kind z), .int (gR_arg z)] : List Value).set 8 (.int v))))) : va_D A (wRd q ql qs (uR_kind z v)) := h
theorem sR_arg_P {G : va_G} {cl : List vw_C} {q ql qs : Nat → Nat} {z : RdS} {v : Int32} {H : Heap} (h : va_P G cl ((wRd q ql qs z).set 0 (q 0, .inr (1, ([.ref (ql 0), .ref (qs 0), .int (gR_at z), .int (gR_fault z), .int (gR_place z), .long (gR_top z), .long (gR_bottom z), .int (gR_power z), .int (gR_kind z), .int (gR_arg z)] : List Value).set 9 (.int v)))) H) : va_P G cl (wRd q ql qs (uR_arg z v)) H := h
theorem sR_arg_D {A : Nat → Prop} {q ql qs : Nat → Nat} {z : RdS} {v : Int32} (h : va_D A ((wRd q ql qs z).set 0 (q 0, .inr (1, ([.ref (ql 0), .ref (qs 0), .int (gR_at z), .int (gR_fault z), .int (gR_place z), .long (gR_top z), .long (gR_bottom z), .int (gR_power z), .int (gR_kind z), .int (gR_arg z)] : List Value).set 9 (.int v))))) : va_D A (wRd q ql qs (uR_arg z v)) := h
theorem sW_len_P {G : va_G} {cl : List vw_C} {cA : Nat → ClassId} {q : Nat → Nat} {z : WrS} {v : Int32} {H : Heap} (h : va_P G cl ((wWr cA q z).set 0 (q 0, .inr (3, ([.ref (q 1), .int (gW_len z)] : List Value).set 1 (.int v)))) H) : va_P G cl (wWr cA q (uW_len z v)) H := h
theorem sW_len_D {A : Nat → Prop} {cA : Nat → ClassId} {q : Nat → Nat} {z : WrS} {v : Int32} (h : va_D A ((wWr cA q z).set 0 (q 0, .inr (3, ([.ref (q 1), .int (gW_len z)] : List Value).set 1 (.int v))))) : va_D A (wWr cA q (uW_len z v)) := h
theorem sW_ch_P {G : va_G} {cl : List vw_C} {cA : Nat → ClassId} {q : Nat → Nat} {z : WrS} {v : (Nat → Int32)} {H : Heap} (h : va_P G cl ((wWr cA q z).set 1 (q 1, .inl (cA 2, 1200, .inl v))) H) : va_P G cl (wWr cA q (uW_ch z v)) H := h
theorem sW_ch_D {A : Nat → Prop} {cA : Nat → ClassId} {q : Nat → Nat} {z : WrS} {v : (Nat → Int32)} (h : va_D A ((wWr cA q z).set 1 (q 1, .inl (cA 2, 1200, .inl v)))) : va_D A (wWr cA q (uW_ch z v)) := h
theorem sM_refusal_P {G : va_G} {cl : List vw_C} {cA : Nat → ClassId} {q : Nat → Nat} {z : MdS} {v : Int32} {H : Heap} (h : va_P G cl ((wMd cA q z).set 0 (q 0, .inr (5, ([.int (gM_refusal z), .ref (q 1), .int (gM_lineSize z), .ref (q 2), .int (gM_outSize z), .int (gM_wrongPlace z), .ref (q 3), .ref (q 4), .int (gM_isFull z), .int (gM_at z), .int (gM_fault z), .long (gM_top z), .long (gM_bottom z)] : List Value).set 0 (.int v)))) H) : va_P G cl (wMd cA q (uM_refusal z v)) H := h
theorem sM_refusal_D {A : Nat → Prop} {cA : Nat → ClassId} {q : Nat → Nat} {z : MdS} {v : Int32} (h : va_D A ((wMd cA q z).set 0 (q 0, .inr (5, ([.int (gM_refusal z), .ref (q 1), .int (gM_lineSize z), .ref (q 2), .int (gM_outSize z), .int (gM_wrongPlace z), .ref (q 3), .ref (q 4), .int (gM_isFull z), .int (gM_at z), .int (gM_fault z), .long (gM_top z), .long (gM_bottom z)] : List Value).set 0 (.int v))))) : va_D A (wMd cA q (uM_refusal z v)) := h
theorem sM_lineSize_P {G : va_G} {cl : List vw_C} {cA : Nat → ClassId} {q : Nat → Nat} {z : MdS} {v : Int32} {H : Heap} (h : va_P G cl ((wMd cA q z).set 0 (q 0, .inr (5, ([.int (gM_refusal z), .ref (q 1), .int (gM_lineSize z), .ref (q 2), .int (gM_outSize z), .int (gM_wrongPlace z), .ref (q 3), .ref (q 4), .int (gM_isFull z), .int (gM_at z), .int (gM_fault z), .long (gM_top z), .long (gM_bottom z)] : List Value).set 2 (.int v)))) H) : va_P G cl (wMd cA q (uM_lineSize z v)) H := h
theorem sM_lineSize_D {A : Nat → Prop} {cA : Nat → ClassId} {q : Nat → Nat} {z : MdS} {v : Int32} (h : va_D A ((wMd cA q z).set 0 (q 0, .inr (5, ([.int (gM_refusal z), .ref (q 1), .int (gM_lineSize z), .ref (q 2), .int (gM_outSize z), .int (gM_wrongPlace z), .ref (q 3), .ref (q 4), .int (gM_isFull z), .int (gM_at z), .int (gM_fault z), .long (gM_top z), .long (gM_bottom z)] : List Value).set 2 (.int v))))) : va_D A (wMd cA q (uM_lineSize z v)) := h
theorem sM_outSize_P {G : va_G} {cl : List vw_C} {cA : Nat → ClassId} {q : Nat → Nat} {z : MdS} {v : Int32} {H : Heap} (h : va_P G cl ((wMd cA q z).set 0 (q 0, .inr (5, ([.int (gM_refusal z), .ref (q 1), .int (gM_lineSize z), .ref (q 2), .int (gM_outSize z), .int (gM_wrongPlace z), .ref (q 3), .ref (q 4), .int (gM_isFull z), .int (gM_at z), .int (gM_fault z), .long (gM_top z), .long (gM_bottom z)] : List Value).set 4 (.int v)))) H) : va_P G cl (wMd cA q (uM_outSize z v)) H := h
theorem sM_outSize_D {A : Nat → Prop} {cA : Nat → ClassId} {q : Nat → Nat} {z : MdS} {v : Int32} (h : va_D A ((wMd cA q z).set 0 (q 0, .inr (5, ([.int (gM_refusal z), .ref (q 1), .int (gM_lineSize z), .ref (q 2), .int (gM_outSize z), .int (gM_wrongPlace z), .ref (q 3), .ref (q 4), .int (gM_isFull z), .int (gM_at z), .int (gM_fault z), .long (gM_top z), .long (gM_bottom z)] : List Value).set 4 (.int v))))) : va_D A (wMd cA q (uM_outSize z v)) := h
theorem sM_wrongPlace_P {G : va_G} {cl : List vw_C} {cA : Nat → ClassId} {q : Nat → Nat} {z : MdS} {v : Int32} {H : Heap} (h : va_P G cl ((wMd cA q z).set 0 (q 0, .inr (5, ([.int (gM_refusal z), .ref (q 1), .int (gM_lineSize z), .ref (q 2), .int (gM_outSize z), .int (gM_wrongPlace z), .ref (q 3), .ref (q 4), .int (gM_isFull z), .int (gM_at z), .int (gM_fault z), .long (gM_top z), .long (gM_bottom z)] : List Value).set 5 (.int v)))) H) : va_P G cl (wMd cA q (uM_wrongPlace z v)) H := h
theorem sM_wrongPlace_D {A : Nat → Prop} {cA : Nat → ClassId} {q : Nat → Nat} {z : MdS} {v : Int32} (h : va_D A ((wMd cA q z).set 0 (q 0, .inr (5, ([.int (gM_refusal z), .ref (q 1), .int (gM_lineSize z), .ref (q 2), .int (gM_outSize z), .int (gM_wrongPlace z), .ref (q 3), .ref (q 4), .int (gM_isFull z), .int (gM_at z), .int (gM_fault z), .long (gM_top z), .long (gM_bottom z)] : List Value).set 5 (.int v))))) : va_D A (wMd cA q (uM_wrongPlace z v)) := h
theorem sM_isFull_P {G : va_G} {cl : List vw_C} {cA : Nat → ClassId} {q : Nat → Nat} {z : MdS} {v : Int32} {H : Heap} (h : va_P G cl ((wMd cA q z).set 0 (q 0, .inr (5, ([.int (gM_refusal z), .ref (q 1), .int (gM_lineSize z), .ref (q 2), .int (gM_outSize z), .int (gM_wrongPlace z), .ref (q 3), .ref (q 4), .int (gM_isFull z), .int (gM_at z), .int (gM_fault z), .long (gM_top z), .long (gM_bottom z)] : List Value).set 8 (.int v)))) H) : va_P G cl (wMd cA q (uM_isFull z v)) H := h
theorem sM_isFull_D {A : Nat → Prop} {cA : Nat → ClassId} {q : Nat → Nat} {z : MdS} {v : Int32} (h : va_D A ((wMd cA q z).set 0 (q 0, .inr (5, ([.int (gM_refusal z), .ref (q 1), .int (gM_lineSize z), .ref (q 2), .int (gM_outSize z), .int (gM_wrongPlace z), .ref (q 3), .ref (q 4), .int (gM_isFull z), .int (gM_at z), .int (gM_fault z), .long (gM_top z), .long (gM_bottom z)] : List Value).set 8 (.int v))))) : va_D A (wMd cA q (uM_isFull z v)) := h
theorem sM_at_P {G : va_G} {cl : List vw_C} {cA : Nat → ClassId} {q : Nat → Nat} {z : MdS} {v : Int32} {H : Heap} (h : va_P G cl ((wMd cA q z).set 0 (q 0, .inr (5, ([.int (gM_refusal z), .ref (q 1), .int (gM_lineSize z), .ref (q 2), .int (gM_outSize z), .int (gM_wrongPlace z), .ref (q 3), .ref (q 4), .int (gM_isFull z), .int (gM_at z), .int (gM_fault z), .long (gM_top z), .long (gM_bottom z)] : List Value).set 9 (.int v)))) H) : va_P G cl (wMd cA q (uM_at z v)) H := h
theorem sM_at_D {A : Nat → Prop} {cA : Nat → ClassId} {q : Nat → Nat} {z : MdS} {v : Int32} (h : va_D A ((wMd cA q z).set 0 (q 0, .inr (5, ([.int (gM_refusal z), .ref (q 1), .int (gM_lineSize z), .ref (q 2), .int (gM_outSize z), .int (gM_wrongPlace z), .ref (q 3), .ref (q 4), .int (gM_isFull z), .int (gM_at z), .int (gM_fault z), .long (gM_top z), .long (gM_bottom z)] : List Value).set 9 (.int v))))) : va_D A (wMd cA q (uM_at z v)) := h
theorem sM_fault_P {G : va_G} {cl : List vw_C} {cA : Nat → ClassId} {q : Nat → Nat} {z : MdS} {v : Int32} {H : Heap} (h : va_P G cl ((wMd cA q z).set 0 (q 0, .inr (5, ([.int (gM_refusal z), .ref (q 1), .int (gM_lineSize z), .ref (q 2), .int (gM_outSize z), .int (gM_wrongPlace z), .ref (q 3), .ref (q 4), .int (gM_isFull z), .int (gM_at z), .int (gM_fault z), .long (gM_top z), .long (gM_bottom z)] : List Value).set 10 (.int v)))) H) : va_P G cl (wMd cA q (uM_fault z v)) H := h
theorem sM_fault_D {A : Nat → Prop} {cA : Nat → ClassId} {q : Nat → Nat} {z : MdS} {v : Int32} (h : va_D A ((wMd cA q z).set 0 (q 0, .inr (5, ([.int (gM_refusal z), .ref (q 1), .int (gM_lineSize z), .ref (q 2), .int (gM_outSize z), .int (gM_wrongPlace z), .ref (q 3), .ref (q 4), .int (gM_isFull z), .int (gM_at z), .int (gM_fault z), .long (gM_top z), .long (gM_bottom z)] : List Value).set 10 (.int v))))) : va_D A (wMd cA q (uM_fault z v)) := h
theorem sM_top_P {G : va_G} {cl : List vw_C} {cA : Nat → ClassId} {q : Nat → Nat} {z : MdS} {v : Int64} {H : Heap} (h : va_P G cl ((wMd cA q z).set 0 (q 0, .inr (5, ([.int (gM_refusal z), .ref (q 1), .int (gM_lineSize z), .ref (q 2), .int (gM_outSize z), .int (gM_wrongPlace z), .ref (q 3), .ref (q 4), .int (gM_isFull z), .int (gM_at z), .int (gM_fault z), .long (gM_top z), .long (gM_bottom z)] : List Value).set 11 (.long v)))) H) : va_P G cl (wMd cA q (uM_top z v)) H := h
theorem sM_top_D {A : Nat → Prop} {cA : Nat → ClassId} {q : Nat → Nat} {z : MdS} {v : Int64} (h : va_D A ((wMd cA q z).set 0 (q 0, .inr (5, ([.int (gM_refusal z), .ref (q 1), .int (gM_lineSize z), .ref (q 2), .int (gM_outSize z), .int (gM_wrongPlace z), .ref (q 3), .ref (q 4), .int (gM_isFull z), .int (gM_at z), .int (gM_fault z), .long (gM_top z), .long (gM_bottom z)] : List Value).set 11 (.long v))))) : va_D A (wMd cA q (uM_top z v)) := h
theorem sM_bottom_P {G : va_G} {cl : List vw_C} {cA : Nat → ClassId} {q : Nat → Nat} {z : MdS} {v : Int64} {H : Heap} (h : va_P G cl ((wMd cA q z).set 0 (q 0, .inr (5, ([.int (gM_refusal z), .ref (q 1), .int (gM_lineSize z), .ref (q 2), .int (gM_outSize z), .int (gM_wrongPlace z), .ref (q 3), .ref (q 4), .int (gM_isFull z), .int (gM_at z), .int (gM_fault z), .long (gM_top z), .long (gM_bottom z)] : List Value).set 12 (.long v)))) H) : va_P G cl (wMd cA q (uM_bottom z v)) H := h
theorem sM_bottom_D {A : Nat → Prop} {cA : Nat → ClassId} {q : Nat → Nat} {z : MdS} {v : Int64} (h : va_D A ((wMd cA q z).set 0 (q 0, .inr (5, ([.int (gM_refusal z), .ref (q 1), .int (gM_lineSize z), .ref (q 2), .int (gM_outSize z), .int (gM_wrongPlace z), .ref (q 3), .ref (q 4), .int (gM_isFull z), .int (gM_at z), .int (gM_fault z), .long (gM_top z), .long (gM_bottom z)] : List Value).set 12 (.long v))))) : va_D A (wMd cA q (uM_bottom z v)) := h
theorem sM_line_P {G : va_G} {cl : List vw_C} {cA : Nat → ClassId} {q : Nat → Nat} {z : MdS} {v : (Nat → Int32)} {H : Heap} (h : va_P G cl ((wMd cA q z).set 1 (q 1, .inl (cA 2, 100, .inl v))) H) : va_P G cl (wMd cA q (uM_line z v)) H := h
theorem sM_line_D {A : Nat → Prop} {cA : Nat → ClassId} {q : Nat → Nat} {z : MdS} {v : (Nat → Int32)} (h : va_D A ((wMd cA q z).set 1 (q 1, .inl (cA 2, 100, .inl v)))) : va_D A (wMd cA q (uM_line z v)) := h
theorem sM_out_P {G : va_G} {cl : List vw_C} {cA : Nat → ClassId} {q : Nat → Nat} {z : MdS} {v : (Nat → Int32)} {H : Heap} (h : va_P G cl ((wMd cA q z).set 2 (q 2, .inl (cA 2, 1400, .inl v))) H) : va_P G cl (wMd cA q (uM_out z v)) H := h
theorem sM_out_D {A : Nat → Prop} {cA : Nat → ClassId} {q : Nat → Nat} {z : MdS} {v : (Nat → Int32)} (h : va_D A ((wMd cA q z).set 2 (q 2, .inl (cA 2, 1400, .inl v)))) : va_D A (wMd cA q (uM_out z v)) := h
theorem sM_up_P {G : va_G} {cl : List vw_C} {cA : Nat → ClassId} {q : Nat → Nat} {z : MdS} {v : (Nat → Int64)} {H : Heap} (h : va_P G cl ((wMd cA q z).set 3 (q 3, .inl (cA 1, nUD, .inr (.inl v)))) H) : va_P G cl (wMd cA q (uM_up z v)) H := h
theorem sM_up_D {A : Nat → Prop} {cA : Nat → ClassId} {q : Nat → Nat} {z : MdS} {v : (Nat → Int64)} (h : va_D A ((wMd cA q z).set 3 (q 3, .inl (cA 1, nUD, .inr (.inl v))))) : va_D A (wMd cA q (uM_up z v)) := h
theorem sM_down_P {G : va_G} {cl : List vw_C} {cA : Nat → ClassId} {q : Nat → Nat} {z : MdS} {v : (Nat → Int64)} {H : Heap} (h : va_P G cl ((wMd cA q z).set 4 (q 4, .inl (cA 1, nUD, .inr (.inl v)))) H) : va_P G cl (wMd cA q (uM_down z v)) H := h
theorem sM_down_D {A : Nat → Prop} {cA : Nat → ClassId} {q : Nat → Nat} {z : MdS} {v : (Nat → Int64)} (h : va_D A ((wMd cA q z).set 4 (q 4, .inl (cA 1, nUD, .inr (.inl v))))) : va_D A (wMd cA q (uM_down z v)) := h
end
section
def rm_X1_charactersIn : Room := { frames := 0, cells := 0, slots := 0, locals := 0 }
def f_X1_charactersIn_22 (kb_5 : Int32 → Int32 → Int32 → Option (Int32)) (x0 : Int32) (x1 : Int32) (x2 : Int32) : Option (Int32) := kb_5 x0 x1 (x2 + (-8))
set_option maxHeartbeats 4000000 in
set_option maxRecDepth 100000 in
theorem b_X1_charactersIn_22 {p : Program} {l : Launch} {e : Env} {s : State} {m : MethodId} {args : Array Value} {below : List Frame} {meth : Method} {c : Code} {G : va_G} {cA : Nat → ClassId} (C0 : Amb p s m args meth c cX1_charactersIn RX1 3 (some .int) G cA (fun _ : Nat => False) []) {res : Int32} (kb_5 : Int32 → Int32 → Int32 → Option (Int32)) (hkb_5 : ∀ (x0 : Int32) (x1 : Int32) (x2 : Int32) (ls : Array Slot), lv_has ls 3 [(0, .int x0), (1, .int x1), (2, .int x2)] → kb_5 x0 x1 x2 = some res → W p l e rm_X1_charactersIn s m args below meth c s.heap [] 0 0 (MQ below (vp_Si (fun x => x = res)) args s 0 0 (fun _ : Nat => False)) (F0 m 5 ls [])) : ∀ (x0 : Int32) (x1 : Int32) (x2 : Int32) (ls : Array Slot), lv_has ls 3 [(0, .int x0), (1, .int x1), (2, .int x2)] → f_X1_charactersIn_22 kb_5 x0 x1 x2 = some res → W p l e rm_X1_charactersIn s m args below meth c s.heap [] 0 0 (MQ below (vp_Si (fun x => x = res)) args s 0 0 (fun _ : Nat => False)) (F0 m 22 ls []) := by
  obtain ⟨hx, hb, hr, hml, hown, hts, hlocks, hK, hR, hRA⟩ := id C0
  intro x0 x1 x2 ls hl hf
  unfold f_X1_charactersIn_22 at hf
  refine lv_iinc (v := (x2 + (-8))) (lv' := [(2, .int (x2 + (-8))), (0, .int x0), (1, .int x1)]) hx hb dX1_charactersIn_22 hl (k := 2) rfl rfl (by decide) rfl (fun ls hl => ?_)
  refine lv_goto (tgt := 5) hx hb dX1_charactersIn_25 (by decide) ?_
  exact hkb_5 x0 x1 (x2 + (-8)) ls (lv_sub hl [1, 2, 0] rfl) hf
def f_X1_charactersIn_5  : Nat → Int32 → Int32 → Int32 → Option (Int32)
  | 0, _, _, _ => none
  | fu + 1, x0, x1, x2 => if x2 < 0 then some x1 else if (((x0.toUInt32 >>> (x2.toUInt32 &&& Int32.toUInt32 31)).toInt32) &&& (255 : Int32)) = 0 then f_X1_charactersIn_22 (fun x0_ x1_ x2_ => f_X1_charactersIn_5  fu x0_ x1_ x2_) x0 x1 x2 else f_X1_charactersIn_22 (fun x0_ x1_ x2_ => f_X1_charactersIn_5  fu x0_ x1_ x2_) x0 (x1 + 1) x2
set_option maxHeartbeats 4000000 in
set_option maxRecDepth 100000 in
theorem b_X1_charactersIn_5 {p : Program} {l : Launch} {e : Env} {s : State} {m : MethodId} {args : Array Value} {below : List Frame} {meth : Method} {c : Code} {G : va_G} {cA : Nat → ClassId} (C0 : Amb p s m args meth c cX1_charactersIn RX1 3 (some .int) G cA (fun _ : Nat => False) []) {res : Int32} : ∀ (fu : Nat) (x0 : Int32) (x1 : Int32) (x2 : Int32) (ls : Array Slot), lv_has ls 3 [(0, .int x0), (1, .int x1), (2, .int x2)] → f_X1_charactersIn_5 fu x0 x1 x2 = some res → W p l e rm_X1_charactersIn s m args below meth c s.heap [] 0 0 (MQ below (vp_Si (fun x => x = res)) args s 0 0 (fun _ : Nat => False)) (F0 m 5 ls []) := by
  obtain ⟨hx, hb, hr, hml, hown, hts, hlocks, hK, hR, hRA⟩ := id C0
  intro fu
  induction fu with
  | zero =>
    intro x0 x1 x2 ls hl hf
    rw [f_X1_charactersIn_5] at hf
    cases hf
  | succ fu ih =>
    intro x0 x1 x2 ls hl hf
    rw [f_X1_charactersIn_5] at hf
    refine lv_iload_n hx hb dX1_charactersIn_5 rfl (lv_at hl 2 rfl) ?_
    refine lv_if_lt (tgt := 28) hx hb dX1_charactersIn_6 (by decide) (fun c_1 => ?_) (fun c_1 => ?_)
    · rw [if_pos (c_1)] at hf
      refine lv_iload_n hx hb dX1_charactersIn_28 rfl (lv_at hl 1 rfl) ?_
      cases hf
      exact W.iret hx hb hr (fun t ht hW => ⟨_, rfl, rfl, ht⟩) (fun q hq => by cases hq) dX1_charactersIn_29 hlocks
    · rw [if_neg (c_1)] at hf
      refine lv_iload_n hx hb dX1_charactersIn_9 rfl (lv_at hl 0 rfl) ?_
      refine lv_iload_n hx hb dX1_charactersIn_10 rfl (lv_at hl 2 rfl) ?_
      refine lv_iushr hx hb dX1_charactersIn_11 rfl ?_
      refine lv_sipush (v := (255 : Int32)) hx hb dX1_charactersIn_12 (by decide) ?_
      refine lv_iand hx hb dX1_charactersIn_15 ?_
      refine lv_if_eq (tgt := 22) hx hb dX1_charactersIn_16 (by decide) (fun c_2 => ?_) (fun c_2 => ?_)
      · rw [if_pos (c_2)] at hf
        exact b_X1_charactersIn_22    C0 (fun x0_ x1_ x2_ => f_X1_charactersIn_5  fu x0_ x1_ x2_) ih x0 x1 x2 ls (lv_sub hl [0, 1, 2] rfl) hf
      · rw [if_neg (c_2)] at hf
        refine lv_iinc (v := (x1 + 1)) (lv' := [(1, .int (x1 + 1)), (0, .int x0), (2, .int x2)]) hx hb dX1_charactersIn_19 hl (k := 1) rfl rfl (by decide) rfl (fun ls hl => ?_)
        exact b_X1_charactersIn_22    C0 (fun x0_ x1_ x2_ => f_X1_charactersIn_5  fu x0_ x1_ x2_) ih x0 (x1 + 1) x2 ls (lv_sub hl [1, 0, 2] rfl) hf
def f_X1_charactersIn (a0 : Int32) : Option (Int32) := f_X1_charactersIn_5 fuel a0 (0 : Int32) (24 : Int32)
set_option maxHeartbeats 4000000 in
set_option maxRecDepth 100000 in
theorem b_X1_charactersIn_0 {p : Program} {l : Launch} {e : Env} {s : State} {m : MethodId} {args : Array Value} {below : List Frame} {meth : Method} {c : Code} {G : va_G} {cA : Nat → ClassId} (C0 : Amb p s m args meth c cX1_charactersIn RX1 3 (some .int) G cA (fun _ : Nat => False) []) {res : Int32} : ∀ (a0 : Int32) (ls : Array Slot), lv_has ls 3 [(0, .int a0)] → f_X1_charactersIn a0 = some res → W p l e rm_X1_charactersIn s m args below meth c s.heap [] 0 0 (MQ below (vp_Si (fun x => x = res)) args s 0 0 (fun _ : Nat => False)) (F0 m 0 ls []) := by
  obtain ⟨hx, hb, hr, hml, hown, hts, hlocks, hK, hR, hRA⟩ := id C0
  intro a0 ls hl hf
  unfold f_X1_charactersIn at hf
  refine lv_iconst (v := 0) hx hb dX1_charactersIn_0 (by decide) ?_
  refine lv_istore_n (lv' := [(1, .int (0 : Int32)), (0, .int a0)]) hx hb dX1_charactersIn_1 rfl hl (by decide) rfl (fun ls hl => ?_)
  refine lv_bipush (v := (24 : Int32)) hx hb dX1_charactersIn_2 (by decide) ?_
  refine lv_istore_n (lv' := [(2, .int (24 : Int32)), (1, .int (0 : Int32)), (0, .int a0)]) hx hb dX1_charactersIn_4 rfl hl (by decide) rfl (fun ls hl => ?_)
  exact b_X1_charactersIn_5    C0  fuel a0 (0 : Int32) (24 : Int32) ls (lv_sub hl [2, 1, 0] rfl) hf

set_option maxRecDepth 100000 in
theorem m_X1_charactersIn (l : Launch) (G : va_G) (cA : Nat → ClassId) (a0 : Int32) (res : Int32) (hf : f_X1_charactersIn a0 = some res) : MRi l yX1_charactersIn (.code yX1_charactersIn cX1_charactersIn 3 (some .int) :: wd) rm_X1_charactersIn G cA [.int a0] [] res := by
  refine Met.ofW (cc := cX1_charactersIn) (maxL := 3) (ret := (some .int)) (by decide) rfl ?_
  intro p e s m args below meth c s₁ B hml hv
  obtain ⟨rfl, hK, hR⟩ := hv
  have C0 : Amb p s m ([.int a0] : List Value).toArray meth c cX1_charactersIn RX1 3 (some .int) G cA (fun _ : Nat => False) [] := ⟨B.exec, B.bytes, B.returns, hml, findClass_of_methodNamed B.named, fun w h => atoms_spec (ws := (.code yX1_charactersIn cX1_charactersIn 3 (some .int) :: wd)) B.pre w (List.mem_cons_of_mem _ h), B.notSynchronized, hK, hR, fun _ _ _ h => h⟩
  have hl := lv_entry ([.int a0]) (n := 3) (Nat.le_of_ble_eq_true rfl)
  rw [lg_entry_eq]
  generalize (lg_sl ([.int a0]) ++ List.replicate (3 - (lg_sl ([.int a0])).length) Slot.unset).toArray = ls at hl ⊢
  have hl : lv_has ls 3 [(0, .int a0)] := hl
  exact b_X1_charactersIn_0    C0 a0 ls hl hf
theorem cw_X1_charactersIn {R : Room} {s : State} {args : Array Value} {own : String} {index : Nat} (ht : ∀ w ∈ wd, w.before args s = true) (hlink : Cond.methodLink own index yX1_charactersIn ∈ wd) (hR : rm_X1_charactersIn.frames + 1 ≤ R.frames ∧ 8 + (3 + 11) + rm_X1_charactersIn.locals ≤ R.locals) : CallB R s args own index yX1_charactersIn cX1_charactersIn 3 (some .int) (.code yX1_charactersIn cX1_charactersIn 3 (some .int) :: wd) rm_X1_charactersIn 0 0 1 ∧ (Cond.static yX1_charactersIn).before args s = true := cwS9 1 ht wi_228 wi_227 wi_57 hlink (by decide +kernel) rfl rfl hR
def rm_X1_append : Room := { frames := 0, cells := 0, slots := 0, locals := 0 }
def f_X1_append_49 (kb_3 : LineS → Int32 → Int32 → Option (LineS)) (zL : LineS) (x1 : Int32) (x2 : Int32) : Option (LineS) := kb_3 zL x1 (x2 + (-8))
set_option maxHeartbeats 4000000 in
set_option maxRecDepth 100000 in
theorem b_X1_append_49 {p : Program} {l : Launch} {e : Env} {s : State} {m : MethodId} {args : Array Value} {below : List Frame} {meth : Method} {c : Code} {G : va_G} {cA : Nat → ClassId} {W9 : va_W} (qL : Nat → Nat) (C0 : Amb p s m args meth c cX1_append RX1 4 none G cA (adr W9) []) {res : LineS} (kb_3 : LineS → Int32 → Int32 → Option (LineS)) (hkb_3 : ∀ (zL : LineS) (x1 : Int32) (x2 : Int32) (H : Heap) (locs : List Loc) (ls : Array Slot), va_P G vwCl ((wLine cA qL zL)) H → va_D (adr W9) ((wLine cA qL zL)) → va_S (adr W9) s.heap H locs → lv_has ls 4 [(0, .ref (qL 0)), (1, .int x1), (2, .int x2)] → kb_3 zL x1 x2 = some res → W p l e rm_X1_append s m args below meth c H locs 0 0 (MQ below (qWv G W9 ((wLine cA qL res))) args s 0 0 (adr W9)) (F0 m 3 ls [])) : ∀ (zL : LineS) (x1 : Int32) (x2 : Int32) (H : Heap) (locs : List Loc) (ls : Array Slot), va_P G vwCl ((wLine cA qL zL)) H → va_D (adr W9) ((wLine cA qL zL)) → va_S (adr W9) s.heap H locs → lv_has ls 4 [(0, .ref (qL 0)), (1, .int x1), (2, .int x2)] → f_X1_append_49 kb_3 zL x1 x2 = some res → W p l e rm_X1_append s m args below meth c H locs 0 0 (MQ below (qWv G W9 ((wLine cA qL res))) args s 0 0 (adr W9)) (F0 m 49 ls []) := by
  obtain ⟨hx, hb, hr, hml, hown, hts, hlocks, hK, hR, hRA⟩ := id C0
  intro zL x1 x2 H locs ls hP hD hS hl hf
  unfold f_X1_append_49 at hf
  refine lv_iinc (v := (x2 + (-8))) (lv' := [(2, .int (x2 + (-8))), (0, .ref (qL 0)), (1, .int x1)]) hx hb dX1_append_49 hl (k := 2) rfl rfl (by decide) rfl (fun ls hl => ?_)
  refine lv_goto (tgt := 3) hx hb dX1_append_52 (by decide) ?_
  exact hkb_3 zL x1 (x2 + (-8)) H locs ls hP hD hS (lv_sub hl [1, 2, 0] rfl) hf
def f_X1_append_3  : Nat → LineS → Int32 → Int32 → Option (LineS)
  | 0, _, _, _ => none
  | fu + 1, zL, x1, x2 => if x2 < 0 then some zL else (some ((((x1.toUInt32 >>> (x2.toUInt32 &&& Int32.toUInt32 31)).toInt32) &&& (255 : Int32)))).bind fun y_2 => if y_2 = 0 then f_X1_append_49 (fun zL_ x1_ x2_ => f_X1_append_3  fu zL_ x1_ x2_) zL x1 x2 else if (100 : Int32) ≤ (gL_len zL) then f_X1_append_49 (fun zL_ x1_ x2_ => f_X1_append_3  fu zL_ x1_ x2_) zL x1 x2 else if inb (gL_len zL) 100 = true then f_X1_append_49 (fun zL_ x1_ x2_ => f_X1_append_3  fu zL_ x1_ x2_) (uL_len (uL_ch zL (upd (gL_ch zL) (gL_len zL).toNatClampNeg (vp_nar .char (((y_2).toUInt32 % 65536).toInt32)))) ((gL_len (uL_ch zL (upd (gL_ch zL) (gL_len zL).toNatClampNeg (vp_nar .char (((y_2).toUInt32 % 65536).toInt32))))) + (1 : Int32))) x1 x2 else none
set_option maxHeartbeats 4000000 in
set_option maxRecDepth 100000 in
theorem b_X1_append_3 {p : Program} {l : Launch} {e : Env} {s : State} {m : MethodId} {args : Array Value} {below : List Frame} {meth : Method} {c : Code} {G : va_G} {cA : Nat → ClassId} {W9 : va_W} (qL : Nat → Nat) (C0 : Amb p s m args meth c cX1_append RX1 4 none G cA (adr W9) []) {res : LineS} : ∀ (fu : Nat) (zL : LineS) (x1 : Int32) (x2 : Int32) (H : Heap) (locs : List Loc) (ls : Array Slot), va_P G vwCl ((wLine cA qL zL)) H → va_D (adr W9) ((wLine cA qL zL)) → va_S (adr W9) s.heap H locs → lv_has ls 4 [(0, .ref (qL 0)), (1, .int x1), (2, .int x2)] → f_X1_append_3 fu zL x1 x2 = some res → W p l e rm_X1_append s m args below meth c H locs 0 0 (MQ below (qWv G W9 ((wLine cA qL res))) args s 0 0 (adr W9)) (F0 m 3 ls []) := by
  obtain ⟨hx, hb, hr, hml, hown, hts, hlocks, hK, hR, hRA⟩ := id C0
  intro fu
  induction fu with
  | zero =>
    intro zL x1 x2 H locs ls hP hD hS hl hf
    rw [f_X1_append_3] at hf
    cases hf
  | succ fu ih =>
    intro zL x1 x2 H locs ls hP hD hS hl hf
    rw [f_X1_append_3] at hf
    refine lv_iload_n hx hb dX1_append_3 rfl (lv_at hl 2 rfl) ?_
    refine lv_if_lt (tgt := 55) hx hb dX1_append_4 (by decide) (fun c_1 => ?_) (fun c_1 => ?_)
    · rw [if_pos (c_1)] at hf
      cases hf
      exact W.vret hx hb hr (fun t ht hW => ⟨⟨(), rfl, trivial, toT ht hP⟩, hS.F ht⟩) hS.2.2 dX1_append_55 hlocks
    · rw [if_neg (c_1)] at hf
      refine lv_iload_n hx hb dX1_append_7 rfl (lv_at hl 1 rfl) ?_
      refine lv_iload_n hx hb dX1_append_8 rfl (lv_at hl 2 rfl) ?_
      refine lv_iushr hx hb dX1_append_9 rfl ?_
      refine lv_sipush (v := (255 : Int32)) hx hb dX1_append_10 (by decide) ?_
      refine lv_iand hx hb dX1_append_13 ?_
      obtain ⟨y_2, hq, hf⟩ := obd hf
      have hy_2 : (((x1.toUInt32 >>> (x2.toUInt32 &&& Int32.toUInt32 31)).toInt32) &&& (255 : Int32)) = y_2 := Option.some.inj hq
      rw [hy_2]
      refine lv_istore_n (lv' := [(3, .int y_2), (0, .ref (qL 0)), (1, .int x1), (2, .int x2)]) hx hb dX1_append_14 rfl hl (by decide) rfl (fun ls hl => ?_)
      refine lv_iload_n hx hb dX1_append_15 rfl (lv_at hl 0 rfl) ?_
      refine lv_if_eq (tgt := 49) hx hb dX1_append_16 (by decide) (fun c_3 => ?_) (fun c_3 => ?_)
      · rw [if_pos (c_3)] at hf
        exact b_X1_append_49 qL   C0 (fun zL_ x1_ x2_ => f_X1_append_3  fu zL_ x1_ x2_) ih zL x1 x2 H locs ls hP hD hS (lv_sub hl [1, 2, 3] rfl) hf
      · rw [if_neg (c_3)] at hf
        refine lv_aload_n hx hb dX1_append_19 rfl (lv_at hl 1 rfl) ?_
        refine va_get (D := G) (ci := 0) (v := .int (gL_len zL)) (C := RX1) (T := TX1) (N := 2) hx hb hts fin_X1 hown hK.1 hP 0 rfl rfl 1 (by decide) (hts _ wi_113) (fun _ h9 => h9) rfl dX1_append_20 ?_
        refine lv_bipush (v := (100 : Int32)) hx hb dX1_append_23 (by decide) ?_
        refine lv_icmp_ge (tgt := 49) hx hb dX1_append_25 (by decide) (fun c_4 => ?_) (fun c_4 => ?_)
        · rw [if_pos (c_4)] at hf
          exact b_X1_append_49 qL   C0 (fun zL_ x1_ x2_ => f_X1_append_3  fu zL_ x1_ x2_) ih zL x1 x2 H locs ls hP hD hS (lv_sub hl [1, 2, 3] rfl) hf
        · rw [if_neg (c_4)] at hf
          refine lv_aload_n hx hb dX1_append_28 rfl (lv_at hl 1 rfl) ?_
          refine va_get (D := G) (ci := 0) (v := .ref (qL 1)) (C := RX1) (T := TX1) (N := 2) hx hb hts fin_X1 hown hK.1 hP 0 rfl rfl 0 (by decide) (hts _ wi_111) (fun _ h9 => h9) rfl dX1_append_29 ?_
          refine lv_aload_n hx hb dX1_append_32 rfl (lv_at hl 1 rfl) ?_
          refine va_get (D := G) (ci := 0) (v := .int (gL_len zL)) (C := RX1) (T := TX1) (N := 2) hx hb hts fin_X1 hown hK.1 hP 0 rfl rfl 1 (by decide) (hts _ wi_113) (fun _ h9 => h9) rfl dX1_append_33 ?_
          refine lv_iload_n hx hb dX1_append_36 rfl (lv_at hl 0 rfl) ?_
          refine lv_i2c hx hb dX1_append_37 rfl ?_
          obtain ⟨hi_5, hf⟩ := oif hf
          refine va_cast hx hb hK.1 hP hD hS 1 2 rfl rfl (inb_in hi_5) dX1_append_38 (fun H locs hP hD hS => ?_)
          have hP := sL_ch_P hP
          have hD := sL_ch_D hD
          refine lv_aload_n hx hb dX1_append_39 rfl (lv_at hl 1 rfl) ?_
          refine lv_dup hx hb dX1_append_40 rfl ?_
          refine va_get (D := G) (ci := 0) (v := .int (gL_len (uL_ch zL (upd (gL_ch zL) (gL_len zL).toNatClampNeg (vp_nar .char (((y_2).toUInt32 % 65536).toInt32)))))) (C := RX1) (T := TX1) (N := 2) hx hb hts fin_X1 hown hK.1 hP 0 rfl rfl 1 (by decide) (hts _ wi_113) (fun _ h9 => h9) rfl dX1_append_41 ?_
          refine lv_iconst (v := 1) hx hb dX1_append_44 (by decide) ?_
          refine lv_iadd hx hb dX1_append_45 ?_
          refine va_put (D := G) (ci := 0) (v := .int ((gL_len (uL_ch zL (upd (gL_ch zL) (gL_len zL).toNatClampNeg (vp_nar .char (((y_2).toUInt32 % 65536).toInt32))))) + (1 : Int32))) (ty := .int) (C := RX1) (T := TX1) (N := 2) hx hb hts fin_X1 tyX1 tyX1_ok nmX1 hown hK.1 hP hD hS 0 rfl rfl 1 (by decide) (hts _ wi_113) (fun _ h9 => h9) rfl (by decide +kernel) rfl rfl (Nat.le_of_ble_eq_true rfl) dX1_append_46 (fun H locs hP hD hS => ?_)
          have hP := sL_len_P hP
          have hD := sL_len_D hD
          exact b_X1_append_49 qL   C0 (fun zL_ x1_ x2_ => f_X1_append_3  fu zL_ x1_ x2_) ih (uL_len (uL_ch zL (upd (gL_ch zL) (gL_len zL).toNatClampNeg (vp_nar .char (((y_2).toUInt32 % 65536).toInt32)))) ((gL_len (uL_ch zL (upd (gL_ch zL) (gL_len zL).toNatClampNeg (vp_nar .char (((y_2).toUInt32 % 65536).toInt32))))) + (1 : Int32))) x1 x2 H locs ls hP hD hS (lv_sub hl [1, 2, 3] rfl) hf
def f_X1_append (zL : LineS) (a1 : Int32) : Option (LineS) := f_X1_append_3 fuel zL a1 (24 : Int32)
set_option maxHeartbeats 4000000 in
set_option maxRecDepth 100000 in
theorem b_X1_append_0 {p : Program} {l : Launch} {e : Env} {s : State} {m : MethodId} {args : Array Value} {below : List Frame} {meth : Method} {c : Code} {G : va_G} {cA : Nat → ClassId} {W9 : va_W} (qL : Nat → Nat) (C0 : Amb p s m args meth c cX1_append RX1 4 none G cA (adr W9) []) {res : LineS} : ∀ (zL : LineS) (a1 : Int32) (H : Heap) (locs : List Loc) (ls : Array Slot), va_P G vwCl ((wLine cA qL zL)) H → va_D (adr W9) ((wLine cA qL zL)) → va_S (adr W9) s.heap H locs → lv_has ls 4 [(0, .ref (qL 0)), (1, .int a1)] → f_X1_append zL a1 = some res → W p l e rm_X1_append s m args below meth c H locs 0 0 (MQ below (qWv G W9 ((wLine cA qL res))) args s 0 0 (adr W9)) (F0 m 0 ls []) := by
  obtain ⟨hx, hb, hr, hml, hown, hts, hlocks, hK, hR, hRA⟩ := id C0
  intro zL a1 H locs ls hP hD hS hl hf
  unfold f_X1_append at hf
  refine lv_bipush (v := (24 : Int32)) hx hb dX1_append_0 (by decide) ?_
  refine lv_istore_n (lv' := [(2, .int (24 : Int32)), (0, .ref (qL 0)), (1, .int a1)]) hx hb dX1_append_2 rfl hl (by decide) rfl (fun ls hl => ?_)
  exact b_X1_append_3 qL   C0  fuel zL a1 (24 : Int32) H locs ls hP hD hS (lv_sub hl [1, 2, 0] rfl) hf

set_option maxRecDepth 100000 in
theorem m_X1_append (l : Launch) (G : va_G) (cA : Nat → ClassId) (qL : Nat → Nat) (zL : LineS) (a1 : Int32) (res : LineS) (hf : f_X1_append zL a1 = some res) : MWv l yX1_append (.code yX1_append cX1_append 4 none :: wd) rm_X1_append G cA [.ref (qL 0), .int a1] ((wLine cA qL zL)) [] ((wLine cA qL res)) := by
  refine Met.ofW (cc := cX1_append) (maxL := 4) (ret := none) (by decide) rfl ?_
  intro p e s m args below meth c s₁ B hml hv
  obtain ⟨rfl, hK, hP, hD0, hR, hRA⟩ := hv
  have C0 : Amb p s m ([.ref (qL 0), .int a1] : List Value).toArray meth c cX1_append RX1 4 none G cA (adr ((wLine cA qL zL))) [] := ⟨B.exec, B.bytes, B.returns, hml, findClass_of_methodNamed B.named, fun w h => atoms_spec (ws := (.code yX1_append cX1_append 4 none :: wd)) B.pre w (List.mem_cons_of_mem _ h), B.notSynchronized, hK, hR, hRA⟩
  have hl := lv_entry ([.ref (qL 0), .int a1]) (n := 4) (Nat.le_of_ble_eq_true rfl)
  rw [lg_entry_eq]
  generalize (lg_sl ([.ref (qL 0), .int a1]) ++ List.replicate (4 - (lg_sl ([.ref (qL 0), .int a1])).length) Slot.unset).toArray = ls at hl ⊢
  have hl : lv_has ls 4 [(0, .ref (qL 0)), (1, .int a1)] := hl
  exact b_X1_append_0 (W9 := ((wLine cA qL zL))) qL   C0 zL a1 s.heap [] ls hP (adr.self hD0) va_S.rf hl hf
theorem cw_X1_append {R : Room} {s : State} {args : Array Value} {own : String} {index : Nat} (ht : ∀ w ∈ wd, w.before args s = true) (hlink : Cond.methodLink own index yX1_append ∈ wd) (hR : rm_X1_append.frames + 1 ≤ R.frames ∧ 8 + (4 + 11) + rm_X1_append.locals ≤ R.locals) : CallW R s args own RX1 index yX1_append cX1_append 4 none (.code yX1_append cX1_append 4 none :: wd) rm_X1_append 0 0 1 := cwV9 1 ht wi_299 wi_297 wi_298 wi_57 hlink (by decide +kernel) rfl rfl hR
def rm_X1_clear : Room := { frames := 0, cells := 0, slots := 0, locals := 0 }
def f_X1_clear (zL : LineS) : Option (LineS) := some (uL_len zL (0 : Int32))
set_option maxHeartbeats 4000000 in
set_option maxRecDepth 100000 in
theorem b_X1_clear_0 {p : Program} {l : Launch} {e : Env} {s : State} {m : MethodId} {args : Array Value} {below : List Frame} {meth : Method} {c : Code} {G : va_G} {cA : Nat → ClassId} {W9 : va_W} (qL : Nat → Nat) (C0 : Amb p s m args meth c cX1_clear RX1 1 none G cA (adr W9) []) {res : LineS} : ∀ (zL : LineS) (H : Heap) (locs : List Loc) (ls : Array Slot), va_P G vwCl ((wLine cA qL zL)) H → va_D (adr W9) ((wLine cA qL zL)) → va_S (adr W9) s.heap H locs → lv_has ls 1 [(0, .ref (qL 0))] → f_X1_clear zL = some res → W p l e rm_X1_clear s m args below meth c H locs 0 0 (MQ below (qWv G W9 ((wLine cA qL res))) args s 0 0 (adr W9)) (F0 m 0 ls []) := by
  obtain ⟨hx, hb, hr, hml, hown, hts, hlocks, hK, hR, hRA⟩ := id C0
  intro zL H locs ls hP hD hS hl hf
  unfold f_X1_clear at hf
  refine lv_aload_n hx hb dX1_clear_0 rfl (lv_at hl 0 rfl) ?_
  refine lv_iconst (v := 0) hx hb dX1_clear_1 (by decide) ?_
  refine va_put (D := G) (ci := 0) (v := .int (0 : Int32)) (ty := .int) (C := RX1) (T := TX1) (N := 2) hx hb hts fin_X1 tyX1 tyX1_ok nmX1 hown hK.1 hP hD hS 0 rfl rfl 1 (by decide) (hts _ wi_113) (fun _ h9 => h9) rfl (by decide +kernel) rfl rfl (Nat.le_of_ble_eq_true rfl) dX1_clear_2 (fun H locs hP hD hS => ?_)
  have hP := sL_len_P hP
  have hD := sL_len_D hD
  cases hf
  exact W.vret hx hb hr (fun t ht hW => ⟨⟨(), rfl, trivial, toT ht hP⟩, hS.F ht⟩) hS.2.2 dX1_clear_5 hlocks

set_option maxRecDepth 100000 in
theorem m_X1_clear (l : Launch) (G : va_G) (cA : Nat → ClassId) (qL : Nat → Nat) (zL : LineS) (res : LineS) (hf : f_X1_clear zL = some res) : MWv l yX1_clear (.code yX1_clear cX1_clear 1 none :: wd) rm_X1_clear G cA [.ref (qL 0)] ((wLine cA qL zL)) [] ((wLine cA qL res)) := by
  refine Met.ofW (cc := cX1_clear) (maxL := 1) (ret := none) (by decide) rfl ?_
  intro p e s m args below meth c s₁ B hml hv
  obtain ⟨rfl, hK, hP, hD0, hR, hRA⟩ := hv
  have C0 : Amb p s m ([.ref (qL 0)] : List Value).toArray meth c cX1_clear RX1 1 none G cA (adr ((wLine cA qL zL))) [] := ⟨B.exec, B.bytes, B.returns, hml, findClass_of_methodNamed B.named, fun w h => atoms_spec (ws := (.code yX1_clear cX1_clear 1 none :: wd)) B.pre w (List.mem_cons_of_mem _ h), B.notSynchronized, hK, hR, hRA⟩
  have hl := lv_entry ([.ref (qL 0)]) (n := 1) (Nat.le_of_ble_eq_true rfl)
  rw [lg_entry_eq]
  generalize (lg_sl ([.ref (qL 0)]) ++ List.replicate (1 - (lg_sl ([.ref (qL 0)])).length) Slot.unset).toArray = ls at hl ⊢
  have hl : lv_has ls 1 [(0, .ref (qL 0))] := hl
  exact b_X1_clear_0 (W9 := ((wLine cA qL zL))) qL   C0 zL s.heap [] ls hP (adr.self hD0) va_S.rf hl hf
theorem cw_X1_clear {R : Room} {s : State} {args : Array Value} {own : String} {index : Nat} (ht : ∀ w ∈ wd, w.before args s = true) (hlink : Cond.methodLink own index yX1_clear ∈ wd) (hR : rm_X1_clear.frames + 1 ≤ R.frames ∧ 8 + (1 + 11) + rm_X1_clear.locals ≤ R.locals) : CallW R s args own RX1 index yX1_clear cX1_clear 1 none (.code yX1_clear cX1_clear 1 none :: wd) rm_X1_clear 0 0 0 := cwV9 0 ht wi_201 wi_199 wi_200 wi_57 hlink (by decide +kernel) rfl rfl hR
def rm_X1_length : Room := { frames := 0, cells := 0, slots := 0, locals := 0 }
def f_X1_length (zL : LineS) : Option (Int32) := some (gL_len zL)
set_option maxHeartbeats 4000000 in
set_option maxRecDepth 100000 in
theorem b_X1_length_0 {p : Program} {l : Launch} {e : Env} {s : State} {m : MethodId} {args : Array Value} {below : List Frame} {meth : Method} {c : Code} {G : va_G} {cA : Nat → ClassId} (qL : Nat → Nat) (zL : LineS) (C0 : Amb p s m args meth c cX1_length RX1 1 (some .int) G cA (fun _ : Nat => False) ((wLine cA qL zL))) {res : Int32} : ∀ (ls : Array Slot), lv_has ls 1 [(0, .ref (qL 0))] → f_X1_length zL = some res → W p l e rm_X1_length s m args below meth c s.heap [] 0 0 (MQ below (vp_Si (fun x => x = res)) args s 0 0 (fun _ : Nat => False)) (F0 m 0 ls []) := by
  obtain ⟨hx, hb, hr, hml, hown, hts, hlocks, hK, hR, hRA⟩ := id C0
  intro ls hl hf
  unfold f_X1_length at hf
  refine lv_aload_n hx hb dX1_length_0 rfl (lv_at hl 0 rfl) ?_
  refine va_get (D := G) (ci := 0) (v := .int (gL_len zL)) (C := RX1) (T := TX1) (N := 2) hx hb hts fin_X1 hown hK.1 hR 0 rfl rfl 1 (by decide) (hts _ wi_113) (fun _ h9 => h9) rfl dX1_length_1 ?_
  cases hf
  exact W.iret hx hb hr (fun t ht hW => ⟨_, rfl, rfl, ht⟩) (fun q hq => by cases hq) dX1_length_4 hlocks

set_option maxRecDepth 100000 in
theorem m_X1_length (l : Launch) (G : va_G) (cA : Nat → ClassId) (qL : Nat → Nat) (zL : LineS)  (res : Int32) (hf : f_X1_length zL = some res) : MRi l yX1_length (.code yX1_length cX1_length 1 (some .int) :: wd) rm_X1_length G cA [.ref (qL 0)] ((wLine cA qL zL)) res := by
  refine Met.ofW (cc := cX1_length) (maxL := 1) (ret := (some .int)) (by decide) rfl ?_
  intro p e s m args below meth c s₁ B hml hv
  obtain ⟨rfl, hK, hR⟩ := hv
  have C0 : Amb p s m ([.ref (qL 0)] : List Value).toArray meth c cX1_length RX1 1 (some .int) G cA (fun _ : Nat => False) ((wLine cA qL zL)) := ⟨B.exec, B.bytes, B.returns, hml, findClass_of_methodNamed B.named, fun w h => atoms_spec (ws := (.code yX1_length cX1_length 1 (some .int) :: wd)) B.pre w (List.mem_cons_of_mem _ h), B.notSynchronized, hK, hR, fun _ _ _ h => h⟩
  have hl := lv_entry ([.ref (qL 0)]) (n := 1) (Nat.le_of_ble_eq_true rfl)
  rw [lg_entry_eq]
  generalize (lg_sl ([.ref (qL 0)]) ++ List.replicate (1 - (lg_sl ([.ref (qL 0)])).length) Slot.unset).toArray = ls at hl ⊢
  have hl : lv_has ls 1 [(0, .ref (qL 0))] := hl
  exact b_X1_length_0 qL  zL C0  ls hl hf
theorem cw_X1_length {R : Room} {s : State} {args : Array Value} {own : String} {index : Nat} (ht : ∀ w ∈ wd, w.before args s = true) (hlink : Cond.methodLink own index yX1_length ∈ wd) (hR : rm_X1_length.frames + 1 ≤ R.frames ∧ 8 + (1 + 11) + rm_X1_length.locals ≤ R.locals) : CallW R s args own RX1 index yX1_length cX1_length 1 (some .int) (.code yX1_length cX1_length 1 (some .int) :: wd) rm_X1_length 0 0 0 := cwV9 0 ht wi_197 wi_195 wi_196 wi_57 hlink (by decide +kernel) rfl rfl hR
def rm_X1_charAt : Room := { frames := 0, cells := 0, slots := 0, locals := 0 }
def f_X1_charAt (zL : LineS) (a1 : Int32) : Option (Int32) := if a1 < 0 then if cb (0 : Int32) = true then some (0 : Int32) else none else if (gL_len zL) ≤ a1 then if cb (0 : Int32) = true then some (0 : Int32) else none else if inb a1 100 = true then if cb (gL_ch zL a1.toNatClampNeg) = true then some (gL_ch zL a1.toNatClampNeg) else none else none
set_option maxHeartbeats 4000000 in
set_option maxRecDepth 100000 in
theorem b_X1_charAt_0 {p : Program} {l : Launch} {e : Env} {s : State} {m : MethodId} {args : Array Value} {below : List Frame} {meth : Method} {c : Code} {G : va_G} {cA : Nat → ClassId} (qL : Nat → Nat) (zL : LineS) (C0 : Amb p s m args meth c cX1_charAt RX1 2 (some .char) G cA (fun _ : Nat => False) ((wLine cA qL zL))) {res : Int32} : ∀ (a1 : Int32) (ls : Array Slot), lv_has ls 2 [(0, .ref (qL 0)), (1, .int a1)] → f_X1_charAt zL a1 = some res → W p l e rm_X1_charAt s m args below meth c s.heap [] 0 0 (MQ below (vp_Si (fun x => x = res)) args s 0 0 (fun _ : Nat => False)) (F0 m 0 ls []) := by
  obtain ⟨hx, hb, hr, hml, hown, hts, hlocks, hK, hR, hRA⟩ := id C0
  intro a1 ls hl hf
  unfold f_X1_charAt at hf
  refine lv_iload_n hx hb dX1_charAt_0 rfl (lv_at hl 1 rfl) ?_
  refine lv_if_lt (tgt := 21) hx hb dX1_charAt_1 (by decide) (fun c_1 => ?_) (fun c_1 => ?_)
  · rw [if_pos (c_1)] at hf
    refine lv_iconst (v := 0) hx hb dX1_charAt_21 (by decide) ?_
    obtain ⟨hz_2, hf⟩ := oif hf
    cases hf
    exact W.zret hx hb hr (cb_n hz_2) (fun t ht hW => ⟨_, rfl, rfl, ht⟩) (fun q hq => by cases hq) dX1_charAt_22 hlocks
  · rw [if_neg (c_1)] at hf
    refine lv_iload_n hx hb dX1_charAt_4 rfl (lv_at hl 1 rfl) ?_
    refine lv_aload_n hx hb dX1_charAt_5 rfl (lv_at hl 0 rfl) ?_
    refine va_get (D := G) (ci := 0) (v := .int (gL_len zL)) (C := RX1) (T := TX1) (N := 2) hx hb hts fin_X1 hown hK.1 hR 0 rfl rfl 1 (by decide) (hts _ wi_113) (fun _ h9 => h9) rfl dX1_charAt_6 ?_
    refine lv_icmp_ge (tgt := 21) hx hb dX1_charAt_9 (by decide) (fun c_3 => ?_) (fun c_3 => ?_)
    · rw [if_pos (c_3)] at hf
      refine lv_iconst (v := 0) hx hb dX1_charAt_21 (by decide) ?_
      obtain ⟨hz_4, hf⟩ := oif hf
      cases hf
      exact W.zret hx hb hr (cb_n hz_4) (fun t ht hW => ⟨_, rfl, rfl, ht⟩) (fun q hq => by cases hq) dX1_charAt_22 hlocks
    · rw [if_neg (c_3)] at hf
      refine lv_aload_n hx hb dX1_charAt_12 rfl (lv_at hl 0 rfl) ?_
      refine va_get (D := G) (ci := 0) (v := .ref (qL 1)) (C := RX1) (T := TX1) (N := 2) hx hb hts fin_X1 hown hK.1 hR 0 rfl rfl 0 (by decide) (hts _ wi_111) (fun _ h9 => h9) rfl dX1_charAt_13 ?_
      refine lv_iload_n hx hb dX1_charAt_16 rfl (lv_at hl 1 rfl) ?_
      obtain ⟨hi_5, hf⟩ := oif hf
      refine va_cald hx hb hK.1 hR 1 2 rfl rfl (inb_in hi_5) dX1_charAt_17 ?_
      refine lv_goto (tgt := 22) hx hb dX1_charAt_18 (by decide) ?_
      obtain ⟨hz_6, hf⟩ := oif hf
      cases hf
      exact W.zret hx hb hr (cb_n hz_6) (fun t ht hW => ⟨_, rfl, rfl, ht⟩) (fun q hq => by cases hq) dX1_charAt_22 hlocks

set_option maxRecDepth 100000 in
theorem m_X1_charAt (l : Launch) (G : va_G) (cA : Nat → ClassId) (qL : Nat → Nat) (zL : LineS) (a1 : Int32) (res : Int32) (hf : f_X1_charAt zL a1 = some res) : MRi l yX1_charAt (.code yX1_charAt cX1_charAt 2 (some .char) :: wd) rm_X1_charAt G cA [.ref (qL 0), .int a1] ((wLine cA qL zL)) res := by
  refine Met.ofW (cc := cX1_charAt) (maxL := 2) (ret := (some .char)) (by decide) rfl ?_
  intro p e s m args below meth c s₁ B hml hv
  obtain ⟨rfl, hK, hR⟩ := hv
  have C0 : Amb p s m ([.ref (qL 0), .int a1] : List Value).toArray meth c cX1_charAt RX1 2 (some .char) G cA (fun _ : Nat => False) ((wLine cA qL zL)) := ⟨B.exec, B.bytes, B.returns, hml, findClass_of_methodNamed B.named, fun w h => atoms_spec (ws := (.code yX1_charAt cX1_charAt 2 (some .char) :: wd)) B.pre w (List.mem_cons_of_mem _ h), B.notSynchronized, hK, hR, fun _ _ _ h => h⟩
  have hl := lv_entry ([.ref (qL 0), .int a1]) (n := 2) (Nat.le_of_ble_eq_true rfl)
  rw [lg_entry_eq]
  generalize (lg_sl ([.ref (qL 0), .int a1]) ++ List.replicate (2 - (lg_sl ([.ref (qL 0), .int a1])).length) Slot.unset).toArray = ls at hl ⊢
  have hl : lv_has ls 2 [(0, .ref (qL 0)), (1, .int a1)] := hl
  exact b_X1_charAt_0 qL  zL C0 a1 ls hl hf
theorem cw_X1_charAt {R : Room} {s : State} {args : Array Value} {own : String} {index : Nat} (ht : ∀ w ∈ wd, w.before args s = true) (hlink : Cond.methodLink own index yX1_charAt ∈ wd) (hR : rm_X1_charAt.frames + 1 ≤ R.frames ∧ 8 + (2 + 11) + rm_X1_charAt.locals ≤ R.locals) : CallW R s args own RX1 index yX1_charAt cX1_charAt 2 (some .char) (.code yX1_charAt cX1_charAt 2 (some .char) :: wd) rm_X1_charAt 0 0 1 := cwV9 1 ht wi_365 wi_363 wi_364 wi_57 hlink (by decide +kernel) rfl rfl hR
def rm_X4_keyOf : Room := { frames := 0, cells := 0, slots := 0, locals := 0 }
def f_X4_keyOf (a0 : Int32) (a1 : Int32) (a2 : Int32) : Option (Int32) := some (((a0 <<< ((11 : Int32) &&& 31)) ||| ((a1 + (16 : Int32)) <<< ((6 : Int32) &&& 31))) ||| ((31 : Int32) - a2))
set_option maxHeartbeats 4000000 in
set_option maxRecDepth 100000 in
theorem b_X4_keyOf_0 {p : Program} {l : Launch} {e : Env} {s : State} {m : MethodId} {args : Array Value} {below : List Frame} {meth : Method} {c : Code} {G : va_G} {cA : Nat → ClassId} (C0 : Amb p s m args meth c cX4_keyOf RX4 3 (some .int) G cA (fun _ : Nat => False) []) {res : Int32} : ∀ (a0 : Int32) (a1 : Int32) (a2 : Int32) (ls : Array Slot), lv_has ls 3 [(0, .int a0), (1, .int a1), (2, .int a2)] → f_X4_keyOf a0 a1 a2 = some res → W p l e rm_X4_keyOf s m args below meth c s.heap [] 0 0 (MQ below (vp_Si (fun x => x = res)) args s 0 0 (fun _ : Nat => False)) (F0 m 0 ls []) := by
  obtain ⟨hx, hb, hr, hml, hown, hts, hlocks, hK, hR, hRA⟩ := id C0
  intro a0 a1 a2 ls hl hf
  unfold f_X4_keyOf at hf
  refine lv_iload_n hx hb dX4_keyOf_0 rfl (lv_at hl 0 rfl) ?_
  refine lv_bipush (v := (11 : Int32)) hx hb dX4_keyOf_1 (by decide) ?_
  refine lv_ishl hx hb dX4_keyOf_3 ?_
  refine lv_iload_n hx hb dX4_keyOf_4 rfl (lv_at hl 1 rfl) ?_
  refine lv_bipush (v := (16 : Int32)) hx hb dX4_keyOf_5 (by decide) ?_
  refine lv_iadd hx hb dX4_keyOf_7 ?_
  refine lv_bipush (v := (6 : Int32)) hx hb dX4_keyOf_8 (by decide) ?_
  refine lv_ishl hx hb dX4_keyOf_10 ?_
  refine lv_ior hx hb dX4_keyOf_11 ?_
  refine lv_bipush (v := (31 : Int32)) hx hb dX4_keyOf_12 (by decide) ?_
  refine lv_iload_n hx hb dX4_keyOf_14 rfl (lv_at hl 2 rfl) ?_
  refine lv_isub hx hb dX4_keyOf_15 ?_
  refine lv_ior hx hb dX4_keyOf_16 ?_
  cases hf
  exact W.iret hx hb hr (fun t ht hW => ⟨_, rfl, rfl, ht⟩) (fun q hq => by cases hq) dX4_keyOf_17 hlocks

set_option maxRecDepth 100000 in
theorem m_X4_keyOf (l : Launch) (G : va_G) (cA : Nat → ClassId) (a0 : Int32) (a1 : Int32) (a2 : Int32) (res : Int32) (hf : f_X4_keyOf a0 a1 a2 = some res) : MRi l yX4_keyOf (.code yX4_keyOf cX4_keyOf 3 (some .int) :: wd) rm_X4_keyOf G cA [.int a0, .int a1, .int a2] [] res := by
  refine Met.ofW (cc := cX4_keyOf) (maxL := 3) (ret := (some .int)) (by decide) rfl ?_
  intro p e s m args below meth c s₁ B hml hv
  obtain ⟨rfl, hK, hR⟩ := hv
  have C0 : Amb p s m ([.int a0, .int a1, .int a2] : List Value).toArray meth c cX4_keyOf RX4 3 (some .int) G cA (fun _ : Nat => False) [] := ⟨B.exec, B.bytes, B.returns, hml, findClass_of_methodNamed B.named, fun w h => atoms_spec (ws := (.code yX4_keyOf cX4_keyOf 3 (some .int) :: wd)) B.pre w (List.mem_cons_of_mem _ h), B.notSynchronized, hK, hR, fun _ _ _ h => h⟩
  have hl := lv_entry ([.int a0, .int a1, .int a2]) (n := 3) (Nat.le_of_ble_eq_true rfl)
  rw [lg_entry_eq]
  generalize (lg_sl ([.int a0, .int a1, .int a2]) ++ List.replicate (3 - (lg_sl ([.int a0, .int a1, .int a2])).length) Slot.unset).toArray = ls at hl ⊢
  have hl : lv_has ls 3 [(0, .int a0), (1, .int a1), (2, .int a2)] := hl
  exact b_X4_keyOf_0    C0 a0 a1 a2 ls hl hf
theorem cw_X4_keyOf {R : Room} {s : State} {args : Array Value} {own : String} {index : Nat} (ht : ∀ w ∈ wd, w.before args s = true) (hlink : Cond.methodLink own index yX4_keyOf ∈ wd) (hR : rm_X4_keyOf.frames + 1 ≤ R.frames ∧ 8 + (3 + 11) + rm_X4_keyOf.locals ≤ R.locals) : CallB R s args own index yX4_keyOf cX4_keyOf 3 (some .int) (.code yX4_keyOf cX4_keyOf 3 (some .int) :: wd) rm_X4_keyOf 0 0 3 ∧ (Cond.static yX4_keyOf).before args s = true := cwS9 3 ht wi_396 wi_395 wi_56 hlink (by decide +kernel) rfl rfl hR
def rm_X4_commonDivisor : Room := { frames := 0, cells := 0, slots := 0, locals := 0 }
def f_X4_commonDivisor_3  : Nat → Int64 → Int64 → Int32 → Option (Int64)
  | 0, _, _, _ => none
  | fu + 1, x0, x2, x4 => if (100 : Int32) ≤ x4 then some x0 else if x2 = (0 : Int64) then some x0 else if ¬ x2 = 0 then (some ((x0 - x0 / x2 * x2))).bind fun y_4 => f_X4_commonDivisor_3  fu x2 y_4 (x4 + 1) else none
set_option maxHeartbeats 4000000 in
set_option maxRecDepth 100000 in
theorem b_X4_commonDivisor_3 {p : Program} {l : Launch} {e : Env} {s : State} {m : MethodId} {args : Array Value} {below : List Frame} {meth : Method} {c : Code} {G : va_G} {cA : Nat → ClassId} (C0 : Amb p s m args meth c cX4_commonDivisor RX4 7 (some .long) G cA (fun _ : Nat => False) []) {res : Int64} : ∀ (fu : Nat) (x0 : Int64) (x2 : Int64) (x4 : Int32) (ls : Array Slot), lv_has ls 7 [(0, .long x0), (2, .long x2), (4, .int x4)] → f_X4_commonDivisor_3 fu x0 x2 x4 = some res → W p l e rm_X4_commonDivisor s m args below meth c s.heap [] 0 0 (MQ below (vp_Sl (fun x => x = res)) args s 0 0 (fun _ : Nat => False)) (F0 m 3 ls []) := by
  obtain ⟨hx, hb, hr, hml, hown, hts, hlocks, hK, hR, hRA⟩ := id C0
  intro fu
  induction fu with
  | zero =>
    intro x0 x2 x4 ls hl hf
    rw [f_X4_commonDivisor_3] at hf
    cases hf
  | succ fu ih =>
    intro x0 x2 x4 ls hl hf
    rw [f_X4_commonDivisor_3] at hf
    refine lv_iload hx hb dX4_commonDivisor_3 (lv_at hl 2 rfl) ?_
    refine lv_bipush (v := (100 : Int32)) hx hb dX4_commonDivisor_5 (by decide) ?_
    refine lv_icmp_ge (tgt := 32) hx hb dX4_commonDivisor_7 (by decide) (fun c_1 => ?_) (fun c_1 => ?_)
    · rw [if_pos (c_1)] at hf
      refine lv_lload_n hx hb dX4_commonDivisor_32 rfl (lv_at hl 0 rfl) ?_
      cases hf
      exact W.lret hx hb hr (fun t ht hW => ⟨_, rfl, rfl, ht⟩) (fun q hq => by cases hq) dX4_commonDivisor_33 hlocks
    · rw [if_neg (c_1)] at hf
      refine lv_lload_n hx hb dX4_commonDivisor_10 rfl (lv_at hl 1 rfl) ?_
      refine lv_lconst (v := (0 : Int64)) hx hb dX4_commonDivisor_11 (by decide) ?_
      refine W.lcmp hx hb dX4_commonDivisor_12 ?_
      refine lv_if_eq (tgt := 32) hx hb dX4_commonDivisor_13 (by decide) (fun c_2 => ?_) (fun c_2 => ?_)
      · rw [if_pos ((lg_cmp_eq _ _).mp c_2)] at hf
        refine lv_lload_n hx hb dX4_commonDivisor_32 rfl (lv_at hl 0 rfl) ?_
        cases hf
        exact W.lret hx hb hr (fun t ht hW => ⟨_, rfl, rfl, ht⟩) (fun q hq => by cases hq) dX4_commonDivisor_33 hlocks
      · rw [if_neg (fun h => c_2 ((lg_cmp_eq _ _).mpr h))] at hf
        refine lv_lload_n hx hb dX4_commonDivisor_16 rfl (lv_at hl 0 rfl) ?_
        refine lv_lload_n hx hb dX4_commonDivisor_17 rfl (lv_at hl 1 rfl) ?_
        obtain ⟨hn_3, hf⟩ := oif hf
        refine lv_lrem hx hb dX4_commonDivisor_18 hn_3 ?_
        obtain ⟨y_4, hq, hf⟩ := obd hf
        have hy_4 : (x0 - x0 / x2 * x2) = y_4 := Option.some.inj hq
        rw [hy_4]
        refine lv_lstore (lv' := [(5, .long y_4), (0, .long x0), (2, .long x2), (4, .int x4)]) hx hb dX4_commonDivisor_19 hl (by decide) rfl (fun ls hl => ?_)
        refine lv_lload_n hx hb dX4_commonDivisor_21 rfl (lv_at hl 2 rfl) ?_
        refine lv_lstore_n (lv' := [(0, .long x2), (5, .long y_4), (2, .long x2), (4, .int x4)]) hx hb dX4_commonDivisor_22 rfl hl (by decide) rfl (fun ls hl => ?_)
        refine lv_lload hx hb dX4_commonDivisor_23 (lv_at hl 1 rfl) ?_
        refine lv_lstore_n (lv' := [(2, .long y_4), (0, .long x2), (5, .long y_4), (4, .int x4)]) hx hb dX4_commonDivisor_25 rfl hl (by decide) rfl (fun ls hl => ?_)
        refine lv_iinc (v := (x4 + 1)) (lv' := [(4, .int (x4 + 1)), (2, .long y_4), (0, .long x2), (5, .long y_4)]) hx hb dX4_commonDivisor_26 hl (k := 3) rfl rfl (by decide) rfl (fun ls hl => ?_)
        refine lv_goto (tgt := 3) hx hb dX4_commonDivisor_29 (by decide) ?_
        exact ih x2 y_4 (x4 + 1) ls (lv_sub hl [2, 1, 0] rfl) hf
def f_X4_commonDivisor (a0 : Int64) (a2 : Int64) : Option (Int64) := f_X4_commonDivisor_3 fuel a0 a2 (0 : Int32)
set_option maxHeartbeats 4000000 in
set_option maxRecDepth 100000 in
theorem b_X4_commonDivisor_0 {p : Program} {l : Launch} {e : Env} {s : State} {m : MethodId} {args : Array Value} {below : List Frame} {meth : Method} {c : Code} {G : va_G} {cA : Nat → ClassId} (C0 : Amb p s m args meth c cX4_commonDivisor RX4 7 (some .long) G cA (fun _ : Nat => False) []) {res : Int64} : ∀ (a0 : Int64) (a2 : Int64) (ls : Array Slot), lv_has ls 7 [(0, .long a0), (2, .long a2)] → f_X4_commonDivisor a0 a2 = some res → W p l e rm_X4_commonDivisor s m args below meth c s.heap [] 0 0 (MQ below (vp_Sl (fun x => x = res)) args s 0 0 (fun _ : Nat => False)) (F0 m 0 ls []) := by
  obtain ⟨hx, hb, hr, hml, hown, hts, hlocks, hK, hR, hRA⟩ := id C0
  intro a0 a2 ls hl hf
  unfold f_X4_commonDivisor at hf
  refine lv_iconst (v := 0) hx hb dX4_commonDivisor_0 (by decide) ?_
  refine lv_istore (lv' := [(4, .int (0 : Int32)), (0, .long a0), (2, .long a2)]) hx hb dX4_commonDivisor_1 hl (by decide) rfl (fun ls hl => ?_)
  exact b_X4_commonDivisor_3    C0  fuel a0 a2 (0 : Int32) ls (lv_sub hl [1, 2, 0] rfl) hf

set_option maxRecDepth 100000 in
theorem m_X4_commonDivisor (l : Launch) (G : va_G) (cA : Nat → ClassId) (a0 : Int64) (a2 : Int64) (res : Int64) (hf : f_X4_commonDivisor a0 a2 = some res) : MRl l yX4_commonDivisor (.code yX4_commonDivisor cX4_commonDivisor 7 (some .long) :: wd) rm_X4_commonDivisor G cA [.long a0, .long a2] [] res := by
  refine Met.ofW (cc := cX4_commonDivisor) (maxL := 7) (ret := (some .long)) (by decide) rfl ?_
  intro p e s m args below meth c s₁ B hml hv
  obtain ⟨rfl, hK, hR⟩ := hv
  have C0 : Amb p s m ([.long a0, .long a2] : List Value).toArray meth c cX4_commonDivisor RX4 7 (some .long) G cA (fun _ : Nat => False) [] := ⟨B.exec, B.bytes, B.returns, hml, findClass_of_methodNamed B.named, fun w h => atoms_spec (ws := (.code yX4_commonDivisor cX4_commonDivisor 7 (some .long) :: wd)) B.pre w (List.mem_cons_of_mem _ h), B.notSynchronized, hK, hR, fun _ _ _ h => h⟩
  have hl := lv_entry ([.long a0, .long a2]) (n := 7) (Nat.le_of_ble_eq_true rfl)
  rw [lg_entry_eq]
  generalize (lg_sl ([.long a0, .long a2]) ++ List.replicate (7 - (lg_sl ([.long a0, .long a2])).length) Slot.unset).toArray = ls at hl ⊢
  have hl : lv_has ls 7 [(0, .long a0), (2, .long a2)] := hl
  exact b_X4_commonDivisor_0    C0 a0 a2 ls hl hf
theorem cw_X4_commonDivisor {R : Room} {s : State} {args : Array Value} {own : String} {index : Nat} (ht : ∀ w ∈ wd, w.before args s = true) (hlink : Cond.methodLink own index yX4_commonDivisor ∈ wd) (hR : rm_X4_commonDivisor.frames + 1 ≤ R.frames ∧ 8 + (7 + 11) + rm_X4_commonDivisor.locals ≤ R.locals) : CallB R s args own index yX4_commonDivisor cX4_commonDivisor 7 (some .long) (.code yX4_commonDivisor cX4_commonDivisor 7 (some .long) :: wd) rm_X4_commonDivisor 0 0 2 ∧ (Cond.static yX4_commonDivisor).before args s = true := cwS9 2 ht wi_422 wi_421 wi_56 hlink (by decide +kernel) rfl rfl hR
def rm_X4_size : Room := { frames := 0, cells := 0, slots := 0, locals := 0 }
def f_X4_size (nS : Nat) (zS : SumS) : Option (Int32) := some (gS_size zS)
set_option maxHeartbeats 4000000 in
set_option maxRecDepth 100000 in
theorem b_X4_size_0 {p : Program} {l : Launch} {e : Env} {s : State} {m : MethodId} {args : Array Value} {below : List Frame} {meth : Method} {c : Code} {G : va_G} {cA : Nat → ClassId} (qS : Nat → Nat) (nS : Nat) (zS : SumS) (C0 : Amb p s m args meth c cX4_size RX4 1 (some .int) G cA (fun _ : Nat => False) ((wSum cA qS nS zS))) {res : Int32} : ∀ (ls : Array Slot), lv_has ls 1 [(0, .ref (qS 0))] → f_X4_size nS zS = some res → W p l e rm_X4_size s m args below meth c s.heap [] 0 0 (MQ below (vp_Si (fun x => x = res)) args s 0 0 (fun _ : Nat => False)) (F0 m 0 ls []) := by
  obtain ⟨hx, hb, hr, hml, hown, hts, hlocks, hK, hR, hRA⟩ := id C0
  intro ls hl hf
  unfold f_X4_size at hf
  refine lv_aload_n hx hb dX4_size_0 rfl (lv_at hl 0 rfl) ?_
  refine va_get (D := G) (ci := 2) (v := .int (gS_size zS)) (C := RX4) (T := TX4) (N := 6) hx hb hts fin_X4 hown hK.1 hR 0 rfl rfl 4 (by decide) (hts _ wi_88) (fun _ h9 => h9) rfl dX4_size_1 ?_
  cases hf
  exact W.iret hx hb hr (fun t ht hW => ⟨_, rfl, rfl, ht⟩) (fun q hq => by cases hq) dX4_size_4 hlocks

set_option maxRecDepth 100000 in
theorem m_X4_size (l : Launch) (G : va_G) (cA : Nat → ClassId) (qS : Nat → Nat) (nS : Nat) (zS : SumS)  (res : Int32) (hf : f_X4_size nS zS = some res) : MRi l yX4_size (.code yX4_size cX4_size 1 (some .int) :: wd) rm_X4_size G cA [.ref (qS 0)] ((wSum cA qS nS zS)) res := by
  refine Met.ofW (cc := cX4_size) (maxL := 1) (ret := (some .int)) (by decide) rfl ?_
  intro p e s m args below meth c s₁ B hml hv
  obtain ⟨rfl, hK, hR⟩ := hv
  have C0 : Amb p s m ([.ref (qS 0)] : List Value).toArray meth c cX4_size RX4 1 (some .int) G cA (fun _ : Nat => False) ((wSum cA qS nS zS)) := ⟨B.exec, B.bytes, B.returns, hml, findClass_of_methodNamed B.named, fun w h => atoms_spec (ws := (.code yX4_size cX4_size 1 (some .int) :: wd)) B.pre w (List.mem_cons_of_mem _ h), B.notSynchronized, hK, hR, fun _ _ _ h => h⟩
  have hl := lv_entry ([.ref (qS 0)]) (n := 1) (Nat.le_of_ble_eq_true rfl)
  rw [lg_entry_eq]
  generalize (lg_sl ([.ref (qS 0)]) ++ List.replicate (1 - (lg_sl ([.ref (qS 0)])).length) Slot.unset).toArray = ls at hl ⊢
  have hl : lv_has ls 1 [(0, .ref (qS 0))] := hl
  exact b_X4_size_0 qS nS  zS C0  ls hl hf
theorem cw_X4_size {R : Room} {s : State} {args : Array Value} {own : String} {index : Nat} (ht : ∀ w ∈ wd, w.before args s = true) (hlink : Cond.methodLink own index yX4_size ∈ wd) (hR : rm_X4_size.frames + 1 ≤ R.frames ∧ 8 + (1 + 11) + rm_X4_size.locals ≤ R.locals) : CallW R s args own RX4 index yX4_size cX4_size 1 (some .int) (.code yX4_size cX4_size 1 (some .int) :: wd) rm_X4_size 0 0 0 := cwV9 0 ht wi_463 wi_461 wi_462 wi_56 hlink (by decide +kernel) rfl rfl hR
def rm_X4_has : Room := { frames := 0, cells := 0, slots := 0, locals := 0 }
def f_X4_has (nS : Nat) (zS : SumS) (a1 : Int32) : Option (Int32) := if a1 < 0 then some (0 : Int32) else if (gS_size zS) ≤ a1 then some (0 : Int32) else some (1 : Int32)
set_option maxHeartbeats 4000000 in
set_option maxRecDepth 100000 in
theorem b_X4_has_0 {p : Program} {l : Launch} {e : Env} {s : State} {m : MethodId} {args : Array Value} {below : List Frame} {meth : Method} {c : Code} {G : va_G} {cA : Nat → ClassId} (qS : Nat → Nat) (nS : Nat) (zS : SumS) (C0 : Amb p s m args meth c cX4_has RX4 2 (some .boolean) G cA (fun _ : Nat => False) ((wSum cA qS nS zS))) {res : Int32} : ∀ (a1 : Int32) (ls : Array Slot), lv_has ls 2 [(0, .ref (qS 0)), (1, .int a1)] → f_X4_has nS zS a1 = some res → W p l e rm_X4_has s m args below meth c s.heap [] 0 0 (MQ below (vp_Si (fun x => x = res)) args s 0 0 (fun _ : Nat => False)) (F0 m 0 ls []) := by
  obtain ⟨hx, hb, hr, hml, hown, hts, hlocks, hK, hR, hRA⟩ := id C0
  intro a1 ls hl hf
  unfold f_X4_has at hf
  refine lv_iload_n hx hb dX4_has_0 rfl (lv_at hl 1 rfl) ?_
  refine lv_if_lt (tgt := 16) hx hb dX4_has_1 (by decide) (fun c_1 => ?_) (fun c_1 => ?_)
  · rw [if_pos (c_1)] at hf
    refine lv_iconst (v := 0) hx hb dX4_has_16 (by decide) ?_
    cases hf
    exact W.zret hx hb hr (by decide) (fun t ht hW => ⟨_, rfl, rfl, ht⟩) (fun q hq => by cases hq) dX4_has_17 hlocks
  · rw [if_neg (c_1)] at hf
    refine lv_iload_n hx hb dX4_has_4 rfl (lv_at hl 1 rfl) ?_
    refine lv_aload_n hx hb dX4_has_5 rfl (lv_at hl 0 rfl) ?_
    refine va_get (D := G) (ci := 2) (v := .int (gS_size zS)) (C := RX4) (T := TX4) (N := 6) hx hb hts fin_X4 hown hK.1 hR 0 rfl rfl 4 (by decide) (hts _ wi_88) (fun _ h9 => h9) rfl dX4_has_6 ?_
    refine lv_icmp_ge (tgt := 16) hx hb dX4_has_9 (by decide) (fun c_2 => ?_) (fun c_2 => ?_)
    · rw [if_pos (c_2)] at hf
      refine lv_iconst (v := 0) hx hb dX4_has_16 (by decide) ?_
      cases hf
      exact W.zret hx hb hr (by decide) (fun t ht hW => ⟨_, rfl, rfl, ht⟩) (fun q hq => by cases hq) dX4_has_17 hlocks
    · rw [if_neg (c_2)] at hf
      refine lv_iconst (v := 1) hx hb dX4_has_12 (by decide) ?_
      refine lv_goto (tgt := 17) hx hb dX4_has_13 (by decide) ?_
      cases hf
      exact W.zret hx hb hr (by decide) (fun t ht hW => ⟨_, rfl, rfl, ht⟩) (fun q hq => by cases hq) dX4_has_17 hlocks

set_option maxRecDepth 100000 in
theorem m_X4_has (l : Launch) (G : va_G) (cA : Nat → ClassId) (qS : Nat → Nat) (nS : Nat) (zS : SumS) (a1 : Int32) (res : Int32) (hf : f_X4_has nS zS a1 = some res) : MRi l yX4_has (.code yX4_has cX4_has 2 (some .boolean) :: wd) rm_X4_has G cA [.ref (qS 0), .int a1] ((wSum cA qS nS zS)) res := by
  refine Met.ofW (cc := cX4_has) (maxL := 2) (ret := (some .boolean)) (by decide) rfl ?_
  intro p e s m args below meth c s₁ B hml hv
  obtain ⟨rfl, hK, hR⟩ := hv
  have C0 : Amb p s m ([.ref (qS 0), .int a1] : List Value).toArray meth c cX4_has RX4 2 (some .boolean) G cA (fun _ : Nat => False) ((wSum cA qS nS zS)) := ⟨B.exec, B.bytes, B.returns, hml, findClass_of_methodNamed B.named, fun w h => atoms_spec (ws := (.code yX4_has cX4_has 2 (some .boolean) :: wd)) B.pre w (List.mem_cons_of_mem _ h), B.notSynchronized, hK, hR, fun _ _ _ h => h⟩
  have hl := lv_entry ([.ref (qS 0), .int a1]) (n := 2) (Nat.le_of_ble_eq_true rfl)
  rw [lg_entry_eq]
  generalize (lg_sl ([.ref (qS 0), .int a1]) ++ List.replicate (2 - (lg_sl ([.ref (qS 0), .int a1])).length) Slot.unset).toArray = ls at hl ⊢
  have hl : lv_has ls 2 [(0, .ref (qS 0)), (1, .int a1)] := hl
  exact b_X4_has_0 qS nS  zS C0 a1 ls hl hf
theorem cw_X4_has {R : Room} {s : State} {args : Array Value} {own : String} {index : Nat} (ht : ∀ w ∈ wd, w.before args s = true) (hlink : Cond.methodLink own index yX4_has ∈ wd) (hR : rm_X4_has.frames + 1 ≤ R.frames ∧ 8 + (2 + 11) + rm_X4_has.locals ≤ R.locals) : CallW R s args own RX4 index yX4_has cX4_has 2 (some .boolean) (.code yX4_has cX4_has 2 (some .boolean) :: wd) rm_X4_has 0 0 1 := cwV9 1 ht wi_440 wi_438 wi_439 wi_56 hlink (by decide +kernel) rfl rfl hR
def rm_X4_topAt : Room := { frames := 1, cells := 0, slots := 0, locals := 21 }
def f_X4_topAt (nS : Nat) (zS : SumS) (a1 : Int32) : Option (Int64) := (f_X4_has nS zS a1).bind fun r_1 => if r_1 = 0 then some (0 : Int64) else if inb a1 nS = true then some (gS_tops zS a1.toNatClampNeg) else none
set_option maxHeartbeats 4000000 in
set_option maxRecDepth 100000 in
theorem b_X4_topAt_0 {p : Program} {l : Launch} {e : Env} {s : State} {m : MethodId} {args : Array Value} {below : List Frame} {meth : Method} {c : Code} {G : va_G} {cA : Nat → ClassId} (qS : Nat → Nat) (nS : Nat) (zS : SumS) (C0 : Amb p s m args meth c cX4_topAt RX4 2 (some .long) G cA (fun _ : Nat => False) ((wSum cA qS nS zS))) {res : Int64} : ∀ (a1 : Int32) (ls : Array Slot), lv_has ls 2 [(0, .ref (qS 0)), (1, .int a1)] → f_X4_topAt nS zS a1 = some res → W p l e rm_X4_topAt s m args below meth c s.heap [] 0 0 (MQ below (vp_Sl (fun x => x = res)) args s 0 0 (fun _ : Nat => False)) (F0 m 0 ls []) := by
  obtain ⟨hx, hb, hr, hml, hown, hts, hlocks, hK, hR, hRA⟩ := id C0
  intro a1 ls hl hf
  unfold f_X4_topAt at hf
  refine lv_aload_n hx hb dX4_topAt_0 rfl (lv_at hl 0 rfl) ?_
  refine lv_iload_n hx hb dX4_topAt_1 rfl (lv_at hl 1 rfl) ?_
  obtain ⟨r_1, hr_1, hf⟩ := obd hf
  refine cRiV (As := [.int a1]) (rest := []) ⟨hx, hb, hml, hown, hts⟩ (m_X4_has l G cA qS nS zS a1 r_1 hr_1) (cw_X4_has hts wi_437 ⟨Nat.le_of_ble_eq_true rfl, Nat.le_of_ble_eq_true rfl⟩) hK (pk hR [0, 1, 2, 3] rfl) (va_recv hK.1 hR (ci := 2) (q0 := 0) rfl rfl) rfl hl.1 rfl (Nat.le_of_ble_eq_true rfl) dX4_topAt_2 ⟨Nat.zero_le _, Nat.zero_le _⟩ ?_
  refine lv_if_eq (tgt := 17) hx hb dX4_topAt_5 (by decide) (fun c_2 => ?_) (fun c_2 => ?_)
  · rw [if_pos (c_2)] at hf
    refine lv_lconst (v := (0 : Int64)) hx hb dX4_topAt_17 (by decide) ?_
    cases hf
    exact W.lret hx hb hr (fun t ht hW => ⟨_, rfl, rfl, ht⟩) (fun q hq => by cases hq) dX4_topAt_18 hlocks
  · rw [if_neg (c_2)] at hf
    refine lv_aload_n hx hb dX4_topAt_8 rfl (lv_at hl 0 rfl) ?_
    refine va_get (D := G) (ci := 2) (v := .ref (qS 2)) (C := RX4) (T := TX4) (N := 6) hx hb hts fin_X4 hown hK.1 hR 0 rfl rfl 2 (by decide) (hts _ wi_86) (fun _ h9 => h9) rfl dX4_topAt_9 ?_
    refine lv_iload_n hx hb dX4_topAt_12 rfl (lv_at hl 1 rfl) ?_
    obtain ⟨hi_3, hf⟩ := oif hf
    refine va_lald hx hb hK.1 hR 2 1 rfl rfl (inb_in hi_3) dX4_topAt_13 ?_
    refine lv_goto (tgt := 18) hx hb dX4_topAt_14 (by decide) ?_
    cases hf
    exact W.lret hx hb hr (fun t ht hW => ⟨_, rfl, rfl, ht⟩) (fun q hq => by cases hq) dX4_topAt_18 hlocks

set_option maxRecDepth 100000 in
theorem m_X4_topAt (l : Launch) (G : va_G) (cA : Nat → ClassId) (qS : Nat → Nat) (nS : Nat) (zS : SumS) (a1 : Int32) (res : Int64) (hf : f_X4_topAt nS zS a1 = some res) : MRl l yX4_topAt (.code yX4_topAt cX4_topAt 2 (some .long) :: wd) rm_X4_topAt G cA [.ref (qS 0), .int a1] ((wSum cA qS nS zS)) res := by
  refine Met.ofW (cc := cX4_topAt) (maxL := 2) (ret := (some .long)) (by decide) rfl ?_
  intro p e s m args below meth c s₁ B hml hv
  obtain ⟨rfl, hK, hR⟩ := hv
  have C0 : Amb p s m ([.ref (qS 0), .int a1] : List Value).toArray meth c cX4_topAt RX4 2 (some .long) G cA (fun _ : Nat => False) ((wSum cA qS nS zS)) := ⟨B.exec, B.bytes, B.returns, hml, findClass_of_methodNamed B.named, fun w h => atoms_spec (ws := (.code yX4_topAt cX4_topAt 2 (some .long) :: wd)) B.pre w (List.mem_cons_of_mem _ h), B.notSynchronized, hK, hR, fun _ _ _ h => h⟩
  have hl := lv_entry ([.ref (qS 0), .int a1]) (n := 2) (Nat.le_of_ble_eq_true rfl)
  rw [lg_entry_eq]
  generalize (lg_sl ([.ref (qS 0), .int a1]) ++ List.replicate (2 - (lg_sl ([.ref (qS 0), .int a1])).length) Slot.unset).toArray = ls at hl ⊢
  have hl : lv_has ls 2 [(0, .ref (qS 0)), (1, .int a1)] := hl
  exact b_X4_topAt_0 qS nS  zS C0 a1 ls hl hf
theorem cw_X4_topAt {R : Room} {s : State} {args : Array Value} {own : String} {index : Nat} (ht : ∀ w ∈ wd, w.before args s = true) (hlink : Cond.methodLink own index yX4_topAt ∈ wd) (hR : rm_X4_topAt.frames + 1 ≤ R.frames ∧ 8 + (2 + 11) + rm_X4_topAt.locals ≤ R.locals) : CallW R s args own RX4 index yX4_topAt cX4_topAt 2 (some .long) (.code yX4_topAt cX4_topAt 2 (some .long) :: wd) rm_X4_topAt 0 0 1 := cwV9 1 ht wi_483 wi_481 wi_482 wi_56 hlink (by decide +kernel) rfl rfl hR
def rm_X4_bottomAt : Room := { frames := 1, cells := 0, slots := 0, locals := 21 }
def f_X4_bottomAt (nS : Nat) (zS : SumS) (a1 : Int32) : Option (Int64) := (f_X4_has nS zS a1).bind fun r_1 => if r_1 = 0 then some (1 : Int64) else if inb a1 nS = true then some (gS_bots zS a1.toNatClampNeg) else none
set_option maxHeartbeats 4000000 in
set_option maxRecDepth 100000 in
theorem b_X4_bottomAt_0 {p : Program} {l : Launch} {e : Env} {s : State} {m : MethodId} {args : Array Value} {below : List Frame} {meth : Method} {c : Code} {G : va_G} {cA : Nat → ClassId} (qS : Nat → Nat) (nS : Nat) (zS : SumS) (C0 : Amb p s m args meth c cX4_bottomAt RX4 2 (some .long) G cA (fun _ : Nat => False) ((wSum cA qS nS zS))) {res : Int64} : ∀ (a1 : Int32) (ls : Array Slot), lv_has ls 2 [(0, .ref (qS 0)), (1, .int a1)] → f_X4_bottomAt nS zS a1 = some res → W p l e rm_X4_bottomAt s m args below meth c s.heap [] 0 0 (MQ below (vp_Sl (fun x => x = res)) args s 0 0 (fun _ : Nat => False)) (F0 m 0 ls []) := by
  obtain ⟨hx, hb, hr, hml, hown, hts, hlocks, hK, hR, hRA⟩ := id C0
  intro a1 ls hl hf
  unfold f_X4_bottomAt at hf
  refine lv_aload_n hx hb dX4_bottomAt_0 rfl (lv_at hl 0 rfl) ?_
  refine lv_iload_n hx hb dX4_bottomAt_1 rfl (lv_at hl 1 rfl) ?_
  obtain ⟨r_1, hr_1, hf⟩ := obd hf
  refine cRiV (As := [.int a1]) (rest := []) ⟨hx, hb, hml, hown, hts⟩ (m_X4_has l G cA qS nS zS a1 r_1 hr_1) (cw_X4_has hts wi_437 ⟨Nat.le_of_ble_eq_true rfl, Nat.le_of_ble_eq_true rfl⟩) hK (pk hR [0, 1, 2, 3] rfl) (va_recv hK.1 hR (ci := 2) (q0 := 0) rfl rfl) rfl hl.1 rfl (Nat.le_of_ble_eq_true rfl) dX4_bottomAt_2 ⟨Nat.zero_le _, Nat.zero_le _⟩ ?_
  refine lv_if_eq (tgt := 17) hx hb dX4_bottomAt_5 (by decide) (fun c_2 => ?_) (fun c_2 => ?_)
  · rw [if_pos (c_2)] at hf
    refine lv_lconst (v := (1 : Int64)) hx hb dX4_bottomAt_17 (by decide) ?_
    cases hf
    exact W.lret hx hb hr (fun t ht hW => ⟨_, rfl, rfl, ht⟩) (fun q hq => by cases hq) dX4_bottomAt_18 hlocks
  · rw [if_neg (c_2)] at hf
    refine lv_aload_n hx hb dX4_bottomAt_8 rfl (lv_at hl 0 rfl) ?_
    refine va_get (D := G) (ci := 2) (v := .ref (qS 3)) (C := RX4) (T := TX4) (N := 6) hx hb hts fin_X4 hown hK.1 hR 0 rfl rfl 3 (by decide) (hts _ wi_87) (fun _ h9 => h9) rfl dX4_bottomAt_9 ?_
    refine lv_iload_n hx hb dX4_bottomAt_12 rfl (lv_at hl 1 rfl) ?_
    obtain ⟨hi_3, hf⟩ := oif hf
    refine va_lald hx hb hK.1 hR 3 1 rfl rfl (inb_in hi_3) dX4_bottomAt_13 ?_
    refine lv_goto (tgt := 18) hx hb dX4_bottomAt_14 (by decide) ?_
    cases hf
    exact W.lret hx hb hr (fun t ht hW => ⟨_, rfl, rfl, ht⟩) (fun q hq => by cases hq) dX4_bottomAt_18 hlocks

set_option maxRecDepth 100000 in
theorem m_X4_bottomAt (l : Launch) (G : va_G) (cA : Nat → ClassId) (qS : Nat → Nat) (nS : Nat) (zS : SumS) (a1 : Int32) (res : Int64) (hf : f_X4_bottomAt nS zS a1 = some res) : MRl l yX4_bottomAt (.code yX4_bottomAt cX4_bottomAt 2 (some .long) :: wd) rm_X4_bottomAt G cA [.ref (qS 0), .int a1] ((wSum cA qS nS zS)) res := by
  refine Met.ofW (cc := cX4_bottomAt) (maxL := 2) (ret := (some .long)) (by decide) rfl ?_
  intro p e s m args below meth c s₁ B hml hv
  obtain ⟨rfl, hK, hR⟩ := hv
  have C0 : Amb p s m ([.ref (qS 0), .int a1] : List Value).toArray meth c cX4_bottomAt RX4 2 (some .long) G cA (fun _ : Nat => False) ((wSum cA qS nS zS)) := ⟨B.exec, B.bytes, B.returns, hml, findClass_of_methodNamed B.named, fun w h => atoms_spec (ws := (.code yX4_bottomAt cX4_bottomAt 2 (some .long) :: wd)) B.pre w (List.mem_cons_of_mem _ h), B.notSynchronized, hK, hR, fun _ _ _ h => h⟩
  have hl := lv_entry ([.ref (qS 0), .int a1]) (n := 2) (Nat.le_of_ble_eq_true rfl)
  rw [lg_entry_eq]
  generalize (lg_sl ([.ref (qS 0), .int a1]) ++ List.replicate (2 - (lg_sl ([.ref (qS 0), .int a1])).length) Slot.unset).toArray = ls at hl ⊢
  have hl : lv_has ls 2 [(0, .ref (qS 0)), (1, .int a1)] := hl
  exact b_X4_bottomAt_0 qS nS  zS C0 a1 ls hl hf
theorem cw_X4_bottomAt {R : Room} {s : State} {args : Array Value} {own : String} {index : Nat} (ht : ∀ w ∈ wd, w.before args s = true) (hlink : Cond.methodLink own index yX4_bottomAt ∈ wd) (hR : rm_X4_bottomAt.frames + 1 ≤ R.frames ∧ 8 + (2 + 11) + rm_X4_bottomAt.locals ≤ R.locals) : CallW R s args own RX4 index yX4_bottomAt cX4_bottomAt 2 (some .long) (.code yX4_bottomAt cX4_bottomAt 2 (some .long) :: wd) rm_X4_bottomAt 0 0 1 := cwV9 1 ht wi_497 wi_495 wi_496 wi_56 hlink (by decide +kernel) rfl rfl hR
def rm_X4_kindAt : Room := { frames := 1, cells := 0, slots := 0, locals := 21 }
def f_X4_kindAt (nS : Nat) (zS : SumS) (a1 : Int32) : Option (Int32) := (f_X4_has nS zS a1).bind fun r_1 => if r_1 = 0 then some (0 : Int32) else if inb a1 nS = true then some ((gS_keys zS a1.toNatClampNeg) >>> ((11 : Int32) &&& 31)) else none
set_option maxHeartbeats 4000000 in
set_option maxRecDepth 100000 in
theorem b_X4_kindAt_0 {p : Program} {l : Launch} {e : Env} {s : State} {m : MethodId} {args : Array Value} {below : List Frame} {meth : Method} {c : Code} {G : va_G} {cA : Nat → ClassId} (qS : Nat → Nat) (nS : Nat) (zS : SumS) (C0 : Amb p s m args meth c cX4_kindAt RX4 2 (some .int) G cA (fun _ : Nat => False) ((wSum cA qS nS zS))) {res : Int32} : ∀ (a1 : Int32) (ls : Array Slot), lv_has ls 2 [(0, .ref (qS 0)), (1, .int a1)] → f_X4_kindAt nS zS a1 = some res → W p l e rm_X4_kindAt s m args below meth c s.heap [] 0 0 (MQ below (vp_Si (fun x => x = res)) args s 0 0 (fun _ : Nat => False)) (F0 m 0 ls []) := by
  obtain ⟨hx, hb, hr, hml, hown, hts, hlocks, hK, hR, hRA⟩ := id C0
  intro a1 ls hl hf
  unfold f_X4_kindAt at hf
  refine lv_aload_n hx hb dX4_kindAt_0 rfl (lv_at hl 0 rfl) ?_
  refine lv_iload_n hx hb dX4_kindAt_1 rfl (lv_at hl 1 rfl) ?_
  obtain ⟨r_1, hr_1, hf⟩ := obd hf
  refine cRiV (As := [.int a1]) (rest := []) ⟨hx, hb, hml, hown, hts⟩ (m_X4_has l G cA qS nS zS a1 r_1 hr_1) (cw_X4_has hts wi_437 ⟨Nat.le_of_ble_eq_true rfl, Nat.le_of_ble_eq_true rfl⟩) hK (pk hR [0, 1, 2, 3] rfl) (va_recv hK.1 hR (ci := 2) (q0 := 0) rfl rfl) rfl hl.1 rfl (Nat.le_of_ble_eq_true rfl) dX4_kindAt_2 ⟨Nat.zero_le _, Nat.zero_le _⟩ ?_
  refine lv_if_eq (tgt := 20) hx hb dX4_kindAt_5 (by decide) (fun c_2 => ?_) (fun c_2 => ?_)
  · rw [if_pos (c_2)] at hf
    refine lv_iconst (v := 0) hx hb dX4_kindAt_20 (by decide) ?_
    cases hf
    exact W.iret hx hb hr (fun t ht hW => ⟨_, rfl, rfl, ht⟩) (fun q hq => by cases hq) dX4_kindAt_21 hlocks
  · rw [if_neg (c_2)] at hf
    refine lv_aload_n hx hb dX4_kindAt_8 rfl (lv_at hl 0 rfl) ?_
    refine va_get (D := G) (ci := 2) (v := .ref (qS 1)) (C := RX4) (T := TX4) (N := 6) hx hb hts fin_X4 hown hK.1 hR 0 rfl rfl 1 (by decide) (hts _ wi_85) (fun _ h9 => h9) rfl dX4_kindAt_9 ?_
    refine lv_iload_n hx hb dX4_kindAt_12 rfl (lv_at hl 1 rfl) ?_
    obtain ⟨hi_3, hf⟩ := oif hf
    refine va_iald hx hb hK.1 hR 1 0 rfl rfl (inb_in hi_3) dX4_kindAt_13 ?_
    refine lv_bipush (v := (11 : Int32)) hx hb dX4_kindAt_14 (by decide) ?_
    refine lv_ishr hx hb dX4_kindAt_16 ?_
    refine lv_goto (tgt := 21) hx hb dX4_kindAt_17 (by decide) ?_
    cases hf
    exact W.iret hx hb hr (fun t ht hW => ⟨_, rfl, rfl, ht⟩) (fun q hq => by cases hq) dX4_kindAt_21 hlocks

set_option maxRecDepth 100000 in
theorem m_X4_kindAt (l : Launch) (G : va_G) (cA : Nat → ClassId) (qS : Nat → Nat) (nS : Nat) (zS : SumS) (a1 : Int32) (res : Int32) (hf : f_X4_kindAt nS zS a1 = some res) : MRi l yX4_kindAt (.code yX4_kindAt cX4_kindAt 2 (some .int) :: wd) rm_X4_kindAt G cA [.ref (qS 0), .int a1] ((wSum cA qS nS zS)) res := by
  refine Met.ofW (cc := cX4_kindAt) (maxL := 2) (ret := (some .int)) (by decide) rfl ?_
  intro p e s m args below meth c s₁ B hml hv
  obtain ⟨rfl, hK, hR⟩ := hv
  have C0 : Amb p s m ([.ref (qS 0), .int a1] : List Value).toArray meth c cX4_kindAt RX4 2 (some .int) G cA (fun _ : Nat => False) ((wSum cA qS nS zS)) := ⟨B.exec, B.bytes, B.returns, hml, findClass_of_methodNamed B.named, fun w h => atoms_spec (ws := (.code yX4_kindAt cX4_kindAt 2 (some .int) :: wd)) B.pre w (List.mem_cons_of_mem _ h), B.notSynchronized, hK, hR, fun _ _ _ h => h⟩
  have hl := lv_entry ([.ref (qS 0), .int a1]) (n := 2) (Nat.le_of_ble_eq_true rfl)
  rw [lg_entry_eq]
  generalize (lg_sl ([.ref (qS 0), .int a1]) ++ List.replicate (2 - (lg_sl ([.ref (qS 0), .int a1])).length) Slot.unset).toArray = ls at hl ⊢
  have hl : lv_has ls 2 [(0, .ref (qS 0)), (1, .int a1)] := hl
  exact b_X4_kindAt_0 qS nS  zS C0 a1 ls hl hf
theorem cw_X4_kindAt {R : Room} {s : State} {args : Array Value} {own : String} {index : Nat} (ht : ∀ w ∈ wd, w.before args s = true) (hlink : Cond.methodLink own index yX4_kindAt ∈ wd) (hR : rm_X4_kindAt.frames + 1 ≤ R.frames ∧ 8 + (2 + 11) + rm_X4_kindAt.locals ≤ R.locals) : CallW R s args own RX4 index yX4_kindAt cX4_kindAt 2 (some .int) (.code yX4_kindAt cX4_kindAt 2 (some .int) :: wd) rm_X4_kindAt 0 0 1 := cwV9 1 ht wi_491 wi_489 wi_490 wi_56 hlink (by decide +kernel) rfl rfl hR
def rm_X4_argumentAt : Room := { frames := 1, cells := 0, slots := 0, locals := 21 }
def f_X4_argumentAt (nS : Nat) (zS : SumS) (a1 : Int32) : Option (Int32) := (f_X4_has nS zS a1).bind fun r_1 => if r_1 = 0 then some (0 : Int32) else if inb a1 nS = true then some ((((gS_keys zS a1.toNatClampNeg) >>> ((6 : Int32) &&& 31)) &&& (31 : Int32)) - (16 : Int32)) else none
set_option maxHeartbeats 4000000 in
set_option maxRecDepth 100000 in
theorem b_X4_argumentAt_0 {p : Program} {l : Launch} {e : Env} {s : State} {m : MethodId} {args : Array Value} {below : List Frame} {meth : Method} {c : Code} {G : va_G} {cA : Nat → ClassId} (qS : Nat → Nat) (nS : Nat) (zS : SumS) (C0 : Amb p s m args meth c cX4_argumentAt RX4 2 (some .int) G cA (fun _ : Nat => False) ((wSum cA qS nS zS))) {res : Int32} : ∀ (a1 : Int32) (ls : Array Slot), lv_has ls 2 [(0, .ref (qS 0)), (1, .int a1)] → f_X4_argumentAt nS zS a1 = some res → W p l e rm_X4_argumentAt s m args below meth c s.heap [] 0 0 (MQ below (vp_Si (fun x => x = res)) args s 0 0 (fun _ : Nat => False)) (F0 m 0 ls []) := by
  obtain ⟨hx, hb, hr, hml, hown, hts, hlocks, hK, hR, hRA⟩ := id C0
  intro a1 ls hl hf
  unfold f_X4_argumentAt at hf
  refine lv_aload_n hx hb dX4_argumentAt_0 rfl (lv_at hl 0 rfl) ?_
  refine lv_iload_n hx hb dX4_argumentAt_1 rfl (lv_at hl 1 rfl) ?_
  obtain ⟨r_1, hr_1, hf⟩ := obd hf
  refine cRiV (As := [.int a1]) (rest := []) ⟨hx, hb, hml, hown, hts⟩ (m_X4_has l G cA qS nS zS a1 r_1 hr_1) (cw_X4_has hts wi_437 ⟨Nat.le_of_ble_eq_true rfl, Nat.le_of_ble_eq_true rfl⟩) hK (pk hR [0, 1, 2, 3] rfl) (va_recv hK.1 hR (ci := 2) (q0 := 0) rfl rfl) rfl hl.1 rfl (Nat.le_of_ble_eq_true rfl) dX4_argumentAt_2 ⟨Nat.zero_le _, Nat.zero_le _⟩ ?_
  refine lv_if_eq (tgt := 26) hx hb dX4_argumentAt_5 (by decide) (fun c_2 => ?_) (fun c_2 => ?_)
  · rw [if_pos (c_2)] at hf
    refine lv_iconst (v := 0) hx hb dX4_argumentAt_26 (by decide) ?_
    cases hf
    exact W.iret hx hb hr (fun t ht hW => ⟨_, rfl, rfl, ht⟩) (fun q hq => by cases hq) dX4_argumentAt_27 hlocks
  · rw [if_neg (c_2)] at hf
    refine lv_aload_n hx hb dX4_argumentAt_8 rfl (lv_at hl 0 rfl) ?_
    refine va_get (D := G) (ci := 2) (v := .ref (qS 1)) (C := RX4) (T := TX4) (N := 6) hx hb hts fin_X4 hown hK.1 hR 0 rfl rfl 1 (by decide) (hts _ wi_85) (fun _ h9 => h9) rfl dX4_argumentAt_9 ?_
    refine lv_iload_n hx hb dX4_argumentAt_12 rfl (lv_at hl 1 rfl) ?_
    obtain ⟨hi_3, hf⟩ := oif hf
    refine va_iald hx hb hK.1 hR 1 0 rfl rfl (inb_in hi_3) dX4_argumentAt_13 ?_
    refine lv_bipush (v := (6 : Int32)) hx hb dX4_argumentAt_14 (by decide) ?_
    refine lv_ishr hx hb dX4_argumentAt_16 ?_
    refine lv_bipush (v := (31 : Int32)) hx hb dX4_argumentAt_17 (by decide) ?_
    refine lv_iand hx hb dX4_argumentAt_19 ?_
    refine lv_bipush (v := (16 : Int32)) hx hb dX4_argumentAt_20 (by decide) ?_
    refine lv_isub hx hb dX4_argumentAt_22 ?_
    refine lv_goto (tgt := 27) hx hb dX4_argumentAt_23 (by decide) ?_
    cases hf
    exact W.iret hx hb hr (fun t ht hW => ⟨_, rfl, rfl, ht⟩) (fun q hq => by cases hq) dX4_argumentAt_27 hlocks

set_option maxRecDepth 100000 in
theorem m_X4_argumentAt (l : Launch) (G : va_G) (cA : Nat → ClassId) (qS : Nat → Nat) (nS : Nat) (zS : SumS) (a1 : Int32) (res : Int32) (hf : f_X4_argumentAt nS zS a1 = some res) : MRi l yX4_argumentAt (.code yX4_argumentAt cX4_argumentAt 2 (some .int) :: wd) rm_X4_argumentAt G cA [.ref (qS 0), .int a1] ((wSum cA qS nS zS)) res := by
  refine Met.ofW (cc := cX4_argumentAt) (maxL := 2) (ret := (some .int)) (by decide) rfl ?_
  intro p e s m args below meth c s₁ B hml hv
  obtain ⟨rfl, hK, hR⟩ := hv
  have C0 : Amb p s m ([.ref (qS 0), .int a1] : List Value).toArray meth c cX4_argumentAt RX4 2 (some .int) G cA (fun _ : Nat => False) ((wSum cA qS nS zS)) := ⟨B.exec, B.bytes, B.returns, hml, findClass_of_methodNamed B.named, fun w h => atoms_spec (ws := (.code yX4_argumentAt cX4_argumentAt 2 (some .int) :: wd)) B.pre w (List.mem_cons_of_mem _ h), B.notSynchronized, hK, hR, fun _ _ _ h => h⟩
  have hl := lv_entry ([.ref (qS 0), .int a1]) (n := 2) (Nat.le_of_ble_eq_true rfl)
  rw [lg_entry_eq]
  generalize (lg_sl ([.ref (qS 0), .int a1]) ++ List.replicate (2 - (lg_sl ([.ref (qS 0), .int a1])).length) Slot.unset).toArray = ls at hl ⊢
  have hl : lv_has ls 2 [(0, .ref (qS 0)), (1, .int a1)] := hl
  exact b_X4_argumentAt_0 qS nS  zS C0 a1 ls hl hf
theorem cw_X4_argumentAt {R : Room} {s : State} {args : Array Value} {own : String} {index : Nat} (ht : ∀ w ∈ wd, w.before args s = true) (hlink : Cond.methodLink own index yX4_argumentAt ∈ wd) (hR : rm_X4_argumentAt.frames + 1 ≤ R.frames ∧ 8 + (2 + 11) + rm_X4_argumentAt.locals ≤ R.locals) : CallW R s args own RX4 index yX4_argumentAt cX4_argumentAt 2 (some .int) (.code yX4_argumentAt cX4_argumentAt 2 (some .int) :: wd) rm_X4_argumentAt 0 0 1 := cwV9 1 ht wi_447 wi_445 wi_446 wi_56 hlink (by decide +kernel) rfl rfl hR
def rm_X4_powerAt : Room := { frames := 1, cells := 0, slots := 0, locals := 21 }
def f_X4_powerAt (nS : Nat) (zS : SumS) (a1 : Int32) : Option (Int32) := (f_X4_has nS zS a1).bind fun r_1 => if r_1 = 0 then some (0 : Int32) else if inb a1 nS = true then some ((31 : Int32) - ((gS_keys zS a1.toNatClampNeg) &&& (63 : Int32))) else none
set_option maxHeartbeats 4000000 in
set_option maxRecDepth 100000 in
theorem b_X4_powerAt_0 {p : Program} {l : Launch} {e : Env} {s : State} {m : MethodId} {args : Array Value} {below : List Frame} {meth : Method} {c : Code} {G : va_G} {cA : Nat → ClassId} (qS : Nat → Nat) (nS : Nat) (zS : SumS) (C0 : Amb p s m args meth c cX4_powerAt RX4 2 (some .int) G cA (fun _ : Nat => False) ((wSum cA qS nS zS))) {res : Int32} : ∀ (a1 : Int32) (ls : Array Slot), lv_has ls 2 [(0, .ref (qS 0)), (1, .int a1)] → f_X4_powerAt nS zS a1 = some res → W p l e rm_X4_powerAt s m args below meth c s.heap [] 0 0 (MQ below (vp_Si (fun x => x = res)) args s 0 0 (fun _ : Nat => False)) (F0 m 0 ls []) := by
  obtain ⟨hx, hb, hr, hml, hown, hts, hlocks, hK, hR, hRA⟩ := id C0
  intro a1 ls hl hf
  unfold f_X4_powerAt at hf
  refine lv_aload_n hx hb dX4_powerAt_0 rfl (lv_at hl 0 rfl) ?_
  refine lv_iload_n hx hb dX4_powerAt_1 rfl (lv_at hl 1 rfl) ?_
  obtain ⟨r_1, hr_1, hf⟩ := obd hf
  refine cRiV (As := [.int a1]) (rest := []) ⟨hx, hb, hml, hown, hts⟩ (m_X4_has l G cA qS nS zS a1 r_1 hr_1) (cw_X4_has hts wi_437 ⟨Nat.le_of_ble_eq_true rfl, Nat.le_of_ble_eq_true rfl⟩) hK (pk hR [0, 1, 2, 3] rfl) (va_recv hK.1 hR (ci := 2) (q0 := 0) rfl rfl) rfl hl.1 rfl (Nat.le_of_ble_eq_true rfl) dX4_powerAt_2 ⟨Nat.zero_le _, Nat.zero_le _⟩ ?_
  refine lv_if_eq (tgt := 23) hx hb dX4_powerAt_5 (by decide) (fun c_2 => ?_) (fun c_2 => ?_)
  · rw [if_pos (c_2)] at hf
    refine lv_iconst (v := 0) hx hb dX4_powerAt_23 (by decide) ?_
    cases hf
    exact W.iret hx hb hr (fun t ht hW => ⟨_, rfl, rfl, ht⟩) (fun q hq => by cases hq) dX4_powerAt_24 hlocks
  · rw [if_neg (c_2)] at hf
    refine lv_bipush (v := (31 : Int32)) hx hb dX4_powerAt_8 (by decide) ?_
    refine lv_aload_n hx hb dX4_powerAt_10 rfl (lv_at hl 0 rfl) ?_
    refine va_get (D := G) (ci := 2) (v := .ref (qS 1)) (C := RX4) (T := TX4) (N := 6) hx hb hts fin_X4 hown hK.1 hR 0 rfl rfl 1 (by decide) (hts _ wi_85) (fun _ h9 => h9) rfl dX4_powerAt_11 ?_
    refine lv_iload_n hx hb dX4_powerAt_14 rfl (lv_at hl 1 rfl) ?_
    obtain ⟨hi_3, hf⟩ := oif hf
    refine va_iald hx hb hK.1 hR 1 0 rfl rfl (inb_in hi_3) dX4_powerAt_15 ?_
    refine lv_bipush (v := (63 : Int32)) hx hb dX4_powerAt_16 (by decide) ?_
    refine lv_iand hx hb dX4_powerAt_18 ?_
    refine lv_isub hx hb dX4_powerAt_19 ?_
    refine lv_goto (tgt := 24) hx hb dX4_powerAt_20 (by decide) ?_
    cases hf
    exact W.iret hx hb hr (fun t ht hW => ⟨_, rfl, rfl, ht⟩) (fun q hq => by cases hq) dX4_powerAt_24 hlocks

set_option maxRecDepth 100000 in
theorem m_X4_powerAt (l : Launch) (G : va_G) (cA : Nat → ClassId) (qS : Nat → Nat) (nS : Nat) (zS : SumS) (a1 : Int32) (res : Int32) (hf : f_X4_powerAt nS zS a1 = some res) : MRi l yX4_powerAt (.code yX4_powerAt cX4_powerAt 2 (some .int) :: wd) rm_X4_powerAt G cA [.ref (qS 0), .int a1] ((wSum cA qS nS zS)) res := by
  refine Met.ofW (cc := cX4_powerAt) (maxL := 2) (ret := (some .int)) (by decide) rfl ?_
  intro p e s m args below meth c s₁ B hml hv
  obtain ⟨rfl, hK, hR⟩ := hv
  have C0 : Amb p s m ([.ref (qS 0), .int a1] : List Value).toArray meth c cX4_powerAt RX4 2 (some .int) G cA (fun _ : Nat => False) ((wSum cA qS nS zS)) := ⟨B.exec, B.bytes, B.returns, hml, findClass_of_methodNamed B.named, fun w h => atoms_spec (ws := (.code yX4_powerAt cX4_powerAt 2 (some .int) :: wd)) B.pre w (List.mem_cons_of_mem _ h), B.notSynchronized, hK, hR, fun _ _ _ h => h⟩
  have hl := lv_entry ([.ref (qS 0), .int a1]) (n := 2) (Nat.le_of_ble_eq_true rfl)
  rw [lg_entry_eq]
  generalize (lg_sl ([.ref (qS 0), .int a1]) ++ List.replicate (2 - (lg_sl ([.ref (qS 0), .int a1])).length) Slot.unset).toArray = ls at hl ⊢
  have hl : lv_has ls 2 [(0, .ref (qS 0)), (1, .int a1)] := hl
  exact b_X4_powerAt_0 qS nS  zS C0 a1 ls hl hf
theorem cw_X4_powerAt {R : Room} {s : State} {args : Array Value} {own : String} {index : Nat} (ht : ∀ w ∈ wd, w.before args s = true) (hlink : Cond.methodLink own index yX4_powerAt ∈ wd) (hR : rm_X4_powerAt.frames + 1 ≤ R.frames ∧ 8 + (2 + 11) + rm_X4_powerAt.locals ≤ R.locals) : CallW R s args own RX4 index yX4_powerAt cX4_powerAt 2 (some .int) (.code yX4_powerAt cX4_powerAt 2 (some .int) :: wd) rm_X4_powerAt 0 0 1 := cwV9 1 ht wi_436 wi_434 wi_435 wi_56 hlink (by decide +kernel) rfl rfl hR
def rm_X4_placeFor : Room := { frames := 0, cells := 0, slots := 0, locals := 0 }
def f_X4_placeFor_2 (nS : Nat) (zS : SumS) : Nat → Int32 → Int32 → Option (Int32)
  | 0, _, _ => none
  | fu + 1, x1, x2 => if (gS_size zS) ≤ x2 then some x2 else if inb x2 nS = true then if x1 ≤ (gS_keys zS x2.toNatClampNeg) then some x2 else f_X4_placeFor_2 nS zS fu x1 (x2 + 1) else none
set_option maxHeartbeats 4000000 in
set_option maxRecDepth 100000 in
theorem b_X4_placeFor_2 {p : Program} {l : Launch} {e : Env} {s : State} {m : MethodId} {args : Array Value} {below : List Frame} {meth : Method} {c : Code} {G : va_G} {cA : Nat → ClassId} (qS : Nat → Nat) (nS : Nat) (zS : SumS) (C0 : Amb p s m args meth c cX4_placeFor RX4 3 (some .int) G cA (fun _ : Nat => False) ((wSum cA qS nS zS))) {res : Int32} : ∀ (fu : Nat) (x1 : Int32) (x2 : Int32) (ls : Array Slot), lv_has ls 3 [(0, .ref (qS 0)), (1, .int x1), (2, .int x2)] → f_X4_placeFor_2 nS zS fu x1 x2 = some res → W p l e rm_X4_placeFor s m args below meth c s.heap [] 0 0 (MQ below (vp_Si (fun x => x = res)) args s 0 0 (fun _ : Nat => False)) (F0 m 2 ls []) := by
  obtain ⟨hx, hb, hr, hml, hown, hts, hlocks, hK, hR, hRA⟩ := id C0
  intro fu
  induction fu with
  | zero =>
    intro x1 x2 ls hl hf
    rw [f_X4_placeFor_2] at hf
    cases hf
  | succ fu ih =>
    intro x1 x2 ls hl hf
    rw [f_X4_placeFor_2] at hf
    refine lv_iload_n hx hb dX4_placeFor_2 rfl (lv_at hl 2 rfl) ?_
    refine lv_aload_n hx hb dX4_placeFor_3 rfl (lv_at hl 0 rfl) ?_
    refine va_get (D := G) (ci := 2) (v := .int (gS_size zS)) (C := RX4) (T := TX4) (N := 6) hx hb hts fin_X4 hown hK.1 hR 0 rfl rfl 4 (by decide) (hts _ wi_88) (fun _ h9 => h9) rfl dX4_placeFor_4 ?_
    refine lv_icmp_ge (tgt := 26) hx hb dX4_placeFor_7 (by decide) (fun c_1 => ?_) (fun c_1 => ?_)
    · rw [if_pos (c_1)] at hf
      refine lv_iload_n hx hb dX4_placeFor_26 rfl (lv_at hl 2 rfl) ?_
      cases hf
      exact W.iret hx hb hr (fun t ht hW => ⟨_, rfl, rfl, ht⟩) (fun q hq => by cases hq) dX4_placeFor_27 hlocks
    · rw [if_neg (c_1)] at hf
      refine lv_aload_n hx hb dX4_placeFor_10 rfl (lv_at hl 0 rfl) ?_
      refine va_get (D := G) (ci := 2) (v := .ref (qS 1)) (C := RX4) (T := TX4) (N := 6) hx hb hts fin_X4 hown hK.1 hR 0 rfl rfl 1 (by decide) (hts _ wi_85) (fun _ h9 => h9) rfl dX4_placeFor_11 ?_
      refine lv_iload_n hx hb dX4_placeFor_14 rfl (lv_at hl 2 rfl) ?_
      obtain ⟨hi_2, hf⟩ := oif hf
      refine va_iald hx hb hK.1 hR 1 0 rfl rfl (inb_in hi_2) dX4_placeFor_15 ?_
      refine lv_iload_n hx hb dX4_placeFor_16 rfl (lv_at hl 1 rfl) ?_
      refine lv_icmp_ge (tgt := 26) hx hb dX4_placeFor_17 (by decide) (fun c_3 => ?_) (fun c_3 => ?_)
      · rw [if_pos (c_3)] at hf
        refine lv_iload_n hx hb dX4_placeFor_26 rfl (lv_at hl 2 rfl) ?_
        cases hf
        exact W.iret hx hb hr (fun t ht hW => ⟨_, rfl, rfl, ht⟩) (fun q hq => by cases hq) dX4_placeFor_27 hlocks
      · rw [if_neg (c_3)] at hf
        refine lv_iinc (v := (x2 + 1)) (lv' := [(2, .int (x2 + 1)), (0, .ref (qS 0)), (1, .int x1)]) hx hb dX4_placeFor_20 hl (k := 2) rfl rfl (by decide) rfl (fun ls hl => ?_)
        refine lv_goto (tgt := 2) hx hb dX4_placeFor_23 (by decide) ?_
        exact ih x1 (x2 + 1) ls (lv_sub hl [1, 2, 0] rfl) hf
def f_X4_placeFor (nS : Nat) (zS : SumS) (a1 : Int32) : Option (Int32) := f_X4_placeFor_2 nS zS fuel a1 (0 : Int32)
set_option maxHeartbeats 4000000 in
set_option maxRecDepth 100000 in
theorem b_X4_placeFor_0 {p : Program} {l : Launch} {e : Env} {s : State} {m : MethodId} {args : Array Value} {below : List Frame} {meth : Method} {c : Code} {G : va_G} {cA : Nat → ClassId} (qS : Nat → Nat) (nS : Nat) (zS : SumS) (C0 : Amb p s m args meth c cX4_placeFor RX4 3 (some .int) G cA (fun _ : Nat => False) ((wSum cA qS nS zS))) {res : Int32} : ∀ (a1 : Int32) (ls : Array Slot), lv_has ls 3 [(0, .ref (qS 0)), (1, .int a1)] → f_X4_placeFor nS zS a1 = some res → W p l e rm_X4_placeFor s m args below meth c s.heap [] 0 0 (MQ below (vp_Si (fun x => x = res)) args s 0 0 (fun _ : Nat => False)) (F0 m 0 ls []) := by
  obtain ⟨hx, hb, hr, hml, hown, hts, hlocks, hK, hR, hRA⟩ := id C0
  intro a1 ls hl hf
  unfold f_X4_placeFor at hf
  refine lv_iconst (v := 0) hx hb dX4_placeFor_0 (by decide) ?_
  refine lv_istore_n (lv' := [(2, .int (0 : Int32)), (0, .ref (qS 0)), (1, .int a1)]) hx hb dX4_placeFor_1 rfl hl (by decide) rfl (fun ls hl => ?_)
  exact b_X4_placeFor_2 qS nS  zS C0  fuel a1 (0 : Int32) ls (lv_sub hl [1, 2, 0] rfl) hf

set_option maxRecDepth 100000 in
theorem m_X4_placeFor (l : Launch) (G : va_G) (cA : Nat → ClassId) (qS : Nat → Nat) (nS : Nat) (zS : SumS) (a1 : Int32) (res : Int32) (hf : f_X4_placeFor nS zS a1 = some res) : MRi l yX4_placeFor (.code yX4_placeFor cX4_placeFor 3 (some .int) :: wd) rm_X4_placeFor G cA [.ref (qS 0), .int a1] ((wSum cA qS nS zS)) res := by
  refine Met.ofW (cc := cX4_placeFor) (maxL := 3) (ret := (some .int)) (by decide) rfl ?_
  intro p e s m args below meth c s₁ B hml hv
  obtain ⟨rfl, hK, hR⟩ := hv
  have C0 : Amb p s m ([.ref (qS 0), .int a1] : List Value).toArray meth c cX4_placeFor RX4 3 (some .int) G cA (fun _ : Nat => False) ((wSum cA qS nS zS)) := ⟨B.exec, B.bytes, B.returns, hml, findClass_of_methodNamed B.named, fun w h => atoms_spec (ws := (.code yX4_placeFor cX4_placeFor 3 (some .int) :: wd)) B.pre w (List.mem_cons_of_mem _ h), B.notSynchronized, hK, hR, fun _ _ _ h => h⟩
  have hl := lv_entry ([.ref (qS 0), .int a1]) (n := 3) (Nat.le_of_ble_eq_true rfl)
  rw [lg_entry_eq]
  generalize (lg_sl ([.ref (qS 0), .int a1]) ++ List.replicate (3 - (lg_sl ([.ref (qS 0), .int a1])).length) Slot.unset).toArray = ls at hl ⊢
  have hl : lv_has ls 3 [(0, .ref (qS 0)), (1, .int a1)] := hl
  exact b_X4_placeFor_0 qS nS  zS C0 a1 ls hl hf
theorem cw_X4_placeFor {R : Room} {s : State} {args : Array Value} {own : String} {index : Nat} (ht : ∀ w ∈ wd, w.before args s = true) (hlink : Cond.methodLink own index yX4_placeFor ∈ wd) (hR : rm_X4_placeFor.frames + 1 ≤ R.frames ∧ 8 + (3 + 11) + rm_X4_placeFor.locals ≤ R.locals) : CallW R s args own RX4 index yX4_placeFor cX4_placeFor 3 (some .int) (.code yX4_placeFor cX4_placeFor 3 (some .int) :: wd) rm_X4_placeFor 0 0 1 := cwV9 1 ht wi_404 wi_403 wi_14 wi_56 hlink (by decide +kernel) rfl rfl hR
def rm_X4_isWithin : Room := { frames := 2, cells := 0, slots := 0, locals := 42 }
def f_X4_isWithin_3 (nS : Nat) (zS : SumS) : Nat → Int64 → Int64 → Int32 → Int32 → Int32 → Option (Int32)
  | 0, _, _, _, _, _ => none
  | fu + 1, x1, x3, x5, x6, x7 => if (gS_size zS) ≤ x7 then some (1 : Int32) else if inb x7 nS = true then if x1 < (mabs64 (gS_tops zS x7.toNatClampNeg)) then some (0 : Int32) else if inb x7 nS = true then if x3 < (gS_bots zS x7.toNatClampNeg) then some (0 : Int32) else (f_X4_powerAt nS zS x7).bind fun r_6 => if x5 < (mabs32 r_6) then some (0 : Int32) else (f_X4_argumentAt nS zS x7).bind fun r_8 => if (mabs32 r_8) ≤ x6 then f_X4_isWithin_3 nS zS fu x1 x3 x5 x6 (x7 + 1) else some (0 : Int32) else none else none
set_option maxHeartbeats 4000000 in
set_option maxRecDepth 100000 in
theorem b_X4_isWithin_3 {p : Program} {l : Launch} {e : Env} {s : State} {m : MethodId} {args : Array Value} {below : List Frame} {meth : Method} {c : Code} {G : va_G} {cA : Nat → ClassId} (qS : Nat → Nat) (nS : Nat) (zS : SumS) (C0 : Amb p s m args meth c cX4_isWithin RX4 8 (some .boolean) G cA (fun _ : Nat => False) ((wSum cA qS nS zS))) {res : Int32} : ∀ (fu : Nat) (x1 : Int64) (x3 : Int64) (x5 : Int32) (x6 : Int32) (x7 : Int32) (ls : Array Slot), lv_has ls 8 [(0, .ref (qS 0)), (1, .long x1), (3, .long x3), (5, .int x5), (6, .int x6), (7, .int x7)] → f_X4_isWithin_3 nS zS fu x1 x3 x5 x6 x7 = some res → W p l e rm_X4_isWithin s m args below meth c s.heap [] 0 0 (MQ below (vp_Si (fun x => x = res)) args s 0 0 (fun _ : Nat => False)) (F0 m 3 ls []) := by
  obtain ⟨hx, hb, hr, hml, hown, hts, hlocks, hK, hR, hRA⟩ := id C0
  intro fu
  induction fu with
  | zero =>
    intro x1 x3 x5 x6 x7 ls hl hf
    rw [f_X4_isWithin_3] at hf
    cases hf
  | succ fu ih =>
    intro x1 x3 x5 x6 x7 ls hl hf
    rw [f_X4_isWithin_3] at hf
    refine lv_iload hx hb dX4_isWithin_3 (lv_at hl 5 rfl) ?_
    refine lv_aload_n hx hb dX4_isWithin_5 rfl (lv_at hl 0 rfl) ?_
    refine va_get (D := G) (ci := 2) (v := .int (gS_size zS)) (C := RX4) (T := TX4) (N := 6) hx hb hts fin_X4 hown hK.1 hR 0 rfl rfl 4 (by decide) (hts _ wi_88) (fun _ h9 => h9) rfl dX4_isWithin_6 ?_
    refine lv_icmp_ge (tgt := 75) hx hb dX4_isWithin_9 (by decide) (fun c_1 => ?_) (fun c_1 => ?_)
    · rw [if_pos (c_1)] at hf
      refine lv_iconst (v := 1) hx hb dX4_isWithin_75 (by decide) ?_
      cases hf
      exact W.zret hx hb hr (by decide) (fun t ht hW => ⟨_, rfl, rfl, ht⟩) (fun q hq => by cases hq) dX4_isWithin_76 hlocks
    · rw [if_neg (c_1)] at hf
      refine lv_aload_n hx hb dX4_isWithin_12 rfl (lv_at hl 0 rfl) ?_
      refine va_get (D := G) (ci := 2) (v := .ref (qS 2)) (C := RX4) (T := TX4) (N := 6) hx hb hts fin_X4 hown hK.1 hR 0 rfl rfl 2 (by decide) (hts _ wi_86) (fun _ h9 => h9) rfl dX4_isWithin_13 ?_
      refine lv_iload hx hb dX4_isWithin_16 (lv_at hl 5 rfl) ?_
      obtain ⟨hi_2, hf⟩ := oif hf
      refine va_lald hx hb hK.1 hR 2 1 rfl rfl (inb_in hi_2) dX4_isWithin_18 ?_
      refine k_abs64 hx hb (hml.trans hl.1.symm) hown hts wi_417 (Nat.le_of_ble_eq_true rfl) (Nat.le_of_ble_eq_true rfl) (Nat.zero_le _) (Nat.zero_le _) dX4_isWithin_19 ?_
      refine lv_lload_n hx hb dX4_isWithin_22 rfl (lv_at hl 1 rfl) ?_
      refine W.lcmp hx hb dX4_isWithin_23 ?_
      refine lv_if_gt (tgt := 67) hx hb dX4_isWithin_24 (by decide) (fun c_3 => ?_) (fun c_3 => ?_)
      · rw [if_pos ((lg_cmp_gt _ _).mp c_3)] at hf
        refine lv_iconst (v := 0) hx hb dX4_isWithin_67 (by decide) ?_
        cases hf
        exact W.zret hx hb hr (by decide) (fun t ht hW => ⟨_, rfl, rfl, ht⟩) (fun q hq => by cases hq) dX4_isWithin_68 hlocks
      · rw [if_neg (fun h => c_3 ((lg_cmp_gt _ _).mpr h))] at hf
        refine lv_aload_n hx hb dX4_isWithin_27 rfl (lv_at hl 0 rfl) ?_
        refine va_get (D := G) (ci := 2) (v := .ref (qS 3)) (C := RX4) (T := TX4) (N := 6) hx hb hts fin_X4 hown hK.1 hR 0 rfl rfl 3 (by decide) (hts _ wi_87) (fun _ h9 => h9) rfl dX4_isWithin_28 ?_
        refine lv_iload hx hb dX4_isWithin_31 (lv_at hl 5 rfl) ?_
        obtain ⟨hi_4, hf⟩ := oif hf
        refine va_lald hx hb hK.1 hR 3 1 rfl rfl (inb_in hi_4) dX4_isWithin_33 ?_
        refine lv_lload_n hx hb dX4_isWithin_34 rfl (lv_at hl 2 rfl) ?_
        refine W.lcmp hx hb dX4_isWithin_35 ?_
        refine lv_if_gt (tgt := 67) hx hb dX4_isWithin_36 (by decide) (fun c_5 => ?_) (fun c_5 => ?_)
        · rw [if_pos ((lg_cmp_gt _ _).mp c_5)] at hf
          refine lv_iconst (v := 0) hx hb dX4_isWithin_67 (by decide) ?_
          cases hf
          exact W.zret hx hb hr (by decide) (fun t ht hW => ⟨_, rfl, rfl, ht⟩) (fun q hq => by cases hq) dX4_isWithin_68 hlocks
        · rw [if_neg (fun h => c_5 ((lg_cmp_gt _ _).mpr h))] at hf
          refine lv_aload_n hx hb dX4_isWithin_39 rfl (lv_at hl 0 rfl) ?_
          refine lv_iload hx hb dX4_isWithin_40 (lv_at hl 5 rfl) ?_
          obtain ⟨r_6, hr_6, hf⟩ := obd hf
          refine cRiV (As := [.int x7]) (rest := []) ⟨hx, hb, hml, hown, hts⟩ (m_X4_powerAt l G cA qS nS zS x7 r_6 hr_6) (cw_X4_powerAt hts wi_433 ⟨Nat.le_of_ble_eq_true rfl, Nat.le_of_ble_eq_true rfl⟩) hK (pk hR [0, 1, 2, 3] rfl) (va_recv hK.1 hR (ci := 2) (q0 := 0) rfl rfl) rfl hl.1 rfl (Nat.le_of_ble_eq_true rfl) dX4_isWithin_42 ⟨Nat.zero_le _, Nat.zero_le _⟩ ?_
          refine k_abs32 hx hb (hml.trans hl.1.symm) hown hts wi_441 (Nat.le_of_ble_eq_true rfl) (Nat.le_of_ble_eq_true rfl) (Nat.zero_le _) (Nat.zero_le _) dX4_isWithin_45 ?_
          refine lv_iload hx hb dX4_isWithin_48 (lv_at hl 3 rfl) ?_
          refine lv_icmp_gt (tgt := 67) hx hb dX4_isWithin_50 (by decide) (fun c_7 => ?_) (fun c_7 => ?_)
          · rw [if_pos (c_7)] at hf
            refine lv_iconst (v := 0) hx hb dX4_isWithin_67 (by decide) ?_
            cases hf
            exact W.zret hx hb hr (by decide) (fun t ht hW => ⟨_, rfl, rfl, ht⟩) (fun q hq => by cases hq) dX4_isWithin_68 hlocks
          · rw [if_neg (c_7)] at hf
            refine lv_aload_n hx hb dX4_isWithin_53 rfl (lv_at hl 0 rfl) ?_
            refine lv_iload hx hb dX4_isWithin_54 (lv_at hl 5 rfl) ?_
            obtain ⟨r_8, hr_8, hf⟩ := obd hf
            refine cRiV (As := [.int x7]) (rest := []) ⟨hx, hb, hml, hown, hts⟩ (m_X4_argumentAt l G cA qS nS zS x7 r_8 hr_8) (cw_X4_argumentAt hts wi_444 ⟨Nat.le_of_ble_eq_true rfl, Nat.le_of_ble_eq_true rfl⟩) hK (pk hR [0, 1, 2, 3] rfl) (va_recv hK.1 hR (ci := 2) (q0 := 0) rfl rfl) rfl hl.1 rfl (Nat.le_of_ble_eq_true rfl) dX4_isWithin_56 ⟨Nat.zero_le _, Nat.zero_le _⟩ ?_
            refine k_abs32 hx hb (hml.trans hl.1.symm) hown hts wi_441 (Nat.le_of_ble_eq_true rfl) (Nat.le_of_ble_eq_true rfl) (Nat.zero_le _) (Nat.zero_le _) dX4_isWithin_59 ?_
            refine lv_iload hx hb dX4_isWithin_62 (lv_at hl 4 rfl) ?_
            refine lv_icmp_le (tgt := 69) hx hb dX4_isWithin_64 (by decide) (fun c_9 => ?_) (fun c_9 => ?_)
            · rw [if_pos (c_9)] at hf
              refine lv_iinc (v := (x7 + 1)) (lv' := [(7, .int (x7 + 1)), (0, .ref (qS 0)), (1, .long x1), (3, .long x3), (5, .int x5), (6, .int x6)]) hx hb dX4_isWithin_69 hl (k := 5) rfl rfl (by decide) rfl (fun ls hl => ?_)
              refine lv_goto (tgt := 3) hx hb dX4_isWithin_72 (by decide) ?_
              exact ih x1 x3 x5 x6 (x7 + 1) ls (lv_sub hl [1, 2, 3, 4, 5, 0] rfl) hf
            · rw [if_neg (c_9)] at hf
              refine lv_iconst (v := 0) hx hb dX4_isWithin_67 (by decide) ?_
              cases hf
              exact W.zret hx hb hr (by decide) (fun t ht hW => ⟨_, rfl, rfl, ht⟩) (fun q hq => by cases hq) dX4_isWithin_68 hlocks
def f_X4_isWithin (nS : Nat) (zS : SumS) (a1 : Int64) (a3 : Int64) (a5 : Int32) (a6 : Int32) : Option (Int32) := f_X4_isWithin_3 nS zS fuel a1 a3 a5 a6 (0 : Int32)
set_option maxHeartbeats 4000000 in
set_option maxRecDepth 100000 in
theorem b_X4_isWithin_0 {p : Program} {l : Launch} {e : Env} {s : State} {m : MethodId} {args : Array Value} {below : List Frame} {meth : Method} {c : Code} {G : va_G} {cA : Nat → ClassId} (qS : Nat → Nat) (nS : Nat) (zS : SumS) (C0 : Amb p s m args meth c cX4_isWithin RX4 8 (some .boolean) G cA (fun _ : Nat => False) ((wSum cA qS nS zS))) {res : Int32} : ∀ (a1 : Int64) (a3 : Int64) (a5 : Int32) (a6 : Int32) (ls : Array Slot), lv_has ls 8 [(0, .ref (qS 0)), (1, .long a1), (3, .long a3), (5, .int a5), (6, .int a6)] → f_X4_isWithin nS zS a1 a3 a5 a6 = some res → W p l e rm_X4_isWithin s m args below meth c s.heap [] 0 0 (MQ below (vp_Si (fun x => x = res)) args s 0 0 (fun _ : Nat => False)) (F0 m 0 ls []) := by
  obtain ⟨hx, hb, hr, hml, hown, hts, hlocks, hK, hR, hRA⟩ := id C0
  intro a1 a3 a5 a6 ls hl hf
  unfold f_X4_isWithin at hf
  refine lv_iconst (v := 0) hx hb dX4_isWithin_0 (by decide) ?_
  refine lv_istore (lv' := [(7, .int (0 : Int32)), (0, .ref (qS 0)), (1, .long a1), (3, .long a3), (5, .int a5), (6, .int a6)]) hx hb dX4_isWithin_1 hl (by decide) rfl (fun ls hl => ?_)
  exact b_X4_isWithin_3 qS nS  zS C0  fuel a1 a3 a5 a6 (0 : Int32) ls (lv_sub hl [1, 2, 3, 4, 5, 0] rfl) hf

set_option maxRecDepth 100000 in
theorem m_X4_isWithin (l : Launch) (G : va_G) (cA : Nat → ClassId) (qS : Nat → Nat) (nS : Nat) (zS : SumS) (a1 : Int64) (a3 : Int64) (a5 : Int32) (a6 : Int32) (res : Int32) (hf : f_X4_isWithin nS zS a1 a3 a5 a6 = some res) : MRi l yX4_isWithin (.code yX4_isWithin cX4_isWithin 8 (some .boolean) :: wd) rm_X4_isWithin G cA [.ref (qS 0), .long a1, .long a3, .int a5, .int a6] ((wSum cA qS nS zS)) res := by
  refine Met.ofW (cc := cX4_isWithin) (maxL := 8) (ret := (some .boolean)) (by decide) rfl ?_
  intro p e s m args below meth c s₁ B hml hv
  obtain ⟨rfl, hK, hR⟩ := hv
  have C0 : Amb p s m ([.ref (qS 0), .long a1, .long a3, .int a5, .int a6] : List Value).toArray meth c cX4_isWithin RX4 8 (some .boolean) G cA (fun _ : Nat => False) ((wSum cA qS nS zS)) := ⟨B.exec, B.bytes, B.returns, hml, findClass_of_methodNamed B.named, fun w h => atoms_spec (ws := (.code yX4_isWithin cX4_isWithin 8 (some .boolean) :: wd)) B.pre w (List.mem_cons_of_mem _ h), B.notSynchronized, hK, hR, fun _ _ _ h => h⟩
  have hl := lv_entry ([.ref (qS 0), .long a1, .long a3, .int a5, .int a6]) (n := 8) (Nat.le_of_ble_eq_true rfl)
  rw [lg_entry_eq]
  generalize (lg_sl ([.ref (qS 0), .long a1, .long a3, .int a5, .int a6]) ++ List.replicate (8 - (lg_sl ([.ref (qS 0), .long a1, .long a3, .int a5, .int a6])).length) Slot.unset).toArray = ls at hl ⊢
  have hl : lv_has ls 8 [(0, .ref (qS 0)), (1, .long a1), (3, .long a3), (5, .int a5), (6, .int a6)] := hl
  exact b_X4_isWithin_0 qS nS  zS C0 a1 a3 a5 a6 ls hl hf
theorem cw_X4_isWithin {R : Room} {s : State} {args : Array Value} {own : String} {index : Nat} (ht : ∀ w ∈ wd, w.before args s = true) (hlink : Cond.methodLink own index yX4_isWithin ∈ wd) (hR : rm_X4_isWithin.frames + 1 ≤ R.frames ∧ 8 + (8 + 11) + rm_X4_isWithin.locals ≤ R.locals) : CallW R s args own RX4 index yX4_isWithin cX4_isWithin 8 (some .boolean) (.code yX4_isWithin cX4_isWithin 8 (some .boolean) :: wd) rm_X4_isWithin 0 0 4 := cwV9 4 ht wi_432 wi_431 wi_18 wi_56 hlink (by decide +kernel) rfl rfl hR
def rm_X4_isSmall : Room := { frames := 3, cells := 0, slots := 0, locals := 69 }
def f_X4_isSmall (nS : Nat) (zS : SumS) : Option (Int32) := (f_X4_isWithin nS zS (100 : Int64) (6 : Int64) (4 : Int32) (3 : Int32)).bind fun r_1 => if zb r_1 = true then some r_1 else none
set_option maxHeartbeats 4000000 in
set_option maxRecDepth 100000 in
theorem b_X4_isSmall_0 {p : Program} {l : Launch} {e : Env} {s : State} {m : MethodId} {args : Array Value} {below : List Frame} {meth : Method} {c : Code} {G : va_G} {cA : Nat → ClassId} (qS : Nat → Nat) (nS : Nat) (zS : SumS) (C0 : Amb p s m args meth c cX4_isSmall RX4 1 (some .boolean) G cA (fun _ : Nat => False) ((wSum cA qS nS zS))) {res : Int32} : ∀ (ls : Array Slot), lv_has ls 1 [(0, .ref (qS 0))] → f_X4_isSmall nS zS = some res → W p l e rm_X4_isSmall s m args below meth c s.heap [] 0 0 (MQ below (vp_Si (fun x => x = res)) args s 0 0 (fun _ : Nat => False)) (F0 m 0 ls []) := by
  obtain ⟨hx, hb, hr, hml, hown, hts, hlocks, hK, hR, hRA⟩ := id C0
  intro ls hl hf
  unfold f_X4_isSmall at hf
  refine lv_aload_n hx hb dX4_isSmall_0 rfl (lv_at hl 0 rfl) ?_
  refine lv_ldc2 (v := (100 : Int64)) hx hb hown (hts _ wi_542) dX4_isSmall_1 ?_
  refine lv_ldc2 (v := (6 : Int64)) hx hb hown (hts _ wi_543) dX4_isSmall_4 ?_
  refine lv_iconst (v := 4) hx hb dX4_isSmall_7 (by decide) ?_
  refine lv_iconst (v := 3) hx hb dX4_isSmall_8 (by decide) ?_
  obtain ⟨r_1, hr_1, hf⟩ := obd hf
  refine cRiV (As := [.long (100 : Int64), .long (6 : Int64), .int (4 : Int32), .int (3 : Int32)]) (rest := []) ⟨hx, hb, hml, hown, hts⟩ (m_X4_isWithin l G cA qS nS zS (100 : Int64) (6 : Int64) (4 : Int32) (3 : Int32) r_1 hr_1) (cw_X4_isWithin hts wi_429 ⟨Nat.le_of_ble_eq_true rfl, Nat.le_of_ble_eq_true rfl⟩) hK (pk hR [0, 1, 2, 3] rfl) (va_recv hK.1 hR (ci := 2) (q0 := 0) rfl rfl) rfl hl.1 rfl (Nat.le_of_ble_eq_true rfl) dX4_isSmall_9 ⟨Nat.zero_le _, Nat.zero_le _⟩ ?_
  obtain ⟨hz_2, hf⟩ := oif hf
  cases hf
  exact W.zret hx hb hr (zb_n hz_2) (fun t ht hW => ⟨_, rfl, rfl, ht⟩) (fun q hq => by cases hq) dX4_isSmall_12 hlocks

set_option maxRecDepth 100000 in
theorem m_X4_isSmall (l : Launch) (G : va_G) (cA : Nat → ClassId) (qS : Nat → Nat) (nS : Nat) (zS : SumS)  (res : Int32) (hf : f_X4_isSmall nS zS = some res) : MRi l yX4_isSmall (.code yX4_isSmall cX4_isSmall 1 (some .boolean) :: wd) rm_X4_isSmall G cA [.ref (qS 0)] ((wSum cA qS nS zS)) res := by
  refine Met.ofW (cc := cX4_isSmall) (maxL := 1) (ret := (some .boolean)) (by decide) rfl ?_
  intro p e s m args below meth c s₁ B hml hv
  obtain ⟨rfl, hK, hR⟩ := hv
  have C0 : Amb p s m ([.ref (qS 0)] : List Value).toArray meth c cX4_isSmall RX4 1 (some .boolean) G cA (fun _ : Nat => False) ((wSum cA qS nS zS)) := ⟨B.exec, B.bytes, B.returns, hml, findClass_of_methodNamed B.named, fun w h => atoms_spec (ws := (.code yX4_isSmall cX4_isSmall 1 (some .boolean) :: wd)) B.pre w (List.mem_cons_of_mem _ h), B.notSynchronized, hK, hR, fun _ _ _ h => h⟩
  have hl := lv_entry ([.ref (qS 0)]) (n := 1) (Nat.le_of_ble_eq_true rfl)
  rw [lg_entry_eq]
  generalize (lg_sl ([.ref (qS 0)]) ++ List.replicate (1 - (lg_sl ([.ref (qS 0)])).length) Slot.unset).toArray = ls at hl ⊢
  have hl : lv_has ls 1 [(0, .ref (qS 0))] := hl
  exact b_X4_isSmall_0 qS nS  zS C0  ls hl hf
theorem cw_X4_isSmall {R : Room} {s : State} {args : Array Value} {own : String} {index : Nat} (ht : ∀ w ∈ wd, w.before args s = true) (hlink : Cond.methodLink own index yX4_isSmall ∈ wd) (hR : rm_X4_isSmall.frames + 1 ≤ R.frames ∧ 8 + (1 + 11) + rm_X4_isSmall.locals ≤ R.locals) : CallW R s args own RX4 index yX4_isSmall cX4_isSmall 1 (some .boolean) (.code yX4_isSmall cX4_isSmall 1 (some .boolean) :: wd) rm_X4_isSmall 0 0 0 := cwV9 0 ht wi_541 wi_539 wi_540 wi_56 hlink (by decide +kernel) rfl rfl hR
def rm_X4_fits : Room := { frames := 3, cells := 0, slots := 0, locals := 69 }
def f_X4_fits (nS : Nat) (zS : SumS) : Option (Int32) := if ¬ (gS_ov zS) = 0 then some (0 : Int32) else if (gS_size zS) ≤ (40 : Int32) then (f_X4_isWithin nS zS (10000000000 : Int64) (100000 : Int64) (12 : Int32) (9 : Int32)).bind fun r_3 => if zb r_3 = true then some r_3 else none else some (0 : Int32)
set_option maxHeartbeats 4000000 in
set_option maxRecDepth 100000 in
theorem b_X4_fits_0 {p : Program} {l : Launch} {e : Env} {s : State} {m : MethodId} {args : Array Value} {below : List Frame} {meth : Method} {c : Code} {G : va_G} {cA : Nat → ClassId} (qS : Nat → Nat) (nS : Nat) (zS : SumS) (C0 : Amb p s m args meth c cX4_fits RX4 1 (some .boolean) G cA (fun _ : Nat => False) ((wSum cA qS nS zS))) {res : Int32} : ∀ (ls : Array Slot), lv_has ls 1 [(0, .ref (qS 0))] → f_X4_fits nS zS = some res → W p l e rm_X4_fits s m args below meth c s.heap [] 0 0 (MQ below (vp_Si (fun x => x = res)) args s 0 0 (fun _ : Nat => False)) (F0 m 0 ls []) := by
  obtain ⟨hx, hb, hr, hml, hown, hts, hlocks, hK, hR, hRA⟩ := id C0
  intro ls hl hf
  unfold f_X4_fits at hf
  refine lv_aload_n hx hb dX4_fits_0 rfl (lv_at hl 0 rfl) ?_
  refine va_get (D := G) (ci := 2) (v := .int (gS_ov zS)) (C := RX4) (T := TX4) (N := 6) hx hb hts fin_X4 hown hK.1 hR 0 rfl rfl 5 (by decide) (hts _ wi_89) (fun _ h9 => h9) rfl dX4_fits_1 ?_
  refine lv_if_ne (tgt := 16) hx hb dX4_fits_4 (by decide) (fun c_1 => ?_) (fun c_1 => ?_)
  · rw [if_pos (c_1)] at hf
    refine lv_iconst (v := 0) hx hb dX4_fits_16 (by decide) ?_
    cases hf
    exact W.zret hx hb hr (by decide) (fun t ht hW => ⟨_, rfl, rfl, ht⟩) (fun q hq => by cases hq) dX4_fits_17 hlocks
  · rw [if_neg (not_not_intro c_1)] at hf
    refine lv_aload_n hx hb dX4_fits_7 rfl (lv_at hl 0 rfl) ?_
    refine va_get (D := G) (ci := 2) (v := .int (gS_size zS)) (C := RX4) (T := TX4) (N := 6) hx hb hts fin_X4 hown hK.1 hR 0 rfl rfl 4 (by decide) (hts _ wi_88) (fun _ h9 => h9) rfl dX4_fits_8 ?_
    refine lv_bipush (v := (40 : Int32)) hx hb dX4_fits_11 (by decide) ?_
    refine lv_icmp_le (tgt := 18) hx hb dX4_fits_13 (by decide) (fun c_2 => ?_) (fun c_2 => ?_)
    · rw [if_pos (c_2)] at hf
      refine lv_aload_n hx hb dX4_fits_18 rfl (lv_at hl 0 rfl) ?_
      refine lv_ldc2 (v := (10000000000 : Int64)) hx hb hown (hts _ wi_427) dX4_fits_19 ?_
      refine lv_ldc2 (v := (100000 : Int64)) hx hb hown (hts _ wi_428) dX4_fits_22 ?_
      refine lv_bipush (v := (12 : Int32)) hx hb dX4_fits_25 (by decide) ?_
      refine lv_bipush (v := (9 : Int32)) hx hb dX4_fits_27 (by decide) ?_
      obtain ⟨r_3, hr_3, hf⟩ := obd hf
      refine cRiV (As := [.long (10000000000 : Int64), .long (100000 : Int64), .int (12 : Int32), .int (9 : Int32)]) (rest := []) ⟨hx, hb, hml, hown, hts⟩ (m_X4_isWithin l G cA qS nS zS (10000000000 : Int64) (100000 : Int64) (12 : Int32) (9 : Int32) r_3 hr_3) (cw_X4_isWithin hts wi_429 ⟨Nat.le_of_ble_eq_true rfl, Nat.le_of_ble_eq_true rfl⟩) hK (pk hR [0, 1, 2, 3] rfl) (va_recv hK.1 hR (ci := 2) (q0 := 0) rfl rfl) rfl hl.1 rfl (Nat.le_of_ble_eq_true rfl) dX4_fits_29 ⟨Nat.zero_le _, Nat.zero_le _⟩ ?_
      obtain ⟨hz_4, hf⟩ := oif hf
      cases hf
      exact W.zret hx hb hr (zb_n hz_4) (fun t ht hW => ⟨_, rfl, rfl, ht⟩) (fun q hq => by cases hq) dX4_fits_32 hlocks
    · rw [if_neg (c_2)] at hf
      refine lv_iconst (v := 0) hx hb dX4_fits_16 (by decide) ?_
      cases hf
      exact W.zret hx hb hr (by decide) (fun t ht hW => ⟨_, rfl, rfl, ht⟩) (fun q hq => by cases hq) dX4_fits_17 hlocks

set_option maxRecDepth 100000 in
theorem m_X4_fits (l : Launch) (G : va_G) (cA : Nat → ClassId) (qS : Nat → Nat) (nS : Nat) (zS : SumS)  (res : Int32) (hf : f_X4_fits nS zS = some res) : MRi l yX4_fits (.code yX4_fits cX4_fits 1 (some .boolean) :: wd) rm_X4_fits G cA [.ref (qS 0)] ((wSum cA qS nS zS)) res := by
  refine Met.ofW (cc := cX4_fits) (maxL := 1) (ret := (some .boolean)) (by decide) rfl ?_
  intro p e s m args below meth c s₁ B hml hv
  obtain ⟨rfl, hK, hR⟩ := hv
  have C0 : Amb p s m ([.ref (qS 0)] : List Value).toArray meth c cX4_fits RX4 1 (some .boolean) G cA (fun _ : Nat => False) ((wSum cA qS nS zS)) := ⟨B.exec, B.bytes, B.returns, hml, findClass_of_methodNamed B.named, fun w h => atoms_spec (ws := (.code yX4_fits cX4_fits 1 (some .boolean) :: wd)) B.pre w (List.mem_cons_of_mem _ h), B.notSynchronized, hK, hR, fun _ _ _ h => h⟩
  have hl := lv_entry ([.ref (qS 0)]) (n := 1) (Nat.le_of_ble_eq_true rfl)
  rw [lg_entry_eq]
  generalize (lg_sl ([.ref (qS 0)]) ++ List.replicate (1 - (lg_sl ([.ref (qS 0)])).length) Slot.unset).toArray = ls at hl ⊢
  have hl : lv_has ls 1 [(0, .ref (qS 0))] := hl
  exact b_X4_fits_0 qS nS  zS C0  ls hl hf
theorem cw_X4_fits {R : Room} {s : State} {args : Array Value} {own : String} {index : Nat} (ht : ∀ w ∈ wd, w.before args s = true) (hlink : Cond.methodLink own index yX4_fits ∈ wd) (hR : rm_X4_fits.frames + 1 ≤ R.frames ∧ 8 + (1 + 11) + rm_X4_fits.locals ≤ R.locals) : CallW R s args own RX4 index yX4_fits cX4_fits 1 (some .boolean) (.code yX4_fits cX4_fits 1 (some .boolean) :: wd) rm_X4_fits 0 0 0 := cwV9 0 ht wi_426 wi_424 wi_425 wi_56 hlink (by decide +kernel) rfl rfl hR
def rm_X4_clear : Room := { frames := 0, cells := 0, slots := 0, locals := 0 }
def f_X4_clear (nS : Nat) (zS : SumS) : Option (SumS) := some (uS_ov (uS_size zS (0 : Int32)) (0 : Int32))
set_option maxHeartbeats 4000000 in
set_option maxRecDepth 100000 in
theorem b_X4_clear_0 {p : Program} {l : Launch} {e : Env} {s : State} {m : MethodId} {args : Array Value} {below : List Frame} {meth : Method} {c : Code} {G : va_G} {cA : Nat → ClassId} {W9 : va_W} (qS : Nat → Nat) (nS : Nat) (C0 : Amb p s m args meth c cX4_clear RX4 1 none G cA (adr W9) []) {res : SumS} : ∀ (zS : SumS) (H : Heap) (locs : List Loc) (ls : Array Slot), va_P G vwCl ((wSum cA qS nS zS)) H → va_D (adr W9) ((wSum cA qS nS zS)) → va_S (adr W9) s.heap H locs → lv_has ls 1 [(0, .ref (qS 0))] → f_X4_clear nS zS = some res → W p l e rm_X4_clear s m args below meth c H locs 0 0 (MQ below (qWv G W9 ((wSum cA qS nS res))) args s 0 0 (adr W9)) (F0 m 0 ls []) := by
  obtain ⟨hx, hb, hr, hml, hown, hts, hlocks, hK, hR, hRA⟩ := id C0
  intro zS H locs ls hP hD hS hl hf
  unfold f_X4_clear at hf
  refine lv_aload_n hx hb dX4_clear_0 rfl (lv_at hl 0 rfl) ?_
  refine lv_iconst (v := 0) hx hb dX4_clear_1 (by decide) ?_
  refine va_put (D := G) (ci := 2) (v := .int (0 : Int32)) (ty := .int) (C := RX4) (T := TX4) (N := 6) hx hb hts fin_X4 tyX4 tyX4_ok nmX4 hown hK.1 hP hD hS 0 rfl rfl 4 (by decide) (hts _ wi_88) (fun _ h9 => h9) rfl (by decide +kernel) rfl rfl (Nat.le_of_ble_eq_true rfl) dX4_clear_2 (fun H locs hP hD hS => ?_)
  have hP := sS_size_P hP
  have hD := sS_size_D hD
  refine lv_aload_n hx hb dX4_clear_5 rfl (lv_at hl 0 rfl) ?_
  refine lv_iconst (v := 0) hx hb dX4_clear_6 (by decide) ?_
  refine va_put (D := G) (ci := 2) (v := .int (0 : Int32)) (ty := .boolean) (C := RX4) (T := TX4) (N := 6) hx hb hts fin_X4 tyX4 tyX4_ok nmX4 hown hK.1 hP hD hS 0 rfl rfl 5 (by decide) (hts _ wi_89) (fun _ h9 => h9) rfl (by decide +kernel) (by decide) (by decide) (Nat.le_of_ble_eq_true rfl) dX4_clear_7 (fun H locs hP hD hS => ?_)
  have hP := sS_ov_P hP
  have hD := sS_ov_D hD
  cases hf
  exact W.vret hx hb hr (fun t ht hW => ⟨⟨(), rfl, trivial, toT ht hP⟩, hS.F ht⟩) hS.2.2 dX4_clear_10 hlocks

set_option maxRecDepth 100000 in
theorem m_X4_clear (l : Launch) (G : va_G) (cA : Nat → ClassId) (qS : Nat → Nat) (nS : Nat) (zS : SumS) (res : SumS) (hf : f_X4_clear nS zS = some res) : MWv l yX4_clear (.code yX4_clear cX4_clear 1 none :: wd) rm_X4_clear G cA [.ref (qS 0)] ((wSum cA qS nS zS)) [] ((wSum cA qS nS res)) := by
  refine Met.ofW (cc := cX4_clear) (maxL := 1) (ret := none) (by decide) rfl ?_
  intro p e s m args below meth c s₁ B hml hv
  obtain ⟨rfl, hK, hP, hD0, hR, hRA⟩ := hv
  have C0 : Amb p s m ([.ref (qS 0)] : List Value).toArray meth c cX4_clear RX4 1 none G cA (adr ((wSum cA qS nS zS))) [] := ⟨B.exec, B.bytes, B.returns, hml, findClass_of_methodNamed B.named, fun w h => atoms_spec (ws := (.code yX4_clear cX4_clear 1 none :: wd)) B.pre w (List.mem_cons_of_mem _ h), B.notSynchronized, hK, hR, hRA⟩
  have hl := lv_entry ([.ref (qS 0)]) (n := 1) (Nat.le_of_ble_eq_true rfl)
  rw [lg_entry_eq]
  generalize (lg_sl ([.ref (qS 0)]) ++ List.replicate (1 - (lg_sl ([.ref (qS 0)])).length) Slot.unset).toArray = ls at hl ⊢
  have hl : lv_has ls 1 [(0, .ref (qS 0))] := hl
  exact b_X4_clear_0 (W9 := ((wSum cA qS nS zS))) qS nS   C0 zS s.heap [] ls hP (adr.self hD0) va_S.rf hl hf
theorem cw_X4_clear {R : Room} {s : State} {args : Array Value} {own : String} {index : Nat} (ht : ∀ w ∈ wd, w.before args s = true) (hlink : Cond.methodLink own index yX4_clear ∈ wd) (hR : rm_X4_clear.frames + 1 ≤ R.frames ∧ 8 + (1 + 11) + rm_X4_clear.locals ≤ R.locals) : CallW R s args own RX4 index yX4_clear cX4_clear 1 none (.code yX4_clear cX4_clear 1 none :: wd) rm_X4_clear 0 0 0 := cwV9 0 ht wi_334 wi_332 wi_333 wi_56 hlink (by decide +kernel) rfl rfl hR
def rm_X4_openAt : Room := { frames := 0, cells := 0, slots := 0, locals := 0 }
def f_X4_openAt_18 (nS : Nat) : Nat → SumS → Int32 → Int32 → Option (Int32 × SumS)
  | 0, _, _, _ => none
  | fu + 1, zS, x1, x2 => if x2 ≤ x1 then some ((1 : Int32), (uS_size zS ((gS_size zS) + (1 : Int32)))) else if inb (x2 - (1 : Int32)) nS = true then if inb x2 nS = true then if inb (x2 - (1 : Int32)) nS = true then if inb x2 nS = true then if inb (x2 - (1 : Int32)) nS = true then if inb x2 nS = true then f_X4_openAt_18 nS fu (uS_bots (uS_tops (uS_keys zS (upd (gS_keys zS) x2.toNatClampNeg (gS_keys zS (x2 - (1 : Int32)).toNatClampNeg))) (vp_updL (gS_tops (uS_keys zS (upd (gS_keys zS) x2.toNatClampNeg (gS_keys zS (x2 - (1 : Int32)).toNatClampNeg)))) x2.toNatClampNeg (gS_tops (uS_keys zS (upd (gS_keys zS) x2.toNatClampNeg (gS_keys zS (x2 - (1 : Int32)).toNatClampNeg))) (x2 - (1 : Int32)).toNatClampNeg))) (vp_updL (gS_bots (uS_tops (uS_keys zS (upd (gS_keys zS) x2.toNatClampNeg (gS_keys zS (x2 - (1 : Int32)).toNatClampNeg))) (vp_updL (gS_tops (uS_keys zS (upd (gS_keys zS) x2.toNatClampNeg (gS_keys zS (x2 - (1 : Int32)).toNatClampNeg)))) x2.toNatClampNeg (gS_tops (uS_keys zS (upd (gS_keys zS) x2.toNatClampNeg (gS_keys zS (x2 - (1 : Int32)).toNatClampNeg))) (x2 - (1 : Int32)).toNatClampNeg)))) x2.toNatClampNeg (gS_bots (uS_tops (uS_keys zS (upd (gS_keys zS) x2.toNatClampNeg (gS_keys zS (x2 - (1 : Int32)).toNatClampNeg))) (vp_updL (gS_tops (uS_keys zS (upd (gS_keys zS) x2.toNatClampNeg (gS_keys zS (x2 - (1 : Int32)).toNatClampNeg)))) x2.toNatClampNeg (gS_tops (uS_keys zS (upd (gS_keys zS) x2.toNatClampNeg (gS_keys zS (x2 - (1 : Int32)).toNatClampNeg))) (x2 - (1 : Int32)).toNatClampNeg))) (x2 - (1 : Int32)).toNatClampNeg))) x1 (x2 + (-1)) else none else none else none else none else none else none
set_option maxHeartbeats 4000000 in
set_option maxRecDepth 100000 in
theorem b_X4_openAt_18 {p : Program} {l : Launch} {e : Env} {s : State} {m : MethodId} {args : Array Value} {below : List Frame} {meth : Method} {c : Code} {G : va_G} {cA : Nat → ClassId} {W9 : va_W} (qS : Nat → Nat) (nS : Nat) (C0 : Amb p s m args meth c cX4_openAt RX4 3 (some .boolean) G cA (adr W9) []) {res : Int32 × SumS} : ∀ (fu : Nat) (zS : SumS) (x1 : Int32) (x2 : Int32) (H : Heap) (locs : List Loc) (ls : Array Slot), va_P G vwCl ((wSum cA qS nS zS)) H → va_D (adr W9) ((wSum cA qS nS zS)) → va_S (adr W9) s.heap H locs → lv_has ls 3 [(0, .ref (qS 0)), (1, .int x1), (2, .int x2)] → f_X4_openAt_18 nS fu zS x1 x2 = some res → W p l e rm_X4_openAt s m args below meth c H locs 0 0 (MQ below (qWi G W9 ((wSum cA qS nS res.2)) res.1) args s 0 0 (adr W9)) (F0 m 18 ls []) := by
  obtain ⟨hx, hb, hr, hml, hown, hts, hlocks, hK, hR, hRA⟩ := id C0
  intro fu
  induction fu with
  | zero =>
    intro zS x1 x2 H locs ls hP hD hS hl hf
    rw [f_X4_openAt_18] at hf
    cases hf
  | succ fu ih =>
    intro zS x1 x2 H locs ls hP hD hS hl hf
    rw [f_X4_openAt_18] at hf
    refine lv_iload_n hx hb dX4_openAt_18 rfl (lv_at hl 2 rfl) ?_
    refine lv_iload_n hx hb dX4_openAt_19 rfl (lv_at hl 1 rfl) ?_
    refine lv_icmp_le (tgt := 71) hx hb dX4_openAt_20 (by decide) (fun c_1 => ?_) (fun c_1 => ?_)
    · rw [if_pos (c_1)] at hf
      refine lv_aload_n hx hb dX4_openAt_71 rfl (lv_at hl 0 rfl) ?_
      refine lv_dup hx hb dX4_openAt_72 rfl ?_
      refine va_get (D := G) (ci := 2) (v := .int (gS_size zS)) (C := RX4) (T := TX4) (N := 6) hx hb hts fin_X4 hown hK.1 hP 0 rfl rfl 4 (by decide) (hts _ wi_88) (fun _ h9 => h9) rfl dX4_openAt_73 ?_
      refine lv_iconst (v := 1) hx hb dX4_openAt_76 (by decide) ?_
      refine lv_iadd hx hb dX4_openAt_77 ?_
      refine va_put (D := G) (ci := 2) (v := .int ((gS_size zS) + (1 : Int32))) (ty := .int) (C := RX4) (T := TX4) (N := 6) hx hb hts fin_X4 tyX4 tyX4_ok nmX4 hown hK.1 hP hD hS 0 rfl rfl 4 (by decide) (hts _ wi_88) (fun _ h9 => h9) rfl (by decide +kernel) rfl rfl (Nat.le_of_ble_eq_true rfl) dX4_openAt_78 (fun H locs hP hD hS => ?_)
      have hP := sS_size_P hP
      have hD := sS_size_D hD
      refine lv_iconst (v := 1) hx hb dX4_openAt_81 (by decide) ?_
      cases hf
      exact W.zret hx hb hr (by decide) (fun t ht hW => ⟨⟨_, (), rfl, rfl, toT ht hP⟩, hS.F ht⟩) hS.2.2 dX4_openAt_82 hlocks
    · rw [if_neg (c_1)] at hf
      refine lv_aload_n hx hb dX4_openAt_23 rfl (lv_at hl 0 rfl) ?_
      refine va_get (D := G) (ci := 2) (v := .ref (qS 1)) (C := RX4) (T := TX4) (N := 6) hx hb hts fin_X4 hown hK.1 hP 0 rfl rfl 1 (by decide) (hts _ wi_85) (fun _ h9 => h9) rfl dX4_openAt_24 ?_
      refine lv_iload_n hx hb dX4_openAt_27 rfl (lv_at hl 2 rfl) ?_
      refine lv_aload_n hx hb dX4_openAt_28 rfl (lv_at hl 0 rfl) ?_
      refine va_get (D := G) (ci := 2) (v := .ref (qS 1)) (C := RX4) (T := TX4) (N := 6) hx hb hts fin_X4 hown hK.1 hP 0 rfl rfl 1 (by decide) (hts _ wi_85) (fun _ h9 => h9) rfl dX4_openAt_29 ?_
      refine lv_iload_n hx hb dX4_openAt_32 rfl (lv_at hl 2 rfl) ?_
      refine lv_iconst (v := 1) hx hb dX4_openAt_33 (by decide) ?_
      refine lv_isub hx hb dX4_openAt_34 ?_
      obtain ⟨hi_2, hf⟩ := oif hf
      refine va_iald hx hb hK.1 hP 1 0 rfl rfl (inb_in hi_2) dX4_openAt_35 ?_
      obtain ⟨hi_3, hf⟩ := oif hf
      refine va_iast hx hb hK.1 hP hD hS 1 0 rfl rfl (inb_in hi_3) dX4_openAt_36 (fun H locs hP hD hS => ?_)
      have hP := sS_keys_P hP
      have hD := sS_keys_D hD
      refine lv_aload_n hx hb dX4_openAt_37 rfl (lv_at hl 0 rfl) ?_
      refine va_get (D := G) (ci := 2) (v := .ref (qS 2)) (C := RX4) (T := TX4) (N := 6) hx hb hts fin_X4 hown hK.1 hP 0 rfl rfl 2 (by decide) (hts _ wi_86) (fun _ h9 => h9) rfl dX4_openAt_38 ?_
      refine lv_iload_n hx hb dX4_openAt_41 rfl (lv_at hl 2 rfl) ?_
      refine lv_aload_n hx hb dX4_openAt_42 rfl (lv_at hl 0 rfl) ?_
      refine va_get (D := G) (ci := 2) (v := .ref (qS 2)) (C := RX4) (T := TX4) (N := 6) hx hb hts fin_X4 hown hK.1 hP 0 rfl rfl 2 (by decide) (hts _ wi_86) (fun _ h9 => h9) rfl dX4_openAt_43 ?_
      refine lv_iload_n hx hb dX4_openAt_46 rfl (lv_at hl 2 rfl) ?_
      refine lv_iconst (v := 1) hx hb dX4_openAt_47 (by decide) ?_
      refine lv_isub hx hb dX4_openAt_48 ?_
      obtain ⟨hi_4, hf⟩ := oif hf
      refine va_lald hx hb hK.1 hP 2 1 rfl rfl (inb_in hi_4) dX4_openAt_49 ?_
      obtain ⟨hi_5, hf⟩ := oif hf
      refine va_last hx hb hK.1 hP hD hS 2 1 rfl rfl (inb_in hi_5) dX4_openAt_50 (fun H locs hP hD hS => ?_)
      have hP := sS_tops_P hP
      have hD := sS_tops_D hD
      refine lv_aload_n hx hb dX4_openAt_51 rfl (lv_at hl 0 rfl) ?_
      refine va_get (D := G) (ci := 2) (v := .ref (qS 3)) (C := RX4) (T := TX4) (N := 6) hx hb hts fin_X4 hown hK.1 hP 0 rfl rfl 3 (by decide) (hts _ wi_87) (fun _ h9 => h9) rfl dX4_openAt_52 ?_
      refine lv_iload_n hx hb dX4_openAt_55 rfl (lv_at hl 2 rfl) ?_
      refine lv_aload_n hx hb dX4_openAt_56 rfl (lv_at hl 0 rfl) ?_
      refine va_get (D := G) (ci := 2) (v := .ref (qS 3)) (C := RX4) (T := TX4) (N := 6) hx hb hts fin_X4 hown hK.1 hP 0 rfl rfl 3 (by decide) (hts _ wi_87) (fun _ h9 => h9) rfl dX4_openAt_57 ?_
      refine lv_iload_n hx hb dX4_openAt_60 rfl (lv_at hl 2 rfl) ?_
      refine lv_iconst (v := 1) hx hb dX4_openAt_61 (by decide) ?_
      refine lv_isub hx hb dX4_openAt_62 ?_
      obtain ⟨hi_6, hf⟩ := oif hf
      refine va_lald hx hb hK.1 hP 3 1 rfl rfl (inb_in hi_6) dX4_openAt_63 ?_
      obtain ⟨hi_7, hf⟩ := oif hf
      refine va_last hx hb hK.1 hP hD hS 3 1 rfl rfl (inb_in hi_7) dX4_openAt_64 (fun H locs hP hD hS => ?_)
      have hP := sS_bots_P hP
      have hD := sS_bots_D hD
      refine lv_iinc (v := (x2 + (-1))) (lv' := [(2, .int (x2 + (-1))), (0, .ref (qS 0)), (1, .int x1)]) hx hb dX4_openAt_65 hl (k := 2) rfl rfl (by decide) rfl (fun ls hl => ?_)
      refine lv_goto (tgt := 18) hx hb dX4_openAt_68 (by decide) ?_
      exact ih (uS_bots (uS_tops (uS_keys zS (upd (gS_keys zS) x2.toNatClampNeg (gS_keys zS (x2 - (1 : Int32)).toNatClampNeg))) (vp_updL (gS_tops (uS_keys zS (upd (gS_keys zS) x2.toNatClampNeg (gS_keys zS (x2 - (1 : Int32)).toNatClampNeg)))) x2.toNatClampNeg (gS_tops (uS_keys zS (upd (gS_keys zS) x2.toNatClampNeg (gS_keys zS (x2 - (1 : Int32)).toNatClampNeg))) (x2 - (1 : Int32)).toNatClampNeg))) (vp_updL (gS_bots (uS_tops (uS_keys zS (upd (gS_keys zS) x2.toNatClampNeg (gS_keys zS (x2 - (1 : Int32)).toNatClampNeg))) (vp_updL (gS_tops (uS_keys zS (upd (gS_keys zS) x2.toNatClampNeg (gS_keys zS (x2 - (1 : Int32)).toNatClampNeg)))) x2.toNatClampNeg (gS_tops (uS_keys zS (upd (gS_keys zS) x2.toNatClampNeg (gS_keys zS (x2 - (1 : Int32)).toNatClampNeg))) (x2 - (1 : Int32)).toNatClampNeg)))) x2.toNatClampNeg (gS_bots (uS_tops (uS_keys zS (upd (gS_keys zS) x2.toNatClampNeg (gS_keys zS (x2 - (1 : Int32)).toNatClampNeg))) (vp_updL (gS_tops (uS_keys zS (upd (gS_keys zS) x2.toNatClampNeg (gS_keys zS (x2 - (1 : Int32)).toNatClampNeg)))) x2.toNatClampNeg (gS_tops (uS_keys zS (upd (gS_keys zS) x2.toNatClampNeg (gS_keys zS (x2 - (1 : Int32)).toNatClampNeg))) (x2 - (1 : Int32)).toNatClampNeg))) (x2 - (1 : Int32)).toNatClampNeg))) x1 (x2 + (-1)) H locs ls hP hD hS (lv_sub hl [1, 2, 0] rfl) hf
def f_X4_openAt (nS : Nat) (zS : SumS) (a1 : Int32) : Option (Int32 × SumS) := if (gS_size zS) < (nI nS) then (some ((gS_size zS))).bind fun y_2 => f_X4_openAt_18 nS fuel zS a1 y_2 else some ((0 : Int32), zS)
set_option maxHeartbeats 4000000 in
set_option maxRecDepth 100000 in
theorem b_X4_openAt_0 {p : Program} {l : Launch} {e : Env} {s : State} {m : MethodId} {args : Array Value} {below : List Frame} {meth : Method} {c : Code} {G : va_G} {cA : Nat → ClassId} {W9 : va_W} (qS : Nat → Nat) (nS : Nat) (C0 : Amb p s m args meth c cX4_openAt RX4 3 (some .boolean) G cA (adr W9) []) {res : Int32 × SumS} : ∀ (zS : SumS) (a1 : Int32) (H : Heap) (locs : List Loc) (ls : Array Slot), va_P G vwCl ((wSum cA qS nS zS)) H → va_D (adr W9) ((wSum cA qS nS zS)) → va_S (adr W9) s.heap H locs → lv_has ls 3 [(0, .ref (qS 0)), (1, .int a1)] → f_X4_openAt nS zS a1 = some res → W p l e rm_X4_openAt s m args below meth c H locs 0 0 (MQ below (qWi G W9 ((wSum cA qS nS res.2)) res.1) args s 0 0 (adr W9)) (F0 m 0 ls []) := by
  obtain ⟨hx, hb, hr, hml, hown, hts, hlocks, hK, hR, hRA⟩ := id C0
  intro zS a1 H locs ls hP hD hS hl hf
  unfold f_X4_openAt at hf
  refine lv_aload_n hx hb dX4_openAt_0 rfl (lv_at hl 0 rfl) ?_
  refine va_get (D := G) (ci := 2) (v := .int (gS_size zS)) (C := RX4) (T := TX4) (N := 6) hx hb hts fin_X4 hown hK.1 hP 0 rfl rfl 4 (by decide) (hts _ wi_88) (fun _ h9 => h9) rfl dX4_openAt_1 ?_
  refine lv_aload_n hx hb dX4_openAt_4 rfl (lv_at hl 0 rfl) ?_
  refine va_get (D := G) (ci := 2) (v := .int (nI nS)) (C := RX4) (T := TX4) (N := 6) hx hb hts fin_X4 hown hK.1 hP 0 rfl rfl 0 (by decide) (hts _ wi_84) (fun _ h9 => h9) rfl dX4_openAt_5 ?_
  refine lv_icmp_lt (tgt := 13) hx hb dX4_openAt_8 (by decide) (fun c_1 => ?_) (fun c_1 => ?_)
  · rw [if_pos (c_1)] at hf
    refine lv_aload_n hx hb dX4_openAt_13 rfl (lv_at hl 0 rfl) ?_
    refine va_get (D := G) (ci := 2) (v := .int (gS_size zS)) (C := RX4) (T := TX4) (N := 6) hx hb hts fin_X4 hown hK.1 hP 0 rfl rfl 4 (by decide) (hts _ wi_88) (fun _ h9 => h9) rfl dX4_openAt_14 ?_
    obtain ⟨y_2, hq, hf⟩ := obd hf
    have hy_2 : (gS_size zS) = y_2 := Option.some.inj hq
    rw [hy_2]
    refine lv_istore_n (lv' := [(2, .int y_2), (0, .ref (qS 0)), (1, .int a1)]) hx hb dX4_openAt_17 rfl hl (by decide) rfl (fun ls hl => ?_)
    exact b_X4_openAt_18 qS nS   C0  fuel zS a1 y_2 H locs ls hP hD hS (lv_sub hl [1, 2, 0] rfl) hf
  · rw [if_neg (c_1)] at hf
    refine lv_iconst (v := 0) hx hb dX4_openAt_11 (by decide) ?_
    cases hf
    exact W.zret hx hb hr (by decide) (fun t ht hW => ⟨⟨_, (), rfl, rfl, toT ht hP⟩, hS.F ht⟩) hS.2.2 dX4_openAt_12 hlocks

set_option maxRecDepth 100000 in
theorem m_X4_openAt (l : Launch) (G : va_G) (cA : Nat → ClassId) (qS : Nat → Nat) (nS : Nat) (zS : SumS) (a1 : Int32) (res : Int32 × SumS) (hf : f_X4_openAt nS zS a1 = some res) : MWi l yX4_openAt (.code yX4_openAt cX4_openAt 3 (some .boolean) :: wd) rm_X4_openAt G cA [.ref (qS 0), .int a1] ((wSum cA qS nS zS)) [] ((wSum cA qS nS res.2)) res.1 := by
  refine Met.ofW (cc := cX4_openAt) (maxL := 3) (ret := (some .boolean)) (by decide) rfl ?_
  intro p e s m args below meth c s₁ B hml hv
  obtain ⟨rfl, hK, hP, hD0, hR, hRA⟩ := hv
  have C0 : Amb p s m ([.ref (qS 0), .int a1] : List Value).toArray meth c cX4_openAt RX4 3 (some .boolean) G cA (adr ((wSum cA qS nS zS))) [] := ⟨B.exec, B.bytes, B.returns, hml, findClass_of_methodNamed B.named, fun w h => atoms_spec (ws := (.code yX4_openAt cX4_openAt 3 (some .boolean) :: wd)) B.pre w (List.mem_cons_of_mem _ h), B.notSynchronized, hK, hR, hRA⟩
  have hl := lv_entry ([.ref (qS 0), .int a1]) (n := 3) (Nat.le_of_ble_eq_true rfl)
  rw [lg_entry_eq]
  generalize (lg_sl ([.ref (qS 0), .int a1]) ++ List.replicate (3 - (lg_sl ([.ref (qS 0), .int a1])).length) Slot.unset).toArray = ls at hl ⊢
  have hl : lv_has ls 3 [(0, .ref (qS 0)), (1, .int a1)] := hl
  exact b_X4_openAt_0 (W9 := ((wSum cA qS nS zS))) qS nS   C0 zS a1 s.heap [] ls hP (adr.self hD0) va_S.rf hl hf
theorem cw_X4_openAt {R : Room} {s : State} {args : Array Value} {own : String} {index : Nat} (ht : ∀ w ∈ wd, w.before args s = true) (hlink : Cond.methodLink own index yX4_openAt ∈ wd) (hR : rm_X4_openAt.frames + 1 ≤ R.frames ∧ 8 + (3 + 11) + rm_X4_openAt.locals ≤ R.locals) : CallW R s args own RX4 index yX4_openAt cX4_openAt 3 (some .boolean) (.code yX4_openAt cX4_openAt 3 (some .boolean) :: wd) rm_X4_openAt 0 0 1 := cwV9 1 ht wi_412 wi_411 wi_16 wi_56 hlink (by decide +kernel) rfl rfl hR
def rm_X4_closeAt : Room := { frames := 0, cells := 0, slots := 0, locals := 0 }
def f_X4_closeAt_2 (nS : Nat) : Nat → SumS → Int32 → Option (SumS)
  | 0, _, _ => none
  | fu + 1, zS, x2 => if (gS_size zS) ≤ (x2 + (1 : Int32)) then some (uS_size zS ((gS_size zS) - (1 : Int32))) else if inb (x2 + (1 : Int32)) nS = true then if inb x2 nS = true then if inb (x2 + (1 : Int32)) nS = true then if inb x2 nS = true then if inb (x2 + (1 : Int32)) nS = true then if inb x2 nS = true then f_X4_closeAt_2 nS fu (uS_bots (uS_tops (uS_keys zS (upd (gS_keys zS) x2.toNatClampNeg (gS_keys zS (x2 + (1 : Int32)).toNatClampNeg))) (vp_updL (gS_tops (uS_keys zS (upd (gS_keys zS) x2.toNatClampNeg (gS_keys zS (x2 + (1 : Int32)).toNatClampNeg)))) x2.toNatClampNeg (gS_tops (uS_keys zS (upd (gS_keys zS) x2.toNatClampNeg (gS_keys zS (x2 + (1 : Int32)).toNatClampNeg))) (x2 + (1 : Int32)).toNatClampNeg))) (vp_updL (gS_bots (uS_tops (uS_keys zS (upd (gS_keys zS) x2.toNatClampNeg (gS_keys zS (x2 + (1 : Int32)).toNatClampNeg))) (vp_updL (gS_tops (uS_keys zS (upd (gS_keys zS) x2.toNatClampNeg (gS_keys zS (x2 + (1 : Int32)).toNatClampNeg)))) x2.toNatClampNeg (gS_tops (uS_keys zS (upd (gS_keys zS) x2.toNatClampNeg (gS_keys zS (x2 + (1 : Int32)).toNatClampNeg))) (x2 + (1 : Int32)).toNatClampNeg)))) x2.toNatClampNeg (gS_bots (uS_tops (uS_keys zS (upd (gS_keys zS) x2.toNatClampNeg (gS_keys zS (x2 + (1 : Int32)).toNatClampNeg))) (vp_updL (gS_tops (uS_keys zS (upd (gS_keys zS) x2.toNatClampNeg (gS_keys zS (x2 + (1 : Int32)).toNatClampNeg)))) x2.toNatClampNeg (gS_tops (uS_keys zS (upd (gS_keys zS) x2.toNatClampNeg (gS_keys zS (x2 + (1 : Int32)).toNatClampNeg))) (x2 + (1 : Int32)).toNatClampNeg))) (x2 + (1 : Int32)).toNatClampNeg))) (x2 + 1) else none else none else none else none else none else none
set_option maxHeartbeats 4000000 in
set_option maxRecDepth 100000 in
theorem b_X4_closeAt_2 {p : Program} {l : Launch} {e : Env} {s : State} {m : MethodId} {args : Array Value} {below : List Frame} {meth : Method} {c : Code} {G : va_G} {cA : Nat → ClassId} {W9 : va_W} (qS : Nat → Nat) (nS : Nat) (C0 : Amb p s m args meth c cX4_closeAt RX4 3 none G cA (adr W9) []) {res : SumS} : ∀ (fu : Nat) (zS : SumS) (x2 : Int32) (H : Heap) (locs : List Loc) (ls : Array Slot), va_P G vwCl ((wSum cA qS nS zS)) H → va_D (adr W9) ((wSum cA qS nS zS)) → va_S (adr W9) s.heap H locs → lv_has ls 3 [(0, .ref (qS 0)), (2, .int x2)] → f_X4_closeAt_2 nS fu zS x2 = some res → W p l e rm_X4_closeAt s m args below meth c H locs 0 0 (MQ below (qWv G W9 ((wSum cA qS nS res))) args s 0 0 (adr W9)) (F0 m 2 ls []) := by
  obtain ⟨hx, hb, hr, hml, hown, hts, hlocks, hK, hR, hRA⟩ := id C0
  intro fu
  induction fu with
  | zero =>
    intro zS x2 H locs ls hP hD hS hl hf
    rw [f_X4_closeAt_2] at hf
    cases hf
  | succ fu ih =>
    intro zS x2 H locs ls hP hD hS hl hf
    rw [f_X4_closeAt_2] at hf
    refine lv_iload_n hx hb dX4_closeAt_2 rfl (lv_at hl 1 rfl) ?_
    refine lv_iconst (v := 1) hx hb dX4_closeAt_3 (by decide) ?_
    refine lv_iadd hx hb dX4_closeAt_4 ?_
    refine lv_aload_n hx hb dX4_closeAt_5 rfl (lv_at hl 0 rfl) ?_
    refine va_get (D := G) (ci := 2) (v := .int (gS_size zS)) (C := RX4) (T := TX4) (N := 6) hx hb hts fin_X4 hown hK.1 hP 0 rfl rfl 4 (by decide) (hts _ wi_88) (fun _ h9 => h9) rfl dX4_closeAt_6 ?_
    refine lv_icmp_ge (tgt := 60) hx hb dX4_closeAt_9 (by decide) (fun c_1 => ?_) (fun c_1 => ?_)
    · rw [if_pos (c_1)] at hf
      refine lv_aload_n hx hb dX4_closeAt_60 rfl (lv_at hl 0 rfl) ?_
      refine lv_dup hx hb dX4_closeAt_61 rfl ?_
      refine va_get (D := G) (ci := 2) (v := .int (gS_size zS)) (C := RX4) (T := TX4) (N := 6) hx hb hts fin_X4 hown hK.1 hP 0 rfl rfl 4 (by decide) (hts _ wi_88) (fun _ h9 => h9) rfl dX4_closeAt_62 ?_
      refine lv_iconst (v := 1) hx hb dX4_closeAt_65 (by decide) ?_
      refine lv_isub hx hb dX4_closeAt_66 ?_
      refine va_put (D := G) (ci := 2) (v := .int ((gS_size zS) - (1 : Int32))) (ty := .int) (C := RX4) (T := TX4) (N := 6) hx hb hts fin_X4 tyX4 tyX4_ok nmX4 hown hK.1 hP hD hS 0 rfl rfl 4 (by decide) (hts _ wi_88) (fun _ h9 => h9) rfl (by decide +kernel) rfl rfl (Nat.le_of_ble_eq_true rfl) dX4_closeAt_67 (fun H locs hP hD hS => ?_)
      have hP := sS_size_P hP
      have hD := sS_size_D hD
      cases hf
      exact W.vret hx hb hr (fun t ht hW => ⟨⟨(), rfl, trivial, toT ht hP⟩, hS.F ht⟩) hS.2.2 dX4_closeAt_70 hlocks
    · rw [if_neg (c_1)] at hf
      refine lv_aload_n hx hb dX4_closeAt_12 rfl (lv_at hl 0 rfl) ?_
      refine va_get (D := G) (ci := 2) (v := .ref (qS 1)) (C := RX4) (T := TX4) (N := 6) hx hb hts fin_X4 hown hK.1 hP 0 rfl rfl 1 (by decide) (hts _ wi_85) (fun _ h9 => h9) rfl dX4_closeAt_13 ?_
      refine lv_iload_n hx hb dX4_closeAt_16 rfl (lv_at hl 1 rfl) ?_
      refine lv_aload_n hx hb dX4_closeAt_17 rfl (lv_at hl 0 rfl) ?_
      refine va_get (D := G) (ci := 2) (v := .ref (qS 1)) (C := RX4) (T := TX4) (N := 6) hx hb hts fin_X4 hown hK.1 hP 0 rfl rfl 1 (by decide) (hts _ wi_85) (fun _ h9 => h9) rfl dX4_closeAt_18 ?_
      refine lv_iload_n hx hb dX4_closeAt_21 rfl (lv_at hl 1 rfl) ?_
      refine lv_iconst (v := 1) hx hb dX4_closeAt_22 (by decide) ?_
      refine lv_iadd hx hb dX4_closeAt_23 ?_
      obtain ⟨hi_2, hf⟩ := oif hf
      refine va_iald hx hb hK.1 hP 1 0 rfl rfl (inb_in hi_2) dX4_closeAt_24 ?_
      obtain ⟨hi_3, hf⟩ := oif hf
      refine va_iast hx hb hK.1 hP hD hS 1 0 rfl rfl (inb_in hi_3) dX4_closeAt_25 (fun H locs hP hD hS => ?_)
      have hP := sS_keys_P hP
      have hD := sS_keys_D hD
      refine lv_aload_n hx hb dX4_closeAt_26 rfl (lv_at hl 0 rfl) ?_
      refine va_get (D := G) (ci := 2) (v := .ref (qS 2)) (C := RX4) (T := TX4) (N := 6) hx hb hts fin_X4 hown hK.1 hP 0 rfl rfl 2 (by decide) (hts _ wi_86) (fun _ h9 => h9) rfl dX4_closeAt_27 ?_
      refine lv_iload_n hx hb dX4_closeAt_30 rfl (lv_at hl 1 rfl) ?_
      refine lv_aload_n hx hb dX4_closeAt_31 rfl (lv_at hl 0 rfl) ?_
      refine va_get (D := G) (ci := 2) (v := .ref (qS 2)) (C := RX4) (T := TX4) (N := 6) hx hb hts fin_X4 hown hK.1 hP 0 rfl rfl 2 (by decide) (hts _ wi_86) (fun _ h9 => h9) rfl dX4_closeAt_32 ?_
      refine lv_iload_n hx hb dX4_closeAt_35 rfl (lv_at hl 1 rfl) ?_
      refine lv_iconst (v := 1) hx hb dX4_closeAt_36 (by decide) ?_
      refine lv_iadd hx hb dX4_closeAt_37 ?_
      obtain ⟨hi_4, hf⟩ := oif hf
      refine va_lald hx hb hK.1 hP 2 1 rfl rfl (inb_in hi_4) dX4_closeAt_38 ?_
      obtain ⟨hi_5, hf⟩ := oif hf
      refine va_last hx hb hK.1 hP hD hS 2 1 rfl rfl (inb_in hi_5) dX4_closeAt_39 (fun H locs hP hD hS => ?_)
      have hP := sS_tops_P hP
      have hD := sS_tops_D hD
      refine lv_aload_n hx hb dX4_closeAt_40 rfl (lv_at hl 0 rfl) ?_
      refine va_get (D := G) (ci := 2) (v := .ref (qS 3)) (C := RX4) (T := TX4) (N := 6) hx hb hts fin_X4 hown hK.1 hP 0 rfl rfl 3 (by decide) (hts _ wi_87) (fun _ h9 => h9) rfl dX4_closeAt_41 ?_
      refine lv_iload_n hx hb dX4_closeAt_44 rfl (lv_at hl 1 rfl) ?_
      refine lv_aload_n hx hb dX4_closeAt_45 rfl (lv_at hl 0 rfl) ?_
      refine va_get (D := G) (ci := 2) (v := .ref (qS 3)) (C := RX4) (T := TX4) (N := 6) hx hb hts fin_X4 hown hK.1 hP 0 rfl rfl 3 (by decide) (hts _ wi_87) (fun _ h9 => h9) rfl dX4_closeAt_46 ?_
      refine lv_iload_n hx hb dX4_closeAt_49 rfl (lv_at hl 1 rfl) ?_
      refine lv_iconst (v := 1) hx hb dX4_closeAt_50 (by decide) ?_
      refine lv_iadd hx hb dX4_closeAt_51 ?_
      obtain ⟨hi_6, hf⟩ := oif hf
      refine va_lald hx hb hK.1 hP 3 1 rfl rfl (inb_in hi_6) dX4_closeAt_52 ?_
      obtain ⟨hi_7, hf⟩ := oif hf
      refine va_last hx hb hK.1 hP hD hS 3 1 rfl rfl (inb_in hi_7) dX4_closeAt_53 (fun H locs hP hD hS => ?_)
      have hP := sS_bots_P hP
      have hD := sS_bots_D hD
      refine lv_iinc (v := (x2 + 1)) (lv' := [(2, .int (x2 + 1)), (0, .ref (qS 0))]) hx hb dX4_closeAt_54 hl (k := 1) rfl rfl (by decide) rfl (fun ls hl => ?_)
      refine lv_goto (tgt := 2) hx hb dX4_closeAt_57 (by decide) ?_
      exact ih (uS_bots (uS_tops (uS_keys zS (upd (gS_keys zS) x2.toNatClampNeg (gS_keys zS (x2 + (1 : Int32)).toNatClampNeg))) (vp_updL (gS_tops (uS_keys zS (upd (gS_keys zS) x2.toNatClampNeg (gS_keys zS (x2 + (1 : Int32)).toNatClampNeg)))) x2.toNatClampNeg (gS_tops (uS_keys zS (upd (gS_keys zS) x2.toNatClampNeg (gS_keys zS (x2 + (1 : Int32)).toNatClampNeg))) (x2 + (1 : Int32)).toNatClampNeg))) (vp_updL (gS_bots (uS_tops (uS_keys zS (upd (gS_keys zS) x2.toNatClampNeg (gS_keys zS (x2 + (1 : Int32)).toNatClampNeg))) (vp_updL (gS_tops (uS_keys zS (upd (gS_keys zS) x2.toNatClampNeg (gS_keys zS (x2 + (1 : Int32)).toNatClampNeg)))) x2.toNatClampNeg (gS_tops (uS_keys zS (upd (gS_keys zS) x2.toNatClampNeg (gS_keys zS (x2 + (1 : Int32)).toNatClampNeg))) (x2 + (1 : Int32)).toNatClampNeg)))) x2.toNatClampNeg (gS_bots (uS_tops (uS_keys zS (upd (gS_keys zS) x2.toNatClampNeg (gS_keys zS (x2 + (1 : Int32)).toNatClampNeg))) (vp_updL (gS_tops (uS_keys zS (upd (gS_keys zS) x2.toNatClampNeg (gS_keys zS (x2 + (1 : Int32)).toNatClampNeg)))) x2.toNatClampNeg (gS_tops (uS_keys zS (upd (gS_keys zS) x2.toNatClampNeg (gS_keys zS (x2 + (1 : Int32)).toNatClampNeg))) (x2 + (1 : Int32)).toNatClampNeg))) (x2 + (1 : Int32)).toNatClampNeg))) (x2 + 1) H locs ls hP hD hS (lv_sub hl [1, 0] rfl) hf
def f_X4_closeAt (nS : Nat) (zS : SumS) (a1 : Int32) : Option (SumS) := f_X4_closeAt_2 nS fuel zS a1
set_option maxHeartbeats 4000000 in
set_option maxRecDepth 100000 in
theorem b_X4_closeAt_0 {p : Program} {l : Launch} {e : Env} {s : State} {m : MethodId} {args : Array Value} {below : List Frame} {meth : Method} {c : Code} {G : va_G} {cA : Nat → ClassId} {W9 : va_W} (qS : Nat → Nat) (nS : Nat) (C0 : Amb p s m args meth c cX4_closeAt RX4 3 none G cA (adr W9) []) {res : SumS} : ∀ (zS : SumS) (a1 : Int32) (H : Heap) (locs : List Loc) (ls : Array Slot), va_P G vwCl ((wSum cA qS nS zS)) H → va_D (adr W9) ((wSum cA qS nS zS)) → va_S (adr W9) s.heap H locs → lv_has ls 3 [(0, .ref (qS 0)), (1, .int a1)] → f_X4_closeAt nS zS a1 = some res → W p l e rm_X4_closeAt s m args below meth c H locs 0 0 (MQ below (qWv G W9 ((wSum cA qS nS res))) args s 0 0 (adr W9)) (F0 m 0 ls []) := by
  obtain ⟨hx, hb, hr, hml, hown, hts, hlocks, hK, hR, hRA⟩ := id C0
  intro zS a1 H locs ls hP hD hS hl hf
  unfold f_X4_closeAt at hf
  refine lv_iload_n hx hb dX4_closeAt_0 rfl (lv_at hl 1 rfl) ?_
  refine lv_istore_n (lv' := [(2, .int a1), (0, .ref (qS 0)), (1, .int a1)]) hx hb dX4_closeAt_1 rfl hl (by decide) rfl (fun ls hl => ?_)
  exact b_X4_closeAt_2 qS nS   C0  fuel zS a1 H locs ls hP hD hS (lv_sub hl [1, 0] rfl) hf

set_option maxRecDepth 100000 in
theorem m_X4_closeAt (l : Launch) (G : va_G) (cA : Nat → ClassId) (qS : Nat → Nat) (nS : Nat) (zS : SumS) (a1 : Int32) (res : SumS) (hf : f_X4_closeAt nS zS a1 = some res) : MWv l yX4_closeAt (.code yX4_closeAt cX4_closeAt 3 none :: wd) rm_X4_closeAt G cA [.ref (qS 0), .int a1] ((wSum cA qS nS zS)) [] ((wSum cA qS nS res)) := by
  refine Met.ofW (cc := cX4_closeAt) (maxL := 3) (ret := none) (by decide) rfl ?_
  intro p e s m args below meth c s₁ B hml hv
  obtain ⟨rfl, hK, hP, hD0, hR, hRA⟩ := hv
  have C0 : Amb p s m ([.ref (qS 0), .int a1] : List Value).toArray meth c cX4_closeAt RX4 3 none G cA (adr ((wSum cA qS nS zS))) [] := ⟨B.exec, B.bytes, B.returns, hml, findClass_of_methodNamed B.named, fun w h => atoms_spec (ws := (.code yX4_closeAt cX4_closeAt 3 none :: wd)) B.pre w (List.mem_cons_of_mem _ h), B.notSynchronized, hK, hR, hRA⟩
  have hl := lv_entry ([.ref (qS 0), .int a1]) (n := 3) (Nat.le_of_ble_eq_true rfl)
  rw [lg_entry_eq]
  generalize (lg_sl ([.ref (qS 0), .int a1]) ++ List.replicate (3 - (lg_sl ([.ref (qS 0), .int a1])).length) Slot.unset).toArray = ls at hl ⊢
  have hl : lv_has ls 3 [(0, .ref (qS 0)), (1, .int a1)] := hl
  exact b_X4_closeAt_0 (W9 := ((wSum cA qS nS zS))) qS nS   C0 zS a1 s.heap [] ls hP (adr.self hD0) va_S.rf hl hf
theorem cw_X4_closeAt {R : Room} {s : State} {args : Array Value} {own : String} {index : Nat} (ht : ∀ w ∈ wd, w.before args s = true) (hlink : Cond.methodLink own index yX4_closeAt ∈ wd) (hR : rm_X4_closeAt.frames + 1 ≤ R.frames ∧ 8 + (3 + 11) + rm_X4_closeAt.locals ≤ R.locals) : CallW R s args own RX4 index yX4_closeAt cX4_closeAt 3 none (.code yX4_closeAt cX4_closeAt 3 none :: wd) rm_X4_closeAt 0 0 1 := cwV9 1 ht wi_408 wi_407 wi_15 wi_56 hlink (by decide +kernel) rfl rfl hR
def rm_X4_setReduced : Room := { frames := 1, cells := 0, slots := 0, locals := 30 }
def f_X4_setReduced_29 (nS : Nat) (zS : SumS) (x1 : Int32) (x2 : Int64) (x4 : Int64) (v0 : Int64) : Option (SumS) := if ¬ v0 = (0 : Int64) then if ¬ v0 = 0 then if inb x1 nS = true then if ¬ v0 = 0 then if inb x1 nS = true then some (uS_bots (uS_tops zS (vp_updL (gS_tops zS) x1.toNatClampNeg (x2 / v0))) (vp_updL (gS_bots (uS_tops zS (vp_updL (gS_tops zS) x1.toNatClampNeg (x2 / v0)))) x1.toNatClampNeg (x4 / v0))) else none else none else none else none else some (uS_ov zS (1 : Int32))
set_option maxHeartbeats 4000000 in
set_option maxRecDepth 100000 in
theorem b_X4_setReduced_29 {p : Program} {l : Launch} {e : Env} {s : State} {m : MethodId} {args : Array Value} {below : List Frame} {meth : Method} {c : Code} {G : va_G} {cA : Nat → ClassId} {W9 : va_W} (qS : Nat → Nat) (nS : Nat) (C0 : Amb p s m args meth c cX4_setReduced RX4 10 none G cA (adr W9) []) {res : SumS} : ∀ (zS : SumS) (x1 : Int32) (x2 : Int64) (x4 : Int64) (v0 : Int64) (H : Heap) (locs : List Loc) (ls : Array Slot), va_P G vwCl ((wSum cA qS nS zS)) H → va_D (adr W9) ((wSum cA qS nS zS)) → va_S (adr W9) s.heap H locs → lv_has ls 10 [(0, .ref (qS 0)), (1, .int x1), (2, .long x2), (4, .long x4)] → f_X4_setReduced_29 nS zS x1 x2 x4 v0 = some res → W p l e rm_X4_setReduced s m args below meth c H locs 0 0 (MQ below (qWv G W9 ((wSum cA qS nS res))) args s 0 0 (adr W9)) (F0 m 29 ls [.long v0]) := by
  obtain ⟨hx, hb, hr, hml, hown, hts, hlocks, hK, hR, hRA⟩ := id C0
  intro zS x1 x2 x4 v0 H locs ls hP hD hS hl hf
  unfold f_X4_setReduced_29 at hf
  refine lv_lstore (lv' := [(8, .long v0), (0, .ref (qS 0)), (1, .int x1), (2, .long x2), (4, .long x4)]) hx hb dX4_setReduced_29 hl (by decide) rfl (fun ls hl => ?_)
  refine lv_lload hx hb dX4_setReduced_31 (lv_at hl 0 rfl) ?_
  refine lv_lconst (v := (0 : Int64)) hx hb dX4_setReduced_33 (by decide) ?_
  refine W.lcmp hx hb dX4_setReduced_34 ?_
  refine lv_if_ne (tgt := 44) hx hb dX4_setReduced_35 (by decide) (fun c_1 => ?_) (fun c_1 => ?_)
  · rw [if_pos (fun h => c_1 ((lg_cmp_eq _ _).mpr h))] at hf
    refine lv_aload_n hx hb dX4_setReduced_44 rfl (lv_at hl 1 rfl) ?_
    refine va_get (D := G) (ci := 2) (v := .ref (qS 2)) (C := RX4) (T := TX4) (N := 6) hx hb hts fin_X4 hown hK.1 hP 0 rfl rfl 2 (by decide) (hts _ wi_86) (fun _ h9 => h9) rfl dX4_setReduced_45 ?_
    refine lv_iload_n hx hb dX4_setReduced_48 rfl (lv_at hl 2 rfl) ?_
    refine lv_lload_n hx hb dX4_setReduced_49 rfl (lv_at hl 3 rfl) ?_
    refine lv_lload hx hb dX4_setReduced_50 (lv_at hl 0 rfl) ?_
    obtain ⟨hn_2, hf⟩ := oif hf
    refine lv_ldiv hx hb dX4_setReduced_52 hn_2 ?_
    obtain ⟨hi_3, hf⟩ := oif hf
    refine va_last hx hb hK.1 hP hD hS 2 1 rfl rfl (inb_in hi_3) dX4_setReduced_53 (fun H locs hP hD hS => ?_)
    have hP := sS_tops_P hP
    have hD := sS_tops_D hD
    refine lv_aload_n hx hb dX4_setReduced_54 rfl (lv_at hl 1 rfl) ?_
    refine va_get (D := G) (ci := 2) (v := .ref (qS 3)) (C := RX4) (T := TX4) (N := 6) hx hb hts fin_X4 hown hK.1 hP 0 rfl rfl 3 (by decide) (hts _ wi_87) (fun _ h9 => h9) rfl dX4_setReduced_55 ?_
    refine lv_iload_n hx hb dX4_setReduced_58 rfl (lv_at hl 2 rfl) ?_
    refine lv_lload hx hb dX4_setReduced_59 (lv_at hl 4 rfl) ?_
    refine lv_lload hx hb dX4_setReduced_61 (lv_at hl 0 rfl) ?_
    obtain ⟨hn_4, hf⟩ := oif hf
    refine lv_ldiv hx hb dX4_setReduced_63 hn_4 ?_
    obtain ⟨hi_5, hf⟩ := oif hf
    refine va_last hx hb hK.1 hP hD hS 3 1 rfl rfl (inb_in hi_5) dX4_setReduced_64 (fun H locs hP hD hS => ?_)
    have hP := sS_bots_P hP
    have hD := sS_bots_D hD
    cases hf
    exact W.vret hx hb hr (fun t ht hW => ⟨⟨(), rfl, trivial, toT ht hP⟩, hS.F ht⟩) hS.2.2 dX4_setReduced_65 hlocks
  · rw [if_neg (fun h => h ((lg_cmp_eq _ _).mp c_1))] at hf
    refine lv_aload_n hx hb dX4_setReduced_38 rfl (lv_at hl 1 rfl) ?_
    refine lv_iconst (v := 1) hx hb dX4_setReduced_39 (by decide) ?_
    refine va_put (D := G) (ci := 2) (v := .int (1 : Int32)) (ty := .boolean) (C := RX4) (T := TX4) (N := 6) hx hb hts fin_X4 tyX4 tyX4_ok nmX4 hown hK.1 hP hD hS 0 rfl rfl 5 (by decide) (hts _ wi_89) (fun _ h9 => h9) rfl (by decide +kernel) (by decide) (by decide) (Nat.le_of_ble_eq_true rfl) dX4_setReduced_40 (fun H locs hP hD hS => ?_)
    have hP := sS_ov_P hP
    have hD := sS_ov_D hD
    cases hf
    exact W.vret hx hb hr (fun t ht hW => ⟨⟨(), rfl, trivial, toT ht hP⟩, hS.F ht⟩) hS.2.2 dX4_setReduced_43 hlocks
def f_X4_setReduced (nS : Nat) (zS : SumS) (a1 : Int32) (a2 : Int64) (a4 : Int64) : Option (SumS) := (f_X4_commonDivisor (mabs64 a2) (mabs64 a4)).bind fun r_1 => if (0 : Int64) ≤ a4 then f_X4_setReduced_29 nS zS a1 a2 a4 r_1 else f_X4_setReduced_29 nS zS a1 a2 a4 (-r_1)
set_option maxHeartbeats 4000000 in
set_option maxRecDepth 100000 in
theorem b_X4_setReduced_0 {p : Program} {l : Launch} {e : Env} {s : State} {m : MethodId} {args : Array Value} {below : List Frame} {meth : Method} {c : Code} {G : va_G} {cA : Nat → ClassId} {W9 : va_W} (qS : Nat → Nat) (nS : Nat) (C0 : Amb p s m args meth c cX4_setReduced RX4 10 none G cA (adr W9) []) {res : SumS} : ∀ (zS : SumS) (a1 : Int32) (a2 : Int64) (a4 : Int64) (H : Heap) (locs : List Loc) (ls : Array Slot), va_P G vwCl ((wSum cA qS nS zS)) H → va_D (adr W9) ((wSum cA qS nS zS)) → va_S (adr W9) s.heap H locs → lv_has ls 10 [(0, .ref (qS 0)), (1, .int a1), (2, .long a2), (4, .long a4)] → f_X4_setReduced nS zS a1 a2 a4 = some res → W p l e rm_X4_setReduced s m args below meth c H locs 0 0 (MQ below (qWv G W9 ((wSum cA qS nS res))) args s 0 0 (adr W9)) (F0 m 0 ls []) := by
  obtain ⟨hx, hb, hr, hml, hown, hts, hlocks, hK, hR, hRA⟩ := id C0
  intro zS a1 a2 a4 H locs ls hP hD hS hl hf
  unfold f_X4_setReduced at hf
  refine lv_lload_n hx hb dX4_setReduced_0 rfl (lv_at hl 2 rfl) ?_
  refine k_abs64 hx hb (hml.trans hl.1.symm) hown hts wi_417 (Nat.le_of_ble_eq_true rfl) (Nat.le_of_ble_eq_true rfl) (Nat.zero_le _) (Nat.zero_le _) dX4_setReduced_1 ?_
  refine lv_lload hx hb dX4_setReduced_4 (lv_at hl 3 rfl) ?_
  refine k_abs64 hx hb (hml.trans hl.1.symm) hown hts wi_417 (Nat.le_of_ble_eq_true rfl) (Nat.le_of_ble_eq_true rfl) (Nat.zero_le _) (Nat.zero_le _) dX4_setReduced_6 ?_
  obtain ⟨r_1, hr_1, hf⟩ := obd hf
  refine cRlS (As := [.long (mabs64 a2), .long (mabs64 a4)]) (rest := []) ⟨hx, hb, hml, hown, hts⟩ (m_X4_commonDivisor l G cA (mabs64 a2) (mabs64 a4) r_1 hr_1) (cw_X4_commonDivisor hts wi_420 ⟨Nat.le_of_ble_eq_true rfl, Nat.le_of_ble_eq_true rfl⟩) hK va_Pnil rfl hl.1 rfl (Nat.le_of_ble_eq_true rfl) dX4_setReduced_9 ⟨Nat.zero_le _, Nat.zero_le _⟩ ?_
  refine lv_lstore (lv' := [(6, .long r_1), (0, .ref (qS 0)), (1, .int a1), (2, .long a2), (4, .long a4)]) hx hb dX4_setReduced_12 hl (by decide) rfl (fun ls hl => ?_)
  refine lv_lload hx hb dX4_setReduced_14 (lv_at hl 4 rfl) ?_
  refine lv_lconst (v := (0 : Int64)) hx hb dX4_setReduced_16 (by decide) ?_
  refine W.lcmp hx hb dX4_setReduced_17 ?_
  refine lv_if_ge (tgt := 27) hx hb dX4_setReduced_18 (by decide) (fun c_2 => ?_) (fun c_2 => ?_)
  · rw [if_pos ((lg_cmp_ge _ _).mp c_2)] at hf
    refine lv_lload hx hb dX4_setReduced_27 (lv_at hl 0 rfl) ?_
    exact b_X4_setReduced_29 qS nS   C0  zS a1 a2 a4 r_1 H locs ls hP hD hS (lv_sub hl [1, 2, 3, 4] rfl) hf
  · rw [if_neg (fun h => c_2 ((lg_cmp_ge _ _).mpr h))] at hf
    refine lv_lload hx hb dX4_setReduced_21 (lv_at hl 0 rfl) ?_
    refine lv_lneg hx hb dX4_setReduced_23 ?_
    refine lv_goto (tgt := 29) hx hb dX4_setReduced_24 (by decide) ?_
    exact b_X4_setReduced_29 qS nS   C0  zS a1 a2 a4 (-r_1) H locs ls hP hD hS (lv_sub hl [1, 2, 3, 4] rfl) hf

set_option maxRecDepth 100000 in
theorem m_X4_setReduced (l : Launch) (G : va_G) (cA : Nat → ClassId) (qS : Nat → Nat) (nS : Nat) (zS : SumS) (a1 : Int32) (a2 : Int64) (a4 : Int64) (res : SumS) (hf : f_X4_setReduced nS zS a1 a2 a4 = some res) : MWv l yX4_setReduced (.code yX4_setReduced cX4_setReduced 10 none :: wd) rm_X4_setReduced G cA [.ref (qS 0), .int a1, .long a2, .long a4] ((wSum cA qS nS zS)) [] ((wSum cA qS nS res)) := by
  refine Met.ofW (cc := cX4_setReduced) (maxL := 10) (ret := none) (by decide) rfl ?_
  intro p e s m args below meth c s₁ B hml hv
  obtain ⟨rfl, hK, hP, hD0, hR, hRA⟩ := hv
  have C0 : Amb p s m ([.ref (qS 0), .int a1, .long a2, .long a4] : List Value).toArray meth c cX4_setReduced RX4 10 none G cA (adr ((wSum cA qS nS zS))) [] := ⟨B.exec, B.bytes, B.returns, hml, findClass_of_methodNamed B.named, fun w h => atoms_spec (ws := (.code yX4_setReduced cX4_setReduced 10 none :: wd)) B.pre w (List.mem_cons_of_mem _ h), B.notSynchronized, hK, hR, hRA⟩
  have hl := lv_entry ([.ref (qS 0), .int a1, .long a2, .long a4]) (n := 10) (Nat.le_of_ble_eq_true rfl)
  rw [lg_entry_eq]
  generalize (lg_sl ([.ref (qS 0), .int a1, .long a2, .long a4]) ++ List.replicate (10 - (lg_sl ([.ref (qS 0), .int a1, .long a2, .long a4])).length) Slot.unset).toArray = ls at hl ⊢
  have hl : lv_has ls 10 [(0, .ref (qS 0)), (1, .int a1), (2, .long a2), (4, .long a4)] := hl
  exact b_X4_setReduced_0 (W9 := ((wSum cA qS nS zS))) qS nS   C0 zS a1 a2 a4 s.heap [] ls hP (adr.self hD0) va_S.rf hl hf
theorem cw_X4_setReduced {R : Room} {s : State} {args : Array Value} {own : String} {index : Nat} (ht : ∀ w ∈ wd, w.before args s = true) (hlink : Cond.methodLink own index yX4_setReduced ∈ wd) (hR : rm_X4_setReduced.frames + 1 ≤ R.frames ∧ 8 + (10 + 11) + rm_X4_setReduced.locals ≤ R.locals) : CallW R s args own RX4 index yX4_setReduced cX4_setReduced 10 none (.code yX4_setReduced cX4_setReduced 10 none :: wd) rm_X4_setReduced 0 0 3 := cwV9 3 ht wi_416 wi_415 wi_17 wi_56 hlink (by decide +kernel) rfl rfl hR
def rm_X4_addUp : Room := { frames := 2, cells := 0, slots := 0, locals := 59 }
def f_X4_addUp_126 (nS : Nat) (zS : SumS) (x1 : Int32) (x6 : Int32) (x8 : Int64) (x10 : Int64) : Option (SumS) := if inb x6 nS = true then (f_X4_setReduced nS (uS_keys zS (upd (gS_keys zS) x6.toNatClampNeg x1)) x6 x8 x10).bind fun r_2 => some r_2 else none
set_option maxHeartbeats 4000000 in
set_option maxRecDepth 100000 in
theorem b_X4_addUp_126 {p : Program} {l : Launch} {e : Env} {s : State} {m : MethodId} {args : Array Value} {below : List Frame} {meth : Method} {c : Code} {G : va_G} {cA : Nat → ClassId} {W9 : va_W} (qS : Nat → Nat) (nS : Nat) (C0 : Amb p s m args meth c cX4_addUp RX4 12 none G cA (adr W9) []) {res : SumS} : ∀ (zS : SumS) (x1 : Int32) (x6 : Int32) (x8 : Int64) (x10 : Int64) (H : Heap) (locs : List Loc) (ls : Array Slot), va_P G vwCl ((wSum cA qS nS zS)) H → va_D (adr W9) ((wSum cA qS nS zS)) → va_S (adr W9) s.heap H locs → lv_has ls 12 [(0, .ref (qS 0)), (1, .int x1), (6, .int x6), (8, .long x8), (10, .long x10)] → f_X4_addUp_126 nS zS x1 x6 x8 x10 = some res → W p l e rm_X4_addUp s m args below meth c H locs 0 0 (MQ below (qWv G W9 ((wSum cA qS nS res))) args s 0 0 (adr W9)) (F0 m 126 ls []) := by
  obtain ⟨hx, hb, hr, hml, hown, hts, hlocks, hK, hR, hRA⟩ := id C0
  intro zS x1 x6 x8 x10 H locs ls hP hD hS hl hf
  unfold f_X4_addUp_126 at hf
  refine lv_aload_n hx hb dX4_addUp_126 rfl (lv_at hl 0 rfl) ?_
  refine va_get (D := G) (ci := 2) (v := .ref (qS 1)) (C := RX4) (T := TX4) (N := 6) hx hb hts fin_X4 hown hK.1 hP 0 rfl rfl 1 (by decide) (hts _ wi_85) (fun _ h9 => h9) rfl dX4_addUp_127 ?_
  refine lv_iload hx hb dX4_addUp_130 (lv_at hl 2 rfl) ?_
  refine lv_iload_n hx hb dX4_addUp_132 rfl (lv_at hl 1 rfl) ?_
  obtain ⟨hi_1, hf⟩ := oif hf
  refine va_iast hx hb hK.1 hP hD hS 1 0 rfl rfl (inb_in hi_1) dX4_addUp_133 (fun H locs hP hD hS => ?_)
  have hP := sS_keys_P hP
  have hD := sS_keys_D hD
  refine lv_aload_n hx hb dX4_addUp_134 rfl (lv_at hl 0 rfl) ?_
  refine lv_iload hx hb dX4_addUp_135 (lv_at hl 2 rfl) ?_
  refine lv_lload hx hb dX4_addUp_137 (lv_at hl 3 rfl) ?_
  refine lv_lload hx hb dX4_addUp_139 (lv_at hl 4 rfl) ?_
  obtain ⟨r_2, hr_2, hf⟩ := obd hf
  refine cWvV (As := [.int x6, .long x8, .long x10]) (rest := []) (W1 := ((wSum cA qS nS r_2))) ⟨hx, hb, hml, hown, hts⟩ (m_X4_setReduced l G cA qS nS (uS_keys zS (upd (gS_keys zS) x6.toNatClampNeg x1)) x6 x8 x10 r_2 hr_2) (cw_X4_setReduced hts wi_413 ⟨Nat.le_of_ble_eq_true rfl, Nat.le_of_ble_eq_true rfl⟩) hK hP hD hS [0, 1, 2, 3] [4, 5, 6, 7] rfl rfl rfl (by decide) rfl va_Pnil dj_nil (va_recv hK.1 hP (ci := 2) (q0 := 0) rfl rfl) rfl hl.1 rfl (Nat.le_of_ble_eq_true rfl) dX4_addUp_141 ⟨Nat.zero_le _, Nat.zero_le _⟩ (fun H locs hP hD hS => ?_)
  cases hf
  exact W.vret hx hb hr (fun t ht hW => ⟨⟨(), rfl, trivial, toT ht hP⟩, hS.F ht⟩) hS.2.2 dX4_addUp_144 hlocks
def f_X4_addUp_85 (nS : Nat) (zS : SumS) (x1 : Int32) (x6 : Int32) (x7 : Int32) (x8 : Int64) (v0 : Int64) : Option (SumS) := if ¬ x8 = (0 : Int64) then if ¬ x7 = 0 then f_X4_addUp_126 nS zS x1 x6 x8 v0 else (f_X4_openAt nS zS x6).bind fun r_3 => if ¬ r_3.1 = 0 then f_X4_addUp_126 nS r_3.2 x1 x6 x8 v0 else some (uS_ov r_3.2 (1 : Int32)) else if x7 = 0 then some zS else (f_X4_closeAt nS zS x6).bind fun r_6 => some r_6
set_option maxHeartbeats 4000000 in
set_option maxRecDepth 100000 in
theorem b_X4_addUp_85 {p : Program} {l : Launch} {e : Env} {s : State} {m : MethodId} {args : Array Value} {below : List Frame} {meth : Method} {c : Code} {G : va_G} {cA : Nat → ClassId} {W9 : va_W} (qS : Nat → Nat) (nS : Nat) (C0 : Amb p s m args meth c cX4_addUp RX4 12 none G cA (adr W9) []) {res : SumS} : ∀ (zS : SumS) (x1 : Int32) (x6 : Int32) (x7 : Int32) (x8 : Int64) (v0 : Int64) (H : Heap) (locs : List Loc) (ls : Array Slot), va_P G vwCl ((wSum cA qS nS zS)) H → va_D (adr W9) ((wSum cA qS nS zS)) → va_S (adr W9) s.heap H locs → lv_has ls 12 [(0, .ref (qS 0)), (1, .int x1), (6, .int x6), (7, .int x7), (8, .long x8)] → f_X4_addUp_85 nS zS x1 x6 x7 x8 v0 = some res → W p l e rm_X4_addUp s m args below meth c H locs 0 0 (MQ below (qWv G W9 ((wSum cA qS nS res))) args s 0 0 (adr W9)) (F0 m 85 ls [.long v0]) := by
  obtain ⟨hx, hb, hr, hml, hown, hts, hlocks, hK, hR, hRA⟩ := id C0
  intro zS x1 x6 x7 x8 v0 H locs ls hP hD hS hl hf
  unfold f_X4_addUp_85 at hf
  refine lv_lstore (lv' := [(10, .long v0), (0, .ref (qS 0)), (1, .int x1), (6, .int x6), (7, .int x7), (8, .long x8)]) hx hb dX4_addUp_85 hl (by decide) rfl (fun ls hl => ?_)
  refine lv_lload hx hb dX4_addUp_87 (lv_at hl 5 rfl) ?_
  refine lv_lconst (v := (0 : Int64)) hx hb dX4_addUp_89 (by decide) ?_
  refine W.lcmp hx hb dX4_addUp_90 ?_
  refine lv_if_ne (tgt := 106) hx hb dX4_addUp_91 (by decide) (fun c_1 => ?_) (fun c_1 => ?_)
  · rw [if_pos (fun h => c_1 ((lg_cmp_eq _ _).mpr h))] at hf
    refine lv_iload hx hb dX4_addUp_106 (lv_at hl 4 rfl) ?_
    refine lv_if_ne (tgt := 126) hx hb dX4_addUp_108 (by decide) (fun c_2 => ?_) (fun c_2 => ?_)
    · rw [if_pos (c_2)] at hf
      exact b_X4_addUp_126 qS nS   C0  zS x1 x6 x8 v0 H locs ls hP hD hS (lv_sub hl [1, 2, 3, 5, 0] rfl) hf
    · rw [if_neg (not_not_intro c_2)] at hf
      refine lv_aload_n hx hb dX4_addUp_111 rfl (lv_at hl 1 rfl) ?_
      refine lv_iload hx hb dX4_addUp_112 (lv_at hl 3 rfl) ?_
      obtain ⟨r_3, hr_3, hf⟩ := obd hf
      refine cWiV (As := [.int x6]) (rest := []) (W1 := ((wSum cA qS nS r_3.2))) ⟨hx, hb, hml, hown, hts⟩ (m_X4_openAt l G cA qS nS zS x6 r_3 hr_3) (cw_X4_openAt hts wi_409 ⟨Nat.le_of_ble_eq_true rfl, Nat.le_of_ble_eq_true rfl⟩) hK hP hD hS [0, 1, 2, 3] [4, 5, 6, 7] rfl rfl rfl (by decide) rfl va_Pnil dj_nil (va_recv hK.1 hP (ci := 2) (q0 := 0) rfl rfl) rfl hl.1 rfl (Nat.le_of_ble_eq_true rfl) dX4_addUp_114 ⟨Nat.zero_le _, Nat.zero_le _⟩ (fun H locs hP hD hS => ?_)
      refine lv_if_ne (tgt := 126) hx hb dX4_addUp_117 (by decide) (fun c_4 => ?_) (fun c_4 => ?_)
      · rw [if_pos (c_4)] at hf
        exact b_X4_addUp_126 qS nS   C0  r_3.2 x1 x6 x8 v0 H locs ls hP hD hS (lv_sub hl [1, 2, 3, 5, 0] rfl) hf
      · rw [if_neg (not_not_intro c_4)] at hf
        refine lv_aload_n hx hb dX4_addUp_120 rfl (lv_at hl 1 rfl) ?_
        refine lv_iconst (v := 1) hx hb dX4_addUp_121 (by decide) ?_
        refine va_put (D := G) (ci := 2) (v := .int (1 : Int32)) (ty := .boolean) (C := RX4) (T := TX4) (N := 6) hx hb hts fin_X4 tyX4 tyX4_ok nmX4 hown hK.1 hP hD hS 0 rfl rfl 5 (by decide) (hts _ wi_89) (fun _ h9 => h9) rfl (by decide +kernel) (by decide) (by decide) (Nat.le_of_ble_eq_true rfl) dX4_addUp_122 (fun H locs hP hD hS => ?_)
        have hP := sS_ov_P hP
        have hD := sS_ov_D hD
        cases hf
        exact W.vret hx hb hr (fun t ht hW => ⟨⟨(), rfl, trivial, toT ht hP⟩, hS.F ht⟩) hS.2.2 dX4_addUp_125 hlocks
  · rw [if_neg (fun h => h ((lg_cmp_eq _ _).mp c_1))] at hf
    refine lv_iload hx hb dX4_addUp_94 (lv_at hl 4 rfl) ?_
    refine lv_if_eq (tgt := 105) hx hb dX4_addUp_96 (by decide) (fun c_5 => ?_) (fun c_5 => ?_)
    · rw [if_pos (c_5)] at hf
      cases hf
      exact W.vret hx hb hr (fun t ht hW => ⟨⟨(), rfl, trivial, toT ht hP⟩, hS.F ht⟩) hS.2.2 dX4_addUp_105 hlocks
    · rw [if_neg (c_5)] at hf
      refine lv_aload_n hx hb dX4_addUp_99 rfl (lv_at hl 1 rfl) ?_
      refine lv_iload hx hb dX4_addUp_100 (lv_at hl 3 rfl) ?_
      obtain ⟨r_6, hr_6, hf⟩ := obd hf
      refine cWvV (As := [.int x6]) (rest := []) (W1 := ((wSum cA qS nS r_6))) ⟨hx, hb, hml, hown, hts⟩ (m_X4_closeAt l G cA qS nS zS x6 r_6 hr_6) (cw_X4_closeAt hts wi_405 ⟨Nat.le_of_ble_eq_true rfl, Nat.le_of_ble_eq_true rfl⟩) hK hP hD hS [0, 1, 2, 3] [4, 5, 6, 7] rfl rfl rfl (by decide) rfl va_Pnil dj_nil (va_recv hK.1 hP (ci := 2) (q0 := 0) rfl rfl) rfl hl.1 rfl (Nat.le_of_ble_eq_true rfl) dX4_addUp_102 ⟨Nat.zero_le _, Nat.zero_le _⟩ (fun H locs hP hD hS => ?_)
      cases hf
      exact W.vret hx hb hr (fun t ht hW => ⟨⟨(), rfl, trivial, toT ht hP⟩, hS.F ht⟩) hS.2.2 dX4_addUp_105 hlocks
def f_X4_addUp_63 (nS : Nat) (zS : SumS) (x1 : Int32) (x4 : Int64) (x6 : Int32) (x7 : Int32) (v0 : Int64) : Option (SumS) := if x7 = 0 then f_X4_addUp_85 nS zS x1 x6 x7 v0 x4 else if inb x6 nS = true then f_X4_addUp_85 nS zS x1 x6 x7 v0 ((gS_bots zS x6.toNatClampNeg) * x4) else none
set_option maxHeartbeats 4000000 in
set_option maxRecDepth 100000 in
theorem b_X4_addUp_63 {p : Program} {l : Launch} {e : Env} {s : State} {m : MethodId} {args : Array Value} {below : List Frame} {meth : Method} {c : Code} {G : va_G} {cA : Nat → ClassId} {W9 : va_W} (qS : Nat → Nat) (nS : Nat) (C0 : Amb p s m args meth c cX4_addUp RX4 12 none G cA (adr W9) []) {res : SumS} : ∀ (zS : SumS) (x1 : Int32) (x4 : Int64) (x6 : Int32) (x7 : Int32) (v0 : Int64) (H : Heap) (locs : List Loc) (ls : Array Slot), va_P G vwCl ((wSum cA qS nS zS)) H → va_D (adr W9) ((wSum cA qS nS zS)) → va_S (adr W9) s.heap H locs → lv_has ls 12 [(0, .ref (qS 0)), (1, .int x1), (4, .long x4), (6, .int x6), (7, .int x7)] → f_X4_addUp_63 nS zS x1 x4 x6 x7 v0 = some res → W p l e rm_X4_addUp s m args below meth c H locs 0 0 (MQ below (qWv G W9 ((wSum cA qS nS res))) args s 0 0 (adr W9)) (F0 m 63 ls [.long v0]) := by
  obtain ⟨hx, hb, hr, hml, hown, hts, hlocks, hK, hR, hRA⟩ := id C0
  intro zS x1 x4 x6 x7 v0 H locs ls hP hD hS hl hf
  unfold f_X4_addUp_63 at hf
  refine lv_lstore (lv' := [(8, .long v0), (0, .ref (qS 0)), (1, .int x1), (4, .long x4), (6, .int x6), (7, .int x7)]) hx hb dX4_addUp_63 hl (by decide) rfl (fun ls hl => ?_)
  refine lv_iload hx hb dX4_addUp_65 (lv_at hl 5 rfl) ?_
  refine lv_if_eq (tgt := 83) hx hb dX4_addUp_67 (by decide) (fun c_1 => ?_) (fun c_1 => ?_)
  · rw [if_pos (c_1)] at hf
    refine lv_lload hx hb dX4_addUp_83 (lv_at hl 3 rfl) ?_
    exact b_X4_addUp_85 qS nS   C0  zS x1 x6 x7 v0 x4 H locs ls hP hD hS (lv_sub hl [1, 2, 4, 5, 0] rfl) hf
  · rw [if_neg (c_1)] at hf
    refine lv_aload_n hx hb dX4_addUp_70 rfl (lv_at hl 1 rfl) ?_
    refine va_get (D := G) (ci := 2) (v := .ref (qS 3)) (C := RX4) (T := TX4) (N := 6) hx hb hts fin_X4 hown hK.1 hP 0 rfl rfl 3 (by decide) (hts _ wi_87) (fun _ h9 => h9) rfl dX4_addUp_71 ?_
    refine lv_iload hx hb dX4_addUp_74 (lv_at hl 4 rfl) ?_
    obtain ⟨hi_2, hf⟩ := oif hf
    refine va_lald hx hb hK.1 hP 3 1 rfl rfl (inb_in hi_2) dX4_addUp_76 ?_
    refine lv_lload hx hb dX4_addUp_77 (lv_at hl 3 rfl) ?_
    refine lv_lmul hx hb dX4_addUp_79 ?_
    refine lv_goto (tgt := 85) hx hb dX4_addUp_80 (by decide) ?_
    exact b_X4_addUp_85 qS nS   C0  zS x1 x6 x7 v0 ((gS_bots zS x6.toNatClampNeg) * x4) H locs ls hP hD hS (lv_sub hl [1, 2, 4, 5, 0] rfl) hf
def f_X4_addUp_32 (nS : Nat) (zS : SumS) (x1 : Int32) (x2 : Int64) (x4 : Int64) (x6 : Int32) (v0 : Int32) : Option (SumS) := if v0 = 0 then f_X4_addUp_63 nS zS x1 x4 x6 v0 x2 else if inb x6 nS = true then if inb x6 nS = true then f_X4_addUp_63 nS zS x1 x4 x6 v0 (((gS_tops zS x6.toNatClampNeg) * x4) + (x2 * (gS_bots zS x6.toNatClampNeg))) else none else none
set_option maxHeartbeats 4000000 in
set_option maxRecDepth 100000 in
theorem b_X4_addUp_32 {p : Program} {l : Launch} {e : Env} {s : State} {m : MethodId} {args : Array Value} {below : List Frame} {meth : Method} {c : Code} {G : va_G} {cA : Nat → ClassId} {W9 : va_W} (qS : Nat → Nat) (nS : Nat) (C0 : Amb p s m args meth c cX4_addUp RX4 12 none G cA (adr W9) []) {res : SumS} : ∀ (zS : SumS) (x1 : Int32) (x2 : Int64) (x4 : Int64) (x6 : Int32) (v0 : Int32) (H : Heap) (locs : List Loc) (ls : Array Slot), va_P G vwCl ((wSum cA qS nS zS)) H → va_D (adr W9) ((wSum cA qS nS zS)) → va_S (adr W9) s.heap H locs → lv_has ls 12 [(0, .ref (qS 0)), (1, .int x1), (2, .long x2), (4, .long x4), (6, .int x6)] → f_X4_addUp_32 nS zS x1 x2 x4 x6 v0 = some res → W p l e rm_X4_addUp s m args below meth c H locs 0 0 (MQ below (qWv G W9 ((wSum cA qS nS res))) args s 0 0 (adr W9)) (F0 m 32 ls [.int v0]) := by
  obtain ⟨hx, hb, hr, hml, hown, hts, hlocks, hK, hR, hRA⟩ := id C0
  intro zS x1 x2 x4 x6 v0 H locs ls hP hD hS hl hf
  unfold f_X4_addUp_32 at hf
  refine lv_istore (lv' := [(7, .int v0), (0, .ref (qS 0)), (1, .int x1), (2, .long x2), (4, .long x4), (6, .int x6)]) hx hb dX4_addUp_32 hl (by decide) rfl (fun ls hl => ?_)
  refine lv_iload hx hb dX4_addUp_34 (lv_at hl 0 rfl) ?_
  refine lv_if_eq (tgt := 62) hx hb dX4_addUp_36 (by decide) (fun c_1 => ?_) (fun c_1 => ?_)
  · rw [if_pos (c_1)] at hf
    refine lv_lload_n hx hb dX4_addUp_62 rfl (lv_at hl 3 rfl) ?_
    exact b_X4_addUp_63 qS nS   C0  zS x1 x4 x6 v0 x2 H locs ls hP hD hS (lv_sub hl [1, 2, 4, 5, 0] rfl) hf
  · rw [if_neg (c_1)] at hf
    refine lv_aload_n hx hb dX4_addUp_39 rfl (lv_at hl 1 rfl) ?_
    refine va_get (D := G) (ci := 2) (v := .ref (qS 2)) (C := RX4) (T := TX4) (N := 6) hx hb hts fin_X4 hown hK.1 hP 0 rfl rfl 2 (by decide) (hts _ wi_86) (fun _ h9 => h9) rfl dX4_addUp_40 ?_
    refine lv_iload hx hb dX4_addUp_43 (lv_at hl 5 rfl) ?_
    obtain ⟨hi_2, hf⟩ := oif hf
    refine va_lald hx hb hK.1 hP 2 1 rfl rfl (inb_in hi_2) dX4_addUp_45 ?_
    refine lv_lload hx hb dX4_addUp_46 (lv_at hl 4 rfl) ?_
    refine lv_lmul hx hb dX4_addUp_48 ?_
    refine lv_lload_n hx hb dX4_addUp_49 rfl (lv_at hl 3 rfl) ?_
    refine lv_aload_n hx hb dX4_addUp_50 rfl (lv_at hl 1 rfl) ?_
    refine va_get (D := G) (ci := 2) (v := .ref (qS 3)) (C := RX4) (T := TX4) (N := 6) hx hb hts fin_X4 hown hK.1 hP 0 rfl rfl 3 (by decide) (hts _ wi_87) (fun _ h9 => h9) rfl dX4_addUp_51 ?_
    refine lv_iload hx hb dX4_addUp_54 (lv_at hl 5 rfl) ?_
    obtain ⟨hi_3, hf⟩ := oif hf
    refine va_lald hx hb hK.1 hP 3 1 rfl rfl (inb_in hi_3) dX4_addUp_56 ?_
    refine lv_lmul hx hb dX4_addUp_57 ?_
    refine lv_ladd hx hb dX4_addUp_58 ?_
    refine lv_goto (tgt := 63) hx hb dX4_addUp_59 (by decide) ?_
    exact b_X4_addUp_63 qS nS   C0  zS x1 x4 x6 v0 (((gS_tops zS x6.toNatClampNeg) * x4) + (x2 * (gS_bots zS x6.toNatClampNeg))) H locs ls hP hD hS (lv_sub hl [1, 2, 4, 5, 0] rfl) hf
def f_X4_addUp_31 (nS : Nat) (zS : SumS) (x1 : Int32) (x2 : Int64) (x4 : Int64) (x6 : Int32) : Option (SumS) := f_X4_addUp_32 nS zS x1 x2 x4 x6 (0 : Int32)
set_option maxHeartbeats 4000000 in
set_option maxRecDepth 100000 in
theorem b_X4_addUp_31 {p : Program} {l : Launch} {e : Env} {s : State} {m : MethodId} {args : Array Value} {below : List Frame} {meth : Method} {c : Code} {G : va_G} {cA : Nat → ClassId} {W9 : va_W} (qS : Nat → Nat) (nS : Nat) (C0 : Amb p s m args meth c cX4_addUp RX4 12 none G cA (adr W9) []) {res : SumS} : ∀ (zS : SumS) (x1 : Int32) (x2 : Int64) (x4 : Int64) (x6 : Int32) (H : Heap) (locs : List Loc) (ls : Array Slot), va_P G vwCl ((wSum cA qS nS zS)) H → va_D (adr W9) ((wSum cA qS nS zS)) → va_S (adr W9) s.heap H locs → lv_has ls 12 [(0, .ref (qS 0)), (1, .int x1), (2, .long x2), (4, .long x4), (6, .int x6)] → f_X4_addUp_31 nS zS x1 x2 x4 x6 = some res → W p l e rm_X4_addUp s m args below meth c H locs 0 0 (MQ below (qWv G W9 ((wSum cA qS nS res))) args s 0 0 (adr W9)) (F0 m 31 ls []) := by
  obtain ⟨hx, hb, hr, hml, hown, hts, hlocks, hK, hR, hRA⟩ := id C0
  intro zS x1 x2 x4 x6 H locs ls hP hD hS hl hf
  unfold f_X4_addUp_31 at hf
  refine lv_iconst (v := 0) hx hb dX4_addUp_31 (by decide) ?_
  exact b_X4_addUp_32 qS nS   C0  zS x1 x2 x4 x6 (0 : Int32) H locs ls hP hD hS (lv_sub hl [0, 1, 2, 3, 4] rfl) hf
def f_X4_addUp (nS : Nat) (zS : SumS) (a1 : Int32) (a2 : Int64) (a4 : Int64) : Option (SumS) := (f_X4_placeFor nS zS a1).bind fun r_1 => if (gS_size zS) ≤ r_1 then f_X4_addUp_31 nS zS a1 a2 a4 r_1 else if inb r_1 nS = true then if ¬ (gS_keys zS r_1.toNatClampNeg) = a1 then f_X4_addUp_31 nS zS a1 a2 a4 r_1 else f_X4_addUp_32 nS zS a1 a2 a4 r_1 (1 : Int32) else none
set_option maxHeartbeats 4000000 in
set_option maxRecDepth 100000 in
theorem b_X4_addUp_0 {p : Program} {l : Launch} {e : Env} {s : State} {m : MethodId} {args : Array Value} {below : List Frame} {meth : Method} {c : Code} {G : va_G} {cA : Nat → ClassId} {W9 : va_W} (qS : Nat → Nat) (nS : Nat) (C0 : Amb p s m args meth c cX4_addUp RX4 12 none G cA (adr W9) []) {res : SumS} : ∀ (zS : SumS) (a1 : Int32) (a2 : Int64) (a4 : Int64) (H : Heap) (locs : List Loc) (ls : Array Slot), va_P G vwCl ((wSum cA qS nS zS)) H → va_D (adr W9) ((wSum cA qS nS zS)) → va_S (adr W9) s.heap H locs → lv_has ls 12 [(0, .ref (qS 0)), (1, .int a1), (2, .long a2), (4, .long a4)] → f_X4_addUp nS zS a1 a2 a4 = some res → W p l e rm_X4_addUp s m args below meth c H locs 0 0 (MQ below (qWv G W9 ((wSum cA qS nS res))) args s 0 0 (adr W9)) (F0 m 0 ls []) := by
  obtain ⟨hx, hb, hr, hml, hown, hts, hlocks, hK, hR, hRA⟩ := id C0
  intro zS a1 a2 a4 H locs ls hP hD hS hl hf
  unfold f_X4_addUp at hf
  refine lv_aload_n hx hb dX4_addUp_0 rfl (lv_at hl 0 rfl) ?_
  refine lv_iload_n hx hb dX4_addUp_1 rfl (lv_at hl 1 rfl) ?_
  obtain ⟨r_1, hr_1, hf⟩ := obd hf
  refine cRiV (As := [.int a1]) (rest := []) ⟨hx, hb, hml, hown, hts⟩ (m_X4_placeFor l G cA qS nS zS a1 r_1 hr_1) (cw_X4_placeFor hts wi_401 ⟨Nat.le_of_ble_eq_true rfl, Nat.le_of_ble_eq_true rfl⟩) hK (pk hP [0, 1, 2, 3] rfl) (va_recv hK.1 hP (ci := 2) (q0 := 0) rfl rfl) rfl hl.1 rfl (Nat.le_of_ble_eq_true rfl) dX4_addUp_2 ⟨Nat.zero_le _, Nat.zero_le _⟩ ?_
  refine lv_istore (lv' := [(6, .int r_1), (0, .ref (qS 0)), (1, .int a1), (2, .long a2), (4, .long a4)]) hx hb dX4_addUp_5 hl (by decide) rfl (fun ls hl => ?_)
  refine lv_iload hx hb dX4_addUp_7 (lv_at hl 0 rfl) ?_
  refine lv_aload_n hx hb dX4_addUp_9 rfl (lv_at hl 1 rfl) ?_
  refine va_get (D := G) (ci := 2) (v := .int (gS_size zS)) (C := RX4) (T := TX4) (N := 6) hx hb hts fin_X4 hown hK.1 hP 0 rfl rfl 4 (by decide) (hts _ wi_88) (fun _ h9 => h9) rfl dX4_addUp_10 ?_
  refine lv_icmp_ge (tgt := 31) hx hb dX4_addUp_13 (by decide) (fun c_2 => ?_) (fun c_2 => ?_)
  · rw [if_pos (c_2)] at hf
    exact b_X4_addUp_31 qS nS   C0  zS a1 a2 a4 r_1 H locs ls hP hD hS (lv_sub hl [1, 2, 3, 4, 0] rfl) hf
  · rw [if_neg (c_2)] at hf
    refine lv_aload_n hx hb dX4_addUp_16 rfl (lv_at hl 1 rfl) ?_
    refine va_get (D := G) (ci := 2) (v := .ref (qS 1)) (C := RX4) (T := TX4) (N := 6) hx hb hts fin_X4 hown hK.1 hP 0 rfl rfl 1 (by decide) (hts _ wi_85) (fun _ h9 => h9) rfl dX4_addUp_17 ?_
    refine lv_iload hx hb dX4_addUp_20 (lv_at hl 0 rfl) ?_
    obtain ⟨hi_3, hf⟩ := oif hf
    refine va_iald hx hb hK.1 hP 1 0 rfl rfl (inb_in hi_3) dX4_addUp_22 ?_
    refine lv_iload_n hx hb dX4_addUp_23 rfl (lv_at hl 2 rfl) ?_
    refine lv_icmp_ne (tgt := 31) hx hb dX4_addUp_24 (by decide) (fun c_4 => ?_) (fun c_4 => ?_)
    · rw [if_pos (c_4)] at hf
      exact b_X4_addUp_31 qS nS   C0  zS a1 a2 a4 r_1 H locs ls hP hD hS (lv_sub hl [1, 2, 3, 4, 0] rfl) hf
    · rw [if_neg (not_not_intro c_4)] at hf
      refine lv_iconst (v := 1) hx hb dX4_addUp_27 (by decide) ?_
      refine lv_goto (tgt := 32) hx hb dX4_addUp_28 (by decide) ?_
      exact b_X4_addUp_32 qS nS   C0  zS a1 a2 a4 r_1 (1 : Int32) H locs ls hP hD hS (lv_sub hl [1, 2, 3, 4, 0] rfl) hf

set_option maxRecDepth 100000 in
theorem m_X4_addUp (l : Launch) (G : va_G) (cA : Nat → ClassId) (qS : Nat → Nat) (nS : Nat) (zS : SumS) (a1 : Int32) (a2 : Int64) (a4 : Int64) (res : SumS) (hf : f_X4_addUp nS zS a1 a2 a4 = some res) : MWv l yX4_addUp (.code yX4_addUp cX4_addUp 12 none :: wd) rm_X4_addUp G cA [.ref (qS 0), .int a1, .long a2, .long a4] ((wSum cA qS nS zS)) [] ((wSum cA qS nS res)) := by
  refine Met.ofW (cc := cX4_addUp) (maxL := 12) (ret := none) (by decide) rfl ?_
  intro p e s m args below meth c s₁ B hml hv
  obtain ⟨rfl, hK, hP, hD0, hR, hRA⟩ := hv
  have C0 : Amb p s m ([.ref (qS 0), .int a1, .long a2, .long a4] : List Value).toArray meth c cX4_addUp RX4 12 none G cA (adr ((wSum cA qS nS zS))) [] := ⟨B.exec, B.bytes, B.returns, hml, findClass_of_methodNamed B.named, fun w h => atoms_spec (ws := (.code yX4_addUp cX4_addUp 12 none :: wd)) B.pre w (List.mem_cons_of_mem _ h), B.notSynchronized, hK, hR, hRA⟩
  have hl := lv_entry ([.ref (qS 0), .int a1, .long a2, .long a4]) (n := 12) (Nat.le_of_ble_eq_true rfl)
  rw [lg_entry_eq]
  generalize (lg_sl ([.ref (qS 0), .int a1, .long a2, .long a4]) ++ List.replicate (12 - (lg_sl ([.ref (qS 0), .int a1, .long a2, .long a4])).length) Slot.unset).toArray = ls at hl ⊢
  have hl : lv_has ls 12 [(0, .ref (qS 0)), (1, .int a1), (2, .long a2), (4, .long a4)] := hl
  exact b_X4_addUp_0 (W9 := ((wSum cA qS nS zS))) qS nS   C0 zS a1 a2 a4 s.heap [] ls hP (adr.self hD0) va_S.rf hl hf
theorem cw_X4_addUp {R : Room} {s : State} {args : Array Value} {own : String} {index : Nat} (ht : ∀ w ∈ wd, w.before args s = true) (hlink : Cond.methodLink own index yX4_addUp ∈ wd) (hR : rm_X4_addUp.frames + 1 ≤ R.frames ∧ 8 + (12 + 11) + rm_X4_addUp.locals ≤ R.locals) : CallW R s args own RX4 index yX4_addUp cX4_addUp 12 none (.code yX4_addUp cX4_addUp 12 none :: wd) rm_X4_addUp 0 0 3 := cwV9 3 ht wi_400 wi_399 wi_13 wi_56 hlink (by decide +kernel) rfl rfl hR
def rm_X4_put : Room := { frames := 3, cells := 0, slots := 0, locals := 90 }
def f_X4_put_81 (nS : Nat) (zS : SumS) (x1 : Int32) (x2 : Int32) (x3 : Int32) (x4 : Int64) (x6 : Int64) : Option (SumS) := (f_X4_keyOf x1 x2 x3).bind fun r_1 => (f_X4_addUp nS zS r_1 x4 x6).bind fun r_2 => some r_2
set_option maxHeartbeats 4000000 in
set_option maxRecDepth 100000 in
theorem b_X4_put_81 {p : Program} {l : Launch} {e : Env} {s : State} {m : MethodId} {args : Array Value} {below : List Frame} {meth : Method} {c : Code} {G : va_G} {cA : Nat → ClassId} {W9 : va_W} (qS : Nat → Nat) (nS : Nat) (C0 : Amb p s m args meth c cX4_put RX4 9 none G cA (adr W9) []) {res : SumS} : ∀ (zS : SumS) (x1 : Int32) (x2 : Int32) (x3 : Int32) (x4 : Int64) (x6 : Int64) (H : Heap) (locs : List Loc) (ls : Array Slot), va_P G vwCl ((wSum cA qS nS zS)) H → va_D (adr W9) ((wSum cA qS nS zS)) → va_S (adr W9) s.heap H locs → lv_has ls 9 [(0, .ref (qS 0)), (1, .int x1), (2, .int x2), (3, .int x3), (4, .long x4), (6, .long x6)] → f_X4_put_81 nS zS x1 x2 x3 x4 x6 = some res → W p l e rm_X4_put s m args below meth c H locs 0 0 (MQ below (qWv G W9 ((wSum cA qS nS res))) args s 0 0 (adr W9)) (F0 m 81 ls []) := by
  obtain ⟨hx, hb, hr, hml, hown, hts, hlocks, hK, hR, hRA⟩ := id C0
  intro zS x1 x2 x3 x4 x6 H locs ls hP hD hS hl hf
  unfold f_X4_put_81 at hf
  refine lv_aload_n hx hb dX4_put_81 rfl (lv_at hl 0 rfl) ?_
  refine lv_iload_n hx hb dX4_put_82 rfl (lv_at hl 1 rfl) ?_
  refine lv_iload_n hx hb dX4_put_83 rfl (lv_at hl 2 rfl) ?_
  refine lv_iload_n hx hb dX4_put_84 rfl (lv_at hl 3 rfl) ?_
  obtain ⟨r_1, hr_1, hf⟩ := obd hf
  refine cRiS (As := [.int x1, .int x2, .int x3]) (rest := [.ref (qS 0)]) ⟨hx, hb, hml, hown, hts⟩ (m_X4_keyOf l G cA x1 x2 x3 r_1 hr_1) (cw_X4_keyOf hts wi_394 ⟨Nat.le_of_ble_eq_true rfl, Nat.le_of_ble_eq_true rfl⟩) hK va_Pnil rfl hl.1 rfl (Nat.le_of_ble_eq_true rfl) dX4_put_85 ⟨Nat.zero_le _, Nat.zero_le _⟩ ?_
  refine lv_lload hx hb dX4_put_88 (lv_at hl 4 rfl) ?_
  refine lv_lload hx hb dX4_put_90 (lv_at hl 5 rfl) ?_
  obtain ⟨r_2, hr_2, hf⟩ := obd hf
  refine cWvV (As := [.int r_1, .long x4, .long x6]) (rest := []) (W1 := ((wSum cA qS nS r_2))) ⟨hx, hb, hml, hown, hts⟩ (m_X4_addUp l G cA qS nS zS r_1 x4 x6 r_2 hr_2) (cw_X4_addUp hts wi_397 ⟨Nat.le_of_ble_eq_true rfl, Nat.le_of_ble_eq_true rfl⟩) hK hP hD hS [0, 1, 2, 3] [4, 5, 6, 7] rfl rfl rfl (by decide) rfl va_Pnil dj_nil (va_recv hK.1 hP (ci := 2) (q0 := 0) rfl rfl) rfl hl.1 rfl (Nat.le_of_ble_eq_true rfl) dX4_put_92 ⟨Nat.zero_le _, Nat.zero_le _⟩ (fun H locs hP hD hS => ?_)
  cases hf
  exact W.vret hx hb hr (fun t ht hW => ⟨⟨(), rfl, trivial, toT ht hP⟩, hS.F ht⟩) hS.2.2 dX4_put_95 hlocks
def f_X4_put_73 (nS : Nat) (zS : SumS) (x6 : Int64) (v1 : Int32) (v2 : Int64) : Option (SumS) := (f_X4_addUp nS zS v1 v2 x6).bind fun r_1 => some r_1
set_option maxHeartbeats 4000000 in
set_option maxRecDepth 100000 in
theorem b_X4_put_73 {p : Program} {l : Launch} {e : Env} {s : State} {m : MethodId} {args : Array Value} {below : List Frame} {meth : Method} {c : Code} {G : va_G} {cA : Nat → ClassId} {W9 : va_W} (qS : Nat → Nat) (nS : Nat) (C0 : Amb p s m args meth c cX4_put RX4 9 none G cA (adr W9) []) {res : SumS} : ∀ (zS : SumS) (x6 : Int64) (v1 : Int32) (v2 : Int64) (H : Heap) (locs : List Loc) (ls : Array Slot), va_P G vwCl ((wSum cA qS nS zS)) H → va_D (adr W9) ((wSum cA qS nS zS)) → va_S (adr W9) s.heap H locs → lv_has ls 9 [(6, .long x6)] → f_X4_put_73 nS zS x6 v1 v2 = some res → W p l e rm_X4_put s m args below meth c H locs 0 0 (MQ below (qWv G W9 ((wSum cA qS nS res))) args s 0 0 (adr W9)) (F0 m 73 ls [.long v2, .int v1, .ref (qS 0)]) := by
  obtain ⟨hx, hb, hr, hml, hown, hts, hlocks, hK, hR, hRA⟩ := id C0
  intro zS x6 v1 v2 H locs ls hP hD hS hl hf
  unfold f_X4_put_73 at hf
  refine lv_lload hx hb dX4_put_73 (lv_at hl 0 rfl) ?_
  obtain ⟨r_1, hr_1, hf⟩ := obd hf
  refine cWvV (As := [.int v1, .long v2, .long x6]) (rest := []) (W1 := ((wSum cA qS nS r_1))) ⟨hx, hb, hml, hown, hts⟩ (m_X4_addUp l G cA qS nS zS v1 v2 x6 r_1 hr_1) (cw_X4_addUp hts wi_397 ⟨Nat.le_of_ble_eq_true rfl, Nat.le_of_ble_eq_true rfl⟩) hK hP hD hS [0, 1, 2, 3] [4, 5, 6, 7] rfl rfl rfl (by decide) rfl va_Pnil dj_nil (va_recv hK.1 hP (ci := 2) (q0 := 0) rfl rfl) rfl hl.1 rfl (Nat.le_of_ble_eq_true rfl) dX4_put_75 ⟨Nat.zero_le _, Nat.zero_le _⟩ (fun H locs hP hD hS => ?_)
  refine lv_goto (tgt := 95) hx hb dX4_put_78 (by decide) ?_
  cases hf
  exact W.vret hx hb hr (fun t ht hW => ⟨⟨(), rfl, trivial, toT ht hP⟩, hS.F ht⟩) hS.2.2 dX4_put_95 hlocks
def f_X4_put_15 (nS : Nat) (zS : SumS) (x1 : Int32) (x2 : Int32) (x3 : Int32) (x4 : Int64) (x6 : Int64) (v0 : Int32) : Option (SumS) := if ¬ x2 = 0 then if v0 = 0 then f_X4_put_81 nS zS x1 x2 x3 x4 x6 else if 0 ≤ x2 then f_X4_put_81 nS zS x1 x2 x3 x4 x6 else (f_X4_keyOf x1 (-x2) x3).bind fun r_4 => if ¬ x1 = (3 : Int32) then f_X4_put_73 nS zS x6 r_4 x4 else f_X4_put_73 nS zS x6 r_4 (-x4) else if x1 = (3 : Int32) then some zS else (f_X4_keyOf (0 : Int32) (0 : Int32) x3).bind fun r_7 => (f_X4_addUp nS zS r_7 x4 x6).bind fun r_8 => some r_8
set_option maxHeartbeats 4000000 in
set_option maxRecDepth 100000 in
theorem b_X4_put_15 {p : Program} {l : Launch} {e : Env} {s : State} {m : MethodId} {args : Array Value} {below : List Frame} {meth : Method} {c : Code} {G : va_G} {cA : Nat → ClassId} {W9 : va_W} (qS : Nat → Nat) (nS : Nat) (C0 : Amb p s m args meth c cX4_put RX4 9 none G cA (adr W9) []) {res : SumS} : ∀ (zS : SumS) (x1 : Int32) (x2 : Int32) (x3 : Int32) (x4 : Int64) (x6 : Int64) (v0 : Int32) (H : Heap) (locs : List Loc) (ls : Array Slot), va_P G vwCl ((wSum cA qS nS zS)) H → va_D (adr W9) ((wSum cA qS nS zS)) → va_S (adr W9) s.heap H locs → lv_has ls 9 [(0, .ref (qS 0)), (1, .int x1), (2, .int x2), (3, .int x3), (4, .long x4), (6, .long x6)] → f_X4_put_15 nS zS x1 x2 x3 x4 x6 v0 = some res → W p l e rm_X4_put s m args below meth c H locs 0 0 (MQ below (qWv G W9 ((wSum cA qS nS res))) args s 0 0 (adr W9)) (F0 m 15 ls [.int v0]) := by
  obtain ⟨hx, hb, hr, hml, hown, hts, hlocks, hK, hR, hRA⟩ := id C0
  intro zS x1 x2 x3 x4 x6 v0 H locs ls hP hD hS hl hf
  unfold f_X4_put_15 at hf
  refine lv_istore (lv' := [(8, .int v0), (0, .ref (qS 0)), (1, .int x1), (2, .int x2), (3, .int x3), (4, .long x4), (6, .long x6)]) hx hb dX4_put_15 hl (by decide) rfl (fun ls hl => ?_)
  refine lv_iload_n hx hb dX4_put_17 rfl (lv_at hl 3 rfl) ?_
  refine lv_if_ne (tgt := 43) hx hb dX4_put_18 (by decide) (fun c_1 => ?_) (fun c_1 => ?_)
  · rw [if_pos (c_1)] at hf
    refine lv_iload hx hb dX4_put_43 (lv_at hl 0 rfl) ?_
    refine lv_if_eq (tgt := 81) hx hb dX4_put_45 (by decide) (fun c_2 => ?_) (fun c_2 => ?_)
    · rw [if_pos (c_2)] at hf
      exact b_X4_put_81 qS nS   C0  zS x1 x2 x3 x4 x6 H locs ls hP hD hS (lv_sub hl [1, 2, 3, 4, 5, 6] rfl) hf
    · rw [if_neg (c_2)] at hf
      refine lv_iload_n hx hb dX4_put_48 rfl (lv_at hl 3 rfl) ?_
      refine lv_if_ge (tgt := 81) hx hb dX4_put_49 (by decide) (fun c_3 => ?_) (fun c_3 => ?_)
      · rw [if_pos (c_3)] at hf
        exact b_X4_put_81 qS nS   C0  zS x1 x2 x3 x4 x6 H locs ls hP hD hS (lv_sub hl [1, 2, 3, 4, 5, 6] rfl) hf
      · rw [if_neg (c_3)] at hf
        refine lv_aload_n hx hb dX4_put_52 rfl (lv_at hl 1 rfl) ?_
        refine lv_iload_n hx hb dX4_put_53 rfl (lv_at hl 2 rfl) ?_
        refine lv_iload_n hx hb dX4_put_54 rfl (lv_at hl 3 rfl) ?_
        refine lv_ineg hx hb dX4_put_55 ?_
        refine lv_iload_n hx hb dX4_put_56 rfl (lv_at hl 4 rfl) ?_
        obtain ⟨r_4, hr_4, hf⟩ := obd hf
        refine cRiS (As := [.int x1, .int (-x2), .int x3]) (rest := [.ref (qS 0)]) ⟨hx, hb, hml, hown, hts⟩ (m_X4_keyOf l G cA x1 (-x2) x3 r_4 hr_4) (cw_X4_keyOf hts wi_394 ⟨Nat.le_of_ble_eq_true rfl, Nat.le_of_ble_eq_true rfl⟩) hK va_Pnil rfl hl.1 rfl (Nat.le_of_ble_eq_true rfl) dX4_put_57 ⟨Nat.zero_le _, Nat.zero_le _⟩ ?_
        refine lv_iload_n hx hb dX4_put_60 rfl (lv_at hl 2 rfl) ?_
        refine lv_iconst (v := 3) hx hb dX4_put_61 (by decide) ?_
        refine lv_icmp_ne (tgt := 71) hx hb dX4_put_62 (by decide) (fun c_5 => ?_) (fun c_5 => ?_)
        · rw [if_pos (c_5)] at hf
          refine lv_lload hx hb dX4_put_71 (lv_at hl 5 rfl) ?_
          exact b_X4_put_73 qS nS   C0  zS x6 r_4 x4 H locs ls hP hD hS (lv_sub hl [6] rfl) hf
        · rw [if_neg (not_not_intro c_5)] at hf
          refine lv_lload hx hb dX4_put_65 (lv_at hl 5 rfl) ?_
          refine lv_lneg hx hb dX4_put_67 ?_
          refine lv_goto (tgt := 73) hx hb dX4_put_68 (by decide) ?_
          exact b_X4_put_73 qS nS   C0  zS x6 r_4 (-x4) H locs ls hP hD hS (lv_sub hl [6] rfl) hf
  · rw [if_neg (not_not_intro c_1)] at hf
    refine lv_iload_n hx hb dX4_put_21 rfl (lv_at hl 2 rfl) ?_
    refine lv_iconst (v := 3) hx hb dX4_put_22 (by decide) ?_
    refine lv_icmp_eq (tgt := 95) hx hb dX4_put_23 (by decide) (fun c_6 => ?_) (fun c_6 => ?_)
    · rw [if_pos (c_6)] at hf
      cases hf
      exact W.vret hx hb hr (fun t ht hW => ⟨⟨(), rfl, trivial, toT ht hP⟩, hS.F ht⟩) hS.2.2 dX4_put_95 hlocks
    · rw [if_neg (c_6)] at hf
      refine lv_aload_n hx hb dX4_put_26 rfl (lv_at hl 1 rfl) ?_
      refine lv_iconst (v := 0) hx hb dX4_put_27 (by decide) ?_
      refine lv_iconst (v := 0) hx hb dX4_put_28 (by decide) ?_
      refine lv_iload_n hx hb dX4_put_29 rfl (lv_at hl 4 rfl) ?_
      obtain ⟨r_7, hr_7, hf⟩ := obd hf
      refine cRiS (As := [.int (0 : Int32), .int (0 : Int32), .int x3]) (rest := [.ref (qS 0)]) ⟨hx, hb, hml, hown, hts⟩ (m_X4_keyOf l G cA (0 : Int32) (0 : Int32) x3 r_7 hr_7) (cw_X4_keyOf hts wi_394 ⟨Nat.le_of_ble_eq_true rfl, Nat.le_of_ble_eq_true rfl⟩) hK va_Pnil rfl hl.1 rfl (Nat.le_of_ble_eq_true rfl) dX4_put_30 ⟨Nat.zero_le _, Nat.zero_le _⟩ ?_
      refine lv_lload hx hb dX4_put_33 (lv_at hl 5 rfl) ?_
      refine lv_lload hx hb dX4_put_35 (lv_at hl 6 rfl) ?_
      obtain ⟨r_8, hr_8, hf⟩ := obd hf
      refine cWvV (As := [.int r_7, .long x4, .long x6]) (rest := []) (W1 := ((wSum cA qS nS r_8))) ⟨hx, hb, hml, hown, hts⟩ (m_X4_addUp l G cA qS nS zS r_7 x4 x6 r_8 hr_8) (cw_X4_addUp hts wi_397 ⟨Nat.le_of_ble_eq_true rfl, Nat.le_of_ble_eq_true rfl⟩) hK hP hD hS [0, 1, 2, 3] [4, 5, 6, 7] rfl rfl rfl (by decide) rfl va_Pnil dj_nil (va_recv hK.1 hP (ci := 2) (q0 := 0) rfl rfl) rfl hl.1 rfl (Nat.le_of_ble_eq_true rfl) dX4_put_37 ⟨Nat.zero_le _, Nat.zero_le _⟩ (fun H locs hP hD hS => ?_)
      refine lv_goto (tgt := 95) hx hb dX4_put_40 (by decide) ?_
      cases hf
      exact W.vret hx hb hr (fun t ht hW => ⟨⟨(), rfl, trivial, toT ht hP⟩, hS.F ht⟩) hS.2.2 dX4_put_95 hlocks
def f_X4_put_10 (nS : Nat) (zS : SumS) (x1 : Int32) (x2 : Int32) (x3 : Int32) (x4 : Int64) (x6 : Int64) : Option (SumS) := f_X4_put_15 nS zS x1 x2 x3 x4 x6 (1 : Int32)
set_option maxHeartbeats 4000000 in
set_option maxRecDepth 100000 in
theorem b_X4_put_10 {p : Program} {l : Launch} {e : Env} {s : State} {m : MethodId} {args : Array Value} {below : List Frame} {meth : Method} {c : Code} {G : va_G} {cA : Nat → ClassId} {W9 : va_W} (qS : Nat → Nat) (nS : Nat) (C0 : Amb p s m args meth c cX4_put RX4 9 none G cA (adr W9) []) {res : SumS} : ∀ (zS : SumS) (x1 : Int32) (x2 : Int32) (x3 : Int32) (x4 : Int64) (x6 : Int64) (H : Heap) (locs : List Loc) (ls : Array Slot), va_P G vwCl ((wSum cA qS nS zS)) H → va_D (adr W9) ((wSum cA qS nS zS)) → va_S (adr W9) s.heap H locs → lv_has ls 9 [(0, .ref (qS 0)), (1, .int x1), (2, .int x2), (3, .int x3), (4, .long x4), (6, .long x6)] → f_X4_put_10 nS zS x1 x2 x3 x4 x6 = some res → W p l e rm_X4_put s m args below meth c H locs 0 0 (MQ below (qWv G W9 ((wSum cA qS nS res))) args s 0 0 (adr W9)) (F0 m 10 ls []) := by
  obtain ⟨hx, hb, hr, hml, hown, hts, hlocks, hK, hR, hRA⟩ := id C0
  intro zS x1 x2 x3 x4 x6 H locs ls hP hD hS hl hf
  unfold f_X4_put_10 at hf
  refine lv_iconst (v := 1) hx hb dX4_put_10 (by decide) ?_
  refine lv_goto (tgt := 15) hx hb dX4_put_11 (by decide) ?_
  exact b_X4_put_15 qS nS   C0  zS x1 x2 x3 x4 x6 (1 : Int32) H locs ls hP hD hS (lv_sub hl [0, 1, 2, 3, 4, 5] rfl) hf
def f_X4_put (nS : Nat) (zS : SumS) (a1 : Int32) (a2 : Int32) (a3 : Int32) (a4 : Int64) (a6 : Int64) : Option (SumS) := if a1 = (3 : Int32) then f_X4_put_10 nS zS a1 a2 a3 a4 a6 else if ¬ a1 = (4 : Int32) then f_X4_put_15 nS zS a1 a2 a3 a4 a6 (0 : Int32) else f_X4_put_10 nS zS a1 a2 a3 a4 a6
set_option maxHeartbeats 4000000 in
set_option maxRecDepth 100000 in
theorem b_X4_put_0 {p : Program} {l : Launch} {e : Env} {s : State} {m : MethodId} {args : Array Value} {below : List Frame} {meth : Method} {c : Code} {G : va_G} {cA : Nat → ClassId} {W9 : va_W} (qS : Nat → Nat) (nS : Nat) (C0 : Amb p s m args meth c cX4_put RX4 9 none G cA (adr W9) []) {res : SumS} : ∀ (zS : SumS) (a1 : Int32) (a2 : Int32) (a3 : Int32) (a4 : Int64) (a6 : Int64) (H : Heap) (locs : List Loc) (ls : Array Slot), va_P G vwCl ((wSum cA qS nS zS)) H → va_D (adr W9) ((wSum cA qS nS zS)) → va_S (adr W9) s.heap H locs → lv_has ls 9 [(0, .ref (qS 0)), (1, .int a1), (2, .int a2), (3, .int a3), (4, .long a4), (6, .long a6)] → f_X4_put nS zS a1 a2 a3 a4 a6 = some res → W p l e rm_X4_put s m args below meth c H locs 0 0 (MQ below (qWv G W9 ((wSum cA qS nS res))) args s 0 0 (adr W9)) (F0 m 0 ls []) := by
  obtain ⟨hx, hb, hr, hml, hown, hts, hlocks, hK, hR, hRA⟩ := id C0
  intro zS a1 a2 a3 a4 a6 H locs ls hP hD hS hl hf
  unfold f_X4_put at hf
  refine lv_iload_n hx hb dX4_put_0 rfl (lv_at hl 1 rfl) ?_
  refine lv_iconst (v := 3) hx hb dX4_put_1 (by decide) ?_
  refine lv_icmp_eq (tgt := 10) hx hb dX4_put_2 (by decide) (fun c_1 => ?_) (fun c_1 => ?_)
  · rw [if_pos (c_1)] at hf
    exact b_X4_put_10 qS nS   C0  zS a1 a2 a3 a4 a6 H locs ls hP hD hS (lv_sub hl [0, 1, 2, 3, 4, 5] rfl) hf
  · rw [if_neg (c_1)] at hf
    refine lv_iload_n hx hb dX4_put_5 rfl (lv_at hl 1 rfl) ?_
    refine lv_iconst (v := 4) hx hb dX4_put_6 (by decide) ?_
    refine lv_icmp_ne (tgt := 14) hx hb dX4_put_7 (by decide) (fun c_2 => ?_) (fun c_2 => ?_)
    · rw [if_pos (c_2)] at hf
      refine lv_iconst (v := 0) hx hb dX4_put_14 (by decide) ?_
      exact b_X4_put_15 qS nS   C0  zS a1 a2 a3 a4 a6 (0 : Int32) H locs ls hP hD hS (lv_sub hl [0, 1, 2, 3, 4, 5] rfl) hf
    · rw [if_neg (not_not_intro c_2)] at hf
      exact b_X4_put_10 qS nS   C0  zS a1 a2 a3 a4 a6 H locs ls hP hD hS (lv_sub hl [0, 1, 2, 3, 4, 5] rfl) hf

set_option maxRecDepth 100000 in
theorem m_X4_put (l : Launch) (G : va_G) (cA : Nat → ClassId) (qS : Nat → Nat) (nS : Nat) (zS : SumS) (a1 : Int32) (a2 : Int32) (a3 : Int32) (a4 : Int64) (a6 : Int64) (res : SumS) (hf : f_X4_put nS zS a1 a2 a3 a4 a6 = some res) : MWv l yX4_put (.code yX4_put cX4_put 9 none :: wd) rm_X4_put G cA [.ref (qS 0), .int a1, .int a2, .int a3, .long a4, .long a6] ((wSum cA qS nS zS)) [] ((wSum cA qS nS res)) := by
  refine Met.ofW (cc := cX4_put) (maxL := 9) (ret := none) (by decide) rfl ?_
  intro p e s m args below meth c s₁ B hml hv
  obtain ⟨rfl, hK, hP, hD0, hR, hRA⟩ := hv
  have C0 : Amb p s m ([.ref (qS 0), .int a1, .int a2, .int a3, .long a4, .long a6] : List Value).toArray meth c cX4_put RX4 9 none G cA (adr ((wSum cA qS nS zS))) [] := ⟨B.exec, B.bytes, B.returns, hml, findClass_of_methodNamed B.named, fun w h => atoms_spec (ws := (.code yX4_put cX4_put 9 none :: wd)) B.pre w (List.mem_cons_of_mem _ h), B.notSynchronized, hK, hR, hRA⟩
  have hl := lv_entry ([.ref (qS 0), .int a1, .int a2, .int a3, .long a4, .long a6]) (n := 9) (Nat.le_of_ble_eq_true rfl)
  rw [lg_entry_eq]
  generalize (lg_sl ([.ref (qS 0), .int a1, .int a2, .int a3, .long a4, .long a6]) ++ List.replicate (9 - (lg_sl ([.ref (qS 0), .int a1, .int a2, .int a3, .long a4, .long a6])).length) Slot.unset).toArray = ls at hl ⊢
  have hl : lv_has ls 9 [(0, .ref (qS 0)), (1, .int a1), (2, .int a2), (3, .int a3), (4, .long a4), (6, .long a6)] := hl
  exact b_X4_put_0 (W9 := ((wSum cA qS nS zS))) qS nS   C0 zS a1 a2 a3 a4 a6 s.heap [] ls hP (adr.self hD0) va_S.rf hl hf
theorem cw_X4_put {R : Room} {s : State} {args : Array Value} {own : String} {index : Nat} (ht : ∀ w ∈ wd, w.before args s = true) (hlink : Cond.methodLink own index yX4_put ∈ wd) (hR : rm_X4_put.frames + 1 ≤ R.frames ∧ 8 + (9 + 11) + rm_X4_put.locals ≤ R.locals) : CallW R s args own RX4 index yX4_put cX4_put 9 none (.code yX4_put cX4_put 9 none :: wd) rm_X4_put 0 0 5 := cwV9 5 ht wi_393 wi_391 wi_392 wi_56 hlink (by decide +kernel) rfl rfl hR
def rm_X4_putAll : Room := { frames := 3, cells := 0, slots := 0, locals := 90 }
def f_X4_putAll_3 (nS : Nat) (nT : Nat) (zT : SumS) : Nat → SumS → Int64 → Int64 → Int32 → Option (SumS)
  | 0, _, _, _, _ => none
  | fu + 1, zS, x2, x4, x6 => if (gS_size zT) ≤ x6 then some zS else if inb x6 nT = true then if inb x6 nT = true then if inb x6 nT = true then (f_X4_addUp nS zS (gS_keys zT x6.toNatClampNeg) ((gS_tops zT x6.toNatClampNeg) * x2) ((gS_bots zT x6.toNatClampNeg) * x4)).bind fun r_5 => f_X4_putAll_3 nS nT zT fu r_5 x2 x4 (x6 + 1) else none else none else none
set_option maxHeartbeats 4000000 in
set_option maxRecDepth 100000 in
theorem b_X4_putAll_3 {p : Program} {l : Launch} {e : Env} {s : State} {m : MethodId} {args : Array Value} {below : List Frame} {meth : Method} {c : Code} {G : va_G} {cA : Nat → ClassId} {W9 : va_W} (qS : Nat → Nat) (nS : Nat) (qT : Nat → Nat) (nT : Nat) (zT : SumS) (C0 : Amb p s m args meth c cX4_putAll RX4 7 none G cA (adr W9) ((wSum cA qT nT zT))) {res : SumS} : ∀ (fu : Nat) (zS : SumS) (x2 : Int64) (x4 : Int64) (x6 : Int32) (H : Heap) (locs : List Loc) (ls : Array Slot), va_P G vwCl ((wSum cA qS nS zS)) H → va_D (adr W9) ((wSum cA qS nS zS)) → va_S (adr W9) s.heap H locs → lv_has ls 7 [(0, .ref (qS 0)), (1, .ref (qT 0)), (2, .long x2), (4, .long x4), (6, .int x6)] → f_X4_putAll_3 nS nT zT fu zS x2 x4 x6 = some res → W p l e rm_X4_putAll s m args below meth c H locs 0 0 (MQ below (qWv G W9 ((wSum cA qS nS res))) args s 0 0 (adr W9)) (F0 m 3 ls []) := by
  obtain ⟨hx, hb, hr, hml, hown, hts, hlocks, hK, hR, hRA⟩ := id C0
  intro fu
  induction fu with
  | zero =>
    intro zS x2 x4 x6 H locs ls hP hD hS hl hf
    rw [f_X4_putAll_3] at hf
    cases hf
  | succ fu ih =>
    intro zS x2 x4 x6 H locs ls hP hD hS hl hf
    rw [f_X4_putAll_3] at hf
    refine lv_iload hx hb dX4_putAll_3 (lv_at hl 4 rfl) ?_
    refine lv_aload_n hx hb dX4_putAll_5 rfl (lv_at hl 1 rfl) ?_
    refine va_get (D := G) (ci := 2) (v := .int (gS_size zT)) (C := RX4) (T := TX4) (N := 6) hx hb hts fin_X4 hown hK.1 (roP hR hRA hS) 0 rfl rfl 4 (by decide) (hts _ wi_88) (fun _ h9 => h9) rfl dX4_putAll_6 ?_
    refine lv_icmp_ge (tgt := 48) hx hb dX4_putAll_9 (by decide) (fun c_1 => ?_) (fun c_1 => ?_)
    · rw [if_pos (c_1)] at hf
      cases hf
      exact W.vret hx hb hr (fun t ht hW => ⟨⟨(), rfl, trivial, toT ht hP⟩, hS.F ht⟩) hS.2.2 dX4_putAll_48 hlocks
    · rw [if_neg (c_1)] at hf
      refine lv_aload_n hx hb dX4_putAll_12 rfl (lv_at hl 0 rfl) ?_
      refine lv_aload_n hx hb dX4_putAll_13 rfl (lv_at hl 1 rfl) ?_
      refine va_get (D := G) (ci := 2) (v := .ref (qT 1)) (C := RX4) (T := TX4) (N := 6) hx hb hts fin_X4 hown hK.1 (roP hR hRA hS) 0 rfl rfl 1 (by decide) (hts _ wi_85) (fun _ h9 => h9) rfl dX4_putAll_14 ?_
      refine lv_iload hx hb dX4_putAll_17 (lv_at hl 4 rfl) ?_
      obtain ⟨hi_2, hf⟩ := oif hf
      refine va_iald hx hb hK.1 (roP hR hRA hS) 1 0 rfl rfl (inb_in hi_2) dX4_putAll_19 ?_
      refine lv_aload_n hx hb dX4_putAll_20 rfl (lv_at hl 1 rfl) ?_
      refine va_get (D := G) (ci := 2) (v := .ref (qT 2)) (C := RX4) (T := TX4) (N := 6) hx hb hts fin_X4 hown hK.1 (roP hR hRA hS) 0 rfl rfl 2 (by decide) (hts _ wi_86) (fun _ h9 => h9) rfl dX4_putAll_21 ?_
      refine lv_iload hx hb dX4_putAll_24 (lv_at hl 4 rfl) ?_
      obtain ⟨hi_3, hf⟩ := oif hf
      refine va_lald hx hb hK.1 (roP hR hRA hS) 2 1 rfl rfl (inb_in hi_3) dX4_putAll_26 ?_
      refine lv_lload_n hx hb dX4_putAll_27 rfl (lv_at hl 2 rfl) ?_
      refine lv_lmul hx hb dX4_putAll_28 ?_
      refine lv_aload_n hx hb dX4_putAll_29 rfl (lv_at hl 1 rfl) ?_
      refine va_get (D := G) (ci := 2) (v := .ref (qT 3)) (C := RX4) (T := TX4) (N := 6) hx hb hts fin_X4 hown hK.1 (roP hR hRA hS) 0 rfl rfl 3 (by decide) (hts _ wi_87) (fun _ h9 => h9) rfl dX4_putAll_30 ?_
      refine lv_iload hx hb dX4_putAll_33 (lv_at hl 4 rfl) ?_
      obtain ⟨hi_4, hf⟩ := oif hf
      refine va_lald hx hb hK.1 (roP hR hRA hS) 3 1 rfl rfl (inb_in hi_4) dX4_putAll_35 ?_
      refine lv_lload hx hb dX4_putAll_36 (lv_at hl 3 rfl) ?_
      refine lv_lmul hx hb dX4_putAll_38 ?_
      obtain ⟨r_5, hr_5, hf⟩ := obd hf
      refine cWvV (As := [.int (gS_keys zT x6.toNatClampNeg), .long ((gS_tops zT x6.toNatClampNeg) * x2), .long ((gS_bots zT x6.toNatClampNeg) * x4)]) (rest := []) (W1 := ((wSum cA qS nS r_5))) ⟨hx, hb, hml, hown, hts⟩ (m_X4_addUp l G cA qS nS zS (gS_keys zT x6.toNatClampNeg) ((gS_tops zT x6.toNatClampNeg) * x2) ((gS_bots zT x6.toNatClampNeg) * x4) r_5 hr_5) (cw_X4_addUp hts wi_397 ⟨Nat.le_of_ble_eq_true rfl, Nat.le_of_ble_eq_true rfl⟩) hK hP hD hS [0, 1, 2, 3] [4, 5, 6, 7] rfl rfl rfl (by decide) rfl va_Pnil dj_nil (va_recv hK.1 hP (ci := 2) (q0 := 0) rfl rfl) rfl hl.1 rfl (Nat.le_of_ble_eq_true rfl) dX4_putAll_39 ⟨Nat.zero_le _, Nat.zero_le _⟩ (fun H locs hP hD hS => ?_)
      refine lv_iinc (v := (x6 + 1)) (lv' := [(6, .int (x6 + 1)), (0, .ref (qS 0)), (1, .ref (qT 0)), (2, .long x2), (4, .long x4)]) hx hb dX4_putAll_42 hl (k := 4) rfl rfl (by decide) rfl (fun ls hl => ?_)
      refine lv_goto (tgt := 3) hx hb dX4_putAll_45 (by decide) ?_
      exact ih r_5 x2 x4 (x6 + 1) H locs ls hP hD hS (lv_sub hl [1, 2, 3, 4, 0] rfl) hf
def f_X4_putAll (nS : Nat) (nT : Nat) (zT : SumS) (zS : SumS) (a2 : Int64) (a4 : Int64) : Option (SumS) := f_X4_putAll_3 nS nT zT fuel zS a2 a4 (0 : Int32)
set_option maxHeartbeats 4000000 in
set_option maxRecDepth 100000 in
theorem b_X4_putAll_0 {p : Program} {l : Launch} {e : Env} {s : State} {m : MethodId} {args : Array Value} {below : List Frame} {meth : Method} {c : Code} {G : va_G} {cA : Nat → ClassId} {W9 : va_W} (qS : Nat → Nat) (nS : Nat) (qT : Nat → Nat) (nT : Nat) (zT : SumS) (C0 : Amb p s m args meth c cX4_putAll RX4 7 none G cA (adr W9) ((wSum cA qT nT zT))) {res : SumS} : ∀ (zS : SumS) (a2 : Int64) (a4 : Int64) (H : Heap) (locs : List Loc) (ls : Array Slot), va_P G vwCl ((wSum cA qS nS zS)) H → va_D (adr W9) ((wSum cA qS nS zS)) → va_S (adr W9) s.heap H locs → lv_has ls 7 [(0, .ref (qS 0)), (1, .ref (qT 0)), (2, .long a2), (4, .long a4)] → f_X4_putAll nS nT zT zS a2 a4 = some res → W p l e rm_X4_putAll s m args below meth c H locs 0 0 (MQ below (qWv G W9 ((wSum cA qS nS res))) args s 0 0 (adr W9)) (F0 m 0 ls []) := by
  obtain ⟨hx, hb, hr, hml, hown, hts, hlocks, hK, hR, hRA⟩ := id C0
  intro zS a2 a4 H locs ls hP hD hS hl hf
  unfold f_X4_putAll at hf
  refine lv_iconst (v := 0) hx hb dX4_putAll_0 (by decide) ?_
  refine lv_istore (lv' := [(6, .int (0 : Int32)), (0, .ref (qS 0)), (1, .ref (qT 0)), (2, .long a2), (4, .long a4)]) hx hb dX4_putAll_1 hl (by decide) rfl (fun ls hl => ?_)
  exact b_X4_putAll_3 qS nS qT nT  zT C0  fuel zS a2 a4 (0 : Int32) H locs ls hP hD hS (lv_sub hl [1, 2, 3, 4, 0] rfl) hf

set_option maxRecDepth 100000 in
theorem m_X4_putAll (l : Launch) (G : va_G) (cA : Nat → ClassId) (qS : Nat → Nat) (nS : Nat) (qT : Nat → Nat) (nT : Nat) (zT : SumS) (zS : SumS) (a2 : Int64) (a4 : Int64) (res : SumS) (hf : f_X4_putAll nS nT zT zS a2 a4 = some res) : MWv l yX4_putAll (.code yX4_putAll cX4_putAll 7 none :: wd) rm_X4_putAll G cA [.ref (qS 0), .ref (qT 0), .long a2, .long a4] ((wSum cA qS nS zS)) ((wSum cA qT nT zT)) ((wSum cA qS nS res)) := by
  refine Met.ofW (cc := cX4_putAll) (maxL := 7) (ret := none) (by decide) rfl ?_
  intro p e s m args below meth c s₁ B hml hv
  obtain ⟨rfl, hK, hP, hD0, hR, hRA⟩ := hv
  have C0 : Amb p s m ([.ref (qS 0), .ref (qT 0), .long a2, .long a4] : List Value).toArray meth c cX4_putAll RX4 7 none G cA (adr ((wSum cA qS nS zS))) ((wSum cA qT nT zT)) := ⟨B.exec, B.bytes, B.returns, hml, findClass_of_methodNamed B.named, fun w h => atoms_spec (ws := (.code yX4_putAll cX4_putAll 7 none :: wd)) B.pre w (List.mem_cons_of_mem _ h), B.notSynchronized, hK, hR, hRA⟩
  have hl := lv_entry ([.ref (qS 0), .ref (qT 0), .long a2, .long a4]) (n := 7) (Nat.le_of_ble_eq_true rfl)
  rw [lg_entry_eq]
  generalize (lg_sl ([.ref (qS 0), .ref (qT 0), .long a2, .long a4]) ++ List.replicate (7 - (lg_sl ([.ref (qS 0), .ref (qT 0), .long a2, .long a4])).length) Slot.unset).toArray = ls at hl ⊢
  have hl : lv_has ls 7 [(0, .ref (qS 0)), (1, .ref (qT 0)), (2, .long a2), (4, .long a4)] := hl
  exact b_X4_putAll_0 (W9 := ((wSum cA qS nS zS))) qS nS qT nT  zT C0 zS a2 a4 s.heap [] ls hP (adr.self hD0) va_S.rf hl hf
theorem cw_X4_putAll {R : Room} {s : State} {args : Array Value} {own : String} {index : Nat} (ht : ∀ w ∈ wd, w.before args s = true) (hlink : Cond.methodLink own index yX4_putAll ∈ wd) (hR : rm_X4_putAll.frames + 1 ≤ R.frames ∧ 8 + (7 + 11) + rm_X4_putAll.locals ≤ R.locals) : CallW R s args own RX4 index yX4_putAll cX4_putAll 7 none (.code yX4_putAll cX4_putAll 7 none :: wd) rm_X4_putAll 0 0 3 := cwV9 3 ht wi_549 wi_547 wi_548 wi_56 hlink (by decide +kernel) rfl rfl hR
def rm_X4_become : Room := { frames := 1, cells := 0, slots := 0, locals := 30 }
def f_X4_become_25 (nS : Nat) (nT : Nat) (zT : SumS) : Nat → SumS → Int32 → Option (SumS)
  | 0, _, _ => none
  | fu + 1, zS, x2 => if (gS_size zS) ≤ x2 then some zS else if inb x2 nT = true then if inb x2 nS = true then if inb x2 nT = true then if inb x2 nS = true then if inb x2 nT = true then if inb x2 nS = true then f_X4_become_25 nS nT zT fu (uS_bots (uS_tops (uS_keys zS (upd (gS_keys zS) x2.toNatClampNeg (gS_keys zT x2.toNatClampNeg))) (vp_updL (gS_tops (uS_keys zS (upd (gS_keys zS) x2.toNatClampNeg (gS_keys zT x2.toNatClampNeg)))) x2.toNatClampNeg (gS_tops zT x2.toNatClampNeg))) (vp_updL (gS_bots (uS_tops (uS_keys zS (upd (gS_keys zS) x2.toNatClampNeg (gS_keys zT x2.toNatClampNeg))) (vp_updL (gS_tops (uS_keys zS (upd (gS_keys zS) x2.toNatClampNeg (gS_keys zT x2.toNatClampNeg)))) x2.toNatClampNeg (gS_tops zT x2.toNatClampNeg)))) x2.toNatClampNeg (gS_bots zT x2.toNatClampNeg))) (x2 + 1) else none else none else none else none else none else none
set_option maxHeartbeats 4000000 in
set_option maxRecDepth 100000 in
theorem b_X4_become_25 {p : Program} {l : Launch} {e : Env} {s : State} {m : MethodId} {args : Array Value} {below : List Frame} {meth : Method} {c : Code} {G : va_G} {cA : Nat → ClassId} {W9 : va_W} (qS : Nat → Nat) (nS : Nat) (qT : Nat → Nat) (nT : Nat) (zT : SumS) (C0 : Amb p s m args meth c cX4_become RX4 3 none G cA (adr W9) ((wSum cA qT nT zT))) {res : SumS} : ∀ (fu : Nat) (zS : SumS) (x2 : Int32) (H : Heap) (locs : List Loc) (ls : Array Slot), va_P G vwCl ((wSum cA qS nS zS)) H → va_D (adr W9) ((wSum cA qS nS zS)) → va_S (adr W9) s.heap H locs → lv_has ls 3 [(0, .ref (qS 0)), (1, .ref (qT 0)), (2, .int x2)] → f_X4_become_25 nS nT zT fu zS x2 = some res → W p l e rm_X4_become s m args below meth c H locs 0 0 (MQ below (qWv G W9 ((wSum cA qS nS res))) args s 0 0 (adr W9)) (F0 m 25 ls []) := by
  obtain ⟨hx, hb, hr, hml, hown, hts, hlocks, hK, hR, hRA⟩ := id C0
  intro fu
  induction fu with
  | zero =>
    intro zS x2 H locs ls hP hD hS hl hf
    rw [f_X4_become_25] at hf
    cases hf
  | succ fu ih =>
    intro zS x2 H locs ls hP hD hS hl hf
    rw [f_X4_become_25] at hf
    refine lv_iload_n hx hb dX4_become_25 rfl (lv_at hl 2 rfl) ?_
    refine lv_aload_n hx hb dX4_become_26 rfl (lv_at hl 0 rfl) ?_
    refine va_get (D := G) (ci := 2) (v := .int (gS_size zS)) (C := RX4) (T := TX4) (N := 6) hx hb hts fin_X4 hown hK.1 hP 0 rfl rfl 4 (by decide) (hts _ wi_88) (fun _ h9 => h9) rfl dX4_become_27 ?_
    refine lv_icmp_ge (tgt := 75) hx hb dX4_become_30 (by decide) (fun c_1 => ?_) (fun c_1 => ?_)
    · rw [if_pos (c_1)] at hf
      cases hf
      exact W.vret hx hb hr (fun t ht hW => ⟨⟨(), rfl, trivial, toT ht hP⟩, hS.F ht⟩) hS.2.2 dX4_become_75 hlocks
    · rw [if_neg (c_1)] at hf
      refine lv_aload_n hx hb dX4_become_33 rfl (lv_at hl 0 rfl) ?_
      refine va_get (D := G) (ci := 2) (v := .ref (qS 1)) (C := RX4) (T := TX4) (N := 6) hx hb hts fin_X4 hown hK.1 hP 0 rfl rfl 1 (by decide) (hts _ wi_85) (fun _ h9 => h9) rfl dX4_become_34 ?_
      refine lv_iload_n hx hb dX4_become_37 rfl (lv_at hl 2 rfl) ?_
      refine lv_aload_n hx hb dX4_become_38 rfl (lv_at hl 1 rfl) ?_
      refine va_get (D := G) (ci := 2) (v := .ref (qT 1)) (C := RX4) (T := TX4) (N := 6) hx hb hts fin_X4 hown hK.1 (roP hR hRA hS) 0 rfl rfl 1 (by decide) (hts _ wi_85) (fun _ h9 => h9) rfl dX4_become_39 ?_
      refine lv_iload_n hx hb dX4_become_42 rfl (lv_at hl 2 rfl) ?_
      obtain ⟨hi_2, hf⟩ := oif hf
      refine va_iald hx hb hK.1 (roP hR hRA hS) 1 0 rfl rfl (inb_in hi_2) dX4_become_43 ?_
      obtain ⟨hi_3, hf⟩ := oif hf
      refine va_iast hx hb hK.1 hP hD hS 1 0 rfl rfl (inb_in hi_3) dX4_become_44 (fun H locs hP hD hS => ?_)
      have hP := sS_keys_P hP
      have hD := sS_keys_D hD
      refine lv_aload_n hx hb dX4_become_45 rfl (lv_at hl 0 rfl) ?_
      refine va_get (D := G) (ci := 2) (v := .ref (qS 2)) (C := RX4) (T := TX4) (N := 6) hx hb hts fin_X4 hown hK.1 hP 0 rfl rfl 2 (by decide) (hts _ wi_86) (fun _ h9 => h9) rfl dX4_become_46 ?_
      refine lv_iload_n hx hb dX4_become_49 rfl (lv_at hl 2 rfl) ?_
      refine lv_aload_n hx hb dX4_become_50 rfl (lv_at hl 1 rfl) ?_
      refine va_get (D := G) (ci := 2) (v := .ref (qT 2)) (C := RX4) (T := TX4) (N := 6) hx hb hts fin_X4 hown hK.1 (roP hR hRA hS) 0 rfl rfl 2 (by decide) (hts _ wi_86) (fun _ h9 => h9) rfl dX4_become_51 ?_
      refine lv_iload_n hx hb dX4_become_54 rfl (lv_at hl 2 rfl) ?_
      obtain ⟨hi_4, hf⟩ := oif hf
      refine va_lald hx hb hK.1 (roP hR hRA hS) 2 1 rfl rfl (inb_in hi_4) dX4_become_55 ?_
      obtain ⟨hi_5, hf⟩ := oif hf
      refine va_last hx hb hK.1 hP hD hS 2 1 rfl rfl (inb_in hi_5) dX4_become_56 (fun H locs hP hD hS => ?_)
      have hP := sS_tops_P hP
      have hD := sS_tops_D hD
      refine lv_aload_n hx hb dX4_become_57 rfl (lv_at hl 0 rfl) ?_
      refine va_get (D := G) (ci := 2) (v := .ref (qS 3)) (C := RX4) (T := TX4) (N := 6) hx hb hts fin_X4 hown hK.1 hP 0 rfl rfl 3 (by decide) (hts _ wi_87) (fun _ h9 => h9) rfl dX4_become_58 ?_
      refine lv_iload_n hx hb dX4_become_61 rfl (lv_at hl 2 rfl) ?_
      refine lv_aload_n hx hb dX4_become_62 rfl (lv_at hl 1 rfl) ?_
      refine va_get (D := G) (ci := 2) (v := .ref (qT 3)) (C := RX4) (T := TX4) (N := 6) hx hb hts fin_X4 hown hK.1 (roP hR hRA hS) 0 rfl rfl 3 (by decide) (hts _ wi_87) (fun _ h9 => h9) rfl dX4_become_63 ?_
      refine lv_iload_n hx hb dX4_become_66 rfl (lv_at hl 2 rfl) ?_
      obtain ⟨hi_6, hf⟩ := oif hf
      refine va_lald hx hb hK.1 (roP hR hRA hS) 3 1 rfl rfl (inb_in hi_6) dX4_become_67 ?_
      obtain ⟨hi_7, hf⟩ := oif hf
      refine va_last hx hb hK.1 hP hD hS 3 1 rfl rfl (inb_in hi_7) dX4_become_68 (fun H locs hP hD hS => ?_)
      have hP := sS_bots_P hP
      have hD := sS_bots_D hD
      refine lv_iinc (v := (x2 + 1)) (lv' := [(2, .int (x2 + 1)), (0, .ref (qS 0)), (1, .ref (qT 0))]) hx hb dX4_become_69 hl (k := 2) rfl rfl (by decide) rfl (fun ls hl => ?_)
      refine lv_goto (tgt := 25) hx hb dX4_become_72 (by decide) ?_
      exact ih (uS_bots (uS_tops (uS_keys zS (upd (gS_keys zS) x2.toNatClampNeg (gS_keys zT x2.toNatClampNeg))) (vp_updL (gS_tops (uS_keys zS (upd (gS_keys zS) x2.toNatClampNeg (gS_keys zT x2.toNatClampNeg)))) x2.toNatClampNeg (gS_tops zT x2.toNatClampNeg))) (vp_updL (gS_bots (uS_tops (uS_keys zS (upd (gS_keys zS) x2.toNatClampNeg (gS_keys zT x2.toNatClampNeg))) (vp_updL (gS_tops (uS_keys zS (upd (gS_keys zS) x2.toNatClampNeg (gS_keys zT x2.toNatClampNeg)))) x2.toNatClampNeg (gS_tops zT x2.toNatClampNeg)))) x2.toNatClampNeg (gS_bots zT x2.toNatClampNeg))) (x2 + 1) H locs ls hP hD hS (lv_sub hl [1, 2, 0] rfl) hf
def f_X4_become (nS : Nat) (nT : Nat) (zT : SumS) (zS : SumS) : Option (SumS) := if zb (gS_ov zT) = true then f_X4_become_25 nS nT zT fuel (uS_ov (uS_size zS (mmin32 (gS_size zT) (nI nS))) (gS_ov zT)) (0 : Int32) else none
set_option maxHeartbeats 4000000 in
set_option maxRecDepth 100000 in
theorem b_X4_become_0 {p : Program} {l : Launch} {e : Env} {s : State} {m : MethodId} {args : Array Value} {below : List Frame} {meth : Method} {c : Code} {G : va_G} {cA : Nat → ClassId} {W9 : va_W} (qS : Nat → Nat) (nS : Nat) (qT : Nat → Nat) (nT : Nat) (zT : SumS) (C0 : Amb p s m args meth c cX4_become RX4 3 none G cA (adr W9) ((wSum cA qT nT zT))) {res : SumS} : ∀ (zS : SumS) (H : Heap) (locs : List Loc) (ls : Array Slot), va_P G vwCl ((wSum cA qS nS zS)) H → va_D (adr W9) ((wSum cA qS nS zS)) → va_S (adr W9) s.heap H locs → lv_has ls 3 [(0, .ref (qS 0)), (1, .ref (qT 0))] → f_X4_become nS nT zT zS = some res → W p l e rm_X4_become s m args below meth c H locs 0 0 (MQ below (qWv G W9 ((wSum cA qS nS res))) args s 0 0 (adr W9)) (F0 m 0 ls []) := by
  obtain ⟨hx, hb, hr, hml, hown, hts, hlocks, hK, hR, hRA⟩ := id C0
  intro zS H locs ls hP hD hS hl hf
  unfold f_X4_become at hf
  refine lv_aload_n hx hb dX4_become_0 rfl (lv_at hl 0 rfl) ?_
  refine lv_aload_n hx hb dX4_become_1 rfl (lv_at hl 1 rfl) ?_
  refine va_get (D := G) (ci := 2) (v := .int (gS_size zT)) (C := RX4) (T := TX4) (N := 6) hx hb hts fin_X4 hown hK.1 (roP hR hRA hS) 0 rfl rfl 4 (by decide) (hts _ wi_88) (fun _ h9 => h9) rfl dX4_become_2 ?_
  refine lv_aload_n hx hb dX4_become_5 rfl (lv_at hl 0 rfl) ?_
  refine va_get (D := G) (ci := 2) (v := .int (nI nS)) (C := RX4) (T := TX4) (N := 6) hx hb hts fin_X4 hown hK.1 hP 0 rfl rfl 0 (by decide) (hts _ wi_84) (fun _ h9 => h9) rfl dX4_become_6 ?_
  refine k_min32 hx hb (hml.trans hl.1.symm) hown hts wi_457 (Nat.le_of_ble_eq_true rfl) (Nat.le_of_ble_eq_true rfl) (Nat.zero_le _) (Nat.zero_le _) dX4_become_9 ?_
  refine va_put (D := G) (ci := 2) (v := .int (mmin32 (gS_size zT) (nI nS))) (ty := .int) (C := RX4) (T := TX4) (N := 6) hx hb hts fin_X4 tyX4 tyX4_ok nmX4 hown hK.1 hP hD hS 0 rfl rfl 4 (by decide) (hts _ wi_88) (fun _ h9 => h9) rfl (by decide +kernel) rfl rfl (Nat.le_of_ble_eq_true rfl) dX4_become_12 (fun H locs hP hD hS => ?_)
  have hP := sS_size_P hP
  have hD := sS_size_D hD
  refine lv_aload_n hx hb dX4_become_15 rfl (lv_at hl 0 rfl) ?_
  refine lv_aload_n hx hb dX4_become_16 rfl (lv_at hl 1 rfl) ?_
  refine va_get (D := G) (ci := 2) (v := .int (gS_ov zT)) (C := RX4) (T := TX4) (N := 6) hx hb hts fin_X4 hown hK.1 (roP hR hRA hS) 0 rfl rfl 5 (by decide) (hts _ wi_89) (fun _ h9 => h9) rfl dX4_become_17 ?_
  obtain ⟨hz_1, hf⟩ := oif hf
  refine va_put (D := G) (ci := 2) (v := .int (gS_ov zT)) (ty := .boolean) (C := RX4) (T := TX4) (N := 6) hx hb hts fin_X4 tyX4 tyX4_ok nmX4 hown hK.1 hP hD hS 0 rfl rfl 5 (by decide) (hts _ wi_89) (fun _ h9 => h9) rfl (by decide +kernel) (zb_n hz_1) (zb_f hz_1) (Nat.le_of_ble_eq_true rfl) dX4_become_20 (fun H locs hP hD hS => ?_)
  have hP := sS_ov_P hP
  have hD := sS_ov_D hD
  refine lv_iconst (v := 0) hx hb dX4_become_23 (by decide) ?_
  refine lv_istore_n (lv' := [(2, .int (0 : Int32)), (0, .ref (qS 0)), (1, .ref (qT 0))]) hx hb dX4_become_24 rfl hl (by decide) rfl (fun ls hl => ?_)
  exact b_X4_become_25 qS nS qT nT  zT C0  fuel (uS_ov (uS_size zS (mmin32 (gS_size zT) (nI nS))) (gS_ov zT)) (0 : Int32) H locs ls hP hD hS (lv_sub hl [1, 2, 0] rfl) hf

set_option maxRecDepth 100000 in
theorem m_X4_become (l : Launch) (G : va_G) (cA : Nat → ClassId) (qS : Nat → Nat) (nS : Nat) (qT : Nat → Nat) (nT : Nat) (zT : SumS) (zS : SumS) (res : SumS) (hf : f_X4_become nS nT zT zS = some res) : MWv l yX4_become (.code yX4_become cX4_become 3 none :: wd) rm_X4_become G cA [.ref (qS 0), .ref (qT 0)] ((wSum cA qS nS zS)) ((wSum cA qT nT zT)) ((wSum cA qS nS res)) := by
  refine Met.ofW (cc := cX4_become) (maxL := 3) (ret := none) (by decide) rfl ?_
  intro p e s m args below meth c s₁ B hml hv
  obtain ⟨rfl, hK, hP, hD0, hR, hRA⟩ := hv
  have C0 : Amb p s m ([.ref (qS 0), .ref (qT 0)] : List Value).toArray meth c cX4_become RX4 3 none G cA (adr ((wSum cA qS nS zS))) ((wSum cA qT nT zT)) := ⟨B.exec, B.bytes, B.returns, hml, findClass_of_methodNamed B.named, fun w h => atoms_spec (ws := (.code yX4_become cX4_become 3 none :: wd)) B.pre w (List.mem_cons_of_mem _ h), B.notSynchronized, hK, hR, hRA⟩
  have hl := lv_entry ([.ref (qS 0), .ref (qT 0)]) (n := 3) (Nat.le_of_ble_eq_true rfl)
  rw [lg_entry_eq]
  generalize (lg_sl ([.ref (qS 0), .ref (qT 0)]) ++ List.replicate (3 - (lg_sl ([.ref (qS 0), .ref (qT 0)])).length) Slot.unset).toArray = ls at hl ⊢
  have hl : lv_has ls 3 [(0, .ref (qS 0)), (1, .ref (qT 0))] := hl
  exact b_X4_become_0 (W9 := ((wSum cA qS nS zS))) qS nS qT nT  zT C0 zS s.heap [] ls hP (adr.self hD0) va_S.rf hl hf
theorem cw_X4_become {R : Room} {s : State} {args : Array Value} {own : String} {index : Nat} (ht : ∀ w ∈ wd, w.before args s = true) (hlink : Cond.methodLink own index yX4_become ∈ wd) (hR : rm_X4_become.frames + 1 ≤ R.frames ∧ 8 + (3 + 11) + rm_X4_become.locals ≤ R.locals) : CallW R s args own RX4 index yX4_become cX4_become 3 none (.code yX4_become cX4_become 3 none :: wd) rm_X4_become 0 0 1 := cwV9 1 ht wi_456 wi_454 wi_455 wi_56 hlink (by decide +kernel) rfl rfl hR
def rm_X4_matches : Room := { frames := 0, cells := 0, slots := 0, locals := 0 }
def f_X4_matches_15 (nS : Nat) (nT : Nat) (zS : SumS) (zT : SumS) : Nat → Int32 → Option (Int32)
  | 0, _ => none
  | fu + 1, x2 => if (gS_size zS) ≤ x2 then some (1 : Int32) else if inb x2 nS = true then if inb x2 nT = true then if ¬ (gS_keys zS x2.toNatClampNeg) = (gS_keys zT x2.toNatClampNeg) then some (0 : Int32) else if inb x2 nS = true then if inb x2 nT = true then if ¬ (gS_tops zS x2.toNatClampNeg) = (gS_tops zT x2.toNatClampNeg) then some (0 : Int32) else if inb x2 nS = true then if inb x2 nT = true then if (gS_bots zS x2.toNatClampNeg) = (gS_bots zT x2.toNatClampNeg) then f_X4_matches_15 nS nT zS zT fu (x2 + 1) else some (0 : Int32) else none else none else none else none else none else none
set_option maxHeartbeats 4000000 in
set_option maxRecDepth 100000 in
theorem b_X4_matches_15 {p : Program} {l : Launch} {e : Env} {s : State} {m : MethodId} {args : Array Value} {below : List Frame} {meth : Method} {c : Code} {G : va_G} {cA : Nat → ClassId} (qS : Nat → Nat) (nS : Nat) (qT : Nat → Nat) (nT : Nat) (zS : SumS) (zT : SumS) (C0 : Amb p s m args meth c cX4_matches RX4 3 (some .boolean) G cA (fun _ : Nat => False) ((wSum cA qS nS zS) ++ (wSum cA qT nT zT))) {res : Int32} : ∀ (fu : Nat) (x2 : Int32) (ls : Array Slot), lv_has ls 3 [(0, .ref (qS 0)), (1, .ref (qT 0)), (2, .int x2)] → f_X4_matches_15 nS nT zS zT fu x2 = some res → W p l e rm_X4_matches s m args below meth c s.heap [] 0 0 (MQ below (vp_Si (fun x => x = res)) args s 0 0 (fun _ : Nat => False)) (F0 m 15 ls []) := by
  obtain ⟨hx, hb, hr, hml, hown, hts, hlocks, hK, hR, hRA⟩ := id C0
  intro fu
  induction fu with
  | zero =>
    intro x2 ls hl hf
    rw [f_X4_matches_15] at hf
    cases hf
  | succ fu ih =>
    intro x2 ls hl hf
    rw [f_X4_matches_15] at hf
    refine lv_iload_n hx hb dX4_matches_15 rfl (lv_at hl 2 rfl) ?_
    refine lv_aload_n hx hb dX4_matches_16 rfl (lv_at hl 0 rfl) ?_
    refine va_get (D := G) (ci := 2) (v := .int (gS_size zS)) (C := RX4) (T := TX4) (N := 6) hx hb hts fin_X4 hown hK.1 hR 0 rfl rfl 4 (by decide) (hts _ wi_88) (fun _ h9 => h9) rfl dX4_matches_17 ?_
    refine lv_icmp_ge (tgt := 78) hx hb dX4_matches_20 (by decide) (fun c_1 => ?_) (fun c_1 => ?_)
    · rw [if_pos (c_1)] at hf
      refine lv_iconst (v := 1) hx hb dX4_matches_78 (by decide) ?_
      cases hf
      exact W.zret hx hb hr (by decide) (fun t ht hW => ⟨_, rfl, rfl, ht⟩) (fun q hq => by cases hq) dX4_matches_79 hlocks
    · rw [if_neg (c_1)] at hf
      refine lv_aload_n hx hb dX4_matches_23 rfl (lv_at hl 0 rfl) ?_
      refine va_get (D := G) (ci := 2) (v := .ref (qS 1)) (C := RX4) (T := TX4) (N := 6) hx hb hts fin_X4 hown hK.1 hR 0 rfl rfl 1 (by decide) (hts _ wi_85) (fun _ h9 => h9) rfl dX4_matches_24 ?_
      refine lv_iload_n hx hb dX4_matches_27 rfl (lv_at hl 2 rfl) ?_
      obtain ⟨hi_2, hf⟩ := oif hf
      refine va_iald hx hb hK.1 hR 1 0 rfl rfl (inb_in hi_2) dX4_matches_28 ?_
      refine lv_aload_n hx hb dX4_matches_29 rfl (lv_at hl 1 rfl) ?_
      refine va_get (D := G) (ci := 2) (v := .ref (qT 1)) (C := RX4) (T := TX4) (N := 6) hx hb hts fin_X4 hown hK.1 hR 4 rfl rfl 1 (by decide) (hts _ wi_85) (fun _ h9 => h9) rfl dX4_matches_30 ?_
      refine lv_iload_n hx hb dX4_matches_33 rfl (lv_at hl 2 rfl) ?_
      obtain ⟨hi_3, hf⟩ := oif hf
      refine va_iald hx hb hK.1 hR 5 0 rfl rfl (inb_in hi_3) dX4_matches_34 ?_
      refine lv_icmp_ne (tgt := 70) hx hb dX4_matches_35 (by decide) (fun c_4 => ?_) (fun c_4 => ?_)
      · rw [if_pos (c_4)] at hf
        refine lv_iconst (v := 0) hx hb dX4_matches_70 (by decide) ?_
        cases hf
        exact W.zret hx hb hr (by decide) (fun t ht hW => ⟨_, rfl, rfl, ht⟩) (fun q hq => by cases hq) dX4_matches_71 hlocks
      · rw [if_neg (not_not_intro c_4)] at hf
        refine lv_aload_n hx hb dX4_matches_38 rfl (lv_at hl 0 rfl) ?_
        refine va_get (D := G) (ci := 2) (v := .ref (qS 2)) (C := RX4) (T := TX4) (N := 6) hx hb hts fin_X4 hown hK.1 hR 0 rfl rfl 2 (by decide) (hts _ wi_86) (fun _ h9 => h9) rfl dX4_matches_39 ?_
        refine lv_iload_n hx hb dX4_matches_42 rfl (lv_at hl 2 rfl) ?_
        obtain ⟨hi_5, hf⟩ := oif hf
        refine va_lald hx hb hK.1 hR 2 1 rfl rfl (inb_in hi_5) dX4_matches_43 ?_
        refine lv_aload_n hx hb dX4_matches_44 rfl (lv_at hl 1 rfl) ?_
        refine va_get (D := G) (ci := 2) (v := .ref (qT 2)) (C := RX4) (T := TX4) (N := 6) hx hb hts fin_X4 hown hK.1 hR 4 rfl rfl 2 (by decide) (hts _ wi_86) (fun _ h9 => h9) rfl dX4_matches_45 ?_
        refine lv_iload_n hx hb dX4_matches_48 rfl (lv_at hl 2 rfl) ?_
        obtain ⟨hi_6, hf⟩ := oif hf
        refine va_lald hx hb hK.1 hR 6 1 rfl rfl (inb_in hi_6) dX4_matches_49 ?_
        refine W.lcmp hx hb dX4_matches_50 ?_
        refine lv_if_ne (tgt := 70) hx hb dX4_matches_51 (by decide) (fun c_7 => ?_) (fun c_7 => ?_)
        · rw [if_pos (fun h => c_7 ((lg_cmp_eq _ _).mpr h))] at hf
          refine lv_iconst (v := 0) hx hb dX4_matches_70 (by decide) ?_
          cases hf
          exact W.zret hx hb hr (by decide) (fun t ht hW => ⟨_, rfl, rfl, ht⟩) (fun q hq => by cases hq) dX4_matches_71 hlocks
        · rw [if_neg (fun h => h ((lg_cmp_eq _ _).mp c_7))] at hf
          refine lv_aload_n hx hb dX4_matches_54 rfl (lv_at hl 0 rfl) ?_
          refine va_get (D := G) (ci := 2) (v := .ref (qS 3)) (C := RX4) (T := TX4) (N := 6) hx hb hts fin_X4 hown hK.1 hR 0 rfl rfl 3 (by decide) (hts _ wi_87) (fun _ h9 => h9) rfl dX4_matches_55 ?_
          refine lv_iload_n hx hb dX4_matches_58 rfl (lv_at hl 2 rfl) ?_
          obtain ⟨hi_8, hf⟩ := oif hf
          refine va_lald hx hb hK.1 hR 3 1 rfl rfl (inb_in hi_8) dX4_matches_59 ?_
          refine lv_aload_n hx hb dX4_matches_60 rfl (lv_at hl 1 rfl) ?_
          refine va_get (D := G) (ci := 2) (v := .ref (qT 3)) (C := RX4) (T := TX4) (N := 6) hx hb hts fin_X4 hown hK.1 hR 4 rfl rfl 3 (by decide) (hts _ wi_87) (fun _ h9 => h9) rfl dX4_matches_61 ?_
          refine lv_iload_n hx hb dX4_matches_64 rfl (lv_at hl 2 rfl) ?_
          obtain ⟨hi_9, hf⟩ := oif hf
          refine va_lald hx hb hK.1 hR 7 1 rfl rfl (inb_in hi_9) dX4_matches_65 ?_
          refine W.lcmp hx hb dX4_matches_66 ?_
          refine lv_if_eq (tgt := 72) hx hb dX4_matches_67 (by decide) (fun c_10 => ?_) (fun c_10 => ?_)
          · rw [if_pos ((lg_cmp_eq _ _).mp c_10)] at hf
            refine lv_iinc (v := (x2 + 1)) (lv' := [(2, .int (x2 + 1)), (0, .ref (qS 0)), (1, .ref (qT 0))]) hx hb dX4_matches_72 hl (k := 2) rfl rfl (by decide) rfl (fun ls hl => ?_)
            refine lv_goto (tgt := 15) hx hb dX4_matches_75 (by decide) ?_
            exact ih (x2 + 1) ls (lv_sub hl [1, 2, 0] rfl) hf
          · rw [if_neg (fun h => c_10 ((lg_cmp_eq _ _).mpr h))] at hf
            refine lv_iconst (v := 0) hx hb dX4_matches_70 (by decide) ?_
            cases hf
            exact W.zret hx hb hr (by decide) (fun t ht hW => ⟨_, rfl, rfl, ht⟩) (fun q hq => by cases hq) dX4_matches_71 hlocks
def f_X4_matches (nS : Nat) (nT : Nat) (zS : SumS) (zT : SumS) : Option (Int32) := if (gS_size zS) = (gS_size zT) then f_X4_matches_15 nS nT zS zT fuel (0 : Int32) else some (0 : Int32)
set_option maxHeartbeats 4000000 in
set_option maxRecDepth 100000 in
theorem b_X4_matches_0 {p : Program} {l : Launch} {e : Env} {s : State} {m : MethodId} {args : Array Value} {below : List Frame} {meth : Method} {c : Code} {G : va_G} {cA : Nat → ClassId} (qS : Nat → Nat) (nS : Nat) (qT : Nat → Nat) (nT : Nat) (zS : SumS) (zT : SumS) (C0 : Amb p s m args meth c cX4_matches RX4 3 (some .boolean) G cA (fun _ : Nat => False) ((wSum cA qS nS zS) ++ (wSum cA qT nT zT))) {res : Int32} : ∀ (ls : Array Slot), lv_has ls 3 [(0, .ref (qS 0)), (1, .ref (qT 0))] → f_X4_matches nS nT zS zT = some res → W p l e rm_X4_matches s m args below meth c s.heap [] 0 0 (MQ below (vp_Si (fun x => x = res)) args s 0 0 (fun _ : Nat => False)) (F0 m 0 ls []) := by
  obtain ⟨hx, hb, hr, hml, hown, hts, hlocks, hK, hR, hRA⟩ := id C0
  intro ls hl hf
  unfold f_X4_matches at hf
  refine lv_aload_n hx hb dX4_matches_0 rfl (lv_at hl 0 rfl) ?_
  refine va_get (D := G) (ci := 2) (v := .int (gS_size zS)) (C := RX4) (T := TX4) (N := 6) hx hb hts fin_X4 hown hK.1 hR 0 rfl rfl 4 (by decide) (hts _ wi_88) (fun _ h9 => h9) rfl dX4_matches_1 ?_
  refine lv_aload_n hx hb dX4_matches_4 rfl (lv_at hl 1 rfl) ?_
  refine va_get (D := G) (ci := 2) (v := .int (gS_size zT)) (C := RX4) (T := TX4) (N := 6) hx hb hts fin_X4 hown hK.1 hR 4 rfl rfl 4 (by decide) (hts _ wi_88) (fun _ h9 => h9) rfl dX4_matches_5 ?_
  refine lv_icmp_eq (tgt := 13) hx hb dX4_matches_8 (by decide) (fun c_1 => ?_) (fun c_1 => ?_)
  · rw [if_pos (c_1)] at hf
    refine lv_iconst (v := 0) hx hb dX4_matches_13 (by decide) ?_
    refine lv_istore_n (lv' := [(2, .int (0 : Int32)), (0, .ref (qS 0)), (1, .ref (qT 0))]) hx hb dX4_matches_14 rfl hl (by decide) rfl (fun ls hl => ?_)
    exact b_X4_matches_15 qS nS qT nT  zS zT C0  fuel (0 : Int32) ls (lv_sub hl [1, 2, 0] rfl) hf
  · rw [if_neg (c_1)] at hf
    refine lv_iconst (v := 0) hx hb dX4_matches_11 (by decide) ?_
    cases hf
    exact W.zret hx hb hr (by decide) (fun t ht hW => ⟨_, rfl, rfl, ht⟩) (fun q hq => by cases hq) dX4_matches_12 hlocks

set_option maxRecDepth 100000 in
theorem m_X4_matches (l : Launch) (G : va_G) (cA : Nat → ClassId) (qS : Nat → Nat) (nS : Nat) (qT : Nat → Nat) (nT : Nat) (zS : SumS) (zT : SumS)  (res : Int32) (hf : f_X4_matches nS nT zS zT = some res) : MRi l yX4_matches (.code yX4_matches cX4_matches 3 (some .boolean) :: wd) rm_X4_matches G cA [.ref (qS 0), .ref (qT 0)] ((wSum cA qS nS zS) ++ (wSum cA qT nT zT)) res := by
  refine Met.ofW (cc := cX4_matches) (maxL := 3) (ret := (some .boolean)) (by decide) rfl ?_
  intro p e s m args below meth c s₁ B hml hv
  obtain ⟨rfl, hK, hR⟩ := hv
  have C0 : Amb p s m ([.ref (qS 0), .ref (qT 0)] : List Value).toArray meth c cX4_matches RX4 3 (some .boolean) G cA (fun _ : Nat => False) ((wSum cA qS nS zS) ++ (wSum cA qT nT zT)) := ⟨B.exec, B.bytes, B.returns, hml, findClass_of_methodNamed B.named, fun w h => atoms_spec (ws := (.code yX4_matches cX4_matches 3 (some .boolean) :: wd)) B.pre w (List.mem_cons_of_mem _ h), B.notSynchronized, hK, hR, fun _ _ _ h => h⟩
  have hl := lv_entry ([.ref (qS 0), .ref (qT 0)]) (n := 3) (Nat.le_of_ble_eq_true rfl)
  rw [lg_entry_eq]
  generalize (lg_sl ([.ref (qS 0), .ref (qT 0)]) ++ List.replicate (3 - (lg_sl ([.ref (qS 0), .ref (qT 0)])).length) Slot.unset).toArray = ls at hl ⊢
  have hl : lv_has ls 3 [(0, .ref (qS 0)), (1, .ref (qT 0))] := hl
  exact b_X4_matches_0 qS nS qT nT  zS zT C0  ls hl hf
theorem cw_X4_matches {R : Room} {s : State} {args : Array Value} {own : String} {index : Nat} (ht : ∀ w ∈ wd, w.before args s = true) (hlink : Cond.methodLink own index yX4_matches ∈ wd) (hR : rm_X4_matches.frames + 1 ≤ R.frames ∧ 8 + (3 + 11) + rm_X4_matches.locals ≤ R.locals) : CallW R s args own RX4 index yX4_matches cX4_matches 3 (some .boolean) (.code yX4_matches cX4_matches 3 (some .boolean) :: wd) rm_X4_matches 0 0 1 := cwV9 1 ht wi_643 wi_641 wi_642 wi_56 hlink (by decide +kernel) rfl rfl hR
end
section
def rm_X7_empty : Room := { frames := 0, cells := 0, slots := 0, locals := 0 }
def f_X7_empty_6  : Nat → MdS → Int32 → Int32 → Option (MdS)
  | 0, _, _, _ => none
  | fu + 1, zM, x1, x2 => if (((1150 : Int32) * x1) + (1150 : Int32)) ≤ x2 then some zM else if inb x2 nUD = true then if inb x2 nUD = true then f_X7_empty_6  fu (uM_down (uM_up zM (vp_updL (gM_up zM) x2.toNatClampNeg (0 : Int64))) (vp_updL (gM_down (uM_up zM (vp_updL (gM_up zM) x2.toNatClampNeg (0 : Int64)))) x2.toNatClampNeg (1 : Int64))) x1 (x2 + 1) else none else none
set_option maxHeartbeats 4000000 in
set_option maxRecDepth 100000 in
theorem b_X7_empty_6 {p : Program} {l : Launch} {e : Env} {s : State} {m : MethodId} {args : Array Value} {below : List Frame} {meth : Method} {c : Code} {G : va_G} {cA : Nat → ClassId} {W9 : va_W} (qM : Nat → Nat) (C0 : Amb p s m args meth c cX7_empty RX7 3 none G cA (adr W9) []) {res : MdS} : ∀ (fu : Nat) (zM : MdS) (x1 : Int32) (x2 : Int32) (H : Heap) (locs : List Loc) (ls : Array Slot), va_P G vwCl ((wMd cA qM zM)) H → va_D (adr W9) ((wMd cA qM zM)) → va_S (adr W9) s.heap H locs → lv_has ls 3 [(0, .ref (qM 0)), (1, .int x1), (2, .int x2)] → f_X7_empty_6 fu zM x1 x2 = some res → W p l e rm_X7_empty s m args below meth c H locs 0 0 (MQ below (qWv G W9 ((wMd cA qM res))) args s 0 0 (adr W9)) (F0 m 6 ls []) := by
  obtain ⟨hx, hb, hr, hml, hown, hts, hlocks, hK, hR, hRA⟩ := id C0
  intro fu
  induction fu with
  | zero =>
    intro zM x1 x2 H locs ls hP hD hS hl hf
    rw [f_X7_empty_6] at hf
    cases hf
  | succ fu ih =>
    intro zM x1 x2 H locs ls hP hD hS hl hf
    rw [f_X7_empty_6] at hf
    refine lv_iload_n hx hb dX7_empty_6 rfl (lv_at hl 2 rfl) ?_
    refine lv_sipush (v := (1150 : Int32)) hx hb dX7_empty_7 (by decide) ?_
    refine lv_iload_n hx hb dX7_empty_10 rfl (lv_at hl 1 rfl) ?_
    refine lv_imul hx hb dX7_empty_11 ?_
    refine lv_sipush (v := (1150 : Int32)) hx hb dX7_empty_12 (by decide) ?_
    refine lv_iadd hx hb dX7_empty_15 ?_
    refine lv_icmp_ge (tgt := 39) hx hb dX7_empty_16 (by decide) (fun c_1 => ?_) (fun c_1 => ?_)
    · rw [if_pos (c_1)] at hf
      cases hf
      exact W.vret hx hb hr (fun t ht hW => ⟨⟨(), rfl, trivial, toT ht hP⟩, hS.F ht⟩) hS.2.2 dX7_empty_39 hlocks
    · rw [if_neg (c_1)] at hf
      refine lv_aload_n hx hb dX7_empty_19 rfl (lv_at hl 0 rfl) ?_
      refine va_get (D := G) (ci := 5) (v := .ref (qM 3)) (C := RX7) (T := TX7) (N := 13) hx hb hts fin_X7 hown hK.1 hP 0 rfl rfl 6 (by decide) (hts _ wi_677) (fun _ h9 => h9) rfl dX7_empty_20 ?_
      refine lv_iload_n hx hb dX7_empty_23 rfl (lv_at hl 2 rfl) ?_
      refine lv_lconst (v := (0 : Int64)) hx hb dX7_empty_24 (by decide) ?_
      obtain ⟨hi_2, hf⟩ := oif hf
      refine va_last hx hb hK.1 hP hD hS 3 1 rfl rfl (inb_in hi_2) dX7_empty_25 (fun H locs hP hD hS => ?_)
      have hP := sM_up_P hP
      have hD := sM_up_D hD
      refine lv_aload_n hx hb dX7_empty_26 rfl (lv_at hl 0 rfl) ?_
      refine va_get (D := G) (ci := 5) (v := .ref (qM 4)) (C := RX7) (T := TX7) (N := 13) hx hb hts fin_X7 hown hK.1 hP 0 rfl rfl 7 (by decide) (hts _ wi_678) (fun _ h9 => h9) rfl dX7_empty_27 ?_
      refine lv_iload_n hx hb dX7_empty_30 rfl (lv_at hl 2 rfl) ?_
      refine lv_lconst (v := (1 : Int64)) hx hb dX7_empty_31 (by decide) ?_
      obtain ⟨hi_3, hf⟩ := oif hf
      refine va_last hx hb hK.1 hP hD hS 4 1 rfl rfl (inb_in hi_3) dX7_empty_32 (fun H locs hP hD hS => ?_)
      have hP := sM_down_P hP
      have hD := sM_down_D hD
      refine lv_iinc (v := (x2 + 1)) (lv' := [(2, .int (x2 + 1)), (0, .ref (qM 0)), (1, .int x1)]) hx hb dX7_empty_33 hl (k := 2) rfl rfl (by decide) rfl (fun ls hl => ?_)
      refine lv_goto (tgt := 6) hx hb dX7_empty_36 (by decide) ?_
      exact ih (uM_down (uM_up zM (vp_updL (gM_up zM) x2.toNatClampNeg (0 : Int64))) (vp_updL (gM_down (uM_up zM (vp_updL (gM_up zM) x2.toNatClampNeg (0 : Int64)))) x2.toNatClampNeg (1 : Int64))) x1 (x2 + 1) H locs ls hP hD hS (lv_sub hl [1, 2, 0] rfl) hf
def f_X7_empty (zM : MdS) (a1 : Int32) : Option (MdS) := (some (((1150 : Int32) * a1))).bind fun y_1 => f_X7_empty_6 fuel zM a1 y_1
set_option maxHeartbeats 4000000 in
set_option maxRecDepth 100000 in
theorem b_X7_empty_0 {p : Program} {l : Launch} {e : Env} {s : State} {m : MethodId} {args : Array Value} {below : List Frame} {meth : Method} {c : Code} {G : va_G} {cA : Nat → ClassId} {W9 : va_W} (qM : Nat → Nat) (C0 : Amb p s m args meth c cX7_empty RX7 3 none G cA (adr W9) []) {res : MdS} : ∀ (zM : MdS) (a1 : Int32) (H : Heap) (locs : List Loc) (ls : Array Slot), va_P G vwCl ((wMd cA qM zM)) H → va_D (adr W9) ((wMd cA qM zM)) → va_S (adr W9) s.heap H locs → lv_has ls 3 [(0, .ref (qM 0)), (1, .int a1)] → f_X7_empty zM a1 = some res → W p l e rm_X7_empty s m args below meth c H locs 0 0 (MQ below (qWv G W9 ((wMd cA qM res))) args s 0 0 (adr W9)) (F0 m 0 ls []) := by
  obtain ⟨hx, hb, hr, hml, hown, hts, hlocks, hK, hR, hRA⟩ := id C0
  intro zM a1 H locs ls hP hD hS hl hf
  unfold f_X7_empty at hf
  refine lv_sipush (v := (1150 : Int32)) hx hb dX7_empty_0 (by decide) ?_
  refine lv_iload_n hx hb dX7_empty_3 rfl (lv_at hl 1 rfl) ?_
  refine lv_imul hx hb dX7_empty_4 ?_
  obtain ⟨y_1, hq, hf⟩ := obd hf
  have hy_1 : ((1150 : Int32) * a1) = y_1 := Option.some.inj hq
  rw [hy_1]
  refine lv_istore_n (lv' := [(2, .int y_1), (0, .ref (qM 0)), (1, .int a1)]) hx hb dX7_empty_5 rfl hl (by decide) rfl (fun ls hl => ?_)
  exact b_X7_empty_6 qM   C0  fuel zM a1 y_1 H locs ls hP hD hS (lv_sub hl [1, 2, 0] rfl) hf

set_option maxRecDepth 100000 in
theorem m_X7_empty (l : Launch) (G : va_G) (cA : Nat → ClassId) (qM : Nat → Nat) (zM : MdS) (a1 : Int32) (res : MdS) (hf : f_X7_empty zM a1 = some res) : MWv l yX7_empty (.code yX7_empty cX7_empty 3 none :: wd) rm_X7_empty G cA [.ref (qM 0), .int a1] ((wMd cA qM zM)) [] ((wMd cA qM res)) := by
  refine Met.ofW (cc := cX7_empty) (maxL := 3) (ret := none) (by decide) rfl ?_
  intro p e s m args below meth c s₁ B hml hv
  obtain ⟨rfl, hK, hP, hD0, hR, hRA⟩ := hv
  have C0 : Amb p s m ([.ref (qM 0), .int a1] : List Value).toArray meth c cX7_empty RX7 3 none G cA (adr ((wMd cA qM zM))) [] := ⟨B.exec, B.bytes, B.returns, hml, findClass_of_methodNamed B.named, fun w h => atoms_spec (ws := (.code yX7_empty cX7_empty 3 none :: wd)) B.pre w (List.mem_cons_of_mem _ h), B.notSynchronized, hK, hR, hRA⟩
  have hl := lv_entry ([.ref (qM 0), .int a1]) (n := 3) (Nat.le_of_ble_eq_true rfl)
  rw [lg_entry_eq]
  generalize (lg_sl ([.ref (qM 0), .int a1]) ++ List.replicate (3 - (lg_sl ([.ref (qM 0), .int a1])).length) Slot.unset).toArray = ls at hl ⊢
  have hl : lv_has ls 3 [(0, .ref (qM 0)), (1, .int a1)] := hl
  exact b_X7_empty_0 (W9 := ((wMd cA qM zM))) qM   C0 zM a1 s.heap [] ls hP (adr.self hD0) va_S.rf hl hf
theorem cw_X7_empty {R : Room} {s : State} {args : Array Value} {own : String} {index : Nat} (ht : ∀ w ∈ wd, w.before args s = true) (hlink : Cond.methodLink own index yX7_empty ∈ wd) (hR : rm_X7_empty.frames + 1 ≤ R.frames ∧ 8 + (3 + 11) + rm_X7_empty.locals ≤ R.locals) : CallW R s args own RX7 index yX7_empty cX7_empty 3 none (.code yX7_empty cX7_empty 3 none :: wd) rm_X7_empty 0 0 1 := cwV9 1 ht wi_741 wi_740 wi_30 wi_60 hlink (by decide +kernel) rfl rfl hR
end
