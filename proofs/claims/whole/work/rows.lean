section
-- ===== PART A: goes FIRST, ahead of the names: the tables' words, and 'selects' of the private methods out of them =====
/-- a private method of a class that the tables say can be made, by its rows of tables_1 -/
def lw_okq (q : MethodName × Nat) : Prop := (q.1.cls ≠ "java/lang/invoke/MethodHandle" ∧ q.1.cls ≠ "java/lang/invoke/VarHandle") ∧ Cond.instantiable q.1.cls q.2 ∈ tables_1 ∧ Cond.privateMethod q.1 ∈ tables_1 ∧ Cond.instanceMethod q.1 ∈ tables_1
theorem lw_p0 : lw_okq (⟨"PieFunnels", "noShelf", "(I)Z"⟩, 12) := ⟨⟨by decide +kernel, by decide +kernel⟩, List.mem_of_getElem? (i := 17) (by decide +kernel), List.mem_of_getElem? (i := 280) (by decide +kernel), List.mem_of_getElem? (i := 281) (by decide +kernel)⟩
theorem lw_p1 : lw_okq (⟨"PieFunnels", "refuse", "(I)I"⟩, 12) := ⟨⟨by decide +kernel, by decide +kernel⟩, List.mem_of_getElem? (i := 17) (by decide +kernel), List.mem_of_getElem? (i := 284) (by decide +kernel), List.mem_of_getElem? (i := 285) (by decide +kernel)⟩
theorem lw_p2 : lw_okq (⟨"PieFunnels$Shelf", "holdRow", "(II)V"⟩, 5) := ⟨⟨by decide +kernel, by decide +kernel⟩, List.mem_of_getElem? (i := 206) (by decide +kernel), List.mem_of_getElem? (i := 288) (by decide +kernel), List.mem_of_getElem? (i := 289) (by decide +kernel)⟩
theorem lw_p3 : lw_okq (⟨"PieFunnels", "noRow", "(I)I"⟩, 12) := ⟨⟨by decide +kernel, by decide +kernel⟩, List.mem_of_getElem? (i := 17) (by decide +kernel), List.mem_of_getElem? (i := 302) (by decide +kernel), List.mem_of_getElem? (i := 303) (by decide +kernel)⟩
theorem lw_p4 : lw_okq (⟨"PieFunnels", "noRows", "(II)I"⟩, 12) := ⟨⟨by decide +kernel, by decide +kernel⟩, List.mem_of_getElem? (i := 17) (by decide +kernel), List.mem_of_getElem? (i := 306) (by decide +kernel), List.mem_of_getElem? (i := 307) (by decide +kernel)⟩
theorem lw_p5 : lw_okq (⟨"PieFunnels$Shelf", "put", "(IJ)V"⟩, 5) := ⟨⟨by decide +kernel, by decide +kernel⟩, List.mem_of_getElem? (i := 206) (by decide +kernel), List.mem_of_getElem? (i := 310) (by decide +kernel), List.mem_of_getElem? (i := 311) (by decide +kernel)⟩
theorem lw_p6 : lw_okq (⟨"PieFunnels$Shelf", "hasSpan", "(II)Z"⟩, 5) := ⟨⟨by decide +kernel, by decide +kernel⟩, List.mem_of_getElem? (i := 206) (by decide +kernel), List.mem_of_getElem? (i := 318) (by decide +kernel), List.mem_of_getElem? (i := 319) (by decide +kernel)⟩
theorem lw_p7 : lw_okq (⟨"PieFunnels$Shelf", "whole", "(I)J"⟩, 5) := ⟨⟨by decide +kernel, by decide +kernel⟩, List.mem_of_getElem? (i := 206) (by decide +kernel), List.mem_of_getElem? (i := 329) (by decide +kernel), List.mem_of_getElem? (i := 330) (by decide +kernel)⟩
theorem lw_p8 : lw_okq (⟨"PieFunnels$Shelf", "holdNothing", "()V"⟩, 5) := ⟨⟨by decide +kernel, by decide +kernel⟩, List.mem_of_getElem? (i := 206) (by decide +kernel), List.mem_of_getElem? (i := 337) (by decide +kernel), List.mem_of_getElem? (i := 338) (by decide +kernel)⟩
theorem lw_p9 : lw_okq (⟨"PieFunnels$Bakery", "lacks", "(I)Z"⟩, 11) := ⟨⟨by decide +kernel, by decide +kernel⟩, List.mem_of_getElem? (i := 27) (by decide +kernel), List.mem_of_getElem? (i := 341) (by decide +kernel), List.mem_of_getElem? (i := 342) (by decide +kernel)⟩
theorem lw_p10 : lw_okq (⟨"PieFunnels$Shelf", "holdBird", "(I)V"⟩, 5) := ⟨⟨by decide +kernel, by decide +kernel⟩, List.mem_of_getElem? (i := 206) (by decide +kernel), List.mem_of_getElem? (i := 345) (by decide +kernel), List.mem_of_getElem? (i := 346) (by decide +kernel)⟩
theorem lw_p11 : lw_okq (⟨"PieFunnels", "refuseFar", "(I)I"⟩, 12) := ⟨⟨by decide +kernel, by decide +kernel⟩, List.mem_of_getElem? (i := 17) (by decide +kernel), List.mem_of_getElem? (i := 357) (by decide +kernel), List.mem_of_getElem? (i := 358) (by decide +kernel)⟩
theorem lw_p12 : lw_okq (⟨"PieFunnels$Voice", "take", "(LPieFunnels$Bakery;I)V"⟩, 6) := ⟨⟨by decide +kernel, by decide +kernel⟩, List.mem_of_getElem? (i := 150) (by decide +kernel), List.mem_of_getElem? (i := 366) (by decide +kernel), List.mem_of_getElem? (i := 367) (by decide +kernel)⟩
theorem lw_p13 : lw_okq (⟨"PieFunnels$Pie", "setByNumber", "(II)V"⟩, 2) := ⟨⟨by decide +kernel, by decide +kernel⟩, List.mem_of_getElem? (i := 133) (by decide +kernel), List.mem_of_getElem? (i := 371) (by decide +kernel), List.mem_of_getElem? (i := 372) (by decide +kernel)⟩
theorem lw_p14 : lw_okq (⟨"PieFunnels$Voice", "speak", "(LPieFunnels$Pie;)V"⟩, 6) := ⟨⟨by decide +kernel, by decide +kernel⟩, List.mem_of_getElem? (i := 150) (by decide +kernel), List.mem_of_getElem? (i := 377) (by decide +kernel), List.mem_of_getElem? (i := 378) (by decide +kernel)⟩
theorem lw_p15 : lw_okq (⟨"PieFunnels$Voice", "sayLayers", "(LPieFunnels$Pie;)V"⟩, 6) := ⟨⟨by decide +kernel, by decide +kernel⟩, List.mem_of_getElem? (i := 150) (by decide +kernel), List.mem_of_getElem? (i := 381) (by decide +kernel), List.mem_of_getElem? (i := 382) (by decide +kernel)⟩
def lw_privs_1 : List (MethodName × Nat) := [(⟨"PieFunnels", "noShelf", "(I)Z"⟩, 12), (⟨"PieFunnels", "refuse", "(I)I"⟩, 12), (⟨"PieFunnels$Shelf", "holdRow", "(II)V"⟩, 5), (⟨"PieFunnels", "noRow", "(I)I"⟩, 12), (⟨"PieFunnels", "noRows", "(II)I"⟩, 12), (⟨"PieFunnels$Shelf", "put", "(IJ)V"⟩, 5), (⟨"PieFunnels$Shelf", "hasSpan", "(II)Z"⟩, 5), (⟨"PieFunnels$Shelf", "whole", "(I)J"⟩, 5), (⟨"PieFunnels$Shelf", "holdNothing", "()V"⟩, 5), (⟨"PieFunnels$Bakery", "lacks", "(I)Z"⟩, 11), (⟨"PieFunnels$Shelf", "holdBird", "(I)V"⟩, 5), (⟨"PieFunnels", "refuseFar", "(I)I"⟩, 12), (⟨"PieFunnels$Voice", "take", "(LPieFunnels$Bakery;I)V"⟩, 6), (⟨"PieFunnels$Pie", "setByNumber", "(II)V"⟩, 2), (⟨"PieFunnels$Voice", "speak", "(LPieFunnels$Pie;)V"⟩, 6), (⟨"PieFunnels$Voice", "sayLayers", "(LPieFunnels$Pie;)V"⟩, 6)]
theorem lw_r1 : ∀ q ∈ lw_privs_1, lw_okq q := List.forall_mem_cons.mpr ⟨lw_p0, List.forall_mem_cons.mpr ⟨lw_p1, List.forall_mem_cons.mpr ⟨lw_p2, List.forall_mem_cons.mpr ⟨lw_p3, List.forall_mem_cons.mpr ⟨lw_p4, List.forall_mem_cons.mpr ⟨lw_p5, List.forall_mem_cons.mpr ⟨lw_p6, List.forall_mem_cons.mpr ⟨lw_p7, List.forall_mem_cons.mpr ⟨lw_p8, List.forall_mem_cons.mpr ⟨lw_p9, List.forall_mem_cons.mpr ⟨lw_p10, List.forall_mem_cons.mpr ⟨lw_p11, List.forall_mem_cons.mpr ⟨lw_p12, List.forall_mem_cons.mpr ⟨lw_p13, List.forall_mem_cons.mpr ⟨lw_p14, List.forall_mem_cons.mpr ⟨lw_p15, fun _ h => absurd h List.not_mem_nil⟩⟩⟩⟩⟩⟩⟩⟩⟩⟩⟩⟩⟩⟩⟩⟩
theorem lw_p16 : lw_okq (⟨"PieFunnels$Voice", "chip", "()V"⟩, 6) := ⟨⟨by decide +kernel, by decide +kernel⟩, List.mem_of_getElem? (i := 150) (by decide +kernel), List.mem_of_getElem? (i := 387) (by decide +kernel), List.mem_of_getElem? (i := 388) (by decide +kernel)⟩
theorem lw_p17 : lw_okq (⟨"PieFunnels$Voice", "turn", "()V"⟩, 6) := ⟨⟨by decide +kernel, by decide +kernel⟩, List.mem_of_getElem? (i := 150) (by decide +kernel), List.mem_of_getElem? (i := 391) (by decide +kernel), List.mem_of_getElem? (i := 392) (by decide +kernel)⟩
theorem lw_p18 : lw_okq (⟨"PieFunnels$Voice", "swap", "(II)V"⟩, 6) := ⟨⟨by decide +kernel, by decide +kernel⟩, List.mem_of_getElem? (i := 150) (by decide +kernel), List.mem_of_getElem? (i := 395) (by decide +kernel), List.mem_of_getElem? (i := 396) (by decide +kernel)⟩
theorem lw_p19 : lw_okq (⟨"PieFunnels$Voice", "raise", "()V"⟩, 6) := ⟨⟨by decide +kernel, by decide +kernel⟩, List.mem_of_getElem? (i := 150) (by decide +kernel), List.mem_of_getElem? (i := 399) (by decide +kernel), List.mem_of_getElem? (i := 400) (by decide +kernel)⟩
theorem lw_p20 : lw_okq (⟨"PieFunnels$Voice", "order", "()V"⟩, 6) := ⟨⟨by decide +kernel, by decide +kernel⟩, List.mem_of_getElem? (i := 150) (by decide +kernel), List.mem_of_getElem? (i := 403) (by decide +kernel), List.mem_of_getElem? (i := 404) (by decide +kernel)⟩
theorem lw_p21 : lw_okq (⟨"PieFunnels$Voice", "doubleEach", "()V"⟩, 6) := ⟨⟨by decide +kernel, by decide +kernel⟩, List.mem_of_getElem? (i := 150) (by decide +kernel), List.mem_of_getElem? (i := 407) (by decide +kernel), List.mem_of_getElem? (i := 408) (by decide +kernel)⟩
theorem lw_p22 : lw_okq (⟨"PieFunnels$Voice", "keepEachSecond", "()V"⟩, 6) := ⟨⟨by decide +kernel, by decide +kernel⟩, List.mem_of_getElem? (i := 150) (by decide +kernel), List.mem_of_getElem? (i := 411) (by decide +kernel), List.mem_of_getElem? (i := 412) (by decide +kernel)⟩
theorem lw_p23 : lw_okq (⟨"PieFunnels$Bakery", "add", "(III)V"⟩, 11) := ⟨⟨by decide +kernel, by decide +kernel⟩, List.mem_of_getElem? (i := 27) (by decide +kernel), List.mem_of_getElem? (i := 419) (by decide +kernel), List.mem_of_getElem? (i := 420) (by decide +kernel)⟩
theorem lw_p24 : lw_okq (⟨"PieFunnels$Bakery", "comingBy", "(II)I"⟩, 11) := ⟨⟨by decide +kernel, by decide +kernel⟩, List.mem_of_getElem? (i := 27) (by decide +kernel), List.mem_of_getElem? (i := 431) (by decide +kernel), List.mem_of_getElem? (i := 432) (by decide +kernel)⟩
theorem lw_p25 : lw_okq (⟨"PieFunnels$Bakery", "setComing", "(III)V"⟩, 11) := ⟨⟨by decide +kernel, by decide +kernel⟩, List.mem_of_getElem? (i := 27) (by decide +kernel), List.mem_of_getElem? (i := 435) (by decide +kernel), List.mem_of_getElem? (i := 436) (by decide +kernel)⟩
theorem lw_p26 : lw_okq (⟨"PieFunnels$Bakery", "become", "(LPieFunnels$Bakery;)V"⟩, 11) := ⟨⟨by decide +kernel, by decide +kernel⟩, List.mem_of_getElem? (i := 27) (by decide +kernel), List.mem_of_getElem? (i := 452) (by decide +kernel), List.mem_of_getElem? (i := 453) (by decide +kernel)⟩
theorem lw_p27 : lw_okq (⟨"PieFunnels$Reader", "read", "(LPieFunnels$Shelf;LPieFunnels$Bakery;)I"⟩, 4) := ⟨⟨by decide +kernel, by decide +kernel⟩, List.mem_of_getElem? (i := 88) (by decide +kernel), List.mem_of_getElem? (i := 457) (by decide +kernel), List.mem_of_getElem? (i := 458) (by decide +kernel)⟩
theorem lw_p28 : lw_okq (⟨"PieFunnels$Reader", "expect", "(C)V"⟩, 4) := ⟨⟨by decide +kernel, by decide +kernel⟩, List.mem_of_getElem? (i := 88) (by decide +kernel), List.mem_of_getElem? (i := 461) (by decide +kernel), List.mem_of_getElem? (i := 462) (by decide +kernel)⟩
theorem lw_p29 : lw_okq (⟨"PieFunnels$Reader", "letter", "()I"⟩, 4) := ⟨⟨by decide +kernel, by decide +kernel⟩, List.mem_of_getElem? (i := 88) (by decide +kernel), List.mem_of_getElem? (i := 465) (by decide +kernel), List.mem_of_getElem? (i := 466) (by decide +kernel)⟩
theorem lw_p30 : lw_okq (⟨"PieFunnels$Reader", "fail", "(I)V"⟩, 4) := ⟨⟨by decide +kernel, by decide +kernel⟩, List.mem_of_getElem? (i := 88) (by decide +kernel), List.mem_of_getElem? (i := 469) (by decide +kernel), List.mem_of_getElem? (i := 470) (by decide +kernel)⟩
theorem lw_p31 : lw_okq (⟨"PieFunnels$Reader", "readItem", "(LPieFunnels$Bakery;)V"⟩, 4) := ⟨⟨by decide +kernel, by decide +kernel⟩, List.mem_of_getElem? (i := 88) (by decide +kernel), List.mem_of_getElem? (i := 473) (by decide +kernel), List.mem_of_getElem? (i := 474) (by decide +kernel)⟩
def lw_privs_2 : List (MethodName × Nat) := [(⟨"PieFunnels$Voice", "chip", "()V"⟩, 6), (⟨"PieFunnels$Voice", "turn", "()V"⟩, 6), (⟨"PieFunnels$Voice", "swap", "(II)V"⟩, 6), (⟨"PieFunnels$Voice", "raise", "()V"⟩, 6), (⟨"PieFunnels$Voice", "order", "()V"⟩, 6), (⟨"PieFunnels$Voice", "doubleEach", "()V"⟩, 6), (⟨"PieFunnels$Voice", "keepEachSecond", "()V"⟩, 6), (⟨"PieFunnels$Bakery", "add", "(III)V"⟩, 11), (⟨"PieFunnels$Bakery", "comingBy", "(II)I"⟩, 11), (⟨"PieFunnels$Bakery", "setComing", "(III)V"⟩, 11), (⟨"PieFunnels$Bakery", "become", "(LPieFunnels$Bakery;)V"⟩, 11), (⟨"PieFunnels$Reader", "read", "(LPieFunnels$Shelf;LPieFunnels$Bakery;)I"⟩, 4), (⟨"PieFunnels$Reader", "expect", "(C)V"⟩, 4), (⟨"PieFunnels$Reader", "letter", "()I"⟩, 4), (⟨"PieFunnels$Reader", "fail", "(I)V"⟩, 4), (⟨"PieFunnels$Reader", "readItem", "(LPieFunnels$Bakery;)V"⟩, 4)]
theorem lw_r2 : ∀ q ∈ lw_privs_2, lw_okq q := List.forall_mem_cons.mpr ⟨lw_p16, List.forall_mem_cons.mpr ⟨lw_p17, List.forall_mem_cons.mpr ⟨lw_p18, List.forall_mem_cons.mpr ⟨lw_p19, List.forall_mem_cons.mpr ⟨lw_p20, List.forall_mem_cons.mpr ⟨lw_p21, List.forall_mem_cons.mpr ⟨lw_p22, List.forall_mem_cons.mpr ⟨lw_p23, List.forall_mem_cons.mpr ⟨lw_p24, List.forall_mem_cons.mpr ⟨lw_p25, List.forall_mem_cons.mpr ⟨lw_p26, List.forall_mem_cons.mpr ⟨lw_p27, List.forall_mem_cons.mpr ⟨lw_p28, List.forall_mem_cons.mpr ⟨lw_p29, List.forall_mem_cons.mpr ⟨lw_p30, List.forall_mem_cons.mpr ⟨lw_p31, fun _ h => absurd h List.not_mem_nil⟩⟩⟩⟩⟩⟩⟩⟩⟩⟩⟩⟩⟩⟩⟩⟩
theorem lw_p32 : lw_okq (⟨"PieFunnels$Reader", "readNumber", "(I)I"⟩, 4) := ⟨⟨by decide +kernel, by decide +kernel⟩, List.mem_of_getElem? (i := 88) (by decide +kernel), List.mem_of_getElem? (i := 545) (by decide +kernel), List.mem_of_getElem? (i := 546) (by decide +kernel)⟩
theorem lw_p33 : lw_okq (⟨"PieFunnels$Reader", "digit", "()I"⟩, 4) := ⟨⟨by decide +kernel, by decide +kernel⟩, List.mem_of_getElem? (i := 88) (by decide +kernel), List.mem_of_getElem? (i := 549) (by decide +kernel), List.mem_of_getElem? (i := 550) (by decide +kernel)⟩
theorem lw_p34 : lw_okq (⟨"PieFunnels$Reader", "tell", "(LPieFunnels$Bakery;I)V"⟩, 4) := ⟨⟨by decide +kernel, by decide +kernel⟩, List.mem_of_getElem? (i := 88) (by decide +kernel), List.mem_of_getElem? (i := 553) (by decide +kernel), List.mem_of_getElem? (i := 554) (by decide +kernel)⟩
theorem lw_p35 : lw_okq (⟨"PieFunnels", "noPieOf", "(II)I"⟩, 12) := ⟨⟨by decide +kernel, by decide +kernel⟩, List.mem_of_getElem? (i := 17) (by decide +kernel), List.mem_of_getElem? (i := 568) (by decide +kernel), List.mem_of_getElem? (i := 569) (by decide +kernel)⟩
theorem lw_p36 : lw_okq (⟨"PieFunnels", "noPieOfWhat", "(IIII)I"⟩, 12) := ⟨⟨by decide +kernel, by decide +kernel⟩, List.mem_of_getElem? (i := 17) (by decide +kernel), List.mem_of_getElem? (i := 572) (by decide +kernel), List.mem_of_getElem? (i := 573) (by decide +kernel)⟩
theorem lw_p37 : lw_okq (⟨"PieFunnels$Pie", "take", "(LPieFunnels$Shelf;I)Z"⟩, 2) := ⟨⟨by decide +kernel, by decide +kernel⟩, List.mem_of_getElem? (i := 133) (by decide +kernel), List.mem_of_getElem? (i := 576) (by decide +kernel), List.mem_of_getElem? (i := 577) (by decide +kernel)⟩
theorem lw_p38 : lw_okq (⟨"PieFunnels$Shelf", "number", "(I)I"⟩, 5) := ⟨⟨by decide +kernel, by decide +kernel⟩, List.mem_of_getElem? (i := 206) (by decide +kernel), List.mem_of_getElem? (i := 580) (by decide +kernel), List.mem_of_getElem? (i := 581) (by decide +kernel)⟩
theorem lw_p39 : lw_okq (⟨"PieFunnels$Bakery", "endOf", "(LPieFunnels$Voice;I)I"⟩, 11) := ⟨⟨by decide +kernel, by decide +kernel⟩, List.mem_of_getElem? (i := 27) (by decide +kernel), List.mem_of_getElem? (i := 589) (by decide +kernel), List.mem_of_getElem? (i := 590) (by decide +kernel)⟩
theorem lw_p40 : lw_okq (⟨"PieFunnels$Bakery", "illsOf", "(LPieFunnels$Voice;)I"⟩, 11) := ⟨⟨by decide +kernel, by decide +kernel⟩, List.mem_of_getElem? (i := 27) (by decide +kernel), List.mem_of_getElem? (i := 593) (by decide +kernel), List.mem_of_getElem? (i := 594) (by decide +kernel)⟩
theorem lw_p41 : lw_okq (⟨"PieFunnels", "findBringing", "(II)Z"⟩, 12) := ⟨⟨by decide +kernel, by decide +kernel⟩, List.mem_of_getElem? (i := 17) (by decide +kernel), List.mem_of_getElem? (i := 601) (by decide +kernel), List.mem_of_getElem? (i := 602) (by decide +kernel)⟩
theorem lw_p42 : lw_okq (⟨"PieFunnels", "kindsThatSay", "(LPieFunnels$Shelf;I)I"⟩, 12) := ⟨⟨by decide +kernel, by decide +kernel⟩, List.mem_of_getElem? (i := 17) (by decide +kernel), List.mem_of_getElem? (i := 616) (by decide +kernel), List.mem_of_getElem? (i := 617) (by decide +kernel)⟩
theorem lw_p43 : lw_okq (⟨"PieFunnels$Voice", "saysJust", "(LPieFunnels$Shelf;)Z"⟩, 6) := ⟨⟨by decide +kernel, by decide +kernel⟩, List.mem_of_getElem? (i := 150) (by decide +kernel), List.mem_of_getElem? (i := 620) (by decide +kernel), List.mem_of_getElem? (i := 621) (by decide +kernel)⟩
theorem lw_p44 : lw_okq (⟨"PieFunnels", "heatsThatSay", "(LPieFunnels$Shelf;I)I"⟩, 12) := ⟨⟨by decide +kernel, by decide +kernel⟩, List.mem_of_getElem? (i := 17) (by decide +kernel), List.mem_of_getElem? (i := 625) (by decide +kernel), List.mem_of_getElem? (i := 626) (by decide +kernel)⟩
theorem lw_p45 : lw_okq (⟨"PieFunnels", "mouthsThatSay", "(LPieFunnels$Shelf;I)I"⟩, 12) := ⟨⟨by decide +kernel, by decide +kernel⟩, List.mem_of_getElem? (i := 17) (by decide +kernel), List.mem_of_getElem? (i := 629) (by decide +kernel), List.mem_of_getElem? (i := 630) (by decide +kernel)⟩
theorem lw_p46 : lw_okq (⟨"PieFunnels", "mostLeft", "(I)I"⟩, 12) := ⟨⟨by decide +kernel, by decide +kernel⟩, List.mem_of_getElem? (i := 17) (by decide +kernel), List.mem_of_getElem? (i := 641) (by decide +kernel), List.mem_of_getElem? (i := 642) (by decide +kernel)⟩
theorem lw_p47 : lw_okq (⟨"PieFunnels$Voice", "saysSame", "(LPieFunnels$Voice;)Z"⟩, 6) := ⟨⟨by decide +kernel, by decide +kernel⟩, List.mem_of_getElem? (i := 150) (by decide +kernel), List.mem_of_getElem? (i := 645) (by decide +kernel), List.mem_of_getElem? (i := 646) (by decide +kernel)⟩
def lw_privs_3 : List (MethodName × Nat) := [(⟨"PieFunnels$Reader", "readNumber", "(I)I"⟩, 4), (⟨"PieFunnels$Reader", "digit", "()I"⟩, 4), (⟨"PieFunnels$Reader", "tell", "(LPieFunnels$Bakery;I)V"⟩, 4), (⟨"PieFunnels", "noPieOf", "(II)I"⟩, 12), (⟨"PieFunnels", "noPieOfWhat", "(IIII)I"⟩, 12), (⟨"PieFunnels$Pie", "take", "(LPieFunnels$Shelf;I)Z"⟩, 2), (⟨"PieFunnels$Shelf", "number", "(I)I"⟩, 5), (⟨"PieFunnels$Bakery", "endOf", "(LPieFunnels$Voice;I)I"⟩, 11), (⟨"PieFunnels$Bakery", "illsOf", "(LPieFunnels$Voice;)I"⟩, 11), (⟨"PieFunnels", "findBringing", "(II)Z"⟩, 12), (⟨"PieFunnels", "kindsThatSay", "(LPieFunnels$Shelf;I)I"⟩, 12), (⟨"PieFunnels$Voice", "saysJust", "(LPieFunnels$Shelf;)Z"⟩, 6), (⟨"PieFunnels", "heatsThatSay", "(LPieFunnels$Shelf;I)I"⟩, 12), (⟨"PieFunnels", "mouthsThatSay", "(LPieFunnels$Shelf;I)I"⟩, 12), (⟨"PieFunnels", "mostLeft", "(I)I"⟩, 12), (⟨"PieFunnels$Voice", "saysSame", "(LPieFunnels$Voice;)Z"⟩, 6)]
theorem lw_r3 : ∀ q ∈ lw_privs_3, lw_okq q := List.forall_mem_cons.mpr ⟨lw_p32, List.forall_mem_cons.mpr ⟨lw_p33, List.forall_mem_cons.mpr ⟨lw_p34, List.forall_mem_cons.mpr ⟨lw_p35, List.forall_mem_cons.mpr ⟨lw_p36, List.forall_mem_cons.mpr ⟨lw_p37, List.forall_mem_cons.mpr ⟨lw_p38, List.forall_mem_cons.mpr ⟨lw_p39, List.forall_mem_cons.mpr ⟨lw_p40, List.forall_mem_cons.mpr ⟨lw_p41, List.forall_mem_cons.mpr ⟨lw_p42, List.forall_mem_cons.mpr ⟨lw_p43, List.forall_mem_cons.mpr ⟨lw_p44, List.forall_mem_cons.mpr ⟨lw_p45, List.forall_mem_cons.mpr ⟨lw_p46, List.forall_mem_cons.mpr ⟨lw_p47, fun _ h => absurd h List.not_mem_nil⟩⟩⟩⟩⟩⟩⟩⟩⟩⟩⟩⟩⟩⟩⟩⟩
theorem lw_p48 : lw_okq (⟨"PieFunnels$Pie", "unknowns", "()I"⟩, 2) := ⟨⟨by decide +kernel, by decide +kernel⟩, List.mem_of_getElem? (i := 133) (by decide +kernel), List.mem_of_getElem? (i := 654) (by decide +kernel), List.mem_of_getElem? (i := 655) (by decide +kernel)⟩
theorem lw_p49 : lw_okq (⟨"PieFunnels$Pie", "fillUnknowns", "(I)V"⟩, 2) := ⟨⟨by decide +kernel, by decide +kernel⟩, List.mem_of_getElem? (i := 133) (by decide +kernel), List.mem_of_getElem? (i := 658) (by decide +kernel), List.mem_of_getElem? (i := 659) (by decide +kernel)⟩
theorem lw_p50 : lw_okq (⟨"PieFunnels", "fewestIllsByLast", "()I"⟩, 12) := ⟨⟨by decide +kernel, by decide +kernel⟩, List.mem_of_getElem? (i := 17) (by decide +kernel), List.mem_of_getElem? (i := 675) (by decide +kernel), List.mem_of_getElem? (i := 676) (by decide +kernel)⟩
theorem lw_p51 : lw_okq (⟨"PieFunnels$Pie", "setLast", "(I)V"⟩, 2) := ⟨⟨by decide +kernel, by decide +kernel⟩, List.mem_of_getElem? (i := 133) (by decide +kernel), List.mem_of_getElem? (i := 680) (by decide +kernel), List.mem_of_getElem? (i := 681) (by decide +kernel)⟩
theorem lw_p52 : lw_okq (⟨"PieFunnels$Parting", "takeWishes", "(LPieFunnels$Shelf;)Z"⟩, 5) := ⟨⟨by decide +kernel, by decide +kernel⟩, List.mem_of_getElem? (i := 183) (by decide +kernel), List.mem_of_getElem? (i := 689) (by decide +kernel), List.mem_of_getElem? (i := 690) (by decide +kernel)⟩
theorem lw_p53 : lw_okq (⟨"PieFunnels$Parting", "bringsOf", "(II)V"⟩, 5) := ⟨⟨by decide +kernel, by decide +kernel⟩, List.mem_of_getElem? (i := 183) (by decide +kernel), List.mem_of_getElem? (i := 694) (by decide +kernel), List.mem_of_getElem? (i := 695) (by decide +kernel)⟩
theorem lw_p54 : lw_okq (⟨"PieFunnels$Parting", "part", "(I)V"⟩, 5) := ⟨⟨by decide +kernel, by decide +kernel⟩, List.mem_of_getElem? (i := 183) (by decide +kernel), List.mem_of_getElem? (i := 698) (by decide +kernel), List.mem_of_getElem? (i := 699) (by decide +kernel)⟩
theorem lw_p55 : lw_okq (⟨"PieFunnels$Parting", "firstLeft", "(II)I"⟩, 5) := ⟨⟨by decide +kernel, by decide +kernel⟩, List.mem_of_getElem? (i := 183) (by decide +kernel), List.mem_of_getElem? (i := 702) (by decide +kernel), List.mem_of_getElem? (i := 703) (by decide +kernel)⟩
theorem lw_p56 : lw_okq (⟨"PieFunnels$Parting", "whomHas", "(I)I"⟩, 5) := ⟨⟨by decide +kernel, by decide +kernel⟩, List.mem_of_getElem? (i := 183) (by decide +kernel), List.mem_of_getElem? (i := 706) (by decide +kernel), List.mem_of_getElem? (i := 707) (by decide +kernel)⟩
theorem lw_p57 : lw_okq (⟨"PieFunnels", "bakeInTruth", "(I)V"⟩, 12) := ⟨⟨by decide +kernel, by decide +kernel⟩, List.mem_of_getElem? (i := 17) (by decide +kernel), List.mem_of_getElem? (i := 723) (by decide +kernel), List.mem_of_getElem? (i := 724) (by decide +kernel)⟩
theorem lw_p58 : lw_okq (⟨"PieFunnels$Bakery", "draw", "(I)I"⟩, 11) := ⟨⟨by decide +kernel, by decide +kernel⟩, List.mem_of_getElem? (i := 27) (by decide +kernel), List.mem_of_getElem? (i := 731) (by decide +kernel), List.mem_of_getElem? (i := 732) (by decide +kernel)⟩
theorem lw_p59 : lw_okq (⟨"PieFunnels$Moves", "forget", "()V"⟩, 5) := ⟨⟨by decide +kernel, by decide +kernel⟩, List.mem_of_getElem? (i := 108) (by decide +kernel), List.mem_of_getElem? (i := 744) (by decide +kernel), List.mem_of_getElem? (i := 745) (by decide +kernel)⟩
theorem lw_p60 : lw_okq (⟨"PieFunnels$Moves", "take", "(LPieFunnels$Bakery;I)V"⟩, 5) := ⟨⟨by decide +kernel, by decide +kernel⟩, List.mem_of_getElem? (i := 108) (by decide +kernel), List.mem_of_getElem? (i := 748) (by decide +kernel), List.mem_of_getElem? (i := 749) (by decide +kernel)⟩
theorem lw_p61 : lw_okq (⟨"PieFunnels$Moves", "begin", "(I)V"⟩, 5) := ⟨⟨by decide +kernel, by decide +kernel⟩, List.mem_of_getElem? (i := 108) (by decide +kernel), List.mem_of_getElem? (i := 762) (by decide +kernel), List.mem_of_getElem? (i := 763) (by decide +kernel)⟩
theorem lw_p62 : lw_okq (⟨"PieFunnels$Moves", "traced", "()I"⟩, 5) := ⟨⟨by decide +kernel, by decide +kernel⟩, List.mem_of_getElem? (i := 108) (by decide +kernel), List.mem_of_getElem? (i := 771) (by decide +kernel), List.mem_of_getElem? (i := 772) (by decide +kernel)⟩
theorem lw_p63 : lw_okq (⟨"PieFunnelsModel", "no", "(I)I"⟩, 37) := ⟨⟨by decide +kernel, by decide +kernel⟩, List.mem_of_getElem? (i := 788) (by decide +kernel), List.mem_of_getElem? (i := 913) (by decide +kernel), List.mem_of_getElem? (i := 914) (by decide +kernel)⟩
def lw_privs_4 : List (MethodName × Nat) := [(⟨"PieFunnels$Pie", "unknowns", "()I"⟩, 2), (⟨"PieFunnels$Pie", "fillUnknowns", "(I)V"⟩, 2), (⟨"PieFunnels", "fewestIllsByLast", "()I"⟩, 12), (⟨"PieFunnels$Pie", "setLast", "(I)V"⟩, 2), (⟨"PieFunnels$Parting", "takeWishes", "(LPieFunnels$Shelf;)Z"⟩, 5), (⟨"PieFunnels$Parting", "bringsOf", "(II)V"⟩, 5), (⟨"PieFunnels$Parting", "part", "(I)V"⟩, 5), (⟨"PieFunnels$Parting", "firstLeft", "(II)I"⟩, 5), (⟨"PieFunnels$Parting", "whomHas", "(I)I"⟩, 5), (⟨"PieFunnels", "bakeInTruth", "(I)V"⟩, 12), (⟨"PieFunnels$Bakery", "draw", "(I)I"⟩, 11), (⟨"PieFunnels$Moves", "forget", "()V"⟩, 5), (⟨"PieFunnels$Moves", "take", "(LPieFunnels$Bakery;I)V"⟩, 5), (⟨"PieFunnels$Moves", "begin", "(I)V"⟩, 5), (⟨"PieFunnels$Moves", "traced", "()I"⟩, 5), (⟨"PieFunnelsModel", "no", "(I)I"⟩, 37)]
theorem lw_r4 : ∀ q ∈ lw_privs_4, lw_okq q := List.forall_mem_cons.mpr ⟨lw_p48, List.forall_mem_cons.mpr ⟨lw_p49, List.forall_mem_cons.mpr ⟨lw_p50, List.forall_mem_cons.mpr ⟨lw_p51, List.forall_mem_cons.mpr ⟨lw_p52, List.forall_mem_cons.mpr ⟨lw_p53, List.forall_mem_cons.mpr ⟨lw_p54, List.forall_mem_cons.mpr ⟨lw_p55, List.forall_mem_cons.mpr ⟨lw_p56, List.forall_mem_cons.mpr ⟨lw_p57, List.forall_mem_cons.mpr ⟨lw_p58, List.forall_mem_cons.mpr ⟨lw_p59, List.forall_mem_cons.mpr ⟨lw_p60, List.forall_mem_cons.mpr ⟨lw_p61, List.forall_mem_cons.mpr ⟨lw_p62, List.forall_mem_cons.mpr ⟨lw_p63, fun _ h => absurd h List.not_mem_nil⟩⟩⟩⟩⟩⟩⟩⟩⟩⟩⟩⟩⟩⟩⟩⟩
theorem lw_p64 : lw_okq (⟨"PieFunnelsModel", "noRow", "(I)I"⟩, 37) := ⟨⟨by decide +kernel, by decide +kernel⟩, List.mem_of_getElem? (i := 788) (by decide +kernel), List.mem_of_getElem? (i := 921) (by decide +kernel), List.mem_of_getElem? (i := 922) (by decide +kernel)⟩
theorem lw_p65 : lw_okq (⟨"PieFunnelsModel", "isRow", "(I)Z"⟩, 37) := ⟨⟨by decide +kernel, by decide +kernel⟩, List.mem_of_getElem? (i := 788) (by decide +kernel), List.mem_of_getElem? (i := 925) (by decide +kernel), List.mem_of_getElem? (i := 926) (by decide +kernel)⟩
theorem lw_p66 : lw_okq (⟨"PieFunnelsModel", "isBird", "(I)Z"⟩, 37) := ⟨⟨by decide +kernel, by decide +kernel⟩, List.mem_of_getElem? (i := 788) (by decide +kernel), List.mem_of_getElem? (i := 941) (by decide +kernel), List.mem_of_getElem? (i := 942) (by decide +kernel)⟩
theorem lw_p67 : lw_okq (⟨"PieFunnelsModel", "no10", "(I)I"⟩, 37) := ⟨⟨by decide +kernel, by decide +kernel⟩, List.mem_of_getElem? (i := 788) (by decide +kernel), List.mem_of_getElem? (i := 953) (by decide +kernel), List.mem_of_getElem? (i := 954) (by decide +kernel)⟩
theorem lw_p68 : lw_okq (⟨"PieFunnelsModel", "tells", "(I)V"⟩, 37) := ⟨⟨by decide +kernel, by decide +kernel⟩, List.mem_of_getElem? (i := 788) (by decide +kernel), List.mem_of_getElem? (i := 963) (by decide +kernel), List.mem_of_getElem? (i := 964) (by decide +kernel)⟩
theorem lw_p69 : lw_okq (⟨"PieFunnelsModel", "chipped", "(II)I"⟩, 37) := ⟨⟨by decide +kernel, by decide +kernel⟩, List.mem_of_getElem? (i := 788) (by decide +kernel), List.mem_of_getElem? (i := 968) (by decide +kernel), List.mem_of_getElem? (i := 969) (by decide +kernel)⟩
theorem lw_p70 : lw_okq (⟨"PieFunnelsModel", "plain", "(II)I"⟩, 37) := ⟨⟨by decide +kernel, by decide +kernel⟩, List.mem_of_getElem? (i := 788) (by decide +kernel), List.mem_of_getElem? (i := 972) (by decide +kernel), List.mem_of_getElem? (i := 973) (by decide +kernel)⟩
theorem lw_p71 : lw_okq (⟨"PieFunnelsModel", "widowed", "(II)I"⟩, 37) := ⟨⟨by decide +kernel, by decide +kernel⟩, List.mem_of_getElem? (i := 788) (by decide +kernel), List.mem_of_getElem? (i := 976) (by decide +kernel), List.mem_of_getElem? (i := 977) (by decide +kernel)⟩
theorem lw_p72 : lw_okq (⟨"PieFunnelsModel", "sorts", "()V"⟩, 37) := ⟨⟨by decide +kernel, by decide +kernel⟩, List.mem_of_getElem? (i := 788) (by decide +kernel), List.mem_of_getElem? (i := 980) (by decide +kernel), List.mem_of_getElem? (i := 981) (by decide +kernel)⟩
theorem lw_p73 : lw_okq (⟨"PieFunnelsModel", "newBird", "(III)I"⟩, 37) := ⟨⟨by decide +kernel, by decide +kernel⟩, List.mem_of_getElem? (i := 788) (by decide +kernel), List.mem_of_getElem? (i := 988) (by decide +kernel), List.mem_of_getElem? (i := 989) (by decide +kernel)⟩
theorem lw_p74 : lw_okq (⟨"PieFunnelsModel", "keep", "([I)V"⟩, 37) := ⟨⟨by decide +kernel, by decide +kernel⟩, List.mem_of_getElem? (i := 788) (by decide +kernel), List.mem_of_getElem? (i := 1018) (by decide +kernel), List.mem_of_getElem? (i := 1019) (by decide +kernel)⟩
theorem lw_p75 : lw_okq (⟨"PieFunnelsModel", "item", "()Z"⟩, 37) := ⟨⟨by decide +kernel, by decide +kernel⟩, List.mem_of_getElem? (i := 788) (by decide +kernel), List.mem_of_getElem? (i := 1022) (by decide +kernel), List.mem_of_getElem? (i := 1023) (by decide +kernel)⟩
theorem lw_p76 : lw_okq (⟨"PieFunnelsModel", "sign", "()I"⟩, 37) := ⟨⟨by decide +kernel, by decide +kernel⟩, List.mem_of_getElem? (i := 788) (by decide +kernel), List.mem_of_getElem? (i := 1026) (by decide +kernel), List.mem_of_getElem? (i := 1027) (by decide +kernel)⟩
theorem lw_p77 : lw_okq (⟨"PieFunnelsModel", "word", "(Ljava/lang/String;Z)Z"⟩, 37) := ⟨⟨by decide +kernel, by decide +kernel⟩, List.mem_of_getElem? (i := 788) (by decide +kernel), List.mem_of_getElem? (i := 1031) (by decide +kernel), List.mem_of_getElem? (i := 1032) (by decide +kernel)⟩
theorem lw_p78 : lw_okq (⟨"PieFunnelsModel", "word", "(Ljava/lang/String;)Z"⟩, 37) := ⟨⟨by decide +kernel, by decide +kernel⟩, List.mem_of_getElem? (i := 788) (by decide +kernel), List.mem_of_getElem? (i := 1035) (by decide +kernel), List.mem_of_getElem? (i := 1036) (by decide +kernel)⟩
theorem lw_p79 : lw_okq (⟨"PieFunnelsModel", "is", "(C)Z"⟩, 37) := ⟨⟨by decide +kernel, by decide +kernel⟩, List.mem_of_getElem? (i := 788) (by decide +kernel), List.mem_of_getElem? (i := 1041) (by decide +kernel), List.mem_of_getElem? (i := 1042) (by decide +kernel)⟩
def lw_privs_5 : List (MethodName × Nat) := [(⟨"PieFunnelsModel", "noRow", "(I)I"⟩, 37), (⟨"PieFunnelsModel", "isRow", "(I)Z"⟩, 37), (⟨"PieFunnelsModel", "isBird", "(I)Z"⟩, 37), (⟨"PieFunnelsModel", "no10", "(I)I"⟩, 37), (⟨"PieFunnelsModel", "tells", "(I)V"⟩, 37), (⟨"PieFunnelsModel", "chipped", "(II)I"⟩, 37), (⟨"PieFunnelsModel", "plain", "(II)I"⟩, 37), (⟨"PieFunnelsModel", "widowed", "(II)I"⟩, 37), (⟨"PieFunnelsModel", "sorts", "()V"⟩, 37), (⟨"PieFunnelsModel", "newBird", "(III)I"⟩, 37), (⟨"PieFunnelsModel", "keep", "([I)V"⟩, 37), (⟨"PieFunnelsModel", "item", "()Z"⟩, 37), (⟨"PieFunnelsModel", "sign", "()I"⟩, 37), (⟨"PieFunnelsModel", "word", "(Ljava/lang/String;Z)Z"⟩, 37), (⟨"PieFunnelsModel", "word", "(Ljava/lang/String;)Z"⟩, 37), (⟨"PieFunnelsModel", "is", "(C)Z"⟩, 37)]
theorem lw_r5 : ∀ q ∈ lw_privs_5, lw_okq q := List.forall_mem_cons.mpr ⟨lw_p64, List.forall_mem_cons.mpr ⟨lw_p65, List.forall_mem_cons.mpr ⟨lw_p66, List.forall_mem_cons.mpr ⟨lw_p67, List.forall_mem_cons.mpr ⟨lw_p68, List.forall_mem_cons.mpr ⟨lw_p69, List.forall_mem_cons.mpr ⟨lw_p70, List.forall_mem_cons.mpr ⟨lw_p71, List.forall_mem_cons.mpr ⟨lw_p72, List.forall_mem_cons.mpr ⟨lw_p73, List.forall_mem_cons.mpr ⟨lw_p74, List.forall_mem_cons.mpr ⟨lw_p75, List.forall_mem_cons.mpr ⟨lw_p76, List.forall_mem_cons.mpr ⟨lw_p77, List.forall_mem_cons.mpr ⟨lw_p78, List.forall_mem_cons.mpr ⟨lw_p79, fun _ h => absurd h List.not_mem_nil⟩⟩⟩⟩⟩⟩⟩⟩⟩⟩⟩⟩⟩⟩⟩⟩
theorem lw_p80 : lw_okq (⟨"PieFunnelsModel", "number", "(III)Z"⟩, 37) := ⟨⟨by decide +kernel, by decide +kernel⟩, List.mem_of_getElem? (i := 788) (by decide +kernel), List.mem_of_getElem? (i := 1045) (by decide +kernel), List.mem_of_getElem? (i := 1046) (by decide +kernel)⟩
theorem lw_p81 : lw_okq (⟨"PieFunnelsModel", "again", "([I)V"⟩, 37) := ⟨⟨by decide +kernel, by decide +kernel⟩, List.mem_of_getElem? (i := 788) (by decide +kernel), List.mem_of_getElem? (i := 1054) (by decide +kernel), List.mem_of_getElem? (i := 1055) (by decide +kernel)⟩
theorem lw_p82 : lw_okq (⟨"PieFunnelsModel", "noPie", "(II)I"⟩, 37) := ⟨⟨by decide +kernel, by decide +kernel⟩, List.mem_of_getElem? (i := 788) (by decide +kernel), List.mem_of_getElem? (i := 1066) (by decide +kernel), List.mem_of_getElem? (i := 1067) (by decide +kernel)⟩
theorem lw_p83 : lw_okq (⟨"PieFunnelsModel", "isPie", "(II)Z"⟩, 37) := ⟨⟨by decide +kernel, by decide +kernel⟩, List.mem_of_getElem? (i := 788) (by decide +kernel), List.mem_of_getElem? (i := 1070) (by decide +kernel), List.mem_of_getElem? (i := 1071) (by decide +kernel)⟩
theorem lw_p84 : lw_okq (⟨"PieFunnelsModel", "toldAt", "(II)I"⟩, 37) := ⟨⟨by decide +kernel, by decide +kernel⟩, List.mem_of_getElem? (i := 788) (by decide +kernel), List.mem_of_getElem? (i := 1074) (by decide +kernel), List.mem_of_getElem? (i := 1075) (by decide +kernel)⟩
theorem lw_p85 : lw_okq (⟨"PieFunnelsModel", "goes", "(II)V"⟩, 37) := ⟨⟨by decide +kernel, by decide +kernel⟩, List.mem_of_getElem? (i := 788) (by decide +kernel), List.mem_of_getElem? (i := 1082) (by decide +kernel), List.mem_of_getElem? (i := 1083) (by decide +kernel)⟩
theorem lw_p86 : lw_okq (⟨"PieFunnelsModel", "lays", "(II)V"⟩, 37) := ⟨⟨by decide +kernel, by decide +kernel⟩, List.mem_of_getElem? (i := 788) (by decide +kernel), List.mem_of_getElem? (i := 1096) (by decide +kernel), List.mem_of_getElem? (i := 1097) (by decide +kernel)⟩
theorem lw_p87 : lw_okq (⟨"PieFunnelsModel", "noRows", "(II)I"⟩, 37) := ⟨⟨by decide +kernel, by decide +kernel⟩, List.mem_of_getElem? (i := 788) (by decide +kernel), List.mem_of_getElem? (i := 1108) (by decide +kernel), List.mem_of_getElem? (i := 1109) (by decide +kernel)⟩
theorem lw_p88 : lw_okq (⟨"PieFunnelsModel", "kindsSo", "(II)I"⟩, 37) := ⟨⟨by decide +kernel, by decide +kernel⟩, List.mem_of_getElem? (i := 788) (by decide +kernel), List.mem_of_getElem? (i := 1112) (by decide +kernel), List.mem_of_getElem? (i := 1113) (by decide +kernel)⟩
theorem lw_p89 : lw_okq (⟨"PieFunnelsModel", "isSaid", "(II)Z"⟩, 37) := ⟨⟨by decide +kernel, by decide +kernel⟩, List.mem_of_getElem? (i := 788) (by decide +kernel), List.mem_of_getElem? (i := 1116) (by decide +kernel), List.mem_of_getElem? (i := 1117) (by decide +kernel)⟩
theorem lw_p90 : lw_okq (⟨"PieFunnelsModel", "heatsSo", "(II)I"⟩, 37) := ⟨⟨by decide +kernel, by decide +kernel⟩, List.mem_of_getElem? (i := 788) (by decide +kernel), List.mem_of_getElem? (i := 1120) (by decide +kernel), List.mem_of_getElem? (i := 1121) (by decide +kernel)⟩
theorem lw_p91 : lw_okq (⟨"PieFunnelsModel", "mouthsSo", "(II)I"⟩, 37) := ⟨⟨by decide +kernel, by decide +kernel⟩, List.mem_of_getElem? (i := 788) (by decide +kernel), List.mem_of_getElem? (i := 1124) (by decide +kernel), List.mem_of_getElem? (i := 1125) (by decide +kernel)⟩
theorem lw_p92 : lw_okq (⟨"PieFunnelsModel", "worst", "(I)I"⟩, 37) := ⟨⟨by decide +kernel, by decide +kernel⟩, List.mem_of_getElem? (i := 788) (by decide +kernel), List.mem_of_getElem? (i := 1136) (by decide +kernel), List.mem_of_getElem? (i := 1137) (by decide +kernel)⟩
theorem lw_p93 : lw_okq (⟨"PieFunnelsModel", "unknown", "()I"⟩, 37) := ⟨⟨by decide +kernel, by decide +kernel⟩, List.mem_of_getElem? (i := 788) (by decide +kernel), List.mem_of_getElem? (i := 1145) (by decide +kernel), List.mem_of_getElem? (i := 1146) (by decide +kernel)⟩
theorem lw_p94 : lw_okq (⟨"PieFunnelsModel", "fewestIlls", "(I)I"⟩, 37) := ⟨⟨by decide +kernel, by decide +kernel⟩, List.mem_of_getElem? (i := 788) (by decide +kernel), List.mem_of_getElem? (i := 1162) (by decide +kernel), List.mem_of_getElem? (i := 1163) (by decide +kernel)⟩
theorem lw_p95 : lw_okq (⟨"PieFunnelsModel", "areWishes", "(I)Z"⟩, 37) := ⟨⟨by decide +kernel, by decide +kernel⟩, List.mem_of_getElem? (i := 788) (by decide +kernel), List.mem_of_getElem? (i := 1170) (by decide +kernel), List.mem_of_getElem? (i := 1171) (by decide +kernel)⟩
def lw_privs_6 : List (MethodName × Nat) := [(⟨"PieFunnelsModel", "number", "(III)Z"⟩, 37), (⟨"PieFunnelsModel", "again", "([I)V"⟩, 37), (⟨"PieFunnelsModel", "noPie", "(II)I"⟩, 37), (⟨"PieFunnelsModel", "isPie", "(II)Z"⟩, 37), (⟨"PieFunnelsModel", "toldAt", "(II)I"⟩, 37), (⟨"PieFunnelsModel", "goes", "(II)V"⟩, 37), (⟨"PieFunnelsModel", "lays", "(II)V"⟩, 37), (⟨"PieFunnelsModel", "noRows", "(II)I"⟩, 37), (⟨"PieFunnelsModel", "kindsSo", "(II)I"⟩, 37), (⟨"PieFunnelsModel", "isSaid", "(II)Z"⟩, 37), (⟨"PieFunnelsModel", "heatsSo", "(II)I"⟩, 37), (⟨"PieFunnelsModel", "mouthsSo", "(II)I"⟩, 37), (⟨"PieFunnelsModel", "worst", "(I)I"⟩, 37), (⟨"PieFunnelsModel", "unknown", "()I"⟩, 37), (⟨"PieFunnelsModel", "fewestIlls", "(I)I"⟩, 37), (⟨"PieFunnelsModel", "areWishes", "(I)Z"⟩, 37)]
theorem lw_r6 : ∀ q ∈ lw_privs_6, lw_okq q := List.forall_mem_cons.mpr ⟨lw_p80, List.forall_mem_cons.mpr ⟨lw_p81, List.forall_mem_cons.mpr ⟨lw_p82, List.forall_mem_cons.mpr ⟨lw_p83, List.forall_mem_cons.mpr ⟨lw_p84, List.forall_mem_cons.mpr ⟨lw_p85, List.forall_mem_cons.mpr ⟨lw_p86, List.forall_mem_cons.mpr ⟨lw_p87, List.forall_mem_cons.mpr ⟨lw_p88, List.forall_mem_cons.mpr ⟨lw_p89, List.forall_mem_cons.mpr ⟨lw_p90, List.forall_mem_cons.mpr ⟨lw_p91, List.forall_mem_cons.mpr ⟨lw_p92, List.forall_mem_cons.mpr ⟨lw_p93, List.forall_mem_cons.mpr ⟨lw_p94, List.forall_mem_cons.mpr ⟨lw_p95, fun _ h => absurd h List.not_mem_nil⟩⟩⟩⟩⟩⟩⟩⟩⟩⟩⟩⟩⟩⟩⟩⟩
theorem lw_p96 : lw_okq (⟨"PieFunnelsModel", "parts", "(III)V"⟩, 37) := ⟨⟨by decide +kernel, by decide +kernel⟩, List.mem_of_getElem? (i := 788) (by decide +kernel), List.mem_of_getElem? (i := 1174) (by decide +kernel), List.mem_of_getElem? (i := 1175) (by decide +kernel)⟩
theorem lw_p97 : lw_okq (⟨"PieFunnelsModel", "bakes", "(I)V"⟩, 37) := ⟨⟨by decide +kernel, by decide +kernel⟩, List.mem_of_getElem? (i := 788) (by decide +kernel), List.mem_of_getElem? (i := 1191) (by decide +kernel), List.mem_of_getElem? (i := 1192) (by decide +kernel)⟩
theorem lw_p98 : lw_okq (⟨"PieFunnelsModel", "draw", "(I)I"⟩, 37) := ⟨⟨by decide +kernel, by decide +kernel⟩, List.mem_of_getElem? (i := 788) (by decide +kernel), List.mem_of_getElem? (i := 1199) (by decide +kernel), List.mem_of_getElem? (i := 1200) (by decide +kernel)⟩
theorem lw_p99 : lw_okq (⟨"PieFunnelsModel", "singsBy", "(III)I"⟩, 37) := ⟨⟨by decide +kernel, by decide +kernel⟩, List.mem_of_getElem? (i := 788) (by decide +kernel), List.mem_of_getElem? (i := 1212) (by decide +kernel), List.mem_of_getElem? (i := 1213) (by decide +kernel)⟩
theorem lw_p100 : lw_okq (⟨"PieFunnelsModel", "ran", "(I)V"⟩, 37) := ⟨⟨by decide +kernel, by decide +kernel⟩, List.mem_of_getElem? (i := 788) (by decide +kernel), List.mem_of_getElem? (i := 1216) (by decide +kernel), List.mem_of_getElem? (i := 1217) (by decide +kernel)⟩
theorem lw_p101 : lw_okq (⟨"PieFunnelsModel", "steamsBy", "(III)I"⟩, 37) := ⟨⟨by decide +kernel, by decide +kernel⟩, List.mem_of_getElem? (i := 788) (by decide +kernel), List.mem_of_getElem? (i := 1220) (by decide +kernel), List.mem_of_getElem? (i := 1221) (by decide +kernel)⟩
theorem lw_p102 : lw_okq (⟨"PieFunnelsModel", "fallsBy", "(III)I"⟩, 37) := ⟨⟨by decide +kernel, by decide +kernel⟩, List.mem_of_getElem? (i := 788) (by decide +kernel), List.mem_of_getElem? (i := 1224) (by decide +kernel), List.mem_of_getElem? (i := 1225) (by decide +kernel)⟩
def lw_privs_7 : List (MethodName × Nat) := [(⟨"PieFunnelsModel", "parts", "(III)V"⟩, 37), (⟨"PieFunnelsModel", "bakes", "(I)V"⟩, 37), (⟨"PieFunnelsModel", "draw", "(I)I"⟩, 37), (⟨"PieFunnelsModel", "singsBy", "(III)I"⟩, 37), (⟨"PieFunnelsModel", "ran", "(I)V"⟩, 37), (⟨"PieFunnelsModel", "steamsBy", "(III)I"⟩, 37), (⟨"PieFunnelsModel", "fallsBy", "(III)I"⟩, 37)]
theorem lw_r7 : ∀ q ∈ lw_privs_7, lw_okq q := List.forall_mem_cons.mpr ⟨lw_p96, List.forall_mem_cons.mpr ⟨lw_p97, List.forall_mem_cons.mpr ⟨lw_p98, List.forall_mem_cons.mpr ⟨lw_p99, List.forall_mem_cons.mpr ⟨lw_p100, List.forall_mem_cons.mpr ⟨lw_p101, List.forall_mem_cons.mpr ⟨lw_p102, fun _ h => absurd h List.not_mem_nil⟩⟩⟩⟩⟩⟩⟩
def lw_privs : List (MethodName × Nat) := lw_privs_1 ++ (lw_privs_2 ++ (lw_privs_3 ++ (lw_privs_4 ++ (lw_privs_5 ++ (lw_privs_6 ++ (lw_privs_7))))))
def lw_tbl : List Cond := k2_sels lw_privs ++ tables_1
theorem lw_privs_ok : ∀ q ∈ lw_privs, lw_okq q := by
  show ∀ q ∈ lw_privs_1 ++ (lw_privs_2 ++ (lw_privs_3 ++ (lw_privs_4 ++ (lw_privs_5 ++ (lw_privs_6 ++ (lw_privs_7)))))), lw_okq q
  exact List.forall_mem_append.mpr ⟨lw_r1, List.forall_mem_append.mpr ⟨lw_r2, List.forall_mem_append.mpr ⟨lw_r3, List.forall_mem_append.mpr ⟨lw_r4, List.forall_mem_append.mpr ⟨lw_r5, List.forall_mem_append.mpr ⟨lw_r6, lw_r7⟩⟩⟩⟩⟩⟩
-- ===== end of PART A; then your names; then what follows =====
end
section
def RX0 : String := "PieFunnels$Bakery"
def TX0 : u_T := fun k => match k with
  | 0 => ("PieFunnels$Bakery", "birds", "I", false)
  | 1 => ("PieFunnels$Bakery", "kinds", "[I", true)
  | 2 => ("PieFunnels$Bakery", "as", "[I", true)
  | 3 => ("PieFunnels$Bakery", "mouths", "[I", true)
  | 4 => ("PieFunnels$Bakery", "table", "[I", true)
  | 5 => ("PieFunnels$Bakery", "heat", "I", false)
  | 6 => ("PieFunnels$Bakery", "state", "I", false)
  | 7 => ("PieFunnels$Bakery", "troubles", "I", false)
  | 8 => ("PieFunnels$Bakery", "bakes", "I", false)
  | 9 => ("PieFunnels$Bakery", "suffered", "I", false)
  | _ => ("PieFunnels$Bakery", "seed", "I", false)
def tyX0 : Nat → FieldType := fun k => match k with
  | 0 => .int
  | 1 => .array .int
  | 2 => .array .int
  | 3 => .array .int
  | 4 => .array .int
  | 5 => .int
  | 6 => .int
  | 7 => .int
  | 8 => .int
  | 9 => .int
  | _ => .int
theorem nmX0 : ∀ a, a < 11 → ∀ b, b < 11 → a ≠ b → (TX0 a).2.1 ≠ (TX0 b).2.1 := by decide +kernel
theorem tyX0_ok : ∀ k, k < 11 → parseFieldDescriptor (TX0 k).2.2.1 = some (tyX0 k) := by decide +kernel
abbrev cX0_init : ByteArray := prog_2_method_1_code
def yX0_init : MethodName := ⟨RX0, "<init>", "()V"⟩
abbrev cX0_become : ByteArray := prog_2_method_2_code
def yX0_become : MethodName := ⟨RX0, "become", "(LPieFunnels$Bakery;)V"⟩
abbrev cX0_lacks : ByteArray := prog_2_method_3_code
def yX0_lacks : MethodName := ⟨RX0, "lacks", "(I)Z"⟩
abbrev cX0_add : ByteArray := prog_2_method_4_code
def yX0_add : MethodName := ⟨RX0, "add", "(III)V"⟩
abbrev cX0_comingBy : ByteArray := prog_2_method_5_code
def yX0_comingBy : MethodName := ⟨RX0, "comingBy", "(II)I"⟩
abbrev cX0_setComing : ByteArray := prog_2_method_6_code
def yX0_setComing : MethodName := ⟨RX0, "setComing", "(III)V"⟩
abbrev cX0_endOf : ByteArray := prog_2_method_7_code
def yX0_endOf : MethodName := ⟨RX0, "endOf", "(LPieFunnels$Voice;I)I"⟩
abbrev cX0_illsOf : ByteArray := prog_2_method_8_code
def yX0_illsOf : MethodName := ⟨RX0, "illsOf", "(LPieFunnels$Voice;)I"⟩
abbrev cX0_draw : ByteArray := prog_2_method_9_code
def yX0_draw : MethodName := ⟨RX0, "draw", "(I)I"⟩
def RX1 : String := "PieFunnels$Moves"
def TX1 : u_T := fun k => match k with
  | 0 => ("PieFunnels$Moves", "trace", "[I", true)
  | 1 => ("PieFunnels$Moves", "ran", "I", false)
  | 2 => ("PieFunnels$Moves", "kind", "I", false)
  | 3 => ("PieFunnels$Moves", "number", "I", false)
  | _ => ("PieFunnels$Moves", "a", "I", false)
def tyX1 : Nat → FieldType := fun k => match k with
  | 0 => .array .int
  | 1 => .int
  | 2 => .int
  | 3 => .int
  | _ => .int
theorem nmX1 : ∀ a, a < 5 → ∀ b, b < 5 → a ≠ b → (TX1 a).2.1 ≠ (TX1 b).2.1 := by decide +kernel
theorem tyX1_ok : ∀ k, k < 5 → parseFieldDescriptor (TX1 k).2.2.1 = some (tyX1 k) := by decide +kernel
abbrev cX1_init : ByteArray := prog_3_method_1_code
def yX1_init : MethodName := ⟨RX1, "<init>", "()V"⟩
abbrev cX1_forget : ByteArray := prog_3_method_2_code
def yX1_forget : MethodName := ⟨RX1, "forget", "()V"⟩
abbrev cX1_take : ByteArray := prog_3_method_3_code
def yX1_take : MethodName := ⟨RX1, "take", "(LPieFunnels$Bakery;I)V"⟩
abbrev cX1_traced : ByteArray := prog_3_method_4_code
def yX1_traced : MethodName := ⟨RX1, "traced", "()I"⟩
abbrev cX1_begin : ByteArray := prog_3_method_5_code
def yX1_begin : MethodName := ⟨RX1, "begin", "(I)V"⟩
abbrev cX1_bodyFrom : ByteArray := prog_3_method_6_code
def yX1_bodyFrom : MethodName := ⟨RX1, "bodyFrom", "(II)I"⟩
abbrev cX1_run : ByteArray := prog_3_method_7_code
def yX1_run : MethodName := ⟨RX1, "run", "(LPieFunnels$Moves;IIII)I"⟩
def RX2 : String := "PieFunnels$Parting"
def TX2 : u_T := fun k => match k with
  | 0 => ("PieFunnels$Parting", "tribes", "I", false)
  | 1 => ("PieFunnels$Parting", "served", "I", false)
  | 2 => ("PieFunnels$Parting", "wishes", "[I", true)
  | 3 => ("PieFunnels$Parting", "whom", "[I", true)
  | _ => ("PieFunnels$Parting", "brought", "[I", true)
def tyX2 : Nat → FieldType := fun k => match k with
  | 0 => .int
  | 1 => .int
  | 2 => .array .int
  | 3 => .array .int
  | _ => .array .int
theorem nmX2 : ∀ a, a < 5 → ∀ b, b < 5 → a ≠ b → (TX2 a).2.1 ≠ (TX2 b).2.1 := by decide +kernel
theorem tyX2_ok : ∀ k, k < 5 → parseFieldDescriptor (TX2 k).2.2.1 = some (tyX2 k) := by decide +kernel
abbrev cX2_init : ByteArray := prog_4_method_1_code
def yX2_init : MethodName := ⟨RX2, "<init>", "()V"⟩
abbrev cX2_takeWishes : ByteArray := prog_4_method_2_code
def yX2_takeWishes : MethodName := ⟨RX2, "takeWishes", "(LPieFunnels$Shelf;)Z"⟩
abbrev cX2_bringsOf : ByteArray := prog_4_method_3_code
def yX2_bringsOf : MethodName := ⟨RX2, "bringsOf", "(II)V"⟩
abbrev cX2_part : ByteArray := prog_4_method_4_code
def yX2_part : MethodName := ⟨RX2, "part", "(I)V"⟩
abbrev cX2_firstLeft : ByteArray := prog_4_method_5_code
def yX2_firstLeft : MethodName := ⟨RX2, "firstLeft", "(II)I"⟩
abbrev cX2_whomHas : ByteArray := prog_4_method_6_code
def yX2_whomHas : MethodName := ⟨RX2, "whomHas", "(I)I"⟩
def RX3 : String := "PieFunnels$Pie"
def TX3 : u_T := fun k => match k with
  | 0 => ("PieFunnels$Pie", "stuffings", "[I", true)
  | _ => ("PieFunnels$Pie", "layers", "I", false)
def tyX3 : Nat → FieldType := fun k => match k with
  | 0 => .array .int
  | _ => .int
theorem nmX3 : ∀ a, a < 2 → ∀ b, b < 2 → a ≠ b → (TX3 a).2.1 ≠ (TX3 b).2.1 := by decide +kernel
theorem tyX3_ok : ∀ k, k < 2 → parseFieldDescriptor (TX3 k).2.2.1 = some (tyX3 k) := by decide +kernel
abbrev cX3_init : ByteArray := prog_5_method_1_code
def yX3_init : MethodName := ⟨RX3, "<init>", "()V"⟩
abbrev cX3_take : ByteArray := prog_5_method_2_code
def yX3_take : MethodName := ⟨RX3, "take", "(LPieFunnels$Shelf;I)Z"⟩
abbrev cX3_setByNumber : ByteArray := prog_5_method_3_code
def yX3_setByNumber : MethodName := ⟨RX3, "setByNumber", "(II)V"⟩
abbrev cX3_setLast : ByteArray := prog_5_method_4_code
def yX3_setLast : MethodName := ⟨RX3, "setLast", "(I)V"⟩
abbrev cX3_unknowns : ByteArray := prog_5_method_5_code
def yX3_unknowns : MethodName := ⟨RX3, "unknowns", "()I"⟩
abbrev cX3_fillUnknowns : ByteArray := prog_5_method_6_code
def yX3_fillUnknowns : MethodName := ⟨RX3, "fillUnknowns", "(I)V"⟩
def RX4 : String := "PieFunnels$Reader"
def TX4 : u_T := fun k => match k with
  | 0 => ("PieFunnels$Reader", "fault", "I", false)
  | 1 => ("PieFunnels$Reader", "place", "I", false)
  | 2 => ("PieFunnels$Reader", "text", "LPieFunnels$Shelf;", false)
  | _ => ("PieFunnels$Reader", "numbers", "[I", true)
def tyX4 : Nat → FieldType := fun k => match k with
  | 0 => .int
  | 1 => .int
  | 2 => .object "PieFunnels$Shelf"
  | _ => .array .int
theorem nmX4 : ∀ a, a < 4 → ∀ b, b < 4 → a ≠ b → (TX4 a).2.1 ≠ (TX4 b).2.1 := by decide +kernel
theorem tyX4_ok : ∀ k, k < 4 → parseFieldDescriptor (TX4 k).2.2.1 = some (tyX4 k) := by decide +kernel
abbrev cX4_init : ByteArray := prog_6_method_1_code
def yX4_init : MethodName := ⟨RX4, "<init>", "()V"⟩
abbrev cX4_read : ByteArray := prog_6_method_2_code
def yX4_read : MethodName := ⟨RX4, "read", "(LPieFunnels$Shelf;LPieFunnels$Bakery;)I"⟩
abbrev cX4_readItem : ByteArray := prog_6_method_3_code
def yX4_readItem : MethodName := ⟨RX4, "readItem", "(LPieFunnels$Bakery;)V"⟩
abbrev cX4_tell : ByteArray := prog_6_method_4_code
def yX4_tell : MethodName := ⟨RX4, "tell", "(LPieFunnels$Bakery;I)V"⟩
abbrev cX4_wordThatBeginsWith : ByteArray := prog_6_method_5_code
def yX4_wordThatBeginsWith : MethodName := ⟨RX4, "wordThatBeginsWith", "(I)Ljava/lang/String;"⟩
abbrev cX4_numbersBehind : ByteArray := prog_6_method_6_code
def yX4_numbersBehind : MethodName := ⟨RX4, "numbersBehind", "(I)I"⟩
abbrev cX4_most : ByteArray := prog_6_method_7_code
def yX4_most : MethodName := ⟨RX4, "most", "(II)I"⟩
abbrev cX4_readNumber : ByteArray := prog_6_method_8_code
def yX4_readNumber : MethodName := ⟨RX4, "readNumber", "(I)I"⟩
abbrev cX4_digit : ByteArray := prog_6_method_9_code
def yX4_digit : MethodName := ⟨RX4, "digit", "()I"⟩
abbrev cX4_letter : ByteArray := prog_6_method_10_code
def yX4_letter : MethodName := ⟨RX4, "letter", "()I"⟩
abbrev cX4_expect : ByteArray := prog_6_method_11_code
def yX4_expect : MethodName := ⟨RX4, "expect", "(C)V"⟩
abbrev cX4_fail : ByteArray := prog_6_method_12_code
def yX4_fail : MethodName := ⟨RX4, "fail", "(I)V"⟩
def RX5 : String := "PieFunnels$Shelf"
def TX5 : u_T := fun k => match k with
  | 0 => ("PieFunnels$Shelf", "content", "I", false)
  | 1 => ("PieFunnels$Shelf", "bird", "I", false)
  | 2 => ("PieFunnels$Shelf", "sort", "I", false)
  | 3 => ("PieFunnels$Shelf", "size", "I", false)
  | _ => ("PieFunnels$Shelf", "cells", "[J", true)
def tyX5 : Nat → FieldType := fun k => match k with
  | 0 => .int
  | 1 => .int
  | 2 => .int
  | 3 => .int
  | _ => .array .long
theorem nmX5 : ∀ a, a < 5 → ∀ b, b < 5 → a ≠ b → (TX5 a).2.1 ≠ (TX5 b).2.1 := by decide +kernel
theorem tyX5_ok : ∀ k, k < 5 → parseFieldDescriptor (TX5 k).2.2.1 = some (tyX5 k) := by decide +kernel
abbrev cX5_init : ByteArray := prog_7_method_1_code
def yX5_init : MethodName := ⟨RX5, "<init>", "()V"⟩
abbrev cX5_holdNothing : ByteArray := prog_7_method_2_code
def yX5_holdNothing : MethodName := ⟨RX5, "holdNothing", "()V"⟩
abbrev cX5_holdBird : ByteArray := prog_7_method_3_code
def yX5_holdBird : MethodName := ⟨RX5, "holdBird", "(I)V"⟩
abbrev cX5_holdRow : ByteArray := prog_7_method_4_code
def yX5_holdRow : MethodName := ⟨RX5, "holdRow", "(II)V"⟩
abbrev cX5_put : ByteArray := prog_7_method_5_code
def yX5_put : MethodName := ⟨RX5, "put", "(IJ)V"⟩
abbrev cX5_whole : ByteArray := prog_7_method_6_code
def yX5_whole : MethodName := ⟨RX5, "whole", "(I)J"⟩
abbrev cX5_number : ByteArray := prog_7_method_7_code
def yX5_number : MethodName := ⟨RX5, "number", "(I)I"⟩
abbrev cX5_hasSpan : ByteArray := prog_7_method_8_code
def yX5_hasSpan : MethodName := ⟨RX5, "hasSpan", "(II)Z"⟩
def RX6 : String := "PieFunnels$Voice"
def TX6 : u_T := fun k => match k with
  | 0 => ("PieFunnels$Voice", "kind", "I", false)
  | 1 => ("PieFunnels$Voice", "a", "I", false)
  | 2 => ("PieFunnels$Voice", "mouth", "I", false)
  | 3 => ("PieFunnels$Voice", "heat", "I", false)
  | 4 => ("PieFunnels$Voice", "count", "I", false)
  | _ => ("PieFunnels$Voice", "signs", "[I", true)
def tyX6 : Nat → FieldType := fun k => match k with
  | 0 => .int
  | 1 => .int
  | 2 => .int
  | 3 => .int
  | 4 => .int
  | _ => .array .int
theorem nmX6 : ∀ a, a < 6 → ∀ b, b < 6 → a ≠ b → (TX6 a).2.1 ≠ (TX6 b).2.1 := by decide +kernel
theorem tyX6_ok : ∀ k, k < 6 → parseFieldDescriptor (TX6 k).2.2.1 = some (tyX6 k) := by decide +kernel
abbrev cX6_init : ByteArray := prog_8_method_1_code
def yX6_init : MethodName := ⟨RX6, "<init>", "()V"⟩
abbrev cX6_take : ByteArray := prog_8_method_2_code
def yX6_take : MethodName := ⟨RX6, "take", "(LPieFunnels$Bakery;I)V"⟩
abbrev cX6_speak : ByteArray := prog_8_method_3_code
def yX6_speak : MethodName := ⟨RX6, "speak", "(LPieFunnels$Pie;)V"⟩
abbrev cX6_sayLayers : ByteArray := prog_8_method_4_code
def yX6_sayLayers : MethodName := ⟨RX6, "sayLayers", "(LPieFunnels$Pie;)V"⟩
abbrev cX6_chip : ByteArray := prog_8_method_5_code
def yX6_chip : MethodName := ⟨RX6, "chip", "()V"⟩
abbrev cX6_raise : ByteArray := prog_8_method_6_code
def yX6_raise : MethodName := ⟨RX6, "raise", "()V"⟩
abbrev cX6_keepEachSecond : ByteArray := prog_8_method_7_code
def yX6_keepEachSecond : MethodName := ⟨RX6, "keepEachSecond", "()V"⟩
abbrev cX6_turn : ByteArray := prog_8_method_8_code
def yX6_turn : MethodName := ⟨RX6, "turn", "()V"⟩
abbrev cX6_doubleEach : ByteArray := prog_8_method_9_code
def yX6_doubleEach : MethodName := ⟨RX6, "doubleEach", "()V"⟩
abbrev cX6_order : ByteArray := prog_8_method_10_code
def yX6_order : MethodName := ⟨RX6, "order", "()V"⟩
abbrev cX6_swap : ByteArray := prog_8_method_11_code
def yX6_swap : MethodName := ⟨RX6, "swap", "(II)V"⟩
abbrev cX6_saysJust : ByteArray := prog_8_method_12_code
def yX6_saysJust : MethodName := ⟨RX6, "saysJust", "(LPieFunnels$Shelf;)Z"⟩
abbrev cX6_saysSame : ByteArray := prog_8_method_13_code
def yX6_saysSame : MethodName := ⟨RX6, "saysSame", "(LPieFunnels$Voice;)Z"⟩
def RX7 : String := "PieFunnels"
def TX7 : u_T := fun k => match k with
  | 0 => ("PieFunnels", "shelves", "[LPieFunnels$Shelf;", true)
  | 1 => ("PieFunnels", "bakery", "LPieFunnels$Bakery;", true)
  | 2 => ("PieFunnels", "draft", "LPieFunnels$Bakery;", true)
  | 3 => ("PieFunnels", "kept", "LPieFunnels$Bakery;", true)
  | 4 => ("PieFunnels", "anyKept", "Z", false)
  | 5 => ("PieFunnels", "reader", "LPieFunnels$Reader;", true)
  | 6 => ("PieFunnels", "moves", "LPieFunnels$Moves;", true)
  | 7 => ("PieFunnels", "pie", "LPieFunnels$Pie;", true)
  | 8 => ("PieFunnels", "voice", "LPieFunnels$Voice;", true)
  | 9 => ("PieFunnels", "second", "LPieFunnels$Voice;", true)
  | 10 => ("PieFunnels", "parting", "LPieFunnels$Parting;", true)
  | _ => ("PieFunnels", "refusals", "[I", true)
def tyX7 : Nat → FieldType := fun k => match k with
  | 0 => .array (.object "PieFunnels$Shelf")
  | 1 => .object "PieFunnels$Bakery"
  | 2 => .object "PieFunnels$Bakery"
  | 3 => .object "PieFunnels$Bakery"
  | 4 => .boolean
  | 5 => .object "PieFunnels$Reader"
  | 6 => .object "PieFunnels$Moves"
  | 7 => .object "PieFunnels$Pie"
  | 8 => .object "PieFunnels$Voice"
  | 9 => .object "PieFunnels$Voice"
  | 10 => .object "PieFunnels$Parting"
  | _ => .array .int
theorem nmX7 : ∀ a, a < 12 → ∀ b, b < 12 → a ≠ b → (TX7 a).2.1 ≠ (TX7 b).2.1 := by decide +kernel
theorem tyX7_ok : ∀ k, k < 12 → parseFieldDescriptor (TX7 k).2.2.1 = some (tyX7 k) := by decide +kernel
abbrev cX7_init : ByteArray := prog_1_method_1_code
def yX7_init : MethodName := ⟨RX7, "<init>", "()V"⟩
abbrev cX7_row : ByteArray := prog_1_method_2_code
def yX7_row : MethodName := ⟨RX7, "row", "(III)I"⟩
abbrev cX7_set : ByteArray := prog_1_method_3_code
def yX7_set : MethodName := ⟨RX7, "set", "(IIJ)I"⟩
abbrev cX7_copy : ByteArray := prog_1_method_4_code
def yX7_copy : MethodName := ⟨RX7, "copy", "(IIIII)I"⟩
abbrev cX7_element : ByteArray := prog_1_method_5_code
def yX7_element : MethodName := ⟨RX7, "element", "(II)J"⟩
abbrev cX7_show : ByteArray := prog_1_method_6_code
def yX7_show : MethodName := ⟨RX7, "show", "(II)I"⟩
abbrev cX7_holds : ByteArray := prog_1_method_7_code
def yX7_holds : MethodName := ⟨RX7, "holds", "(I)I"⟩
abbrev cX7_says : ByteArray := prog_1_method_8_code
def yX7_says : MethodName := ⟨RX7, "says", "(II)I"⟩
abbrev cX7_bird : ByteArray := prog_1_method_9_code
def yX7_bird : MethodName := ⟨RX7, "bird", "(III)I"⟩
abbrev cX7_ask : ByteArray := prog_1_method_10_code
def yX7_ask : MethodName := ⟨RX7, "ask", "(II)I"⟩
abbrev cX7_table : ByteArray := prog_1_method_11_code
def yX7_table : MethodName := ⟨RX7, "table", "(III)I"⟩
abbrev cX7_comes : ByteArray := prog_1_method_12_code
def yX7_comes : MethodName := ⟨RX7, "comes", "(II)I"⟩
abbrev cX7_birdOf : ByteArray := prog_1_method_13_code
def yX7_birdOf : MethodName := ⟨RX7, "birdOf", "(II)I"⟩
abbrev cX7_bakery : ByteArray := prog_1_method_14_code
def yX7_bakery : MethodName := ⟨RX7, "bakery", "(I)I"⟩
abbrev cX7_fault : ByteArray := prog_1_method_15_code
def yX7_fault : MethodName := ⟨RX7, "fault", "()I"⟩
abbrev cX7_said : ByteArray := prog_1_method_16_code
def yX7_said : MethodName := ⟨RX7, "said", "(III)I"⟩
abbrev cX7_brings : ByteArray := prog_1_method_17_code
def yX7_brings : MethodName := ⟨RX7, "brings", "(III)I"⟩
abbrev cX7_soonest : ByteArray := prog_1_method_18_code
def yX7_soonest : MethodName := ⟨RX7, "soonest", "(III)I"⟩
abbrev cX7_safe : ByteArray := prog_1_method_19_code
def yX7_safe : MethodName := ⟨RX7, "safe", "(I)I"⟩
abbrev cX7_fits : ByteArray := prog_1_method_20_code
def yX7_fits : MethodName := ⟨RX7, "fits", "(IIII)I"⟩
abbrev cX7_pies : ByteArray := prog_1_method_21_code
def yX7_pies : MethodName := ⟨RX7, "pies", "(IIII)I"⟩
abbrev cX7_next : ByteArray := prog_1_method_22_code
def yX7_next : MethodName := ⟨RX7, "next", "(I)I"⟩
abbrev cX7_chance : ByteArray := prog_1_method_23_code
def yX7_chance : MethodName := ⟨RX7, "chance", "(IIII)I"⟩
abbrev cX7_minutes : ByteArray := prog_1_method_24_code
def yX7_minutes : MethodName := ⟨RX7, "minutes", "(II)I"⟩
abbrev cX7_after : ByteArray := prog_1_method_25_code
def yX7_after : MethodName := ⟨RX7, "after", "(III)I"⟩
abbrev cX7_kings : ByteArray := prog_1_method_26_code
def yX7_kings : MethodName := ⟨RX7, "kings", "(III)I"⟩
abbrev cX7_tribes : ByteArray := prog_1_method_27_code
def yX7_tribes : MethodName := ⟨RX7, "tribes", "(III)I"⟩
abbrev cX7_alike : ByteArray := prog_1_method_28_code
def yX7_alike : MethodName := ⟨RX7, "alike", "(II)I"⟩
abbrev cX7_judge : ByteArray := prog_1_method_29_code
def yX7_judge : MethodName := ⟨RX7, "judge", "(III)I"⟩
abbrev cX7_bake : ByteArray := prog_1_method_30_code
def yX7_bake : MethodName := ⟨RX7, "bake", "(II)I"⟩
abbrev cX7_years : ByteArray := prog_1_method_31_code
def yX7_years : MethodName := ⟨RX7, "years", "(I)I"⟩
abbrev cX7_seed : ByteArray := prog_1_method_32_code
def yX7_seed : MethodName := ⟨RX7, "seed", "(I)I"⟩
abbrev cX7_act : ByteArray := prog_1_method_33_code
def yX7_act : MethodName := ⟨RX7, "act", "(III)I"⟩
abbrev cX7_trace : ByteArray := prog_1_method_34_code
def yX7_trace : MethodName := ⟨RX7, "trace", "(I)I"⟩
abbrev cX7_image : ByteArray := prog_1_method_35_code
def yX7_image : MethodName := ⟨RX7, "image", "()I"⟩
abbrev cX7_restore : ByteArray := prog_1_method_36_code
def yX7_restore : MethodName := ⟨RX7, "restore", "()I"⟩
abbrev cX7_status : ByteArray := prog_1_method_37_code
def yX7_status : MethodName := ⟨RX7, "status", "(I)I"⟩
abbrev cX7_refuse : ByteArray := prog_1_method_38_code
def yX7_refuse : MethodName := ⟨RX7, "refuse", "(I)I"⟩
abbrev cX7_refuseFar : ByteArray := prog_1_method_39_code
def yX7_refuseFar : MethodName := ⟨RX7, "refuseFar", "(I)I"⟩
abbrev cX7_noShelf : ByteArray := prog_1_method_40_code
def yX7_noShelf : MethodName := ⟨RX7, "noShelf", "(I)Z"⟩
abbrev cX7_noRow : ByteArray := prog_1_method_41_code
def yX7_noRow : MethodName := ⟨RX7, "noRow", "(I)I"⟩
abbrev cX7_noRows : ByteArray := prog_1_method_42_code
def yX7_noRows : MethodName := ⟨RX7, "noRows", "(II)I"⟩
abbrev cX7_noPieOf : ByteArray := prog_1_method_43_code
def yX7_noPieOf : MethodName := ⟨RX7, "noPieOf", "(II)I"⟩
abbrev cX7_noPieOfWhat : ByteArray := prog_1_method_44_code
def yX7_noPieOfWhat : MethodName := ⟨RX7, "noPieOfWhat", "(IIII)I"⟩
abbrev cX7_findBringing : ByteArray := prog_1_method_45_code
def yX7_findBringing : MethodName := ⟨RX7, "findBringing", "(II)Z"⟩
abbrev cX7_kindsThatSay : ByteArray := prog_1_method_46_code
def yX7_kindsThatSay : MethodName := ⟨RX7, "kindsThatSay", "(LPieFunnels$Shelf;I)I"⟩
abbrev cX7_heatsThatSay : ByteArray := prog_1_method_47_code
def yX7_heatsThatSay : MethodName := ⟨RX7, "heatsThatSay", "(LPieFunnels$Shelf;I)I"⟩
abbrev cX7_mouthsThatSay : ByteArray := prog_1_method_48_code
def yX7_mouthsThatSay : MethodName := ⟨RX7, "mouthsThatSay", "(LPieFunnels$Shelf;I)I"⟩
abbrev cX7_mostLeft : ByteArray := prog_1_method_49_code
def yX7_mostLeft : MethodName := ⟨RX7, "mostLeft", "(I)I"⟩
abbrev cX7_fewestIllsByLast : ByteArray := prog_1_method_50_code
def yX7_fewestIllsByLast : MethodName := ⟨RX7, "fewestIllsByLast", "()I"⟩
abbrev cX7_bakeInTruth : ByteArray := prog_1_method_51_code
def yX7_bakeInTruth : MethodName := ⟨RX7, "bakeInTruth", "(I)V"⟩
abbrev cX7_isUnder : ByteArray := prog_1_method_52_code
def yX7_isUnder : MethodName := ⟨RX7, "isUnder", "(II)Z"⟩
abbrev cX7_tenTo : ByteArray := prog_1_method_53_code
def yX7_tenTo : MethodName := ⟨RX7, "tenTo", "(I)I"⟩
def RX8 : String := "PieFunnelsModel"
def TX8 : u_T := fun k => match k with
  | 0 => ("PieFunnelsModel", "birds", "I", false)
  | 1 => ("PieFunnelsModel", "kind", "[I", true)
  | 2 => ("PieFunnelsModel", "a", "[I", true)
  | 3 => ("PieFunnelsModel", "mouth", "[I", true)
  | 4 => ("PieFunnelsModel", "ways", "[I", true)
  | 5 => ("PieFunnelsModel", "table", "[I", true)
  | 6 => ("PieFunnelsModel", "bakes", "I", false)
  | 7 => ("PieFunnelsModel", "suffered", "I", false)
  | 8 => ("PieFunnelsModel", "seed", "I", false)
  | 9 => ("PieFunnelsModel", "holding", "[I", true)
  | 10 => ("PieFunnelsModel", "rowLength", "[I", true)
  | 11 => ("PieFunnelsModel", "rowOf", "[J", true)
  | 12 => ("PieFunnelsModel", "reading", "I", false)
  | 13 => ("PieFunnelsModel", "at", "I", false)
  | 14 => ("PieFunnelsModel", "numbers", "[I", true)
  | 15 => ("PieFunnelsModel", "fault", "I", false)
  | 16 => ("PieFunnelsModel", "ahead", "[I", true)
  | 17 => ("PieFunnelsModel", "traced", "I", false)
  | 18 => ("PieFunnelsModel", "traces", "[I", true)
  | 19 => ("PieFunnelsModel", "refusals", "[I", true)
  | 20 => ("PieFunnelsModel", "imaged", "Z", false)
  | 21 => ("PieFunnelsModel", "old", "[I", true)
  | 22 => ("PieFunnelsModel", "laid", "I", false)
  | 23 => ("PieFunnelsModel", "pie", "[I", true)
  | 24 => ("PieFunnelsModel", "many", "I", false)
  | 25 => ("PieFunnelsModel", "signs", "[I", true)
  | 26 => ("PieFunnelsModel", "ended", "I", false)
  | 27 => ("PieFunnelsModel", "ills", "I", false)
  | 28 => ("PieFunnelsModel", "group", "[I", true)
  | 29 => ("PieFunnelsModel", "groupSigns", "[I", true)
  | 30 => ("PieFunnelsModel", "wished", "[I", true)
  | 31 => ("PieFunnelsModel", "tribes", "I", false)
  | 32 => ("PieFunnelsModel", "brought", "[I", true)
  | 33 => ("PieFunnelsModel", "tried", "[I", true)
  | 34 => ("PieFunnelsModel", "best", "[I", true)
  | 35 => ("PieFunnelsModel", "most", "I", false)
  | _ => ("PieFunnelsModel", "oldSeed", "I", false)
def tyX8 : Nat → FieldType := fun k => match k with
  | 0 => .int
  | 1 => .array .int
  | 2 => .array .int
  | 3 => .array .int
  | 4 => .array .int
  | 5 => .array .int
  | 6 => .int
  | 7 => .int
  | 8 => .int
  | 9 => .array .int
  | 10 => .array .int
  | 11 => .array .long
  | 12 => .int
  | 13 => .int
  | 14 => .array .int
  | 15 => .int
  | 16 => .array .int
  | 17 => .int
  | 18 => .array .int
  | 19 => .array .int
  | 20 => .boolean
  | 21 => .array .int
  | 22 => .int
  | 23 => .array .int
  | 24 => .int
  | 25 => .array .int
  | 26 => .int
  | 27 => .int
  | 28 => .array .int
  | 29 => .array .int
  | 30 => .array .int
  | 31 => .int
  | 32 => .array .int
  | 33 => .array .int
  | 34 => .array .int
  | 35 => .int
  | _ => .int
theorem nmX8 : ∀ a, a < 37 → ∀ b, b < 37 → a ≠ b → (TX8 a).2.1 ≠ (TX8 b).2.1 := by decide +kernel
theorem tyX8_ok : ∀ k, k < 37 → parseFieldDescriptor (TX8 k).2.2.1 = some (tyX8 k) := by decide +kernel
abbrev cX8_init : ByteArray := prog_10_method_1_code
def yX8_init : MethodName := ⟨RX8, "<init>", "()V"⟩
abbrev cX8_no : ByteArray := prog_10_method_2_code
def yX8_no : MethodName := ⟨RX8, "no", "(I)I"⟩
abbrev cX8_no10 : ByteArray := prog_10_method_3_code
def yX8_no10 : MethodName := ⟨RX8, "no10", "(I)I"⟩
abbrev cX8_within : ByteArray := prog_10_method_4_code
def yX8_within : MethodName := ⟨RX8, "within", "(III)Z"⟩
abbrev cX8_isBird : ByteArray := prog_10_method_5_code
def yX8_isBird : MethodName := ⟨RX8, "isBird", "(I)Z"⟩
abbrev cX8_isState : ByteArray := prog_10_method_6_code
def yX8_isState : MethodName := ⟨RX8, "isState", "(I)Z"⟩
abbrev cX8_isRow : ByteArray := prog_10_method_7_code
def yX8_isRow : MethodName := ⟨RX8, "isRow", "(I)Z"⟩
abbrev cX8_row : ByteArray := prog_10_method_8_code
def yX8_row : MethodName := ⟨RX8, "row", "(III)I"⟩
abbrev cX8_noRow : ByteArray := prog_10_method_9_code
def yX8_noRow : MethodName := ⟨RX8, "noRow", "(I)I"⟩
abbrev cX8_set : ByteArray := prog_10_method_10_code
def yX8_set : MethodName := ⟨RX8, "set", "(IIJ)I"⟩
abbrev cX8_copy : ByteArray := prog_10_method_11_code
def yX8_copy : MethodName := ⟨RX8, "copy", "(IIIII)I"⟩
abbrev cX8_element : ByteArray := prog_10_method_12_code
def yX8_element : MethodName := ⟨RX8, "element", "(II)J"⟩
abbrev cX8_show : ByteArray := prog_10_method_13_code
def yX8_show : MethodName := ⟨RX8, "show", "(II)I"⟩
abbrev cX8_holds : ByteArray := prog_10_method_14_code
def yX8_holds : MethodName := ⟨RX8, "holds", "(I)I"⟩
abbrev cX8_above : ByteArray := prog_10_method_15_code
def yX8_above : MethodName := ⟨RX8, "above", "(I)I"⟩
abbrev cX8_isUnder : ByteArray := prog_10_method_16_code
def yX8_isUnder : MethodName := ⟨RX8, "isUnder", "(II)Z"⟩
abbrev cX8_says : ByteArray := prog_10_method_17_code
def yX8_says : MethodName := ⟨RX8, "says", "(II)I"⟩
abbrev cX8_newBird : ByteArray := prog_10_method_18_code
def yX8_newBird : MethodName := ⟨RX8, "newBird", "(III)I"⟩
abbrev cX8_bird : ByteArray := prog_10_method_19_code
def yX8_bird : MethodName := ⟨RX8, "bird", "(III)I"⟩
abbrev cX8_ask : ByteArray := prog_10_method_20_code
def yX8_ask : MethodName := ⟨RX8, "ask", "(II)I"⟩
abbrev cX8_isPart : ByteArray := prog_10_method_21_code
def yX8_isPart : MethodName := ⟨RX8, "isPart", "(II)Z"⟩
abbrev cX8_table : ByteArray := prog_10_method_22_code
def yX8_table : MethodName := ⟨RX8, "table", "(III)I"⟩
abbrev cX8_comes : ByteArray := prog_10_method_23_code
def yX8_comes : MethodName := ⟨RX8, "comes", "(II)I"⟩
abbrev cX8_birdOf : ByteArray := prog_10_method_24_code
def yX8_birdOf : MethodName := ⟨RX8, "birdOf", "(II)I"⟩
abbrev cX8_sign : ByteArray := prog_10_method_25_code
def yX8_sign : MethodName := ⟨RX8, "sign", "()I"⟩
abbrev cX8_is : ByteArray := prog_10_method_26_code
def yX8_is : MethodName := ⟨RX8, "is", "(C)Z"⟩
abbrev cX8_word : ByteArray := prog_10_method_27_code
def yX8_word : MethodName := ⟨RX8, "word", "(Ljava/lang/String;)Z"⟩
abbrev cX8_word_ : ByteArray := prog_10_method_28_code
def yX8_word_ : MethodName := ⟨RX8, "word", "(Ljava/lang/String;Z)Z"⟩
abbrev cX8_number : ByteArray := prog_10_method_29_code
def yX8_number : MethodName := ⟨RX8, "number", "(III)Z"⟩
abbrev cX8_item : ByteArray := prog_10_method_30_code
def yX8_item : MethodName := ⟨RX8, "item", "()Z"⟩
abbrev cX8_bakery : ByteArray := prog_10_method_31_code
def yX8_bakery : MethodName := ⟨RX8, "bakery", "(I)I"⟩
abbrev cX8_fault : ByteArray := prog_10_method_32_code
def yX8_fault : MethodName := ⟨RX8, "fault", "()I"⟩
abbrev cX8_toldAt : ByteArray := prog_10_method_33_code
def yX8_toldAt : MethodName := ⟨RX8, "toldAt", "(II)I"⟩
abbrev cX8_isPie : ByteArray := prog_10_method_34_code
def yX8_isPie : MethodName := ⟨RX8, "isPie", "(II)Z"⟩
abbrev cX8_plain : ByteArray := prog_10_method_35_code
def yX8_plain : MethodName := ⟨RX8, "plain", "(II)I"⟩
abbrev cX8_chipped : ByteArray := prog_10_method_36_code
def yX8_chipped : MethodName := ⟨RX8, "chipped", "(II)I"⟩
abbrev cX8_widowed : ByteArray := prog_10_method_37_code
def yX8_widowed : MethodName := ⟨RX8, "widowed", "(II)I"⟩
abbrev cX8_sorts : ByteArray := prog_10_method_38_code
def yX8_sorts : MethodName := ⟨RX8, "sorts", "()V"⟩
abbrev cX8_tells : ByteArray := prog_10_method_39_code
def yX8_tells : MethodName := ⟨RX8, "tells", "(I)V"⟩
abbrev cX8_goes : ByteArray := prog_10_method_40_code
def yX8_goes : MethodName := ⟨RX8, "goes", "(II)V"⟩
abbrev cX8_has : ByteArray := prog_10_method_41_code
def yX8_has : MethodName := ⟨RX8, "has", "(II)Z"⟩
abbrev cX8_noPie : ByteArray := prog_10_method_42_code
def yX8_noPie : MethodName := ⟨RX8, "noPie", "(II)I"⟩
abbrev cX8_noRows : ByteArray := prog_10_method_43_code
def yX8_noRows : MethodName := ⟨RX8, "noRows", "(II)I"⟩
abbrev cX8_said : ByteArray := prog_10_method_44_code
def yX8_said : MethodName := ⟨RX8, "said", "(III)I"⟩
abbrev cX8_brings : ByteArray := prog_10_method_45_code
def yX8_brings : MethodName := ⟨RX8, "brings", "(III)I"⟩
abbrev cX8_pow : ByteArray := prog_10_method_46_code
def yX8_pow : MethodName := ⟨RX8, "pow", "(I)I"⟩
abbrev cX8_lays : ByteArray := prog_10_method_47_code
def yX8_lays : MethodName := ⟨RX8, "lays", "(II)V"⟩
abbrev cX8_soonest : ByteArray := prog_10_method_48_code
def yX8_soonest : MethodName := ⟨RX8, "soonest", "(III)I"⟩
abbrev cX8_safe : ByteArray := prog_10_method_49_code
def yX8_safe : MethodName := ⟨RX8, "safe", "(I)I"⟩
abbrev cX8_isSaid : ByteArray := prog_10_method_50_code
def yX8_isSaid : MethodName := ⟨RX8, "isSaid", "(II)Z"⟩
abbrev cX8_kindsSo : ByteArray := prog_10_method_51_code
def yX8_kindsSo : MethodName := ⟨RX8, "kindsSo", "(II)I"⟩
abbrev cX8_heatsSo : ByteArray := prog_10_method_52_code
def yX8_heatsSo : MethodName := ⟨RX8, "heatsSo", "(II)I"⟩
abbrev cX8_mouthsSo : ByteArray := prog_10_method_53_code
def yX8_mouthsSo : MethodName := ⟨RX8, "mouthsSo", "(II)I"⟩
abbrev cX8_fits : ByteArray := prog_10_method_54_code
def yX8_fits : MethodName := ⟨RX8, "fits", "(IIII)I"⟩
abbrev cX8_pies : ByteArray := prog_10_method_55_code
def yX8_pies : MethodName := ⟨RX8, "pies", "(IIII)I"⟩
abbrev cX8_worst : ByteArray := prog_10_method_56_code
def yX8_worst : MethodName := ⟨RX8, "worst", "(I)I"⟩
abbrev cX8_next : ByteArray := prog_10_method_57_code
def yX8_next : MethodName := ⟨RX8, "next", "(I)I"⟩
abbrev cX8_unknown : ByteArray := prog_10_method_58_code
def yX8_unknown : MethodName := ⟨RX8, "unknown", "()I"⟩
abbrev cX8_chance : ByteArray := prog_10_method_59_code
def yX8_chance : MethodName := ⟨RX8, "chance", "(IIII)I"⟩
abbrev cX8_minutes : ByteArray := prog_10_method_60_code
def yX8_minutes : MethodName := ⟨RX8, "minutes", "(II)I"⟩
abbrev cX8_after : ByteArray := prog_10_method_61_code
def yX8_after : MethodName := ⟨RX8, "after", "(III)I"⟩
abbrev cX8_fewestIlls : ByteArray := prog_10_method_62_code
def yX8_fewestIlls : MethodName := ⟨RX8, "fewestIlls", "(I)I"⟩
abbrev cX8_kings : ByteArray := prog_10_method_63_code
def yX8_kings : MethodName := ⟨RX8, "kings", "(III)I"⟩
abbrev cX8_parts : ByteArray := prog_10_method_64_code
def yX8_parts : MethodName := ⟨RX8, "parts", "(III)V"⟩
abbrev cX8_areWishes : ByteArray := prog_10_method_65_code
def yX8_areWishes : MethodName := ⟨RX8, "areWishes", "(I)Z"⟩
abbrev cX8_tribes : ByteArray := prog_10_method_66_code
def yX8_tribes : MethodName := ⟨RX8, "tribes", "(III)I"⟩
abbrev cX8_alike : ByteArray := prog_10_method_67_code
def yX8_alike : MethodName := ⟨RX8, "alike", "(II)I"⟩
abbrev cX8_judge : ByteArray := prog_10_method_68_code
def yX8_judge : MethodName := ⟨RX8, "judge", "(III)I"⟩
abbrev cX8_bakes : ByteArray := prog_10_method_69_code
def yX8_bakes : MethodName := ⟨RX8, "bakes", "(I)V"⟩
abbrev cX8_bake : ByteArray := prog_10_method_70_code
def yX8_bake : MethodName := ⟨RX8, "bake", "(II)I"⟩
abbrev cX8_draw : ByteArray := prog_10_method_71_code
def yX8_draw : MethodName := ⟨RX8, "draw", "(I)I"⟩
abbrev cX8_years : ByteArray := prog_10_method_72_code
def yX8_years : MethodName := ⟨RX8, "years", "(I)I"⟩
abbrev cX8_seed : ByteArray := prog_10_method_73_code
def yX8_seed : MethodName := ⟨RX8, "seed", "(I)I"⟩
abbrev cX8_ran : ByteArray := prog_10_method_74_code
def yX8_ran : MethodName := ⟨RX8, "ran", "(I)V"⟩
abbrev cX8_singsBy : ByteArray := prog_10_method_75_code
def yX8_singsBy : MethodName := ⟨RX8, "singsBy", "(III)I"⟩
abbrev cX8_steamsBy : ByteArray := prog_10_method_76_code
def yX8_steamsBy : MethodName := ⟨RX8, "steamsBy", "(III)I"⟩
abbrev cX8_fallsBy : ByteArray := prog_10_method_77_code
def yX8_fallsBy : MethodName := ⟨RX8, "fallsBy", "(III)I"⟩
abbrev cX8_act : ByteArray := prog_10_method_78_code
def yX8_act : MethodName := ⟨RX8, "act", "(III)I"⟩
abbrev cX8_trace : ByteArray := prog_10_method_79_code
def yX8_trace : MethodName := ⟨RX8, "trace", "(I)I"⟩
abbrev cX8_keep : ByteArray := prog_10_method_80_code
def yX8_keep : MethodName := ⟨RX8, "keep", "([I)V"⟩
abbrev cX8_again : ByteArray := prog_10_method_81_code
def yX8_again : MethodName := ⟨RX8, "again", "([I)V"⟩
abbrev cX8_image : ByteArray := prog_10_method_82_code
def yX8_image : MethodName := ⟨RX8, "image", "()I"⟩
abbrev cX8_restore : ByteArray := prog_10_method_83_code
def yX8_restore : MethodName := ⟨RX8, "restore", "()I"⟩
abbrev cX8_status : ByteArray := prog_10_method_84_code
def yX8_status : MethodName := ⟨RX8, "status", "(I)I"⟩
def RJ9 : String := "java/lang/Math"
def TJ9 : u_T := fun k => match k with
  | _ => ("", "", "", false)
def tyJ9 : Nat → FieldType := fun k => match k with
  | _ => .int
theorem nmJ9 : ∀ a, a < 0 → ∀ b, b < 0 → a ≠ b → (TJ9 a).2.1 ≠ (TJ9 b).2.1 := by decide +kernel
theorem tyJ9_ok : ∀ k, k < 0 → parseFieldDescriptor (TJ9 k).2.2.1 = some (tyJ9 k) := by decide +kernel
abbrev cJ9_max_7cf53 : ByteArray := prog_11_method_65_code
def yJ9_max_7cf53 : MethodName := ⟨RJ9, "max", "(II)I"⟩
abbrev cJ9_min_7cf53 : ByteArray := prog_11_method_69_code
def yJ9_min_7cf53 : MethodName := ⟨RJ9, "min", "(II)I"⟩
def RJ0 : String := "java/lang/String"
def TJ0 : u_T := fun k => match k with
  | _ => ("", "", "", false)
def tyJ0 : Nat → FieldType := fun k => match k with
  | _ => .int
theorem nmJ0 : ∀ a, a < 0 → ∀ b, b < 0 → a ≠ b → (TJ0 a).2.1 ≠ (TJ0 b).2.1 := by decide +kernel
theorem tyJ0_ok : ∀ k, k < 0 → parseFieldDescriptor (TJ0 k).2.2.1 = some (tyJ0 k) := by decide +kernel
abbrev cJ0_length_8abf5 : ByteArray := prog_12_method_54_code
def yJ0_length_8abf5 : MethodName := ⟨RJ0, "length", "()I"⟩
abbrev cJ0_isEmpty_aae02 : ByteArray := prog_12_method_55_code
def yJ0_isEmpty_aae02 : MethodName := ⟨RJ0, "isEmpty", "()Z"⟩
abbrev cJ0_charAt_5068e : ByteArray := prog_12_method_56_code
def yJ0_charAt_5068e : MethodName := ⟨RJ0, "charAt", "(I)C"⟩
abbrev cJ0_coder_7d493 : ByteArray := prog_12_method_152_code
def yJ0_coder_7d493 : MethodName := ⟨RJ0, "coder", "()B"⟩
abbrev cJ0_isLatin1_aae02 : ByteArray := prog_12_method_154_code
def yJ0_isLatin1_aae02 : MethodName := ⟨RJ0, "isLatin1", "()Z"⟩
abbrev cJ0_checkIndex_df160 : ByteArray := prog_12_method_155_code
def yJ0_checkIndex_df160 : MethodName := ⟨RJ0, "checkIndex", "(II)V"⟩
def RJ1 : String := "java/lang/StringLatin1"
def TJ1 : u_T := fun k => match k with
  | _ => ("", "", "", false)
def tyJ1 : Nat → FieldType := fun k => match k with
  | _ => .int
theorem nmJ1 : ∀ a, a < 0 → ∀ b, b < 0 → a ≠ b → (TJ1 a).2.1 ≠ (TJ1 b).2.1 := by decide +kernel
theorem tyJ1_ok : ∀ k, k < 0 → parseFieldDescriptor (TJ1 k).2.2.1 = some (tyJ1 k) := by decide +kernel
abbrev cJ1_charAt_3b067 : ByteArray := prog_13_method_2_code
def yJ1_charAt_3b067 : MethodName := ⟨RJ1, "charAt", "([BI)C"⟩
def RJ2 : String := "java/lang/StringUTF16"
def TJ2 : u_T := fun k => match k with
  | _ => ("", "", "", false)
def tyJ2 : Nat → FieldType := fun k => match k with
  | _ => .int
theorem nmJ2 : ∀ a, a < 0 → ∀ b, b < 0 → a ≠ b → (TJ2 a).2.1 ≠ (TJ2 b).2.1 := by decide +kernel
theorem tyJ2_ok : ∀ k, k < 0 → parseFieldDescriptor (TJ2 k).2.2.1 = some (tyJ2 k) := by decide +kernel
abbrev cJ2_getChar_3b067 : ByteArray := prog_14_method_5_code
def yJ2_getChar_3b067 : MethodName := ⟨RJ2, "getChar", "([BI)C"⟩
abbrev cJ2_length_9d52b : ByteArray := prog_14_method_6_code
def yJ2_length_9d52b : MethodName := ⟨RJ2, "length", "([B)I"⟩
abbrev cJ2_charAt_3b067 : ByteArray := prog_14_method_83_code
def yJ2_charAt_3b067 : MethodName := ⟨RJ2, "charAt", "([BI)C"⟩
abbrev cJ2_checkIndex_2214a : ByteArray := prog_14_method_91_code
def yJ2_checkIndex_2214a : MethodName := ⟨RJ2, "checkIndex", "(I[B)V"⟩
def RJ10 : String := "java/lang/System"
def TJ10 : u_T := fun k => match k with
  | _ => ("", "", "", false)
def tyJ10 : Nat → FieldType := fun k => match k with
  | _ => .int
theorem nmJ10 : ∀ a, a < 0 → ∀ b, b < 0 → a ≠ b → (TJ10 a).2.1 ≠ (TJ10 b).2.1 := by decide +kernel
theorem tyJ10_ok : ∀ k, k < 0 → parseFieldDescriptor (TJ10 k).2.2.1 = some (tyJ10 k) := by decide +kernel
def RJ3 : String := "jdk/internal/util/Preconditions"
def TJ3 : u_T := fun k => match k with
  | _ => ("", "", "", false)
def tyJ3 : Nat → FieldType := fun k => match k with
  | _ => .int
theorem nmJ3 : ∀ a, a < 0 → ∀ b, b < 0 → a ≠ b → (TJ3 a).2.1 ≠ (TJ3 b).2.1 := by decide +kernel
theorem tyJ3_ok : ∀ k, k < 0 → parseFieldDescriptor (TJ3 k).2.2.1 = some (tyJ3 k) := by decide +kernel
abbrev cJ3_checkIndex_8e157 : ByteArray := prog_16_method_11_code
def yJ3_checkIndex_8e157 : MethodName := ⟨RJ3, "checkIndex", "(IILjava/util/function/BiFunction;)I"⟩
def RL : String := "PieFunnelsLaw"
abbrev cL_law : ByteArray := code
def yL_law : MethodName := ⟨RL, "law", "([I)Z"⟩
abbrev vwCl : List vw_C := [(RX0, TX0, 11), (RX1, TX1, 5), (RX2, TX2, 5), (RX3, TX3, 2), (RX4, TX4, 4), (RX5, TX5, 5), (RX6, TX6, 6), (RX7, TX7, 12), (RX8, TX8, 37)]
end
section
def fk_nF : List (String × Nat × String × String × String) := [("PieFunnels$Reader", 64, "PieFunnels$Bakery", "birds", "I"), ("PieFunnels", 171, "PieFunnels$Bakery", "birds", "I"), ("PieFunnels$Voice", 37, "PieFunnels$Bakery", "kinds", "[I"), ("PieFunnels$Moves", 34, "PieFunnels$Bakery", "kinds", "[I"), ("PieFunnels", 142, "PieFunnels$Bakery", "kinds", "[I"), ("PieFunnels$Voice", 40, "PieFunnels$Bakery", "as", "[I"), ("PieFunnels$Moves", 37, "PieFunnels$Bakery", "as", "[I"), ("PieFunnels", 193, "PieFunnels$Bakery", "as", "[I"), ("PieFunnels$Voice", 43, "PieFunnels$Bakery", "mouths", "[I"), ("PieFunnels", 196, "PieFunnels$Bakery", "mouths", "[I"), ("PieFunnels$Voice", 46, "PieFunnels$Bakery", "heat", "I"), ("PieFunnels$Reader", 88, "PieFunnels$Bakery", "heat", "I"), ("PieFunnels", 178, "PieFunnels$Bakery", "heat", "I"), ("PieFunnels$Reader", 91, "PieFunnels$Bakery", "state", "I"), ("PieFunnels", 181, "PieFunnels$Bakery", "state", "I"), ("PieFunnels$Reader", 97, "PieFunnels$Bakery", "troubles", "I"), ("PieFunnels", 184, "PieFunnels$Bakery", "troubles", "I"), ("PieFunnels", 328, "PieFunnels$Bakery", "bakes", "I"), ("PieFunnels", 305, "PieFunnels$Bakery", "suffered", "I"), ("PieFunnels", 308, "PieFunnels$Bakery", "seed", "I"), ("PieFunnels", 207, "PieFunnels$Reader", "fault", "I"), ("PieFunnels", 325, "PieFunnels$Moves", "trace", "[I"), ("PieFunnels", 331, "PieFunnels$Moves", "ran", "I"), ("PieFunnels", 315, "PieFunnels$Moves", "kind", "I"), ("PieFunnels$Voice", 83, "PieFunnels$Pie", "stuffings", "[I"), ("PieFunnels", 231, "PieFunnels$Pie", "stuffings", "[I"), ("PieFunnels$Voice", 69, "PieFunnels$Pie", "layers", "I"), ("PieFunnels", 228, "PieFunnels$Pie", "layers", "I"), ("PieFunnels", 334, "PieFunnels$Voice", "kind", "I"), ("PieFunnels", 168, "PieFunnels$Voice", "a", "I"), ("PieFunnels", 152, "PieFunnels$Voice", "mouth", "I"), ("PieFunnels", 270, "PieFunnels$Voice", "heat", "I"), ("PieFunnels$Bakery", 56, "PieFunnels$Voice", "count", "I"), ("PieFunnels", 162, "PieFunnels$Voice", "count", "I"), ("PieFunnels$Bakery", 61, "PieFunnels$Voice", "signs", "[I"), ("PieFunnels", 165, "PieFunnels$Voice", "signs", "[I"), ("PieFunnels", 277, "PieFunnels$Parting", "tribes", "I"), ("PieFunnels", 286, "PieFunnels$Parting", "served", "I"), ("PieFunnels", 133, "PieFunnels$Shelf", "content", "I"), ("PieFunnels", 136, "PieFunnels$Shelf", "bird", "I"), ("PieFunnels", 102, "PieFunnels$Shelf", "sort", "I"), ("PieFunnels$Pie", 19, "PieFunnels$Shelf", "size", "I"), ("PieFunnels$Parting", 28, "PieFunnels$Shelf", "size", "I"), ("PieFunnels$Reader", 34, "PieFunnels$Shelf", "size", "I"), ("PieFunnels", 90, "PieFunnels$Shelf", "size", "I"), ("PieFunnels$Voice", 90, "PieFunnels$Shelf", "size", "I"), ("PieFunnels", 109, "PieFunnels$Shelf", "cells", "[J"), ("PieFunnels$Reader", 115, "PieFunnels$Shelf", "cells", "[J"), ("PieFunnels$Moves", 49, "PieFunnels", "KIND_ABOVE", "[I")]
def fk_nM : List (String × Nat × MethodName) := [("PieFunnels", 17, ⟨"PieFunnels$Bakery", "<init>", "()V"⟩), ("PieFunnels", 34, ⟨"PieFunnels$Reader", "<init>", "()V"⟩), ("PieFunnels", 41, ⟨"PieFunnels$Moves", "<init>", "()V"⟩), ("PieFunnels", 48, ⟨"PieFunnels$Pie", "<init>", "()V"⟩), ("PieFunnels", 55, ⟨"PieFunnels$Voice", "<init>", "()V"⟩), ("PieFunnels", 65, ⟨"PieFunnels$Parting", "<init>", "()V"⟩), ("PieFunnels", 74, ⟨"PieFunnels$Shelf", "<init>", "()V"⟩), ("PieFunnels", 83, ⟨"PieFunnels$Shelf", "holdRow", "(II)V"⟩), ("PieFunnels", 94, ⟨"PieFunnels$Shelf", "put", "(IJ)V"⟩), ("PieFunnels", 105, ⟨"PieFunnels$Shelf", "hasSpan", "(II)Z"⟩), ("PieFunnels", 119, ⟨"PieFunnels$Shelf", "whole", "(I)J"⟩), ("PieFunnels", 123, ⟨"PieFunnels$Shelf", "holdNothing", "()V"⟩), ("PieFunnels", 126, ⟨"PieFunnels$Bakery", "lacks", "(I)Z"⟩), ("PieFunnels", 129, ⟨"PieFunnels$Shelf", "holdBird", "(I)V"⟩), ("PieFunnels", 148, ⟨"PieFunnels$Voice", "take", "(LPieFunnels$Bakery;I)V"⟩), ("PieFunnels$Voice", 31, ⟨"PieFunnels$Bakery", "lacks", "(I)Z"⟩), ("PieFunnels", 155, ⟨"PieFunnels$Pie", "setByNumber", "(II)V"⟩), ("PieFunnels", 158, ⟨"PieFunnels$Voice", "speak", "(LPieFunnels$Pie;)V"⟩), ("PieFunnels", 174, ⟨"PieFunnels$Bakery", "add", "(III)V"⟩), ("PieFunnels", 187, ⟨"PieFunnels$Bakery", "comingBy", "(II)I"⟩), ("PieFunnels", 190, ⟨"PieFunnels$Bakery", "setComing", "(III)V"⟩), ("PieFunnels", 199, ⟨"PieFunnels$Bakery", "become", "(LPieFunnels$Bakery;)V"⟩), ("PieFunnels", 203, ⟨"PieFunnels$Reader", "read", "(LPieFunnels$Shelf;LPieFunnels$Bakery;)I"⟩), ("PieFunnels$Reader", 84, ⟨"PieFunnels$Bakery", "add", "(III)V"⟩), ("PieFunnels$Reader", 94, ⟨"PieFunnels$Bakery", "setComing", "(III)V"⟩), ("PieFunnels", 234, ⟨"PieFunnels$Pie", "take", "(LPieFunnels$Shelf;I)Z"⟩), ("PieFunnels$Pie", 24, ⟨"PieFunnels$Shelf", "number", "(I)I"⟩), ("PieFunnels", 217, ⟨"PieFunnels$Bakery", "endOf", "(LPieFunnels$Voice;I)I"⟩), ("PieFunnels", 221, ⟨"PieFunnels$Bakery", "illsOf", "(LPieFunnels$Voice;)I"⟩), ("PieFunnels", 250, ⟨"PieFunnels$Voice", "saysJust", "(LPieFunnels$Shelf;)Z"⟩), ("PieFunnels$Voice", 95, ⟨"PieFunnels$Shelf", "number", "(I)I"⟩), ("PieFunnels", 292, ⟨"PieFunnels$Voice", "saysSame", "(LPieFunnels$Voice;)Z"⟩), ("PieFunnels", 257, ⟨"PieFunnels$Pie", "unknowns", "()I"⟩), ("PieFunnels", 266, ⟨"PieFunnels$Pie", "fillUnknowns", "(I)V"⟩), ("PieFunnels", 338, ⟨"PieFunnels$Pie", "setLast", "(I)V"⟩), ("PieFunnels", 274, ⟨"PieFunnels$Parting", "takeWishes", "(LPieFunnels$Shelf;)Z"⟩), ("PieFunnels$Parting", 33, ⟨"PieFunnels$Shelf", "number", "(I)I"⟩), ("PieFunnels", 280, ⟨"PieFunnels$Parting", "bringsOf", "(II)V"⟩), ("PieFunnels", 283, ⟨"PieFunnels$Parting", "part", "(I)V"⟩), ("PieFunnels", 289, ⟨"PieFunnels$Parting", "whomHas", "(I)I"⟩), ("PieFunnels", 296, ⟨"PieFunnels$Shelf", "number", "(I)I"⟩), ("PieFunnels", 302, ⟨"PieFunnels$Bakery", "draw", "(I)I"⟩), ("PieFunnels", 311, ⟨"PieFunnels$Moves", "forget", "()V"⟩), ("PieFunnels", 314, ⟨"PieFunnels$Moves", "take", "(LPieFunnels$Bakery;I)V"⟩), ("PieFunnels$Moves", 28, ⟨"PieFunnels$Bakery", "lacks", "(I)Z"⟩), ("PieFunnels", 318, ⟨"PieFunnels$Moves", "run", "(LPieFunnels$Moves;IIII)I"⟩), ("PieFunnels", 322, ⟨"PieFunnels$Moves", "traced", "()I"⟩)]
def fk_strs : List (String × Nat × String × Nat) := [("PieFunnels$Reader", 100, "bird", 0), ("PieFunnels$Reader", 102, "heat", 1), ("PieFunnels$Reader", 103, "state", 2), ("PieFunnels$Reader", 104, "goes", 3), ("PieFunnels$Reader", 106, "ill", 4), ("PieFunnels$Reader", 108, "well", 5), ("PieFunnels$Reader", 110, "", 6), ("PieFunnelsModel", 159, "bird", 0), ("PieFunnelsModel", 167, "heat", 1), ("PieFunnelsModel", 169, "state", 2), ("PieFunnelsModel", 171, "goes", 3), ("PieFunnelsModel", 173, "ill", 4), ("PieFunnelsModel", 175, "well", 5)]
/-! The frame: one world of numbered cells, one state, one judgement fk_J that runs the machine beside a pure program. -/
abbrev fkS : Type := (Nat → Nat → Int32) × (Nat → Nat → Int32) × (Nat → Nat → Int64) × Option Nat
def gI (s : fkS) (f i : Nat) : Int32 := s.1 f i
def gA (s : fkS) (i : Nat) : Nat → Int32 := s.2.1 i
def gL (s : fkS) (i : Nat) : Nat → Int64 := s.2.2.1 i
def gT (s : fkS) : Option Nat := s.2.2.2
def sI (s : fkS) (f i : Nat) (v : Int32) : fkS := (fun f' i' => if f' = f ∧ i' = i then v else s.1 f' i', s.2)
def sAF (s : fkS) (i : Nat) (h : Nat → Int32) : fkS := (s.1, (fun i' => if i' = i then h else s.2.1 i'), s.2.2)
def sLF (s : fkS) (i : Nat) (h : Nat → Int64) : fkS := (s.1, s.2.1, (fun i' => if i' = i then h else s.2.2.1 i'), s.2.2.2)
def sT (s : fkS) (t : Option Nat) : fkS := (s.1, s.2.1, s.2.2.1, t)
def sA (s : fkS) (i j : Nat) (v : Int32) : fkS := sAF s i (upd (gA s i) j v)
def sL (s : fkS) (i j : Nat) (v : Int64) : fkS := sLF s i (vp_updL (gL s i) j v)
theorem gI_sI {s : fkS} {f i f' i' : Nat} {v : Int32} : gI (sI s f i v) f' i' = if f' = f ∧ i' = i then v else gI s f' i' := rfl
theorem gA_sI {s : fkS} {f i : Nat} {v : Int32} {i' : Nat} : gA (sI s f i v) i' = gA s i' := rfl
theorem gL_sI {s : fkS} {f i : Nat} {v : Int32} {i' : Nat} : gL (sI s f i v) i' = gL s i' := rfl
theorem gT_sI {s : fkS} {f i : Nat} {v : Int32} : gT (sI s f i v) = gT s := rfl
theorem gI_sAF {s : fkS} {i : Nat} {h : Nat → Int32} {f' i' : Nat} : gI (sAF s i h) f' i' = gI s f' i' := rfl
theorem gA_sAF {s : fkS} {i : Nat} {h : Nat → Int32} {i' : Nat} : gA (sAF s i h) i' = if i' = i then h else gA s i' := rfl
theorem gL_sAF {s : fkS} {i : Nat} {h : Nat → Int32} {i' : Nat} : gL (sAF s i h) i' = gL s i' := rfl
theorem gT_sAF {s : fkS} {i : Nat} {h : Nat → Int32} : gT (sAF s i h) = gT s := rfl
theorem gI_sLF {s : fkS} {i : Nat} {h : Nat → Int64} {f' i' : Nat} : gI (sLF s i h) f' i' = gI s f' i' := rfl
theorem gA_sLF {s : fkS} {i : Nat} {h : Nat → Int64} {i' : Nat} : gA (sLF s i h) i' = gA s i' := rfl
theorem gL_sLF {s : fkS} {i : Nat} {h : Nat → Int64} {i' : Nat} : gL (sLF s i h) i' = if i' = i then h else gL s i' := rfl
theorem gT_sLF {s : fkS} {i : Nat} {h : Nat → Int64} : gT (sLF s i h) = gT s := rfl
theorem gI_sT {s : fkS} {t : Option Nat} {f' i' : Nat} : gI (sT s t) f' i' = gI s f' i' := rfl
theorem gA_sT {s : fkS} {t : Option Nat} {i' : Nat} : gA (sT s t) i' = gA s i' := rfl
theorem gL_sT {s : fkS} {t : Option Nat} {i' : Nat} : gL (sT s t) i' = gL s i' := rfl
theorem gT_sT {s : fkS} {t : Option Nat} : gT (sT s t) = t := rfl
theorem gI_sA {s : fkS} {i j : Nat} {v : Int32} {f' i' : Nat} : gI (sA s i j v) f' i' = gI s f' i' := rfl
theorem gA_sA {s : fkS} {i j : Nat} {v : Int32} {i' : Nat} : gA (sA s i j v) i' = if i' = i then upd (gA s i) j v else gA s i' := rfl
theorem gL_sA {s : fkS} {i j : Nat} {v : Int32} {i' : Nat} : gL (sA s i j v) i' = gL s i' := rfl
theorem gT_sA {s : fkS} {i j : Nat} {v : Int32} : gT (sA s i j v) = gT s := rfl
theorem gI_sL {s : fkS} {i j : Nat} {v : Int64} {f' i' : Nat} : gI (sL s i j v) f' i' = gI s f' i' := rfl
theorem gA_sL {s : fkS} {i j : Nat} {v : Int64} {i' : Nat} : gA (sL s i j v) i' = gA s i' := rfl
theorem gL_sL {s : fkS} {i j : Nat} {v : Int64} {i' : Nat} : gL (sL s i j v) i' = if i' = i then vp_updL (gL s i) j v else gL s i' := rfl
theorem gT_sL {s : fkS} {i j : Nat} {v : Int64} : gT (sL s i j v) = gT s := rfl
/-- the pure programs' words -/
def fk_let {α β : Type} (a : α) (f : α → β) : β := f a
def fk_chk {α : Type} (b : Bool) (F : Option α) : Option α := match b with
  | true => F
  | false => none
def fk_in (i : Int32) (n : Nat) : Bool := !(decide (i < 0) || decide (n ≤ i.toNatClampNeg))
theorem fk_in_vp {i : Int32} {n : Nat} (h : fk_in i n = true) : vp_in i n := by
  unfold fk_in at h
  unfold vp_in
  simp only [Bool.not_eq_true', Bool.or_eq_false_iff, decide_eq_false_iff_not] at h
  exact fun q => q.elim h.1 h.2
def fk_nz (y : Int32) : Bool := !(decide (y = 0))
theorem fk_nz_ne {y : Int32} (h : fk_nz y = true) : ¬ y = 0 := by
  unfold fk_nz at h
  simpa using h
def fk_fuel : Nat := 1200
/-- the globals: addresses of the cells, the classes' numbers, the array classes, the two static rows, the seven texts and their bytes -/
abbrev fkG : Type := (Nat → Nat) × va_G × (ClassId × ClassId × ClassId) × (Nat × Nat) × ((Nat → Nat) × (Nat → Nat))
abbrev fkW : Type := (fkG → fkS → Nat → va_E) × Nat
abbrev fkK : Type := Program × Launch × Env × Room × State × MethodId × Array Value × List Frame × Method × Code × Option Value × fkS
def fk_r (g : fkG) (i : Nat) : Value := .ref (g.1 i)
def fk_q (g : fkG) (i : Nat) : Value := .ref (g.2.2.2.2.1 i)
def fk_ws (w : fkW) (g : fkG) (st : fkS) : va_W := (List.range w.2).map (fun i => (g.1 i, w.1 g st i))
def fk_A (w : fkW) (g : fkG) (sz : Nat) : Nat → Prop := fun q => (∃ i, i < w.2 ∧ q = g.1 i) ∨ sz ≤ q
def fk_inj (w : fkW) (g : fkG) : Prop := ∀ i j, i < w.2 → j < w.2 → g.1 i = g.1 j → i = j
def fk_tys (g : fkG) : List (ClassId × FieldType) := [(g.2.2.1.1, .int), (g.2.2.1.2.1, .long), (g.2.2.1.2.2, .object "PieFunnels$Shelf")]
def fk_nests : List Cond := fk_nF.map (fun q => .fieldLinkNest q.1 q.2.1 q.2.2.1 q.2.2.2.1 q.2.2.2.2 "PieFunnels") ++ fk_nM.map (fun q => .methodLinkNest q.1 q.2.1 q.2.2 "PieFunnels")
def fk_len : List Nat := [4, 4, 5, 4, 3, 4, 0]
def fk_byt : List (List Int32) := [[98, 105, 114, 100], [104, 101, 97, 116], [115, 116, 97, 116, 101], [103, 111, 101, 115], [105, 108, 108], [119, 101, 108, 108], []]
def fk_kaL : List Int32 := [-1, 0, 0, 1, 0, 2, 3]
def fk_boL : List Int32 := [10, 20, 0, 40, 51, 0, 70, 11, 0, 30, 0, 0, 0, 71, 12, 0, 0, 0, 50, 60, 0]
def fk_ka (j : Nat) : Int32 := fk_kaL.getD j 0
def fk_bo (j : Nat) : Int32 := fk_boL.getD j 0
/-- what stays as it is: links by the nest, the static rows, the texts -/
def fk_env (g : fkG) (A : Nat → Prop) (U : State) : Prop :=
  (∀ w ∈ fk_nests, va_Nw w U) ∧ va_Z "PieFunnels" "KIND_ABOVE" "[I" (.ref g.2.2.2.1.1) A U U.heap ∧ va_T .int g.2.2.2.1.1 7 (fun j => .int (fk_ka j)) A U U.heap ∧
  va_Z "PieFunnels$Moves" "BODIES" "[I" (.ref g.2.2.2.1.2) A U U.heap ∧ va_T .int g.2.2.2.1.2 21 (fun j => .int (fk_bo j)) A U U.heap ∧
  vk_S 7 fk_len fk_byt g.2.2.2.2.1 g.2.2.2.2.2 A U U.heap ∧ (∀ q ∈ fk_strs, vk_R q.1 q.2.1 q.2.2.1 (g.2.2.2.2.1 q.2.2.2) U) ∧
  va_Z "java/lang/String" "COMPACT_STRINGS" "Z" (.int 1) A U U.heap ∧ va_Zq "jdk/internal/util/Preconditions" "SIOOBE_FORMATTER" "Ljava/util/function/BiFunction;" A U U.heap
theorem fk_nests_warm {s U : State} (hW : s.WarmedH U.vm) (h : ∀ w ∈ fk_nests, va_Nw w s) : ∀ w ∈ fk_nests, va_Nw w U := by
  intro w hw
  have h1 := h w hw
  rcases List.mem_append.mp hw with q | q
  · obtain ⟨x, -, rfl⟩ := List.mem_map.mp q
    exact va_Nw.warmF hW h1
  · obtain ⟨x, -, rfl⟩ := List.mem_map.mp q
    exact va_Nw.warmM hW h1
theorem fk_nests_same {s U : State} (hv : s.vm = U.vm) (h : ∀ w ∈ fk_nests, va_Nw w s) : ∀ w ∈ fk_nests, va_Nw w U := by
  intro w hw
  have h1 := h w hw
  rcases List.mem_append.mp hw with q | q
  · obtain ⟨x, -, rfl⟩ := List.mem_map.mp q
    exact va_Nw.same rfl hv h1
  · obtain ⟨x, -, rfl⟩ := List.mem_map.mp q
    exact va_Nw.same rfl hv h1
theorem fk_env.blind {g : fkG} {A : Nat → Prop} {U : State} (h : fk_env g A U) (f : JFrame) (mk : MethodId) (a : Array Value) : fk_env g A (U.calling f mk a) := by
  obtain ⟨h1, h2, h3, h4, h5, h6, h7, h8, h9⟩ := h
  exact ⟨fk_nests_same (s := U) (U := U.calling f mk a) rfl h1, va_Z.moved (u := U) (U := U.calling f mk a) (Vm.Alike.refl U.vm) h2, va_T.moved (u := U) (U := U.calling f mk a) (Vm.Alike.refl U.vm) h3,
    va_Z.moved (u := U) (U := U.calling f mk a) (Vm.Alike.refl U.vm) h4, va_T.moved (u := U) (U := U.calling f mk a) (Vm.Alike.refl U.vm) h5,
    vk_S.moved (u := U) (U := U.calling f mk a) (Vm.Alike.refl U.vm) h6, fun q hq => vk_R.same (u := U) (U := U.calling f mk a) rfl (h7 q hq), va_Z.moved (u := U) (U := U.calling f mk a) (Vm.Alike.refl U.vm) h8, va_Zq.moved (u := U) (U := U.calling f mk a) (Vm.Alike.refl U.vm) h9⟩
theorem fk_env.go {g : fkG} {A B : Nat → Prop} {s U : State} (h : fk_env g A s) (hW : s.WarmedH U.vm) (hk : ∀ a : Nat, a < s.heap.size → ¬ A a → U.heap[a]? = s.heap[a]?) (hAB : ∀ q, B q → A q) : fk_env g B U := by
  obtain ⟨h1, h2, h3, h4, h5, h6, h7, h8, h9⟩ := h
  exact ⟨fk_nests_warm hW h1, (va_Z.moved hW.alike (h2.kept hk)).narrow hAB, (va_T.moved hW.alike (h3.kept hk)).narrow hAB, (va_Z.moved hW.alike (h4.kept hk)).narrow hAB, (va_T.moved hW.alike (h5.kept hk)).narrow hAB,
    (vk_S.moved hW.alike (h6.kept hk)).narrow hAB, fun q hq => vk_R.warm hW (h7 q hq), (va_Z.moved hW.alike (h8.kept hk)).narrow hAB, (va_Zq.moved hW.alike (h9.kept hk)).narrow hAB⟩
/-- the words: all of the tables that stay true -/
def fkB : List Cond := lw_tbl.filter goodWord
theorem fkB_in {w : Cond} (h : w ∈ lw_tbl) (hg : goodWord w = true) : w ∈ fkB := List.mem_filter.mpr ⟨h, hg⟩
theorem fkB_good {y : MethodName} {b : ByteArray} {n : Nat} {ret : Option FieldType} (h : Cond.code y b n ret ∈ fkB) : GoodIn fkB (Cond.code y b n ret :: fkB) := by
  intro w hw
  rcases List.mem_cons.mp hw with rfl | q
  · exact ⟨h, good_of_word rfl⟩
  · exact ⟨q, good_of_word (List.mem_filter.mp q).2⟩
/-- the world's cells -/
theorem fk_wat {w : fkW} {g : fkG} {st : fkS} {i : Nat} (h : i < w.2) : (fk_ws w g st)[i]? = some (g.1 i, w.1 g st i) := by
  simp [fk_ws, h]
theorem fk_wof {w : fkW} {g : fkG} {st : fkS} {i : Nat} {q : Nat × va_E} (h : (fk_ws w g st)[i]? = some q) : i < w.2 ∧ q = (g.1 i, w.1 g st i) := by
  have hi : i < w.2 := by
    have h1 := (List.getElem?_eq_some_iff.mp h).1
    simpa [fk_ws] using h1
  rw [fk_wat hi] at h
  exact ⟨hi, (Option.some.inj h).symm⟩
theorem fk_wset {w : fkW} {g : fkG} {st st' : fkS} {i : Nat} {e : va_E} (hi : i < w.2) (hE : ∀ j, j < w.2 → j ≠ i → w.1 g st' j = w.1 g st j) (he : w.1 g st' i = e) : (fk_ws w g st).set i (g.1 i, e) = fk_ws w g st' := by
  apply List.ext_getElem?
  intro k
  rw [List.getElem?_set]
  by_cases hk : i = k
  · subst hk
    have hl : i < (fk_ws w g st).length := by simpa [fk_ws] using hi
    rw [if_pos rfl, if_pos hl, fk_wat hi, he]
  · rw [if_neg hk]
    by_cases hk2 : k < w.2
    · rw [fk_wat hk2, fk_wat hk2, hE k hk2 (fun q => hk q.symm)]
    · have h1 : (fk_ws w g st)[k]? = none := by simp [fk_ws]; omega
      have h2 : (fk_ws w g st')[k]? = none := by simp [fk_ws]; omega
      rw [h1, h2]
theorem fk_wD {w : fkW} {g : fkG} (hi : fk_inj w g) (sz : Nat) (st : fkS) : va_D (fk_A w g sz) (fk_ws w g st) := by
  refine ⟨fun i j p q hp hq hpq => ?_, fun k q hk => ?_⟩
  · obtain ⟨h1, rfl⟩ := fk_wof hp
    obtain ⟨h2, rfl⟩ := fk_wof hq
    exact hi i j h1 h2 hpq
  · obtain ⟨h1, rfl⟩ := fk_wof hk
    exact Or.inl ⟨k, h1, rfl⟩
theorem fk_wX {w : fkW} {g : fkG} {sz : Nat} {st : fkS} : ∀ q, va_A (fk_ws w g st) sz q → fk_A w g sz q := by
  rintro q (⟨k, e, hk⟩ | h)
  · obtain ⟨h1, h2⟩ := fk_wof hk
    exact Or.inl ⟨k, h1, congrArg Prod.fst h2⟩
  · exact Or.inr h
/-- what holds of a state where a method is entered -/
def fk_B (w : fkW) (g : fkG) (st : fkS) (sz : Nat) (U : State) : Prop := U.heap.size = sz ∧ va_P g.2.1 vwCl (fk_ws w g st) U.heap ∧ va_K g.2.1 vwCl (fk_tys g) U ∧ fk_env g (fk_A w g sz) U
def fk_Q (w : fkW) (g : fkG) (sz : Nat) (rv : Option Value) (st' : fkS) : Array Value → State → Outcome → State → Prop := fun _ s0 oc t => oc = .returned rv ∧ va_P g.2.1 vwCl (fk_ws w g st') t.heap ∧ va_F (fk_A w g sz) s0 t
/-- a contract -/
def fk_C (w : fkW) (y : MethodName) (b : ByteArray) (n : Nat) (ret : Option FieldType) (fr lo : Nat) (l : Launch) (g : fkG) (av : List Value) (st : fkS) (rv : Option Value) (st' : fkS) : Prop :=
  fk_inj w g → ∀ sz : Nat, Met l y (Cond.code y b n ret :: fkB) ({ frames := fr, cells := 0, slots := 0, locals := lo }) (va_Pc av (fk_B w g st sz)) (fk_Q w g sz rv st') 0 0 (fk_A w g sz)
/-- the judgement -/
def fk_V (w : fkW) (g : fkG) (k : fkK) (pc : Nat) (lv : List (Nat × Value)) (stk : List Value) (st : fkS) : Prop := match k with
  | (p, l, e, R, s, m, args, below, meth, c, rv, sf) => ∀ (H : Heap) (locs : List Loc) (ls : Array Slot), lv_has ls c.maxLocals lv → va_P g.2.1 vwCl (fk_ws w g st) H → va_S (fk_A w g s.heap.size) s.heap H locs →
    W p l e R s m args below meth c H locs 0 0 (MQ below (fk_Q w g s.heap.size rv sf) args s 0 0 (fk_A w g s.heap.size)) (F0 m pc ls stk)
def fk_out (k : fkK) : Option Value × fkS := match k with
  | (_, _, _, _, _, _, _, _, _, _, rv, sf) => (rv, sf)
def fk_ok (w : fkW) (g : fkG) (k : fkK) (own : String) (cc : ByteArray) (nL : Nat) (ret : Option FieldType) (fr lo : Nat) : Prop := match k with
  | (p, _, _, R, s, m, args, _, meth, c, _, _) => p.tables.exec = Jvm.exec ∧ c.code = cc ∧ c.maxLocals = nL ∧ s.vm.findClass own = some m.cls ∧ (∀ w ∈ fkB, w.before args s = true) ∧ va_K g.2.1 vwCl (fk_tys g) s ∧ fk_env g (fk_A w g s.heap.size) s ∧
    meth.sig.returnType = ret ∧ meth.locks = false ∧ fk_inj w g ∧ fr ≤ R.frames ∧ lo ≤ R.locals
def fk_J (w : fkW) (g : fkG) {ρ : Type} (en : ρ → Option Value) (k : fkK) (pc : Nat) (lv : List (Nat × Value)) (stk : List Value) (st : fkS) (F : Option (ρ × fkS)) : Prop :=
  ∀ o : ρ × fkS, F = some o → (en o.1, o.2) = fk_out k → fk_V w g k pc lv stk st
def fk_eI (x : Int32) : Option Value := some (.int x)
def fk_eL (x : Int64) : Option Value := some (.long x)
def fk_eU (_ : Unit) : Option Value := none
def fk_eQ (g : fkG) (x : Nat) : Option Value := some (fk_q g x)
/-- a contract out of a walk -/
theorem fk_begin {w : fkW} {y : MethodName} {b : ByteArray} {n : Nat} {ret : Option FieldType} {fr lo : Nat} {l : Launch} {g : fkG} {av : List Value} {st : fkS} {ρ : Type} {en : ρ → Option Value} {F : Option (ρ × fkS)} (hy : plainName y.cls = true) (hs : (lg_sl av).length ≤ n)
    (h : ∀ k : fkK, fk_ok w g k y.cls b n ret fr lo → fk_J w g en k 0 (lv_args 0 av) [] st F) (o : ρ × fkS) (ho : F = some o) : fk_C w y b n ret fr lo l g av st (en o.1) o.2 := by
  intro hinj sz
  refine Met.ofW (cc := b) (maxL := n) (ret := ret) hy rfl ?_
  intro p e s m args below meth c s₁ B hml hv
  obtain ⟨rfl, hsz, hP, hK, hE⟩ := hv
  subst hsz
  have hts := atoms_spec (ws := Cond.code y b n ret :: fkB) B.pre
  have hlv := lv_entry av (n := n) hs
  rw [lg_entry_eq]
  have hk : fk_ok w g (p, l, e, (headSpec (Cond.code y b n ret :: fkB) ({ frames := fr, cells := 0, slots := 0, locals := lo })).room, s, m, av.toArray, below, meth, c, en o.1, o.2) y.cls b n ret fr lo :=
    ⟨B.exec, B.bytes, hml, findClass_of_methodNamed B.named, fun w hw => hts w (List.mem_cons_of_mem _ hw), hK, hE, B.returns, B.notSynchronized, hinj, Nat.le_refl _, Nat.le_refl _⟩
  exact h _ hk o ho rfl s.heap [] _ (by rw [hml]; exact hlv) hP va_S.rf
/-- what comes behind a call -/
theorem fk_after {p : Program} {l : Launch} {e : Env} {R : Room} {s : State} {m : MethodId} {args : Array Value} {below : List Frame} {meth : Method} {c : Code} {H : Heap} {locs : List Loc} {Q : State → Prop} {pc : Nat} {ls : Array Slot} {st0 rest : List Value}
    {D : va_G} {cl : List vw_C} {ws1 : va_W} {rv : Option Value} {A0 A1 : Nat → Prop} {H0 : Heap}
    (hr : va_Run p l e R s m args below meth c H locs 0 0 0 0 (F0 m pc ls st0) rest (fun s0 oc t => oc = .returned rv ∧ va_P D cl ws1 t.heap ∧ va_F A1 s0 t) A1) (hS : va_S A0 H0 H locs) (hA : ∀ q, q < H.size → A1 q → A0 q) (hf : ∀ q, A1 q → A0 q)
    (kk : ∀ (H1 : Heap) (locs1 : List Loc), va_P D cl ws1 H1 → va_S A0 H0 H1 locs1 → W p l e R s m args below meth c H1 locs1 0 0 Q (F0 m (pc + 3) ls (rv.toList ++ rest))) : W p l e R s m args below meth c H locs 0 0 Q (F0 m pc ls st0) := by
  intro T hT X
  obtain ⟨v, st₀, t, T', L, h0, X', hL, e1, e2, ⟨hv, hp, hz, hk⟩, st⟩ := hr T hT X
  cases hv
  rw [h0] at hz hk
  obtain ⟨t2, a1, b1⟩ := kk T'.heap (locs ++ L) (by rw [e1]; exact hp)
    ⟨Nat.le_trans hS.1 (by rw [e1]; exact hz), fun q h1 h2 => by rw [e1, hk q (Nat.lt_of_lt_of_le h1 hS.1) (fun z => h2 (hA q (Nat.lt_of_lt_of_le h1 hS.1) z))]; exact hS.2.1 q h1 h2, fun q hq => by
      rcases List.mem_append.mp hq with h | h
      · exact hS.2.2 q h
      · exact hf _ (hL q h)⟩ T' rfl X'
  exact ⟨t2, st t2 a1, b1⟩
theorem fk_A_up {w : fkW} {g : fkG} {a b : Nat} (h : a ≤ b) : ∀ q, fk_A w g b q → fk_A w g a q := by
  rintro q (h1 | h1)
  · exact Or.inl h1
  · exact Or.inr (Nat.le_trans h h1)
theorem fk_blind {w : fkW} {g : fkG} {st : fkS} {sz : Nat} {av : List Value} : FrameBlind (va_Pc av (fk_B w g st sz)) := by
  intro a U f mk h
  obtain ⟨h0, h1, h2, h3, h4⟩ := h
  exact ⟨h0, h1, h2, va_K.moved (u := U) (U := U.calling f mk a) (Vm.Alike.refl U.vm) h3, h4.blind f mk a⟩
theorem fk_pre {w : fkW} {g : fkG} {st : fkS} {av : List Value} {s U : State} {H : Heap} {locs : List Loc} (hK : va_K g.2.1 vwCl (fk_tys g) s) (hE : fk_env g (fk_A w g s.heap.size) s) (hP : va_P g.2.1 vwCl (fk_ws w g st) H) (hS : va_S (fk_A w g s.heap.size) s.heap H locs) (hU : U.heap = H) (hW : s.WarmedH U.vm) :
    va_Pc av (fk_B w g st H.size) av.toArray U := by
  subst hU
  exact ⟨rfl, rfl, hP, va_K.moved hW.alike hK, hE.go hW (fun a h1 h2 => hS.2.1 a h1 h2) (fk_A_up hS.1)⟩
end
section
def fk_rem (x y : Int32) : Int32 := x - x / y * y
def fk_ushr (x y : Int32) : Int32 := (x.toUInt32 >>> (y.toUInt32 &&& Int32.toUInt32 31)).toInt32
def fk_max (x y : Int32) : Int32 := if x < y then y else x
def fk_min (x y : Int32) : Int32 := if y < x then y else x
def fk_nzL (y : Int64) : Bool := !(decide (y = 0))
theorem fk_nzL_ne {y : Int64} (h : fk_nzL y = true) : ¬ y = 0 := by
  unfold fk_nzL at h
  simpa using h
theorem j_iconst {w : fkW} {g : fkG} {k : fkK} {ρ : Type} {en : ρ → Option Value} {own : String} {cc : ByteArray} {nL fr lo pc : Nat} {ret : Option FieldType} {lv : List (Nat × Value)} {stk : List Value} {st : fkS} {F : Option (ρ × fkS)} (hk : fk_ok w g k own cc nL ret fr lo) {n : Int} {v : Int32} (hdg : decode cc pc = .ok (.iconst n, 1)) (hv : Int32.ofInt n = v)
    (kk : fk_J w g en k (pc + 1) lv (.int v :: stk) st F) : fk_J w g en k pc lv (stk) st F := by
  intro o ho hq
  have kk := kk o ho hq
  obtain ⟨p, l, e, R, s, m, args, below, meth, c, rv, sf⟩ := k
  obtain ⟨hx, hb, hml, hown, hts, hK, hE, hr, hlk, hinj, hfr, hlo⟩ := hk
  intro H locs ls hl hP hS
  exact lv_iconst hx hb hdg hv (kk H locs ls hl hP hS)
theorem j_bipush {w : fkW} {g : fkG} {k : fkK} {ρ : Type} {en : ρ → Option Value} {own : String} {cc : ByteArray} {nL fr lo pc : Nat} {ret : Option FieldType} {lv : List (Nat × Value)} {stk : List Value} {st : fkS} {F : Option (ρ × fkS)} (hk : fk_ok w g k own cc nL ret fr lo) {n : Int} {v : Int32} (hdg : decode cc pc = .ok (.bipush n, 2)) (hv : (Int8.ofInt n).toInt32 = v)
    (kk : fk_J w g en k (pc + 2) lv (.int v :: stk) st F) : fk_J w g en k pc lv (stk) st F := by
  intro o ho hq
  have kk := kk o ho hq
  obtain ⟨p, l, e, R, s, m, args, below, meth, c, rv, sf⟩ := k
  obtain ⟨hx, hb, hml, hown, hts, hK, hE, hr, hlk, hinj, hfr, hlo⟩ := hk
  intro H locs ls hl hP hS
  exact lv_bipush hx hb hdg hv (kk H locs ls hl hP hS)
theorem j_sipush {w : fkW} {g : fkG} {k : fkK} {ρ : Type} {en : ρ → Option Value} {own : String} {cc : ByteArray} {nL fr lo pc : Nat} {ret : Option FieldType} {lv : List (Nat × Value)} {stk : List Value} {st : fkS} {F : Option (ρ × fkS)} (hk : fk_ok w g k own cc nL ret fr lo) {n : Int} {v : Int32} (hdg : decode cc pc = .ok (.sipush n, 3)) (hv : (Int16.ofInt n).toInt32 = v)
    (kk : fk_J w g en k (pc + 3) lv (.int v :: stk) st F) : fk_J w g en k pc lv (stk) st F := by
  intro o ho hq
  have kk := kk o ho hq
  obtain ⟨p, l, e, R, s, m, args, below, meth, c, rv, sf⟩ := k
  obtain ⟨hx, hb, hml, hown, hts, hK, hE, hr, hlk, hinj, hfr, hlo⟩ := hk
  intro H locs ls hl hP hS
  exact lv_sipush hx hb hdg hv (kk H locs ls hl hP hS)
theorem j_lconst {w : fkW} {g : fkG} {k : fkK} {ρ : Type} {en : ρ → Option Value} {own : String} {cc : ByteArray} {nL fr lo pc : Nat} {ret : Option FieldType} {lv : List (Nat × Value)} {stk : List Value} {st : fkS} {F : Option (ρ × fkS)} (hk : fk_ok w g k own cc nL ret fr lo) {n : Fin 2} {v : Int64} (hdg : decode cc pc = .ok (.lconst n, 1)) (hv : Int64.ofNat (n : Nat) = v)
    (kk : fk_J w g en k (pc + 1) lv (.long v :: stk) st F) : fk_J w g en k pc lv (stk) st F := by
  intro o ho hq
  have kk := kk o ho hq
  obtain ⟨p, l, e, R, s, m, args, below, meth, c, rv, sf⟩ := k
  obtain ⟨hx, hb, hml, hown, hts, hK, hE, hr, hlk, hinj, hfr, hlo⟩ := hk
  intro H locs ls hl hP hS
  exact lv_lconst hx hb hdg hv (kk H locs ls hl hP hS)
theorem j_ldc {w : fkW} {g : fkG} {k : fkK} {ρ : Type} {en : ρ → Option Value} {own : String} {cc : ByteArray} {nL fr lo pc : Nat} {ret : Option FieldType} {lv : List (Nat × Value)} {stk : List Value} {st : fkS} {F : Option (ρ × fkS)} (hk : fk_ok w g k own cc nL ret fr lo) {i : Nat} {v : Int32} (hdg : decode cc pc = .ok (.ldc i, 2)) (hc : Cond.constant own i v ∈ fkB)
    (kk : fk_J w g en k (pc + 2) lv (.int v :: stk) st F) : fk_J w g en k pc lv (stk) st F := by
  intro o ho hq
  have kk := kk o ho hq
  obtain ⟨p, l, e, R, s, m, args, below, meth, c, rv, sf⟩ := k
  obtain ⟨hx, hb, hml, hown, hts, hK, hE, hr, hlk, hinj, hfr, hlo⟩ := hk
  intro H locs ls hl hP hS
  exact lv_ldc hx hb hown (hts _ hc) hdg (kk H locs ls hl hP hS)
theorem j_ldcw {w : fkW} {g : fkG} {k : fkK} {ρ : Type} {en : ρ → Option Value} {own : String} {cc : ByteArray} {nL fr lo pc : Nat} {ret : Option FieldType} {lv : List (Nat × Value)} {stk : List Value} {st : fkS} {F : Option (ρ × fkS)} (hk : fk_ok w g k own cc nL ret fr lo) {i : Nat} {v : Int32} (hdg : decode cc pc = .ok (.ldc_w i, 3)) (hc : Cond.constant own i v ∈ fkB)
    (kk : fk_J w g en k (pc + 3) lv (.int v :: stk) st F) : fk_J w g en k pc lv (stk) st F := by
  intro o ho hq
  have kk := kk o ho hq
  obtain ⟨p, l, e, R, s, m, args, below, meth, c, rv, sf⟩ := k
  obtain ⟨hx, hb, hml, hown, hts, hK, hE, hr, hlk, hinj, hfr, hlo⟩ := hk
  intro H locs ls hl hP hS
  exact lv_ldcw hx hb hown (hts _ hc) hdg (kk H locs ls hl hP hS)
theorem j_ldc2 {w : fkW} {g : fkG} {k : fkK} {ρ : Type} {en : ρ → Option Value} {own : String} {cc : ByteArray} {nL fr lo pc : Nat} {ret : Option FieldType} {lv : List (Nat × Value)} {stk : List Value} {st : fkS} {F : Option (ρ × fkS)} (hk : fk_ok w g k own cc nL ret fr lo) {i : Nat} {v : Int64} (hdg : decode cc pc = .ok (.ldc2_w i, 3)) (hc : Cond.constantLong own i v ∈ fkB)
    (kk : fk_J w g en k (pc + 3) lv (.long v :: stk) st F) : fk_J w g en k pc lv (stk) st F := by
  intro o ho hq
  have kk := kk o ho hq
  obtain ⟨p, l, e, R, s, m, args, below, meth, c, rv, sf⟩ := k
  obtain ⟨hx, hb, hml, hown, hts, hK, hE, hr, hlk, hinj, hfr, hlo⟩ := hk
  intro H locs ls hl hP hS
  exact lv_ldc2 hx hb hown (hts _ hc) hdg (kk H locs ls hl hP hS)
theorem j_ldcS {w : fkW} {g : fkG} {k : fkK} {ρ : Type} {en : ρ → Option Value} {own : String} {cc : ByteArray} {nL fr lo pc : Nat} {ret : Option FieldType} {lv : List (Nat × Value)} {stk : List Value} {st : fkS} {F : Option (ρ × fkS)} (hk : fk_ok w g k own cc nL ret fr lo) {i q : Nat} {tx : String} (hdg : decode cc pc = .ok (.ldc i, 2)) (hc : (own, i, tx, q) ∈ fk_strs)
    (kk : fk_J w g en k (pc + 2) lv (fk_q g q :: stk) st F) : fk_J w g en k pc lv (stk) st F := by
  intro o ho hq
  have kk := kk o ho hq
  obtain ⟨p, l, e, R, s, m, args, below, meth, c, rv, sf⟩ := k
  obtain ⟨hx, hb, hml, hown, hts, hK, hE, hr, hlk, hinj, hfr, hlo⟩ := hk
  intro H locs ls hl hP hS
  exact va_ldcS hx hb hown (hE.2.2.2.2.2.2.1 _ hc) hdg (kk H locs ls hl hP hS)
theorem j_iload_n {w : fkW} {g : fkG} {k : fkK} {ρ : Type} {en : ρ → Option Value} {own : String} {cc : ByteArray} {nL fr lo pc : Nat} {ret : Option FieldType} {lv : List (Nat × Value)} {stk : List Value} {st : fkS} {F : Option (ρ × fkS)} (hk : fk_ok w g k own cc nL ret fr lo) {i : Fin 4} {x : Int32} (j : Nat) (hj : lv[j]? = some ((i : Nat), .int x)) (hdg : decode cc pc = .ok (.iload_n i, 1)) 
    (kk : fk_J w g en k (pc + 1) lv (.int x :: stk) st F) : fk_J w g en k pc lv (stk) st F := by
  intro o ho hq
  have kk := kk o ho hq
  obtain ⟨p, l, e, R, s, m, args, below, meth, c, rv, sf⟩ := k
  obtain ⟨hx, hb, hml, hown, hts, hK, hE, hr, hlk, hinj, hfr, hlo⟩ := hk
  intro H locs ls hl hP hS
  exact lv_iload_n hx hb hdg rfl (lv_at hl j hj) (kk H locs ls hl hP hS)
theorem j_iload {w : fkW} {g : fkG} {k : fkK} {ρ : Type} {en : ρ → Option Value} {own : String} {cc : ByteArray} {nL fr lo pc : Nat} {ret : Option FieldType} {lv : List (Nat × Value)} {stk : List Value} {st : fkS} {F : Option (ρ × fkS)} (hk : fk_ok w g k own cc nL ret fr lo) {i : Nat} {x : Int32} (j : Nat) (hj : lv[j]? = some (i, .int x)) (hdg : decode cc pc = .ok (.iload i, 2)) 
    (kk : fk_J w g en k (pc + 2) lv (.int x :: stk) st F) : fk_J w g en k pc lv (stk) st F := by
  intro o ho hq
  have kk := kk o ho hq
  obtain ⟨p, l, e, R, s, m, args, below, meth, c, rv, sf⟩ := k
  obtain ⟨hx, hb, hml, hown, hts, hK, hE, hr, hlk, hinj, hfr, hlo⟩ := hk
  intro H locs ls hl hP hS
  exact lv_iload hx hb hdg (lv_at hl j hj) (kk H locs ls hl hP hS)
theorem j_lload_n {w : fkW} {g : fkG} {k : fkK} {ρ : Type} {en : ρ → Option Value} {own : String} {cc : ByteArray} {nL fr lo pc : Nat} {ret : Option FieldType} {lv : List (Nat × Value)} {stk : List Value} {st : fkS} {F : Option (ρ × fkS)} (hk : fk_ok w g k own cc nL ret fr lo) {i : Fin 4} {x : Int64} (j : Nat) (hj : lv[j]? = some ((i : Nat), .long x)) (hdg : decode cc pc = .ok (.lload_n i, 1)) 
    (kk : fk_J w g en k (pc + 1) lv (.long x :: stk) st F) : fk_J w g en k pc lv (stk) st F := by
  intro o ho hq
  have kk := kk o ho hq
  obtain ⟨p, l, e, R, s, m, args, below, meth, c, rv, sf⟩ := k
  obtain ⟨hx, hb, hml, hown, hts, hK, hE, hr, hlk, hinj, hfr, hlo⟩ := hk
  intro H locs ls hl hP hS
  exact lv_lload_n hx hb hdg rfl (lv_at hl j hj) (kk H locs ls hl hP hS)
theorem j_lload {w : fkW} {g : fkG} {k : fkK} {ρ : Type} {en : ρ → Option Value} {own : String} {cc : ByteArray} {nL fr lo pc : Nat} {ret : Option FieldType} {lv : List (Nat × Value)} {stk : List Value} {st : fkS} {F : Option (ρ × fkS)} (hk : fk_ok w g k own cc nL ret fr lo) {i : Nat} {x : Int64} (j : Nat) (hj : lv[j]? = some (i, .long x)) (hdg : decode cc pc = .ok (.lload i, 2)) 
    (kk : fk_J w g en k (pc + 2) lv (.long x :: stk) st F) : fk_J w g en k pc lv (stk) st F := by
  intro o ho hq
  have kk := kk o ho hq
  obtain ⟨p, l, e, R, s, m, args, below, meth, c, rv, sf⟩ := k
  obtain ⟨hx, hb, hml, hown, hts, hK, hE, hr, hlk, hinj, hfr, hlo⟩ := hk
  intro H locs ls hl hP hS
  exact lv_lload hx hb hdg (lv_at hl j hj) (kk H locs ls hl hP hS)
theorem j_aload_n {w : fkW} {g : fkG} {k : fkK} {ρ : Type} {en : ρ → Option Value} {own : String} {cc : ByteArray} {nL fr lo pc : Nat} {ret : Option FieldType} {lv : List (Nat × Value)} {stk : List Value} {st : fkS} {F : Option (ρ × fkS)} (hk : fk_ok w g k own cc nL ret fr lo) {i : Fin 4} {v : Value} (j : Nat) (hj : lv[j]? = some ((i : Nat), v)) (hv : ∃ a, v = .ref a) (hdg : decode cc pc = .ok (.aload_n i, 1)) 
    (kk : fk_J w g en k (pc + 1) lv (v :: stk) st F) : fk_J w g en k pc lv (stk) st F := by
  obtain ⟨a, rfl⟩ := hv
  intro o ho hq
  have kk := kk o ho hq
  obtain ⟨p, l, e, R, s, m, args, below, meth, c, rv, sf⟩ := k
  obtain ⟨hx, hb, hml, hown, hts, hK, hE, hr, hlk, hinj, hfr, hlo⟩ := hk
  intro H locs ls hl hP hS
  exact lv_aload_n hx hb hdg rfl (lv_at hl j hj) (kk H locs ls hl hP hS)
theorem j_aload {w : fkW} {g : fkG} {k : fkK} {ρ : Type} {en : ρ → Option Value} {own : String} {cc : ByteArray} {nL fr lo pc : Nat} {ret : Option FieldType} {lv : List (Nat × Value)} {stk : List Value} {st : fkS} {F : Option (ρ × fkS)} (hk : fk_ok w g k own cc nL ret fr lo) {i : Nat} {v : Value} (j : Nat) (hj : lv[j]? = some (i, v)) (hv : ∃ a, v = .ref a) (hdg : decode cc pc = .ok (.aload i, 2)) 
    (kk : fk_J w g en k (pc + 2) lv (v :: stk) st F) : fk_J w g en k pc lv (stk) st F := by
  obtain ⟨a, rfl⟩ := hv
  intro o ho hq
  have kk := kk o ho hq
  obtain ⟨p, l, e, R, s, m, args, below, meth, c, rv, sf⟩ := k
  obtain ⟨hx, hb, hml, hown, hts, hK, hE, hr, hlk, hinj, hfr, hlo⟩ := hk
  intro H locs ls hl hP hS
  exact lv_aload hx hb hdg (lv_at hl j hj) (kk H locs ls hl hP hS)
theorem j_istore_n {w : fkW} {g : fkG} {k : fkK} {ρ : Type} {en : ρ → Option Value} {own : String} {cc : ByteArray} {nL fr lo pc : Nat} {ret : Option FieldType} {lv : List (Nat × Value)} {stk : List Value} {st : fkS} {F : Option (ρ × fkS)} (hk : fk_ok w g k own cc nL ret fr lo) {ik : Fin 4} {i : Nat} {x : Int32} {lv' : List (Nat × Value)} (hi : (ik : Nat) = i) (hn : i < nL) (hs : (i, Value.int x) :: lv.filter (fun q => !(q.1 == i) && !(q.1 + 1 == i && q.2.category == 2)) = lv') (hdg : decode cc pc = .ok (.istore_n ik, 1))
    (kk : fk_J w g en k (pc + 1) lv' stk st F) : fk_J w g en k pc lv (.int x :: stk) st F := by
  intro o ho hq
  have kk := kk o ho hq
  obtain ⟨p, l, e, R, s, m, args, below, meth, c, rv, sf⟩ := k
  obtain ⟨hx, hb, hml, hown, hts, hK, hE, hr, hlk, hinj, hfr, hlo⟩ := hk
  intro H locs ls hl hP hS
  subst hml
  exact lv_istore_n hx hb hdg hi hl hn hs (fun ls' hl' => kk H locs ls' hl' hP hS)
theorem j_istore {w : fkW} {g : fkG} {k : fkK} {ρ : Type} {en : ρ → Option Value} {own : String} {cc : ByteArray} {nL fr lo pc : Nat} {ret : Option FieldType} {lv : List (Nat × Value)} {stk : List Value} {st : fkS} {F : Option (ρ × fkS)} (hk : fk_ok w g k own cc nL ret fr lo) {i : Nat} {x : Int32} {lv' : List (Nat × Value)} (hn : i < nL) (hs : (i, Value.int x) :: lv.filter (fun q => !(q.1 == i) && !(q.1 + 1 == i && q.2.category == 2)) = lv') (hdg : decode cc pc = .ok (.istore i, 2))
    (kk : fk_J w g en k (pc + 2) lv' stk st F) : fk_J w g en k pc lv (.int x :: stk) st F := by
  intro o ho hq
  have kk := kk o ho hq
  obtain ⟨p, l, e, R, s, m, args, below, meth, c, rv, sf⟩ := k
  obtain ⟨hx, hb, hml, hown, hts, hK, hE, hr, hlk, hinj, hfr, hlo⟩ := hk
  intro H locs ls hl hP hS
  subst hml
  exact lv_istore hx hb hdg hl hn hs (fun ls' hl' => kk H locs ls' hl' hP hS)
theorem j_astore_n {w : fkW} {g : fkG} {k : fkK} {ρ : Type} {en : ρ → Option Value} {own : String} {cc : ByteArray} {nL fr lo pc : Nat} {ret : Option FieldType} {lv : List (Nat × Value)} {stk : List Value} {st : fkS} {F : Option (ρ × fkS)} (hk : fk_ok w g k own cc nL ret fr lo) {ik : Fin 4} {i : Nat} {v : Value} {lv' : List (Nat × Value)} (hv : ∃ a, v = .ref a) (hi : (ik : Nat) = i) (hn : i < nL) (hs : (i, v) :: lv.filter (fun q => !(q.1 == i) && !(q.1 + 1 == i && q.2.category == 2)) = lv') (hdg : decode cc pc = .ok (.astore_n ik, 1))
    (kk : fk_J w g en k (pc + 1) lv' stk st F) : fk_J w g en k pc lv (v :: stk) st F := by
  obtain ⟨a, rfl⟩ := hv
  intro o ho hq
  have kk := kk o ho hq
  obtain ⟨p, l, e, R, s, m, args, below, meth, c, rv, sf⟩ := k
  obtain ⟨hx, hb, hml, hown, hts, hK, hE, hr, hlk, hinj, hfr, hlo⟩ := hk
  intro H locs ls hl hP hS
  subst hml
  exact lv_astore_n hx hb hdg hi hl hn hs (fun ls' hl' => kk H locs ls' hl' hP hS)
theorem j_astore {w : fkW} {g : fkG} {k : fkK} {ρ : Type} {en : ρ → Option Value} {own : String} {cc : ByteArray} {nL fr lo pc : Nat} {ret : Option FieldType} {lv : List (Nat × Value)} {stk : List Value} {st : fkS} {F : Option (ρ × fkS)} (hk : fk_ok w g k own cc nL ret fr lo) {i : Nat} {v : Value} {lv' : List (Nat × Value)} (hv : ∃ a, v = .ref a) (hn : i < nL) (hs : (i, v) :: lv.filter (fun q => !(q.1 == i) && !(q.1 + 1 == i && q.2.category == 2)) = lv') (hdg : decode cc pc = .ok (.astore i, 2))
    (kk : fk_J w g en k (pc + 2) lv' stk st F) : fk_J w g en k pc lv (v :: stk) st F := by
  obtain ⟨a, rfl⟩ := hv
  intro o ho hq
  have kk := kk o ho hq
  obtain ⟨p, l, e, R, s, m, args, below, meth, c, rv, sf⟩ := k
  obtain ⟨hx, hb, hml, hown, hts, hK, hE, hr, hlk, hinj, hfr, hlo⟩ := hk
  intro H locs ls hl hP hS
  subst hml
  exact lv_astore hx hb hdg hl hn hs (fun ls' hl' => kk H locs ls' hl' hP hS)
theorem j_iinc {w : fkW} {g : fkG} {k : fkK} {ρ : Type} {en : ρ → Option Value} {own : String} {cc : ByteArray} {nL fr lo pc : Nat} {ret : Option FieldType} {lv : List (Nat × Value)} {stk : List Value} {st : fkS} {F : Option (ρ × fkS)} (hk : fk_ok w g k own cc nL ret fr lo) {i : Nat} {n : Int} {x v : Int32} {lv' : List (Nat × Value)} (j : Nat) (hj : lv[j]? = some (i, .int x)) (hv : x + Int32.ofInt n = v) (hn : i < nL) (hs : (i, Value.int v) :: lv.filter (fun q => !(q.1 == i) && !(q.1 + 1 == i && q.2.category == 2)) = lv') (hdg : decode cc pc = .ok (.iinc i n, 3))
    (kk : fk_J w g en k (pc + 3) lv' stk st F) : fk_J w g en k pc lv stk st F := by
  intro o ho hq
  have kk := kk o ho hq
  obtain ⟨p, l, e, R, s, m, args, below, meth, c, rv, sf⟩ := k
  obtain ⟨hx, hb, hml, hown, hts, hK, hE, hr, hlk, hinj, hfr, hlo⟩ := hk
  intro H locs ls hl hP hS
  subst hml
  exact lv_iinc hx hb hdg hl hj hv hn hs (fun ls' hl' => kk H locs ls' hl' hP hS)
theorem j_iadd {w : fkW} {g : fkG} {k : fkK} {ρ : Type} {en : ρ → Option Value} {own : String} {cc : ByteArray} {nL fr lo pc : Nat} {ret : Option FieldType} {lv : List (Nat × Value)} {stk : List Value} {st : fkS} {F : Option (ρ × fkS)} (hk : fk_ok w g k own cc nL ret fr lo) {x y : Int32} (hdg : decode cc pc = .ok (.iadd, 1)) 
    (kk : fk_J w g en k (pc + 1) lv (.int (x + y) :: stk) st F) : fk_J w g en k pc lv (.int y :: .int x :: stk) st F := by
  intro o ho hq
  have kk := kk o ho hq
  obtain ⟨p, l, e, R, s, m, args, below, meth, c, rv, sf⟩ := k
  obtain ⟨hx, hb, hml, hown, hts, hK, hE, hr, hlk, hinj, hfr, hlo⟩ := hk
  intro H locs ls hl hP hS
  exact lv_iadd hx hb hdg (kk H locs ls hl hP hS)
theorem j_isub {w : fkW} {g : fkG} {k : fkK} {ρ : Type} {en : ρ → Option Value} {own : String} {cc : ByteArray} {nL fr lo pc : Nat} {ret : Option FieldType} {lv : List (Nat × Value)} {stk : List Value} {st : fkS} {F : Option (ρ × fkS)} (hk : fk_ok w g k own cc nL ret fr lo) {x y : Int32} (hdg : decode cc pc = .ok (.isub, 1)) 
    (kk : fk_J w g en k (pc + 1) lv (.int (x - y) :: stk) st F) : fk_J w g en k pc lv (.int y :: .int x :: stk) st F := by
  intro o ho hq
  have kk := kk o ho hq
  obtain ⟨p, l, e, R, s, m, args, below, meth, c, rv, sf⟩ := k
  obtain ⟨hx, hb, hml, hown, hts, hK, hE, hr, hlk, hinj, hfr, hlo⟩ := hk
  intro H locs ls hl hP hS
  exact lv_isub hx hb hdg (kk H locs ls hl hP hS)
theorem j_imul {w : fkW} {g : fkG} {k : fkK} {ρ : Type} {en : ρ → Option Value} {own : String} {cc : ByteArray} {nL fr lo pc : Nat} {ret : Option FieldType} {lv : List (Nat × Value)} {stk : List Value} {st : fkS} {F : Option (ρ × fkS)} (hk : fk_ok w g k own cc nL ret fr lo) {x y : Int32} (hdg : decode cc pc = .ok (.imul, 1)) 
    (kk : fk_J w g en k (pc + 1) lv (.int (x * y) :: stk) st F) : fk_J w g en k pc lv (.int y :: .int x :: stk) st F := by
  intro o ho hq
  have kk := kk o ho hq
  obtain ⟨p, l, e, R, s, m, args, below, meth, c, rv, sf⟩ := k
  obtain ⟨hx, hb, hml, hown, hts, hK, hE, hr, hlk, hinj, hfr, hlo⟩ := hk
  intro H locs ls hl hP hS
  exact lv_imul hx hb hdg (kk H locs ls hl hP hS)
theorem j_iand {w : fkW} {g : fkG} {k : fkK} {ρ : Type} {en : ρ → Option Value} {own : String} {cc : ByteArray} {nL fr lo pc : Nat} {ret : Option FieldType} {lv : List (Nat × Value)} {stk : List Value} {st : fkS} {F : Option (ρ × fkS)} (hk : fk_ok w g k own cc nL ret fr lo) {x y : Int32} (hdg : decode cc pc = .ok (.iand, 1)) 
    (kk : fk_J w g en k (pc + 1) lv (.int (x &&& y) :: stk) st F) : fk_J w g en k pc lv (.int y :: .int x :: stk) st F := by
  intro o ho hq
  have kk := kk o ho hq
  obtain ⟨p, l, e, R, s, m, args, below, meth, c, rv, sf⟩ := k
  obtain ⟨hx, hb, hml, hown, hts, hK, hE, hr, hlk, hinj, hfr, hlo⟩ := hk
  intro H locs ls hl hP hS
  exact lv_iand hx hb hdg (kk H locs ls hl hP hS)
theorem j_ior {w : fkW} {g : fkG} {k : fkK} {ρ : Type} {en : ρ → Option Value} {own : String} {cc : ByteArray} {nL fr lo pc : Nat} {ret : Option FieldType} {lv : List (Nat × Value)} {stk : List Value} {st : fkS} {F : Option (ρ × fkS)} (hk : fk_ok w g k own cc nL ret fr lo) {x y : Int32} (hdg : decode cc pc = .ok (.ior, 1)) 
    (kk : fk_J w g en k (pc + 1) lv (.int (x ||| y) :: stk) st F) : fk_J w g en k pc lv (.int y :: .int x :: stk) st F := by
  intro o ho hq
  have kk := kk o ho hq
  obtain ⟨p, l, e, R, s, m, args, below, meth, c, rv, sf⟩ := k
  obtain ⟨hx, hb, hml, hown, hts, hK, hE, hr, hlk, hinj, hfr, hlo⟩ := hk
  intro H locs ls hl hP hS
  exact lv_ior hx hb hdg (kk H locs ls hl hP hS)
theorem j_ixor {w : fkW} {g : fkG} {k : fkK} {ρ : Type} {en : ρ → Option Value} {own : String} {cc : ByteArray} {nL fr lo pc : Nat} {ret : Option FieldType} {lv : List (Nat × Value)} {stk : List Value} {st : fkS} {F : Option (ρ × fkS)} (hk : fk_ok w g k own cc nL ret fr lo) {x y : Int32} (hdg : decode cc pc = .ok (.ixor, 1)) 
    (kk : fk_J w g en k (pc + 1) lv (.int (x ^^^ y) :: stk) st F) : fk_J w g en k pc lv (.int y :: .int x :: stk) st F := by
  intro o ho hq
  have kk := kk o ho hq
  obtain ⟨p, l, e, R, s, m, args, below, meth, c, rv, sf⟩ := k
  obtain ⟨hx, hb, hml, hown, hts, hK, hE, hr, hlk, hinj, hfr, hlo⟩ := hk
  intro H locs ls hl hP hS
  exact lv_ixor hx hb hdg (kk H locs ls hl hP hS)
theorem j_ishl {w : fkW} {g : fkG} {k : fkK} {ρ : Type} {en : ρ → Option Value} {own : String} {cc : ByteArray} {nL fr lo pc : Nat} {ret : Option FieldType} {lv : List (Nat × Value)} {stk : List Value} {st : fkS} {F : Option (ρ × fkS)} (hk : fk_ok w g k own cc nL ret fr lo) {x y : Int32} (hdg : decode cc pc = .ok (.ishl, 1)) 
    (kk : fk_J w g en k (pc + 1) lv (.int (x <<< (y &&& 31)) :: stk) st F) : fk_J w g en k pc lv (.int y :: .int x :: stk) st F := by
  intro o ho hq
  have kk := kk o ho hq
  obtain ⟨p, l, e, R, s, m, args, below, meth, c, rv, sf⟩ := k
  obtain ⟨hx, hb, hml, hown, hts, hK, hE, hr, hlk, hinj, hfr, hlo⟩ := hk
  intro H locs ls hl hP hS
  exact lv_ishl hx hb hdg (kk H locs ls hl hP hS)
theorem j_ishr {w : fkW} {g : fkG} {k : fkK} {ρ : Type} {en : ρ → Option Value} {own : String} {cc : ByteArray} {nL fr lo pc : Nat} {ret : Option FieldType} {lv : List (Nat × Value)} {stk : List Value} {st : fkS} {F : Option (ρ × fkS)} (hk : fk_ok w g k own cc nL ret fr lo) {x y : Int32} (hdg : decode cc pc = .ok (.ishr, 1)) 
    (kk : fk_J w g en k (pc + 1) lv (.int (x >>> (y &&& 31)) :: stk) st F) : fk_J w g en k pc lv (.int y :: .int x :: stk) st F := by
  intro o ho hq
  have kk := kk o ho hq
  obtain ⟨p, l, e, R, s, m, args, below, meth, c, rv, sf⟩ := k
  obtain ⟨hx, hb, hml, hown, hts, hK, hE, hr, hlk, hinj, hfr, hlo⟩ := hk
  intro H locs ls hl hP hS
  exact lv_ishr hx hb hdg (kk H locs ls hl hP hS)
theorem j_ladd {w : fkW} {g : fkG} {k : fkK} {ρ : Type} {en : ρ → Option Value} {own : String} {cc : ByteArray} {nL fr lo pc : Nat} {ret : Option FieldType} {lv : List (Nat × Value)} {stk : List Value} {st : fkS} {F : Option (ρ × fkS)} (hk : fk_ok w g k own cc nL ret fr lo) {x y : Int64} (hdg : decode cc pc = .ok (.ladd, 1)) 
    (kk : fk_J w g en k (pc + 1) lv (.long (x + y) :: stk) st F) : fk_J w g en k pc lv (.long y :: .long x :: stk) st F := by
  intro o ho hq
  have kk := kk o ho hq
  obtain ⟨p, l, e, R, s, m, args, below, meth, c, rv, sf⟩ := k
  obtain ⟨hx, hb, hml, hown, hts, hK, hE, hr, hlk, hinj, hfr, hlo⟩ := hk
  intro H locs ls hl hP hS
  exact lv_ladd hx hb hdg (kk H locs ls hl hP hS)
theorem j_lsub {w : fkW} {g : fkG} {k : fkK} {ρ : Type} {en : ρ → Option Value} {own : String} {cc : ByteArray} {nL fr lo pc : Nat} {ret : Option FieldType} {lv : List (Nat × Value)} {stk : List Value} {st : fkS} {F : Option (ρ × fkS)} (hk : fk_ok w g k own cc nL ret fr lo) {x y : Int64} (hdg : decode cc pc = .ok (.lsub, 1)) 
    (kk : fk_J w g en k (pc + 1) lv (.long (x - y) :: stk) st F) : fk_J w g en k pc lv (.long y :: .long x :: stk) st F := by
  intro o ho hq
  have kk := kk o ho hq
  obtain ⟨p, l, e, R, s, m, args, below, meth, c, rv, sf⟩ := k
  obtain ⟨hx, hb, hml, hown, hts, hK, hE, hr, hlk, hinj, hfr, hlo⟩ := hk
  intro H locs ls hl hP hS
  exact lv_lsub hx hb hdg (kk H locs ls hl hP hS)
theorem j_lmul {w : fkW} {g : fkG} {k : fkK} {ρ : Type} {en : ρ → Option Value} {own : String} {cc : ByteArray} {nL fr lo pc : Nat} {ret : Option FieldType} {lv : List (Nat × Value)} {stk : List Value} {st : fkS} {F : Option (ρ × fkS)} (hk : fk_ok w g k own cc nL ret fr lo) {x y : Int64} (hdg : decode cc pc = .ok (.lmul, 1)) 
    (kk : fk_J w g en k (pc + 1) lv (.long (x * y) :: stk) st F) : fk_J w g en k pc lv (.long y :: .long x :: stk) st F := by
  intro o ho hq
  have kk := kk o ho hq
  obtain ⟨p, l, e, R, s, m, args, below, meth, c, rv, sf⟩ := k
  obtain ⟨hx, hb, hml, hown, hts, hK, hE, hr, hlk, hinj, hfr, hlo⟩ := hk
  intro H locs ls hl hP hS
  exact lv_lmul hx hb hdg (kk H locs ls hl hP hS)
theorem j_land {w : fkW} {g : fkG} {k : fkK} {ρ : Type} {en : ρ → Option Value} {own : String} {cc : ByteArray} {nL fr lo pc : Nat} {ret : Option FieldType} {lv : List (Nat × Value)} {stk : List Value} {st : fkS} {F : Option (ρ × fkS)} (hk : fk_ok w g k own cc nL ret fr lo) {x y : Int64} (hdg : decode cc pc = .ok (.land, 1)) 
    (kk : fk_J w g en k (pc + 1) lv (.long (x &&& y) :: stk) st F) : fk_J w g en k pc lv (.long y :: .long x :: stk) st F := by
  intro o ho hq
  have kk := kk o ho hq
  obtain ⟨p, l, e, R, s, m, args, below, meth, c, rv, sf⟩ := k
  obtain ⟨hx, hb, hml, hown, hts, hK, hE, hr, hlk, hinj, hfr, hlo⟩ := hk
  intro H locs ls hl hP hS
  exact lv_land hx hb hdg (kk H locs ls hl hP hS)
theorem j_lor {w : fkW} {g : fkG} {k : fkK} {ρ : Type} {en : ρ → Option Value} {own : String} {cc : ByteArray} {nL fr lo pc : Nat} {ret : Option FieldType} {lv : List (Nat × Value)} {stk : List Value} {st : fkS} {F : Option (ρ × fkS)} (hk : fk_ok w g k own cc nL ret fr lo) {x y : Int64} (hdg : decode cc pc = .ok (.lor, 1)) 
    (kk : fk_J w g en k (pc + 1) lv (.long (x ||| y) :: stk) st F) : fk_J w g en k pc lv (.long y :: .long x :: stk) st F := by
  intro o ho hq
  have kk := kk o ho hq
  obtain ⟨p, l, e, R, s, m, args, below, meth, c, rv, sf⟩ := k
  obtain ⟨hx, hb, hml, hown, hts, hK, hE, hr, hlk, hinj, hfr, hlo⟩ := hk
  intro H locs ls hl hP hS
  exact lv_lor hx hb hdg (kk H locs ls hl hP hS)
theorem j_idiv {w : fkW} {g : fkG} {k : fkK} {ρ : Type} {en : ρ → Option Value} {own : String} {cc : ByteArray} {nL fr lo pc : Nat} {ret : Option FieldType} {lv : List (Nat × Value)} {stk : List Value} {st : fkS} {F : Option (ρ × fkS)} (hk : fk_ok w g k own cc nL ret fr lo) {x y : Int32} (hne : fk_nz y = true) (hdg : decode cc pc = .ok (.idiv, 1)) 
    (kk : fk_J w g en k (pc + 1) lv (.int (x / y) :: stk) st F) : fk_J w g en k pc lv (.int y :: .int x :: stk) st F := by
  intro o ho hq
  have kk := kk o ho hq
  obtain ⟨p, l, e, R, s, m, args, below, meth, c, rv, sf⟩ := k
  obtain ⟨hx, hb, hml, hown, hts, hK, hE, hr, hlk, hinj, hfr, hlo⟩ := hk
  intro H locs ls hl hP hS
  exact lv_idiv hx hb hdg (fk_nz_ne hne) (kk H locs ls hl hP hS)
theorem j_irem {w : fkW} {g : fkG} {k : fkK} {ρ : Type} {en : ρ → Option Value} {own : String} {cc : ByteArray} {nL fr lo pc : Nat} {ret : Option FieldType} {lv : List (Nat × Value)} {stk : List Value} {st : fkS} {F : Option (ρ × fkS)} (hk : fk_ok w g k own cc nL ret fr lo) {x y : Int32} (hne : fk_nz y = true) (hdg : decode cc pc = .ok (.irem, 1)) 
    (kk : fk_J w g en k (pc + 1) lv (.int (fk_rem x y) :: stk) st F) : fk_J w g en k pc lv (.int y :: .int x :: stk) st F := by
  intro o ho hq
  have kk := kk o ho hq
  obtain ⟨p, l, e, R, s, m, args, below, meth, c, rv, sf⟩ := k
  obtain ⟨hx, hb, hml, hown, hts, hK, hE, hr, hlk, hinj, hfr, hlo⟩ := hk
  intro H locs ls hl hP hS
  exact lv_irem hx hb hdg (fk_nz_ne hne) (kk H locs ls hl hP hS)
theorem j_ldiv {w : fkW} {g : fkG} {k : fkK} {ρ : Type} {en : ρ → Option Value} {own : String} {cc : ByteArray} {nL fr lo pc : Nat} {ret : Option FieldType} {lv : List (Nat × Value)} {stk : List Value} {st : fkS} {F : Option (ρ × fkS)} (hk : fk_ok w g k own cc nL ret fr lo) {x y : Int64} (hne : fk_nzL y = true) (hdg : decode cc pc = .ok (.ldiv, 1)) 
    (kk : fk_J w g en k (pc + 1) lv (.long (x / y) :: stk) st F) : fk_J w g en k pc lv (.long y :: .long x :: stk) st F := by
  intro o ho hq
  have kk := kk o ho hq
  obtain ⟨p, l, e, R, s, m, args, below, meth, c, rv, sf⟩ := k
  obtain ⟨hx, hb, hml, hown, hts, hK, hE, hr, hlk, hinj, hfr, hlo⟩ := hk
  intro H locs ls hl hP hS
  exact lv_ldiv hx hb hdg (fk_nzL_ne hne) (kk H locs ls hl hP hS)
theorem j_ineg {w : fkW} {g : fkG} {k : fkK} {ρ : Type} {en : ρ → Option Value} {own : String} {cc : ByteArray} {nL fr lo pc : Nat} {ret : Option FieldType} {lv : List (Nat × Value)} {stk : List Value} {st : fkS} {F : Option (ρ × fkS)} (hk : fk_ok w g k own cc nL ret fr lo) {x : Int32} (hdg : decode cc pc = .ok (.ineg, 1)) 
    (kk : fk_J w g en k (pc + 1) lv (.int (-x) :: stk) st F) : fk_J w g en k pc lv (.int x :: stk) st F := by
  intro o ho hq
  have kk := kk o ho hq
  obtain ⟨p, l, e, R, s, m, args, below, meth, c, rv, sf⟩ := k
  obtain ⟨hx, hb, hml, hown, hts, hK, hE, hr, hlk, hinj, hfr, hlo⟩ := hk
  intro H locs ls hl hP hS
  exact lv_ineg hx hb hdg (kk H locs ls hl hP hS)
theorem j_iushr {w : fkW} {g : fkG} {k : fkK} {ρ : Type} {en : ρ → Option Value} {own : String} {cc : ByteArray} {nL fr lo pc : Nat} {ret : Option FieldType} {lv : List (Nat × Value)} {stk : List Value} {st : fkS} {F : Option (ρ × fkS)} (hk : fk_ok w g k own cc nL ret fr lo) {x y : Int32} (hdg : decode cc pc = .ok (.iushr, 1)) 
    (kk : fk_J w g en k (pc + 1) lv (.int (fk_ushr x y) :: stk) st F) : fk_J w g en k pc lv (.int y :: .int x :: stk) st F := by
  intro o ho hq
  have kk := kk o ho hq
  obtain ⟨p, l, e, R, s, m, args, below, meth, c, rv, sf⟩ := k
  obtain ⟨hx, hb, hml, hown, hts, hK, hE, hr, hlk, hinj, hfr, hlo⟩ := hk
  intro H locs ls hl hP hS
  exact lv_iushr hx hb hdg rfl (kk H locs ls hl hP hS)
theorem j_i2l {w : fkW} {g : fkG} {k : fkK} {ρ : Type} {en : ρ → Option Value} {own : String} {cc : ByteArray} {nL fr lo pc : Nat} {ret : Option FieldType} {lv : List (Nat × Value)} {stk : List Value} {st : fkS} {F : Option (ρ × fkS)} (hk : fk_ok w g k own cc nL ret fr lo) {x : Int32} (hdg : decode cc pc = .ok (.i2l, 1)) 
    (kk : fk_J w g en k (pc + 1) lv (.long x.toInt64 :: stk) st F) : fk_J w g en k pc lv (.int x :: stk) st F := by
  intro o ho hq
  have kk := kk o ho hq
  obtain ⟨p, l, e, R, s, m, args, below, meth, c, rv, sf⟩ := k
  obtain ⟨hx, hb, hml, hown, hts, hK, hE, hr, hlk, hinj, hfr, hlo⟩ := hk
  intro H locs ls hl hP hS
  exact lv_i2l hx hb hdg rfl (kk H locs ls hl hP hS)
theorem j_l2i {w : fkW} {g : fkG} {k : fkK} {ρ : Type} {en : ρ → Option Value} {own : String} {cc : ByteArray} {nL fr lo pc : Nat} {ret : Option FieldType} {lv : List (Nat × Value)} {stk : List Value} {st : fkS} {F : Option (ρ × fkS)} (hk : fk_ok w g k own cc nL ret fr lo) {x : Int64} (hdg : decode cc pc = .ok (.l2i, 1)) 
    (kk : fk_J w g en k (pc + 1) lv (.int x.toInt32 :: stk) st F) : fk_J w g en k pc lv (.long x :: stk) st F := by
  intro o ho hq
  have kk := kk o ho hq
  obtain ⟨p, l, e, R, s, m, args, below, meth, c, rv, sf⟩ := k
  obtain ⟨hx, hb, hml, hown, hts, hK, hE, hr, hlk, hinj, hfr, hlo⟩ := hk
  intro H locs ls hl hP hS
  exact lv_l2i hx hb hdg rfl (kk H locs ls hl hP hS)
theorem j_i2b {w : fkW} {g : fkG} {k : fkK} {ρ : Type} {en : ρ → Option Value} {own : String} {cc : ByteArray} {nL fr lo pc : Nat} {ret : Option FieldType} {lv : List (Nat × Value)} {stk : List Value} {st : fkS} {F : Option (ρ × fkS)} (hk : fk_ok w g k own cc nL ret fr lo) {x : Int32} (hdg : decode cc pc = .ok (.i2b, 1)) 
    (kk : fk_J w g en k (pc + 1) lv (.int x.toInt8.toInt32 :: stk) st F) : fk_J w g en k pc lv (.int x :: stk) st F := by
  intro o ho hq
  have kk := kk o ho hq
  obtain ⟨p, l, e, R, s, m, args, below, meth, c, rv, sf⟩ := k
  obtain ⟨hx, hb, hml, hown, hts, hK, hE, hr, hlk, hinj, hfr, hlo⟩ := hk
  intro H locs ls hl hP hS
  exact lv_i2b hx hb hdg rfl (kk H locs ls hl hP hS)
theorem j_i2s {w : fkW} {g : fkG} {k : fkK} {ρ : Type} {en : ρ → Option Value} {own : String} {cc : ByteArray} {nL fr lo pc : Nat} {ret : Option FieldType} {lv : List (Nat × Value)} {stk : List Value} {st : fkS} {F : Option (ρ × fkS)} (hk : fk_ok w g k own cc nL ret fr lo) {x : Int32} (hdg : decode cc pc = .ok (.i2s, 1)) 
    (kk : fk_J w g en k (pc + 1) lv (.int x.toInt16.toInt32 :: stk) st F) : fk_J w g en k pc lv (.int x :: stk) st F := by
  intro o ho hq
  have kk := kk o ho hq
  obtain ⟨p, l, e, R, s, m, args, below, meth, c, rv, sf⟩ := k
  obtain ⟨hx, hb, hml, hown, hts, hK, hE, hr, hlk, hinj, hfr, hlo⟩ := hk
  intro H locs ls hl hP hS
  exact lv_i2s hx hb hdg rfl (kk H locs ls hl hP hS)
theorem j_lshl {w : fkW} {g : fkG} {k : fkK} {ρ : Type} {en : ρ → Option Value} {own : String} {cc : ByteArray} {nL fr lo pc : Nat} {ret : Option FieldType} {lv : List (Nat × Value)} {stk : List Value} {st : fkS} {F : Option (ρ × fkS)} (hk : fk_ok w g k own cc nL ret fr lo) {x : Int64} {y : Int32} (hdg : decode cc pc = .ok (.lshl, 1)) 
    (kk : fk_J w g en k (pc + 1) lv (.long (x <<< (y.toInt64 &&& 63)) :: stk) st F) : fk_J w g en k pc lv (.int y :: .long x :: stk) st F := by
  intro o ho hq
  have kk := kk o ho hq
  obtain ⟨p, l, e, R, s, m, args, below, meth, c, rv, sf⟩ := k
  obtain ⟨hx, hb, hml, hown, hts, hK, hE, hr, hlk, hinj, hfr, hlo⟩ := hk
  intro H locs ls hl hP hS
  exact lv_lshl hx hb hdg rfl (kk H locs ls hl hP hS)
theorem j_lcmp {w : fkW} {g : fkG} {k : fkK} {ρ : Type} {en : ρ → Option Value} {own : String} {cc : ByteArray} {nL fr lo pc : Nat} {ret : Option FieldType} {lv : List (Nat × Value)} {stk : List Value} {st : fkS} {F : Option (ρ × fkS)} (hk : fk_ok w g k own cc nL ret fr lo) {x y : Int64} (hdg : decode cc pc = .ok (.lcmp, 1)) 
    (kk : fk_J w g en k (pc + 1) lv (.int (lg_cmp x y) :: stk) st F) : fk_J w g en k pc lv (.long y :: .long x :: stk) st F := by
  intro o ho hq
  have kk := kk o ho hq
  obtain ⟨p, l, e, R, s, m, args, below, meth, c, rv, sf⟩ := k
  obtain ⟨hx, hb, hml, hown, hts, hK, hE, hr, hlk, hinj, hfr, hlo⟩ := hk
  intro H locs ls hl hP hS
  exact W.lcmp hx hb hdg (kk H locs ls hl hP hS)
theorem j_dup {w : fkW} {g : fkG} {k : fkK} {ρ : Type} {en : ρ → Option Value} {own : String} {cc : ByteArray} {nL fr lo pc : Nat} {ret : Option FieldType} {lv : List (Nat × Value)} {stk : List Value} {st : fkS} {F : Option (ρ × fkS)} (hk : fk_ok w g k own cc nL ret fr lo) {v : Value} (hv : v.category = 1) (hdg : decode cc pc = .ok (.dup, 1)) 
    (kk : fk_J w g en k (pc + 1) lv (v :: v :: stk) st F) : fk_J w g en k pc lv (v :: stk) st F := by
  intro o ho hq
  have kk := kk o ho hq
  obtain ⟨p, l, e, R, s, m, args, below, meth, c, rv, sf⟩ := k
  obtain ⟨hx, hb, hml, hown, hts, hK, hE, hr, hlk, hinj, hfr, hlo⟩ := hk
  intro H locs ls hl hP hS
  exact lv_dup hx hb hdg hv (kk H locs ls hl hP hS)
theorem j_pop {w : fkW} {g : fkG} {k : fkK} {ρ : Type} {en : ρ → Option Value} {own : String} {cc : ByteArray} {nL fr lo pc : Nat} {ret : Option FieldType} {lv : List (Nat × Value)} {stk : List Value} {st : fkS} {F : Option (ρ × fkS)} (hk : fk_ok w g k own cc nL ret fr lo) {v : Value} (hv : v.category = 1) (hdg : decode cc pc = .ok (.pop, 1)) 
    (kk : fk_J w g en k (pc + 1) lv (stk) st F) : fk_J w g en k pc lv (v :: stk) st F := by
  intro o ho hq
  have kk := kk o ho hq
  obtain ⟨p, l, e, R, s, m, args, below, meth, c, rv, sf⟩ := k
  obtain ⟨hx, hb, hml, hown, hts, hK, hE, hr, hlk, hinj, hfr, hlo⟩ := hk
  intro H locs ls hl hP hS
  exact lv_pop hx hb hdg hv (kk H locs ls hl hP hS)
theorem j_dup_x1 {w : fkW} {g : fkG} {k : fkK} {ρ : Type} {en : ρ → Option Value} {own : String} {cc : ByteArray} {nL fr lo pc : Nat} {ret : Option FieldType} {lv : List (Nat × Value)} {stk : List Value} {st : fkS} {F : Option (ρ × fkS)} (hk : fk_ok w g k own cc nL ret fr lo) {v u : Value} (hv : v.category = 1) (hu : u.category = 1) (hdg : decode cc pc = .ok (.dup_x1, 1)) 
    (kk : fk_J w g en k (pc + 1) lv (v :: u :: v :: stk) st F) : fk_J w g en k pc lv (v :: u :: stk) st F := by
  intro o ho hq
  have kk := kk o ho hq
  obtain ⟨p, l, e, R, s, m, args, below, meth, c, rv, sf⟩ := k
  obtain ⟨hx, hb, hml, hown, hts, hK, hE, hr, hlk, hinj, hfr, hlo⟩ := hk
  intro H locs ls hl hP hS
  exact lv_dup_x1 hx hb hdg hv hu (kk H locs ls hl hP hS)
theorem j_dup2 {w : fkW} {g : fkG} {k : fkK} {ρ : Type} {en : ρ → Option Value} {own : String} {cc : ByteArray} {nL fr lo pc : Nat} {ret : Option FieldType} {lv : List (Nat × Value)} {stk : List Value} {st : fkS} {F : Option (ρ × fkS)} (hk : fk_ok w g k own cc nL ret fr lo) {v u : Value} (hv : v.category = 1) (hu : u.category = 1) (hdg : decode cc pc = .ok (.dup2, 1)) 
    (kk : fk_J w g en k (pc + 1) lv (v :: u :: v :: u :: stk) st F) : fk_J w g en k pc lv (v :: u :: stk) st F := by
  intro o ho hq
  have kk := kk o ho hq
  obtain ⟨p, l, e, R, s, m, args, below, meth, c, rv, sf⟩ := k
  obtain ⟨hx, hb, hml, hown, hts, hK, hE, hr, hlk, hinj, hfr, hlo⟩ := hk
  intro H locs ls hl hP hS
  exact lv_dup2_11 hx hb hdg hv hu (kk H locs ls hl hP hS)
theorem j_goto {w : fkW} {g : fkG} {k : fkK} {ρ : Type} {en : ρ → Option Value} {own : String} {cc : ByteArray} {nL fr lo pc : Nat} {ret : Option FieldType} {lv : List (Nat × Value)} {stk : List Value} {st : fkS} {F : Option (ρ × fkS)} (hk : fk_ok w g k own cc nL ret fr lo) {off : Int} {tgt : Nat} (ht : (pc : Int) + off = (tgt : Int)) (hdg : decode cc pc = .ok (.goto off, 3))
    (kk : fk_J w g en k tgt lv stk st F) : fk_J w g en k pc lv stk st F := by
  intro o ho hq
  have kk := kk o ho hq
  obtain ⟨p, l, e, R, s, m, args, below, meth, c, rv, sf⟩ := k
  obtain ⟨hx, hb, hml, hown, hts, hK, hE, hr, hlk, hinj, hfr, hlo⟩ := hk
  intro H locs ls hl hP hS
  exact lv_goto hx hb hdg ht (kk H locs ls hl hP hS)
theorem j_if_eq {w : fkW} {g : fkG} {k : fkK} {ρ : Type} {en : ρ → Option Value} {own : String} {cc : ByteArray} {nL fr lo pc : Nat} {ret : Option FieldType} {lv : List (Nat × Value)} {stk : List Value} {st : fkS} {F : Option (ρ × fkS)} (hk : fk_ok w g k own cc nL ret fr lo) {x : Int32} {off : Int} {tgt : Nat} {inst : Decidable (x = 0)} {F1 F2 : Option (ρ × fkS)} (ht : (pc : Int) + off = (tgt : Int)) (hdg : decode cc pc = .ok (.ifCond .eq off, 3))
    (kt : x = 0 → fk_J w g en k tgt lv stk st F1) (kf : ¬ (x = 0) → fk_J w g en k (pc + 3) lv stk st F2) : fk_J w g en k pc lv (.int x :: stk) st (@ite (Option (ρ × fkS)) (x = 0) inst F1 F2) := by
  intro o ho hq
  have kt : x = 0 → _ := fun h => kt h o (by rw [if_pos h] at ho; exact ho) hq
  have kf : ¬ (x = 0) → _ := fun h => kf h o (by rw [if_neg h] at ho; exact ho) hq
  obtain ⟨p, l, e, R, s, m, args, below, meth, c, rv, sf⟩ := k
  obtain ⟨hx, hb, hml, hown, hts, hK, hE, hr, hlk, hinj, hfr, hlo⟩ := hk
  intro H locs ls hl hP hS
  exact lv_if_eq hx hb hdg ht (fun h => kt h H locs ls hl hP hS) (fun h => kf h H locs ls hl hP hS)
theorem j_if_ne {w : fkW} {g : fkG} {k : fkK} {ρ : Type} {en : ρ → Option Value} {own : String} {cc : ByteArray} {nL fr lo pc : Nat} {ret : Option FieldType} {lv : List (Nat × Value)} {stk : List Value} {st : fkS} {F : Option (ρ × fkS)} (hk : fk_ok w g k own cc nL ret fr lo) {x : Int32} {off : Int} {tgt : Nat} {inst : Decidable (x = 0)} {F1 F2 : Option (ρ × fkS)} (ht : (pc : Int) + off = (tgt : Int)) (hdg : decode cc pc = .ok (.ifCond .ne off, 3))
    (kt : x = 0 → fk_J w g en k (pc + 3) lv stk st F1) (kf : ¬ (x = 0) → fk_J w g en k tgt lv stk st F2) : fk_J w g en k pc lv (.int x :: stk) st (@ite (Option (ρ × fkS)) (x = 0) inst F1 F2) := by
  intro o ho hq
  have kt : x = 0 → _ := fun h => kt h o (by rw [if_pos h] at ho; exact ho) hq
  have kf : ¬ (x = 0) → _ := fun h => kf h o (by rw [if_neg h] at ho; exact ho) hq
  obtain ⟨p, l, e, R, s, m, args, below, meth, c, rv, sf⟩ := k
  obtain ⟨hx, hb, hml, hown, hts, hK, hE, hr, hlk, hinj, hfr, hlo⟩ := hk
  intro H locs ls hl hP hS
  exact lv_if_ne hx hb hdg ht (fun h => kf h H locs ls hl hP hS) (fun h => kt h H locs ls hl hP hS)
theorem j_if_lt {w : fkW} {g : fkG} {k : fkK} {ρ : Type} {en : ρ → Option Value} {own : String} {cc : ByteArray} {nL fr lo pc : Nat} {ret : Option FieldType} {lv : List (Nat × Value)} {stk : List Value} {st : fkS} {F : Option (ρ × fkS)} (hk : fk_ok w g k own cc nL ret fr lo) {x : Int32} {off : Int} {tgt : Nat} {inst : Decidable (x < 0)} {F1 F2 : Option (ρ × fkS)} (ht : (pc : Int) + off = (tgt : Int)) (hdg : decode cc pc = .ok (.ifCond .lt off, 3))
    (kt : x < 0 → fk_J w g en k tgt lv stk st F1) (kf : ¬ (x < 0) → fk_J w g en k (pc + 3) lv stk st F2) : fk_J w g en k pc lv (.int x :: stk) st (@ite (Option (ρ × fkS)) (x < 0) inst F1 F2) := by
  intro o ho hq
  have kt : x < 0 → _ := fun h => kt h o (by rw [if_pos h] at ho; exact ho) hq
  have kf : ¬ (x < 0) → _ := fun h => kf h o (by rw [if_neg h] at ho; exact ho) hq
  obtain ⟨p, l, e, R, s, m, args, below, meth, c, rv, sf⟩ := k
  obtain ⟨hx, hb, hml, hown, hts, hK, hE, hr, hlk, hinj, hfr, hlo⟩ := hk
  intro H locs ls hl hP hS
  exact lv_if_lt hx hb hdg ht (fun h => kt h H locs ls hl hP hS) (fun h => kf h H locs ls hl hP hS)
theorem j_if_ge {w : fkW} {g : fkG} {k : fkK} {ρ : Type} {en : ρ → Option Value} {own : String} {cc : ByteArray} {nL fr lo pc : Nat} {ret : Option FieldType} {lv : List (Nat × Value)} {stk : List Value} {st : fkS} {F : Option (ρ × fkS)} (hk : fk_ok w g k own cc nL ret fr lo) {x : Int32} {off : Int} {tgt : Nat} {inst : Decidable (0 ≤ x)} {F1 F2 : Option (ρ × fkS)} (ht : (pc : Int) + off = (tgt : Int)) (hdg : decode cc pc = .ok (.ifCond .ge off, 3))
    (kt : 0 ≤ x → fk_J w g en k tgt lv stk st F1) (kf : ¬ (0 ≤ x) → fk_J w g en k (pc + 3) lv stk st F2) : fk_J w g en k pc lv (.int x :: stk) st (@ite (Option (ρ × fkS)) (0 ≤ x) inst F1 F2) := by
  intro o ho hq
  have kt : 0 ≤ x → _ := fun h => kt h o (by rw [if_pos h] at ho; exact ho) hq
  have kf : ¬ (0 ≤ x) → _ := fun h => kf h o (by rw [if_neg h] at ho; exact ho) hq
  obtain ⟨p, l, e, R, s, m, args, below, meth, c, rv, sf⟩ := k
  obtain ⟨hx, hb, hml, hown, hts, hK, hE, hr, hlk, hinj, hfr, hlo⟩ := hk
  intro H locs ls hl hP hS
  exact lv_if_ge hx hb hdg ht (fun h => kt h H locs ls hl hP hS) (fun h => kf h H locs ls hl hP hS)
theorem j_if_gt {w : fkW} {g : fkG} {k : fkK} {ρ : Type} {en : ρ → Option Value} {own : String} {cc : ByteArray} {nL fr lo pc : Nat} {ret : Option FieldType} {lv : List (Nat × Value)} {stk : List Value} {st : fkS} {F : Option (ρ × fkS)} (hk : fk_ok w g k own cc nL ret fr lo) {x : Int32} {off : Int} {tgt : Nat} {inst : Decidable (0 < x)} {F1 F2 : Option (ρ × fkS)} (ht : (pc : Int) + off = (tgt : Int)) (hdg : decode cc pc = .ok (.ifCond .gt off, 3))
    (kt : 0 < x → fk_J w g en k tgt lv stk st F1) (kf : ¬ (0 < x) → fk_J w g en k (pc + 3) lv stk st F2) : fk_J w g en k pc lv (.int x :: stk) st (@ite (Option (ρ × fkS)) (0 < x) inst F1 F2) := by
  intro o ho hq
  have kt : 0 < x → _ := fun h => kt h o (by rw [if_pos h] at ho; exact ho) hq
  have kf : ¬ (0 < x) → _ := fun h => kf h o (by rw [if_neg h] at ho; exact ho) hq
  obtain ⟨p, l, e, R, s, m, args, below, meth, c, rv, sf⟩ := k
  obtain ⟨hx, hb, hml, hown, hts, hK, hE, hr, hlk, hinj, hfr, hlo⟩ := hk
  intro H locs ls hl hP hS
  exact lv_if_gt hx hb hdg ht (fun h => kt h H locs ls hl hP hS) (fun h => kf h H locs ls hl hP hS)
theorem j_if_le {w : fkW} {g : fkG} {k : fkK} {ρ : Type} {en : ρ → Option Value} {own : String} {cc : ByteArray} {nL fr lo pc : Nat} {ret : Option FieldType} {lv : List (Nat × Value)} {stk : List Value} {st : fkS} {F : Option (ρ × fkS)} (hk : fk_ok w g k own cc nL ret fr lo) {x : Int32} {off : Int} {tgt : Nat} {inst : Decidable (x ≤ 0)} {F1 F2 : Option (ρ × fkS)} (ht : (pc : Int) + off = (tgt : Int)) (hdg : decode cc pc = .ok (.ifCond .le off, 3))
    (kt : x ≤ 0 → fk_J w g en k tgt lv stk st F1) (kf : ¬ (x ≤ 0) → fk_J w g en k (pc + 3) lv stk st F2) : fk_J w g en k pc lv (.int x :: stk) st (@ite (Option (ρ × fkS)) (x ≤ 0) inst F1 F2) := by
  intro o ho hq
  have kt : x ≤ 0 → _ := fun h => kt h o (by rw [if_pos h] at ho; exact ho) hq
  have kf : ¬ (x ≤ 0) → _ := fun h => kf h o (by rw [if_neg h] at ho; exact ho) hq
  obtain ⟨p, l, e, R, s, m, args, below, meth, c, rv, sf⟩ := k
  obtain ⟨hx, hb, hml, hown, hts, hK, hE, hr, hlk, hinj, hfr, hlo⟩ := hk
  intro H locs ls hl hP hS
  exact lv_if_le hx hb hdg ht (fun h => kt h H locs ls hl hP hS) (fun h => kf h H locs ls hl hP hS)
theorem j_icmp_eq {w : fkW} {g : fkG} {k : fkK} {ρ : Type} {en : ρ → Option Value} {own : String} {cc : ByteArray} {nL fr lo pc : Nat} {ret : Option FieldType} {lv : List (Nat × Value)} {stk : List Value} {st : fkS} {F : Option (ρ × fkS)} (hk : fk_ok w g k own cc nL ret fr lo) {x y : Int32} {off : Int} {tgt : Nat} {inst : Decidable (x = y)} {F1 F2 : Option (ρ × fkS)} (ht : (pc : Int) + off = (tgt : Int)) (hdg : decode cc pc = .ok (.if_icmp .eq off, 3))
    (kt : x = y → fk_J w g en k tgt lv stk st F1) (kf : ¬ (x = y) → fk_J w g en k (pc + 3) lv stk st F2) : fk_J w g en k pc lv (.int y :: .int x :: stk) st (@ite (Option (ρ × fkS)) (x = y) inst F1 F2) := by
  intro o ho hq
  have kt : x = y → _ := fun h => kt h o (by rw [if_pos h] at ho; exact ho) hq
  have kf : ¬ (x = y) → _ := fun h => kf h o (by rw [if_neg h] at ho; exact ho) hq
  obtain ⟨p, l, e, R, s, m, args, below, meth, c, rv, sf⟩ := k
  obtain ⟨hx, hb, hml, hown, hts, hK, hE, hr, hlk, hinj, hfr, hlo⟩ := hk
  intro H locs ls hl hP hS
  exact lv_icmp_eq hx hb hdg ht (fun h => kt h H locs ls hl hP hS) (fun h => kf h H locs ls hl hP hS)
theorem j_icmp_ne {w : fkW} {g : fkG} {k : fkK} {ρ : Type} {en : ρ → Option Value} {own : String} {cc : ByteArray} {nL fr lo pc : Nat} {ret : Option FieldType} {lv : List (Nat × Value)} {stk : List Value} {st : fkS} {F : Option (ρ × fkS)} (hk : fk_ok w g k own cc nL ret fr lo) {x y : Int32} {off : Int} {tgt : Nat} {inst : Decidable (x = y)} {F1 F2 : Option (ρ × fkS)} (ht : (pc : Int) + off = (tgt : Int)) (hdg : decode cc pc = .ok (.if_icmp .ne off, 3))
    (kt : x = y → fk_J w g en k (pc + 3) lv stk st F1) (kf : ¬ (x = y) → fk_J w g en k tgt lv stk st F2) : fk_J w g en k pc lv (.int y :: .int x :: stk) st (@ite (Option (ρ × fkS)) (x = y) inst F1 F2) := by
  intro o ho hq
  have kt : x = y → _ := fun h => kt h o (by rw [if_pos h] at ho; exact ho) hq
  have kf : ¬ (x = y) → _ := fun h => kf h o (by rw [if_neg h] at ho; exact ho) hq
  obtain ⟨p, l, e, R, s, m, args, below, meth, c, rv, sf⟩ := k
  obtain ⟨hx, hb, hml, hown, hts, hK, hE, hr, hlk, hinj, hfr, hlo⟩ := hk
  intro H locs ls hl hP hS
  exact lv_icmp_ne hx hb hdg ht (fun h => kf h H locs ls hl hP hS) (fun h => kt h H locs ls hl hP hS)
theorem j_icmp_lt {w : fkW} {g : fkG} {k : fkK} {ρ : Type} {en : ρ → Option Value} {own : String} {cc : ByteArray} {nL fr lo pc : Nat} {ret : Option FieldType} {lv : List (Nat × Value)} {stk : List Value} {st : fkS} {F : Option (ρ × fkS)} (hk : fk_ok w g k own cc nL ret fr lo) {x y : Int32} {off : Int} {tgt : Nat} {inst : Decidable (x < y)} {F1 F2 : Option (ρ × fkS)} (ht : (pc : Int) + off = (tgt : Int)) (hdg : decode cc pc = .ok (.if_icmp .lt off, 3))
    (kt : x < y → fk_J w g en k tgt lv stk st F1) (kf : ¬ (x < y) → fk_J w g en k (pc + 3) lv stk st F2) : fk_J w g en k pc lv (.int y :: .int x :: stk) st (@ite (Option (ρ × fkS)) (x < y) inst F1 F2) := by
  intro o ho hq
  have kt : x < y → _ := fun h => kt h o (by rw [if_pos h] at ho; exact ho) hq
  have kf : ¬ (x < y) → _ := fun h => kf h o (by rw [if_neg h] at ho; exact ho) hq
  obtain ⟨p, l, e, R, s, m, args, below, meth, c, rv, sf⟩ := k
  obtain ⟨hx, hb, hml, hown, hts, hK, hE, hr, hlk, hinj, hfr, hlo⟩ := hk
  intro H locs ls hl hP hS
  exact lv_icmp_lt hx hb hdg ht (fun h => kt h H locs ls hl hP hS) (fun h => kf h H locs ls hl hP hS)
theorem j_icmp_ge {w : fkW} {g : fkG} {k : fkK} {ρ : Type} {en : ρ → Option Value} {own : String} {cc : ByteArray} {nL fr lo pc : Nat} {ret : Option FieldType} {lv : List (Nat × Value)} {stk : List Value} {st : fkS} {F : Option (ρ × fkS)} (hk : fk_ok w g k own cc nL ret fr lo) {x y : Int32} {off : Int} {tgt : Nat} {inst : Decidable (y ≤ x)} {F1 F2 : Option (ρ × fkS)} (ht : (pc : Int) + off = (tgt : Int)) (hdg : decode cc pc = .ok (.if_icmp .ge off, 3))
    (kt : y ≤ x → fk_J w g en k tgt lv stk st F1) (kf : ¬ (y ≤ x) → fk_J w g en k (pc + 3) lv stk st F2) : fk_J w g en k pc lv (.int y :: .int x :: stk) st (@ite (Option (ρ × fkS)) (y ≤ x) inst F1 F2) := by
  intro o ho hq
  have kt : y ≤ x → _ := fun h => kt h o (by rw [if_pos h] at ho; exact ho) hq
  have kf : ¬ (y ≤ x) → _ := fun h => kf h o (by rw [if_neg h] at ho; exact ho) hq
  obtain ⟨p, l, e, R, s, m, args, below, meth, c, rv, sf⟩ := k
  obtain ⟨hx, hb, hml, hown, hts, hK, hE, hr, hlk, hinj, hfr, hlo⟩ := hk
  intro H locs ls hl hP hS
  exact lv_icmp_ge hx hb hdg ht (fun h => kt h H locs ls hl hP hS) (fun h => kf h H locs ls hl hP hS)
theorem j_icmp_gt {w : fkW} {g : fkG} {k : fkK} {ρ : Type} {en : ρ → Option Value} {own : String} {cc : ByteArray} {nL fr lo pc : Nat} {ret : Option FieldType} {lv : List (Nat × Value)} {stk : List Value} {st : fkS} {F : Option (ρ × fkS)} (hk : fk_ok w g k own cc nL ret fr lo) {x y : Int32} {off : Int} {tgt : Nat} {inst : Decidable (y < x)} {F1 F2 : Option (ρ × fkS)} (ht : (pc : Int) + off = (tgt : Int)) (hdg : decode cc pc = .ok (.if_icmp .gt off, 3))
    (kt : y < x → fk_J w g en k tgt lv stk st F1) (kf : ¬ (y < x) → fk_J w g en k (pc + 3) lv stk st F2) : fk_J w g en k pc lv (.int y :: .int x :: stk) st (@ite (Option (ρ × fkS)) (y < x) inst F1 F2) := by
  intro o ho hq
  have kt : y < x → _ := fun h => kt h o (by rw [if_pos h] at ho; exact ho) hq
  have kf : ¬ (y < x) → _ := fun h => kf h o (by rw [if_neg h] at ho; exact ho) hq
  obtain ⟨p, l, e, R, s, m, args, below, meth, c, rv, sf⟩ := k
  obtain ⟨hx, hb, hml, hown, hts, hK, hE, hr, hlk, hinj, hfr, hlo⟩ := hk
  intro H locs ls hl hP hS
  exact lv_icmp_gt hx hb hdg ht (fun h => kt h H locs ls hl hP hS) (fun h => kf h H locs ls hl hP hS)
theorem j_icmp_le {w : fkW} {g : fkG} {k : fkK} {ρ : Type} {en : ρ → Option Value} {own : String} {cc : ByteArray} {nL fr lo pc : Nat} {ret : Option FieldType} {lv : List (Nat × Value)} {stk : List Value} {st : fkS} {F : Option (ρ × fkS)} (hk : fk_ok w g k own cc nL ret fr lo) {x y : Int32} {off : Int} {tgt : Nat} {inst : Decidable (x ≤ y)} {F1 F2 : Option (ρ × fkS)} (ht : (pc : Int) + off = (tgt : Int)) (hdg : decode cc pc = .ok (.if_icmp .le off, 3))
    (kt : x ≤ y → fk_J w g en k tgt lv stk st F1) (kf : ¬ (x ≤ y) → fk_J w g en k (pc + 3) lv stk st F2) : fk_J w g en k pc lv (.int y :: .int x :: stk) st (@ite (Option (ρ × fkS)) (x ≤ y) inst F1 F2) := by
  intro o ho hq
  have kt : x ≤ y → _ := fun h => kt h o (by rw [if_pos h] at ho; exact ho) hq
  have kf : ¬ (x ≤ y) → _ := fun h => kf h o (by rw [if_neg h] at ho; exact ho) hq
  obtain ⟨p, l, e, R, s, m, args, below, meth, c, rv, sf⟩ := k
  obtain ⟨hx, hb, hml, hown, hts, hK, hE, hr, hlk, hinj, hfr, hlo⟩ := hk
  intro H locs ls hl hP hS
  exact lv_icmp_le hx hb hdg ht (fun h => kt h H locs ls hl hP hS) (fun h => kf h H locs ls hl hP hS)
theorem j_case {w : fkW} {g : fkG} {k : fkK} {ρ : Type} {en : ρ → Option Value} {own : String} {cc : ByteArray} {nL fr lo pc : Nat} {ret : Option FieldType} {lv : List (Nat × Value)} {stk : List Value} {st : fkS} {F : Option (ρ × fkS)} (hk : fk_ok w g k own cc nL ret fr lo) {q : Prop} {inst : Decidable q} {F1 F2 : Option (ρ × fkS)} (kt : q → fk_J w g en k pc lv stk st F1) (kf : ¬ q → fk_J w g en k pc lv stk st F2) : fk_J w g en k pc lv stk st (@ite (Option (ρ × fkS)) q inst F1 F2) := by
  intro o ho hq
  by_cases h : q
  · rw [if_pos h] at ho
    exact kt h o ho hq
  · rw [if_neg h] at ho
    exact kf h o ho hq
theorem j_chk {w : fkW} {g : fkG} {k : fkK} {ρ : Type} {en : ρ → Option Value} {own : String} {cc : ByteArray} {nL fr lo pc : Nat} {ret : Option FieldType} {lv : List (Nat × Value)} {stk : List Value} {st : fkS} {F : Option (ρ × fkS)} (hk : fk_ok w g k own cc nL ret fr lo) {b : Bool} (kk : b = true → fk_J w g en k pc lv stk st F) : fk_J w g en k pc lv stk st (fk_chk b F) := by
  intro o ho hq
  cases b with
  | false => exact absurd ho (by simp [fk_chk])
  | true => exact kk rfl o ho hq
theorem j_none {w : fkW} {g : fkG} {k : fkK} {ρ : Type} {en : ρ → Option Value} {own : String} {cc : ByteArray} {nL fr lo pc : Nat} {ret : Option FieldType} {lv : List (Nat × Value)} {stk : List Value} {st : fkS} {F : Option (ρ × fkS)} (hk : fk_ok w g k own cc nL ret fr lo) : fk_J w g en k pc lv stk st none := fun o ho _ => by cases ho
theorem j_let {w : fkW} {g : fkG} {k : fkK} {ρ : Type} {en : ρ → Option Value} {own : String} {cc : ByteArray} {nL fr lo pc : Nat} {ret : Option FieldType} {lv : List (Nat × Value)} {stk : List Value} {st : fkS} {F : Option (ρ × fkS)} (hk : fk_ok w g k own cc nL ret fr lo) {α : Type} {a : α} {f : α → Option (ρ × fkS)} (kk : fk_J w g en k pc lv stk st (f a)) : fk_J w g en k pc lv stk st (fk_let a f) := kk
theorem j_tswIn {w : fkW} {g : fkG} {k : fkK} {ρ : Type} {en : ρ → Option Value} {own : String} {cc : ByteArray} {nL fr lo pc : Nat} {ret : Option FieldType} {lv : List (Nat × Value)} {stk : List Value} {st : fkS} {F : Option (ρ × fkS)} (hk : fk_ok w g k own cc nL ret fr lo) {dflt low hig : Int} {offs : Array Int} {len : Nat} {x : Int32} {off : Int} {tgt : Nat} (h1 : ¬ x.toInt < low) (h2 : ¬ hig < x.toInt) (hof : offs[(x.toInt - low).toNat]? = some off) (ht : (pc : Int) + off = (tgt : Int)) (hdg : decode cc pc = .ok (.tableswitch dflt low hig offs, len))
    (kk : fk_J w g en k tgt lv stk st F) : fk_J w g en k pc lv (.int x :: stk) st F := by
  intro o ho hq
  have kk := kk o ho hq
  obtain ⟨p, l, e, R, s, m, args, below, meth, c, rv, sf⟩ := k
  obtain ⟨hx, hb, hml, hown, hts, hK, hE, hr, hlk, hinj, hfr, hlo⟩ := hk
  intro H locs ls hl hP hS
  exact lv_tableIn hx hb hdg h1 h2 hof ht (kk H locs ls hl hP hS)
theorem j_tswOut {w : fkW} {g : fkG} {k : fkK} {ρ : Type} {en : ρ → Option Value} {own : String} {cc : ByteArray} {nL fr lo pc : Nat} {ret : Option FieldType} {lv : List (Nat × Value)} {stk : List Value} {st : fkS} {F : Option (ρ × fkS)} (hk : fk_ok w g k own cc nL ret fr lo) {dflt low hig : Int} {offs : Array Int} {len : Nat} {x : Int32} {tgt : Nat} (h1 : x.toInt < low ∨ hig < x.toInt) (ht : (pc : Int) + dflt = (tgt : Int)) (hdg : decode cc pc = .ok (.tableswitch dflt low hig offs, len))
    (kk : fk_J w g en k tgt lv stk st F) : fk_J w g en k pc lv (.int x :: stk) st F := by
  intro o ho hq
  have kk := kk o ho hq
  obtain ⟨p, l, e, R, s, m, args, below, meth, c, rv, sf⟩ := k
  obtain ⟨hx, hb, hml, hown, hts, hK, hE, hr, hlk, hinj, hfr, hlo⟩ := hk
  intro H locs ls hl hP hS
  exact lv_tableOut hx hb hdg h1 ht (kk H locs ls hl hP hS)
theorem j_lsw {w : fkW} {g : fkG} {k : fkK} {ρ : Type} {en : ρ → Option Value} {own : String} {cc : ByteArray} {nL fr lo pc : Nat} {ret : Option FieldType} {lv : List (Nat × Value)} {stk : List Value} {st : fkS} {F : Option (ρ × fkS)} (hk : fk_ok w g k own cc nL ret fr lo) {dflt : Int} {ps : Array (Int × Int)} {len : Nat} {x : Int32} {off : Int} {tgt : Nat} (hps : (ps.toList.zip (ps.toList.drop 1)).all (fun (a, next) => a.1 < next.1) = true) (hof : Op.lookupswitch.offset ps.toList dflt x.toInt = off) (ht : (pc : Int) + off = (tgt : Int)) (hdg : decode cc pc = .ok (.lookupswitch dflt ps, len))
    (kk : fk_J w g en k tgt lv stk st F) : fk_J w g en k pc lv (.int x :: stk) st F := by
  intro o ho hq
  have kk := kk o ho hq
  obtain ⟨p, l, e, R, s, m, args, below, meth, c, rv, sf⟩ := k
  obtain ⟨hx, hb, hml, hown, hts, hK, hE, hr, hlk, hinj, hfr, hlo⟩ := hk
  intro H locs ls hl hP hS
  exact lv_lookup hx hb hdg hps hof ht (kk H locs ls hl hP hS)
theorem j_ifnullR {w : fkW} {g : fkG} {k : fkK} {ρ : Type} {en : ρ → Option Value} {own : String} {cc : ByteArray} {nL fr lo pc : Nat} {ret : Option FieldType} {lv : List (Nat × Value)} {stk : List Value} {st : fkS} {F : Option (ρ × fkS)} (hk : fk_ok w g k own cc nL ret fr lo) {v : Value} (hv : ∃ a, v = .ref a) {off : Int} (hdg : decode cc pc = .ok (.ifnull off, 3))
    (kk : fk_J w g en k (pc + 3) lv stk st F) : fk_J w g en k pc lv (v :: stk) st F := by
  obtain ⟨a, rfl⟩ := hv
  intro o ho hq
  have kk := kk o ho hq
  obtain ⟨p, l, e, R, s, m, args, below, meth, c, rv, sf⟩ := k
  obtain ⟨hx, hb, hml, hown, hts, hK, hE, hr, hlk, hinj, hfr, hlo⟩ := hk
  intro H locs ls hl hP hS
  exact lv_ifnull hx hb hdg (kk H locs ls hl hP hS)
theorem j_ifnullN {w : fkW} {g : fkG} {k : fkK} {ρ : Type} {en : ρ → Option Value} {own : String} {cc : ByteArray} {nL fr lo pc : Nat} {ret : Option FieldType} {lv : List (Nat × Value)} {stk : List Value} {st : fkS} {F : Option (ρ × fkS)} (hk : fk_ok w g k own cc nL ret fr lo) {off : Int} {tgt : Nat} (ht : (pc : Int) + off = (tgt : Int)) (hdg : decode cc pc = .ok (.ifnull off, 3))
    (kk : fk_J w g en k tgt lv stk st F) : fk_J w g en k pc lv (.null :: stk) st F := by
  intro o ho hq
  have kk := kk o ho hq
  obtain ⟨p, l, e, R, s, m, args, below, meth, c, rv, sf⟩ := k
  obtain ⟨hx, hb, hml, hown, hts, hK, hE, hr, hlk, hinj, hfr, hlo⟩ := hk
  intro H locs ls hl hP hS
  exact lv_ifnullN hx hb hdg ht (kk H locs ls hl hP hS)
theorem j_ifnonnullR {w : fkW} {g : fkG} {k : fkK} {ρ : Type} {en : ρ → Option Value} {own : String} {cc : ByteArray} {nL fr lo pc : Nat} {ret : Option FieldType} {lv : List (Nat × Value)} {stk : List Value} {st : fkS} {F : Option (ρ × fkS)} (hk : fk_ok w g k own cc nL ret fr lo) {v : Value} (hv : ∃ a, v = .ref a) {off : Int} {tgt : Nat} (ht : (pc : Int) + off = (tgt : Int)) (hdg : decode cc pc = .ok (.ifnonnull off, 3))
    (kk : fk_J w g en k tgt lv stk st F) : fk_J w g en k pc lv (v :: stk) st F := by
  obtain ⟨a, rfl⟩ := hv
  intro o ho hq
  have kk := kk o ho hq
  obtain ⟨p, l, e, R, s, m, args, below, meth, c, rv, sf⟩ := k
  obtain ⟨hx, hb, hml, hown, hts, hK, hE, hr, hlk, hinj, hfr, hlo⟩ := hk
  intro H locs ls hl hP hS
  exact lv_ifnonnull hx hb hdg ht (kk H locs ls hl hP hS)
theorem j_mmax {w : fkW} {g : fkG} {k : fkK} {ρ : Type} {en : ρ → Option Value} {own : String} {cc : ByteArray} {nL fr lo pc : Nat} {ret : Option FieldType} {lv : List (Nat × Value)} {stk : List Value} {st : fkS} {F : Option (ρ × fkS)} (hk : fk_ok w g k own cc nL ret fr lo) {i : Nat} {x y : Int32} (hl1 : Cond.methodLink own i Lib.Math.max.name ∈ fkB) (h2 : Cond.static Lib.Math.max.name ∈ fkB) (h3 : Cond.initialized "java/lang/Math" ∈ fkB) (h4 : Cond.code Lib.Math.max.name Lib.Math.max.code 2 (some .int) ∈ fkB) (h5 : 1 ≤ fr) (h6 : (stk.map fun v => v.category).sum + 13 ≤ lo) (hdg : decode cc pc = .ok (.invokestatic i, 3))
    (kk : fk_J w g en k (pc + 3) lv (.int (fk_max x y) :: stk) st F) : fk_J w g en k pc lv (.int y :: .int x :: stk) st F := by
  intro o ho hq
  have kk := kk o ho hq
  obtain ⟨p, l, e, R, s, m, args, below, meth, c, rv, sf⟩ := k
  obtain ⟨hx, hb, hml, hown, hts, hK, hE, hr, hlk, hinj, hfr, hlo⟩ := hk
  intro H locs ls hl hP hS
  exact va_mmax hx hb hl.1.symm hown (hts _ hl1) (hts _ h2) (hts _ h3) (hts _ h4) (Nat.le_trans h5 hfr) (Nat.le_trans h6 hlo) (Nat.zero_le _) (Nat.zero_le _) hdg (kk H locs ls hl hP hS)
theorem j_mmin {w : fkW} {g : fkG} {k : fkK} {ρ : Type} {en : ρ → Option Value} {own : String} {cc : ByteArray} {nL fr lo pc : Nat} {ret : Option FieldType} {lv : List (Nat × Value)} {stk : List Value} {st : fkS} {F : Option (ρ × fkS)} (hk : fk_ok w g k own cc nL ret fr lo) {i : Nat} {x y : Int32} (hl1 : Cond.methodLink own i Lib.Math.min.name ∈ fkB) (h2 : Cond.static Lib.Math.min.name ∈ fkB) (h3 : Cond.initialized "java/lang/Math" ∈ fkB) (h4 : Cond.code Lib.Math.min.name Lib.Math.min.code 2 (some .int) ∈ fkB) (h5 : 1 ≤ fr) (h6 : (stk.map fun v => v.category).sum + 13 ≤ lo) (hdg : decode cc pc = .ok (.invokestatic i, 3))
    (kk : fk_J w g en k (pc + 3) lv (.int (fk_min x y) :: stk) st F) : fk_J w g en k pc lv (.int y :: .int x :: stk) st F := by
  intro o ho hq
  have kk := kk o ho hq
  obtain ⟨p, l, e, R, s, m, args, below, meth, c, rv, sf⟩ := k
  obtain ⟨hx, hb, hml, hown, hts, hK, hE, hr, hlk, hinj, hfr, hlo⟩ := hk
  intro H locs ls hl hP hS
  exact va_mmin hx hb hl.1.symm hown (hts _ hl1) (hts _ h2) (hts _ h3) (hts _ h4) (Nat.le_trans h5 hfr) (Nat.le_trans h6 hlo) (Nat.zero_le _) (Nat.zero_le _) hdg (kk H locs ls hl hP hS)
theorem j_iret {w : fkW} {g : fkG} {k : fkK} {own : String} {cc : ByteArray} {nL fr lo pc : Nat} {lv : List (Nat × Value)} {st : fkS} (hk : fk_ok w g k own cc nL (some .int) fr lo) {x : Int32} (hdg : decode cc pc = .ok (.ireturn, 1)) : fk_J w g fk_eI k pc lv [.int x] st (some (x, st)) := by
  intro o ho hq
  cases ho
  obtain ⟨p, l, e, R, s, m, args, below, meth, c, rv, sf⟩ := k
  cases hq
  obtain ⟨hx, hb, hml, hown, hts, hK, hE, hr, hlk, hinj, hfr, hlo⟩ := hk
  intro H locs ls hl hP hS
  exact W.iret hx hb hr (fun t ht hW => ⟨rfl, by rw [ht]; exact hP, hS.F ht⟩) hS.2.2 hdg hlk
theorem j_zret {w : fkW} {g : fkG} {k : fkK} {own : String} {cc : ByteArray} {nL fr lo pc : Nat} {lv : List (Nat × Value)} {st : fkS} {ty : FieldType} (hk : fk_ok w g k own cc nL (some ty) fr lo) {x : Int32} (hn : narrow ty (.int x) = .int x) (hdg : decode cc pc = .ok (.ireturn, 1)) : fk_J w g fk_eI k pc lv [.int x] st (some (x, st)) := by
  intro o ho hq
  cases ho
  obtain ⟨p, l, e, R, s, m, args, below, meth, c, rv, sf⟩ := k
  cases hq
  obtain ⟨hx, hb, hml, hown, hts, hK, hE, hr, hlk, hinj, hfr, hlo⟩ := hk
  intro H locs ls hl hP hS
  exact W.zret hx hb hr hn (fun t ht hW => ⟨rfl, by rw [ht]; exact hP, hS.F ht⟩) hS.2.2 hdg hlk
theorem j_lret {w : fkW} {g : fkG} {k : fkK} {own : String} {cc : ByteArray} {nL fr lo pc : Nat} {lv : List (Nat × Value)} {st : fkS} (hk : fk_ok w g k own cc nL (some .long) fr lo) {x : Int64} (hdg : decode cc pc = .ok (.lreturn, 1)) : fk_J w g fk_eL k pc lv [.long x] st (some (x, st)) := by
  intro o ho hq
  cases ho
  obtain ⟨p, l, e, R, s, m, args, below, meth, c, rv, sf⟩ := k
  cases hq
  obtain ⟨hx, hb, hml, hown, hts, hK, hE, hr, hlk, hinj, hfr, hlo⟩ := hk
  intro H locs ls hl hP hS
  exact W.lret hx hb hr (fun t ht hW => ⟨rfl, by rw [ht]; exact hP, hS.F ht⟩) hS.2.2 hdg hlk
theorem j_vret {w : fkW} {g : fkG} {k : fkK} {own : String} {cc : ByteArray} {nL fr lo pc : Nat} {lv : List (Nat × Value)} {st : fkS} (hk : fk_ok w g k own cc nL none fr lo) (hdg : decode cc pc = .ok (.return_, 1)) : fk_J w g fk_eU k pc lv [] st (some ((), st)) := by
  intro o ho hq
  cases ho
  obtain ⟨p, l, e, R, s, m, args, below, meth, c, rv, sf⟩ := k
  cases hq
  obtain ⟨hx, hb, hml, hown, hts, hK, hE, hr, hlk, hinj, hfr, hlo⟩ := hk
  intro H locs ls hl hP hS
  exact W.vret hx hb hr (fun t ht hW => ⟨rfl, by rw [ht]; exact hP, hS.F ht⟩) hS.2.2 hdg hlk
theorem j_qret {w : fkW} {g : fkG} {k : fkK} {own : String} {cc : ByteArray} {nL fr lo pc : Nat} {lv : List (Nat × Value)} {st : fkS} {nm : String} (hk : fk_ok w g k own cc nL (some (.object nm)) fr lo) {q : Nat} (hdg : decode cc pc = .ok (.areturn, 1)) : fk_J w g (fk_eQ g) k pc lv [fk_q g q] st (some (q, st)) := by
  intro o ho hq
  cases ho
  obtain ⟨p, l, e, R, s, m, args, below, meth, c, rv, sf⟩ := k
  cases hq
  obtain ⟨hx, hb, hml, hown, hts, hK, hE, hr, hlk, hinj, hfr, hlo⟩ := hk
  intro H locs ls hl hP hS
  exact W.aret (v := fk_q g q) hx hb hr (Or.inl ⟨_, rfl⟩) (Or.inr ⟨_, rfl⟩) (fun t ht hW => ⟨rfl, by rw [ht]; exact hP, hS.F ht⟩) hS.2.2 hdg hlk
/-- what a callee brings: its words -/
def fk_yV (y : MethodName) (b : ByteArray) (n : Nat) (ret : Option FieldType) (a : Nat) : Prop := (Cond.instanceMethod y ∈ fkB ∧ Cond.selects y.cls y y ∈ fkB) ∧ Cond.initialized y.cls ∈ fkB ∧ Cond.code y b n ret ∈ fkB ∧ (y.cls ≠ "java/lang/invoke/MethodHandle" ∧ y.cls ≠ "java/lang/invoke/VarHandle" ∧ (parseMethodDescriptor y.desc).map (fun d => d.parameters.length) = some a)
def fk_yS (y : MethodName) (b : ByteArray) (n : Nat) (ret : Option FieldType) (a : Nat) : Prop := Cond.static y ∈ fkB ∧ Cond.initialized y.cls ∈ fkB ∧ Cond.code y b n ret ∈ fkB ∧ (y.cls ≠ "java/lang/invoke/MethodHandle" ∧ y.cls ≠ "java/lang/invoke/VarHandle" ∧ (parseMethodDescriptor y.desc).map (fun d => d.parameters.length) = some a)
def fk_rcv (w : fkW) (g : fkG) (i : Nat) (C : String) : Prop := i < w.2 ∧ ∀ st : fkS, ∃ (ci : Nat) (fs : List Value) (q : vw_C), w.1 g st i = .inr (ci, fs) ∧ vwCl[ci]? = some q ∧ q.1 = C
def fk_bind {α β γ : Type} (o : Option (α × β)) (f : α → β → Option γ) : Option γ := match o with
  | some (a, b) => f a b
  | none => none
theorem fk_bind_of {α β γ : Type} {o : Option (α × β)} {f : α → β → Option γ} {z : γ} (h : fk_bind o f = some z) : ∃ a b, o = some (a, b) ∧ f a b = some z := by
  cases o with
  | none => exact absurd h (by simp [fk_bind])
  | some x => exact ⟨x.1, x.2, rfl, h⟩
theorem j_callVi {w : fkW} {g : fkG} {k : fkK} {ρ : Type} {en : ρ → Option Value} {own : String} {cc : ByteArray} {nL fr lo pc : Nat} {ret : Option FieldType} {lv : List (Nat × Value)} {stk : List Value} {st : fkS} {F : Option (ρ × fkS)} (hk : fk_ok w g k own cc nL ret fr lo) {ix n a fr1 lo1 i : Nat} {y : MethodName} {b : ByteArray} {ret1 : Option FieldType} {f : Option (Int32 × fkS)} {F1 : Int32 → fkS → Option (ρ × fkS)} (As stk1 : List Value) (hstk : stk = As.reverse ++ fk_r g i :: stk1) (hC : ∀ (l : Launch) (o : Int32 × fkS), f = some o → fk_C w y b n ret1 fr1 lo1 l g (fk_r g i :: As) st (fk_eI o.1) o.2)
    (hrc : fk_rcv w g i y.cls) (hY : fk_yV y b n ret1 a) (hlink : Cond.methodLink own ix y ∈ fkB) (hlen : As.length = a) (hcat : (stk1.map fun v => v.category).sum ≤ 8) (hfr1 : fr1 + 1 ≤ fr) (hlo1 : 8 + (n + 11) + lo1 ≤ lo) (hdg : decode cc pc = .ok (.invokevirtual ix, 3))
    (kk : ∀ (r : Int32) (st1 : fkS), fk_J w g en k (pc + 3) lv (.int r :: stk1) st1 (F1 r st1)) : fk_J w g en k pc lv stk st (fk_bind f F1) := by
  intro o ho hq
  subst hstk
  obtain ⟨r, st1, hf, ho⟩ := fk_bind_of ho
  have kk := kk r st1 o ho hq
  obtain ⟨p, l, e, R, s, m, args, below, meth, c, rv, sf⟩ := k
  obtain ⟨hx, hb, hml, hown, hts, hK, hE, hr, hlk, hinj, hfr, hlo⟩ := hk
  intro H locs ls hl hP hS
  have hM := hC l (r, st1) hf hinj H.size
  obtain ⟨hi, hob⟩ := hrc
  obtain ⟨ci, fs, q, h1, h2, h3⟩ := hob st
  have hrecv : ∃ cellB : Cell, H[g.1 i]? = some cellB ∧ cellB.vm.isStatics = false ∧ s.vm.findClass y.cls = some cellB.cls := by
    rw [← h3]
    exact va_recv hK hP h2 (q0 := i) (by rw [fk_wat hi, h1])
  exact fk_after (va_runV (b := g.1 i) (As := As) (rest := stk1) ⟨hx, hb, hml, hown, hts⟩ hM (⟨callB_of a hts (fkB_good hY.2.2.1) rfl rfl rfl (hts _ hY.2.1) (hts _ hlink) hY.2.2.2 ⟨Nat.le_trans hfr1 hfr, Nat.le_trans hlo1 hlo⟩, hts _ hY.1.1, hts _ hY.1.2⟩) ⟨fk_blind, hrecv, fun U hU hW => fk_pre hK hE hP hS hU hW⟩ rfl hlen (hl.1.trans hml) rfl (lv_room hcat) hdg ⟨Nat.zero_le _, Nat.zero_le _⟩) hS
    (fun q h1 h2 => fk_A_up hS.1 q h2) (fk_A_up hS.1) (fun H1 locs1 hP1 hS1 => kk H1 locs1 ls hl hP1 hS1)
theorem j_callVv {w : fkW} {g : fkG} {k : fkK} {ρ : Type} {en : ρ → Option Value} {own : String} {cc : ByteArray} {nL fr lo pc : Nat} {ret : Option FieldType} {lv : List (Nat × Value)} {stk : List Value} {st : fkS} {F : Option (ρ × fkS)} (hk : fk_ok w g k own cc nL ret fr lo) {ix n a fr1 lo1 i : Nat} {y : MethodName} {b : ByteArray} {ret1 : Option FieldType} {f : Option (Unit × fkS)} {F1 : Unit → fkS → Option (ρ × fkS)} (As stk1 : List Value) (hstk : stk = As.reverse ++ fk_r g i :: stk1) (hC : ∀ (l : Launch) (o : Unit × fkS), f = some o → fk_C w y b n ret1 fr1 lo1 l g (fk_r g i :: As) st (fk_eU o.1) o.2)
    (hrc : fk_rcv w g i y.cls) (hY : fk_yV y b n ret1 a) (hlink : Cond.methodLink own ix y ∈ fkB) (hlen : As.length = a) (hcat : (stk1.map fun v => v.category).sum ≤ 8) (hfr1 : fr1 + 1 ≤ fr) (hlo1 : 8 + (n + 11) + lo1 ≤ lo) (hdg : decode cc pc = .ok (.invokevirtual ix, 3))
    (kk : ∀ (r : Unit) (st1 : fkS), fk_J w g en k (pc + 3) lv (stk1) st1 (F1 r st1)) : fk_J w g en k pc lv stk st (fk_bind f F1) := by
  intro o ho hq
  subst hstk
  obtain ⟨r, st1, hf, ho⟩ := fk_bind_of ho
  have kk := kk r st1 o ho hq
  obtain ⟨p, l, e, R, s, m, args, below, meth, c, rv, sf⟩ := k
  obtain ⟨hx, hb, hml, hown, hts, hK, hE, hr, hlk, hinj, hfr, hlo⟩ := hk
  intro H locs ls hl hP hS
  have hM := hC l (r, st1) hf hinj H.size
  obtain ⟨hi, hob⟩ := hrc
  obtain ⟨ci, fs, q, h1, h2, h3⟩ := hob st
  have hrecv : ∃ cellB : Cell, H[g.1 i]? = some cellB ∧ cellB.vm.isStatics = false ∧ s.vm.findClass y.cls = some cellB.cls := by
    rw [← h3]
    exact va_recv hK hP h2 (q0 := i) (by rw [fk_wat hi, h1])
  exact fk_after (va_runV (b := g.1 i) (As := As) (rest := stk1) ⟨hx, hb, hml, hown, hts⟩ hM (⟨callB_of a hts (fkB_good hY.2.2.1) rfl rfl rfl (hts _ hY.2.1) (hts _ hlink) hY.2.2.2 ⟨Nat.le_trans hfr1 hfr, Nat.le_trans hlo1 hlo⟩, hts _ hY.1.1, hts _ hY.1.2⟩) ⟨fk_blind, hrecv, fun U hU hW => fk_pre hK hE hP hS hU hW⟩ rfl hlen (hl.1.trans hml) rfl (lv_room hcat) hdg ⟨Nat.zero_le _, Nat.zero_le _⟩) hS
    (fun q h1 h2 => fk_A_up hS.1 q h2) (fk_A_up hS.1) (fun H1 locs1 hP1 hS1 => kk H1 locs1 ls hl hP1 hS1)
theorem j_callVl {w : fkW} {g : fkG} {k : fkK} {ρ : Type} {en : ρ → Option Value} {own : String} {cc : ByteArray} {nL fr lo pc : Nat} {ret : Option FieldType} {lv : List (Nat × Value)} {stk : List Value} {st : fkS} {F : Option (ρ × fkS)} (hk : fk_ok w g k own cc nL ret fr lo) {ix n a fr1 lo1 i : Nat} {y : MethodName} {b : ByteArray} {ret1 : Option FieldType} {f : Option (Int64 × fkS)} {F1 : Int64 → fkS → Option (ρ × fkS)} (As stk1 : List Value) (hstk : stk = As.reverse ++ fk_r g i :: stk1) (hC : ∀ (l : Launch) (o : Int64 × fkS), f = some o → fk_C w y b n ret1 fr1 lo1 l g (fk_r g i :: As) st (fk_eL o.1) o.2)
    (hrc : fk_rcv w g i y.cls) (hY : fk_yV y b n ret1 a) (hlink : Cond.methodLink own ix y ∈ fkB) (hlen : As.length = a) (hcat : (stk1.map fun v => v.category).sum ≤ 8) (hfr1 : fr1 + 1 ≤ fr) (hlo1 : 8 + (n + 11) + lo1 ≤ lo) (hdg : decode cc pc = .ok (.invokevirtual ix, 3))
    (kk : ∀ (r : Int64) (st1 : fkS), fk_J w g en k (pc + 3) lv (.long r :: stk1) st1 (F1 r st1)) : fk_J w g en k pc lv stk st (fk_bind f F1) := by
  intro o ho hq
  subst hstk
  obtain ⟨r, st1, hf, ho⟩ := fk_bind_of ho
  have kk := kk r st1 o ho hq
  obtain ⟨p, l, e, R, s, m, args, below, meth, c, rv, sf⟩ := k
  obtain ⟨hx, hb, hml, hown, hts, hK, hE, hr, hlk, hinj, hfr, hlo⟩ := hk
  intro H locs ls hl hP hS
  have hM := hC l (r, st1) hf hinj H.size
  obtain ⟨hi, hob⟩ := hrc
  obtain ⟨ci, fs, q, h1, h2, h3⟩ := hob st
  have hrecv : ∃ cellB : Cell, H[g.1 i]? = some cellB ∧ cellB.vm.isStatics = false ∧ s.vm.findClass y.cls = some cellB.cls := by
    rw [← h3]
    exact va_recv hK hP h2 (q0 := i) (by rw [fk_wat hi, h1])
  exact fk_after (va_runV (b := g.1 i) (As := As) (rest := stk1) ⟨hx, hb, hml, hown, hts⟩ hM (⟨callB_of a hts (fkB_good hY.2.2.1) rfl rfl rfl (hts _ hY.2.1) (hts _ hlink) hY.2.2.2 ⟨Nat.le_trans hfr1 hfr, Nat.le_trans hlo1 hlo⟩, hts _ hY.1.1, hts _ hY.1.2⟩) ⟨fk_blind, hrecv, fun U hU hW => fk_pre hK hE hP hS hU hW⟩ rfl hlen (hl.1.trans hml) rfl (lv_room hcat) hdg ⟨Nat.zero_le _, Nat.zero_le _⟩) hS
    (fun q h1 h2 => fk_A_up hS.1 q h2) (fk_A_up hS.1) (fun H1 locs1 hP1 hS1 => kk H1 locs1 ls hl hP1 hS1)
theorem j_callVq {w : fkW} {g : fkG} {k : fkK} {ρ : Type} {en : ρ → Option Value} {own : String} {cc : ByteArray} {nL fr lo pc : Nat} {ret : Option FieldType} {lv : List (Nat × Value)} {stk : List Value} {st : fkS} {F : Option (ρ × fkS)} (hk : fk_ok w g k own cc nL ret fr lo) {ix n a fr1 lo1 i : Nat} {y : MethodName} {b : ByteArray} {ret1 : Option FieldType} {f : Option (Nat × fkS)} {F1 : Nat → fkS → Option (ρ × fkS)} (As stk1 : List Value) (hstk : stk = As.reverse ++ fk_r g i :: stk1) (hC : ∀ (l : Launch) (o : Nat × fkS), f = some o → fk_C w y b n ret1 fr1 lo1 l g (fk_r g i :: As) st ((fk_eQ g) o.1) o.2)
    (hrc : fk_rcv w g i y.cls) (hY : fk_yV y b n ret1 a) (hlink : Cond.methodLink own ix y ∈ fkB) (hlen : As.length = a) (hcat : (stk1.map fun v => v.category).sum ≤ 8) (hfr1 : fr1 + 1 ≤ fr) (hlo1 : 8 + (n + 11) + lo1 ≤ lo) (hdg : decode cc pc = .ok (.invokevirtual ix, 3))
    (kk : ∀ (r : Nat) (st1 : fkS), fk_J w g en k (pc + 3) lv (fk_q g r :: stk1) st1 (F1 r st1)) : fk_J w g en k pc lv stk st (fk_bind f F1) := by
  intro o ho hq
  subst hstk
  obtain ⟨r, st1, hf, ho⟩ := fk_bind_of ho
  have kk := kk r st1 o ho hq
  obtain ⟨p, l, e, R, s, m, args, below, meth, c, rv, sf⟩ := k
  obtain ⟨hx, hb, hml, hown, hts, hK, hE, hr, hlk, hinj, hfr, hlo⟩ := hk
  intro H locs ls hl hP hS
  have hM := hC l (r, st1) hf hinj H.size
  obtain ⟨hi, hob⟩ := hrc
  obtain ⟨ci, fs, q, h1, h2, h3⟩ := hob st
  have hrecv : ∃ cellB : Cell, H[g.1 i]? = some cellB ∧ cellB.vm.isStatics = false ∧ s.vm.findClass y.cls = some cellB.cls := by
    rw [← h3]
    exact va_recv hK hP h2 (q0 := i) (by rw [fk_wat hi, h1])
  exact fk_after (va_runV (b := g.1 i) (As := As) (rest := stk1) ⟨hx, hb, hml, hown, hts⟩ hM (⟨callB_of a hts (fkB_good hY.2.2.1) rfl rfl rfl (hts _ hY.2.1) (hts _ hlink) hY.2.2.2 ⟨Nat.le_trans hfr1 hfr, Nat.le_trans hlo1 hlo⟩, hts _ hY.1.1, hts _ hY.1.2⟩) ⟨fk_blind, hrecv, fun U hU hW => fk_pre hK hE hP hS hU hW⟩ rfl hlen (hl.1.trans hml) rfl (lv_room hcat) hdg ⟨Nat.zero_le _, Nat.zero_le _⟩) hS
    (fun q h1 h2 => fk_A_up hS.1 q h2) (fk_A_up hS.1) (fun H1 locs1 hP1 hS1 => kk H1 locs1 ls hl hP1 hS1)
theorem j_callVNi {w : fkW} {g : fkG} {k : fkK} {ρ : Type} {en : ρ → Option Value} {own : String} {cc : ByteArray} {nL fr lo pc : Nat} {ret : Option FieldType} {lv : List (Nat × Value)} {stk : List Value} {st : fkS} {F : Option (ρ × fkS)} (hk : fk_ok w g k own cc nL ret fr lo) {ix n a fr1 lo1 i : Nat} {y : MethodName} {b : ByteArray} {ret1 : Option FieldType} {f : Option (Int32 × fkS)} {F1 : Int32 → fkS → Option (ρ × fkS)} (As stk1 : List Value) (hstk : stk = As.reverse ++ fk_r g i :: stk1) (hC : ∀ (l : Launch) (o : Int32 × fkS), f = some o → fk_C w y b n ret1 fr1 lo1 l g (fk_r g i :: As) st (fk_eI o.1) o.2)
    (hrc : fk_rcv w g i y.cls) (hY : fk_yV y b n ret1 a) (hlink : Cond.methodLinkNest own ix y "PieFunnels" ∈ fk_nests) (hlen : As.length = a) (hcat : (stk1.map fun v => v.category).sum ≤ 8) (hfr1 : fr1 + 1 ≤ fr) (hlo1 : 8 + (n + 11) + lo1 ≤ lo) (hdg : decode cc pc = .ok (.invokevirtual ix, 3))
    (kk : ∀ (r : Int32) (st1 : fkS), fk_J w g en k (pc + 3) lv (.int r :: stk1) st1 (F1 r st1)) : fk_J w g en k pc lv stk st (fk_bind f F1) := by
  intro o ho hq
  subst hstk
  obtain ⟨r, st1, hf, ho⟩ := fk_bind_of ho
  have kk := kk r st1 o ho hq
  obtain ⟨p, l, e, R, s, m, args, below, meth, c, rv, sf⟩ := k
  obtain ⟨hx, hb, hml, hown, hts, hK, hE, hr, hlk, hinj, hfr, hlo⟩ := hk
  intro H locs ls hl hP hS
  have hM := hC l (r, st1) hf hinj H.size
  obtain ⟨hi, hob⟩ := hrc
  obtain ⟨ci, fs, q, h1, h2, h3⟩ := hob st
  have hrecv : ∃ cellB : Cell, H[g.1 i]? = some cellB ∧ cellB.vm.isStatics = false ∧ s.vm.findClass y.cls = some cellB.cls := by
    rw [← h3]
    exact va_recv hK hP h2 (q0 := i) (by rw [fk_wat hi, h1])
  exact fk_after (va_runVN (b := g.1 i) (As := As) (rest := stk1) ⟨hx, hb, hml, hown, hts⟩ hM (⟨va_cnB a hts (fkB_good hY.2.2.1) rfl rfl rfl (hE.1 _ hlink) (hts _ hY.2.1) hY.2.2.2 ⟨Nat.le_trans hfr1 hfr, Nat.le_trans hlo1 hlo⟩, hts _ hY.1.1, hts _ hY.1.2⟩) ⟨fk_blind, hrecv, fun U hU hW => fk_pre hK hE hP hS hU hW⟩ rfl hlen (hl.1.trans hml) rfl (lv_room hcat) hdg ⟨Nat.zero_le _, Nat.zero_le _⟩) hS
    (fun q h1 h2 => fk_A_up hS.1 q h2) (fk_A_up hS.1) (fun H1 locs1 hP1 hS1 => kk H1 locs1 ls hl hP1 hS1)
theorem j_callVNv {w : fkW} {g : fkG} {k : fkK} {ρ : Type} {en : ρ → Option Value} {own : String} {cc : ByteArray} {nL fr lo pc : Nat} {ret : Option FieldType} {lv : List (Nat × Value)} {stk : List Value} {st : fkS} {F : Option (ρ × fkS)} (hk : fk_ok w g k own cc nL ret fr lo) {ix n a fr1 lo1 i : Nat} {y : MethodName} {b : ByteArray} {ret1 : Option FieldType} {f : Option (Unit × fkS)} {F1 : Unit → fkS → Option (ρ × fkS)} (As stk1 : List Value) (hstk : stk = As.reverse ++ fk_r g i :: stk1) (hC : ∀ (l : Launch) (o : Unit × fkS), f = some o → fk_C w y b n ret1 fr1 lo1 l g (fk_r g i :: As) st (fk_eU o.1) o.2)
    (hrc : fk_rcv w g i y.cls) (hY : fk_yV y b n ret1 a) (hlink : Cond.methodLinkNest own ix y "PieFunnels" ∈ fk_nests) (hlen : As.length = a) (hcat : (stk1.map fun v => v.category).sum ≤ 8) (hfr1 : fr1 + 1 ≤ fr) (hlo1 : 8 + (n + 11) + lo1 ≤ lo) (hdg : decode cc pc = .ok (.invokevirtual ix, 3))
    (kk : ∀ (r : Unit) (st1 : fkS), fk_J w g en k (pc + 3) lv (stk1) st1 (F1 r st1)) : fk_J w g en k pc lv stk st (fk_bind f F1) := by
  intro o ho hq
  subst hstk
  obtain ⟨r, st1, hf, ho⟩ := fk_bind_of ho
  have kk := kk r st1 o ho hq
  obtain ⟨p, l, e, R, s, m, args, below, meth, c, rv, sf⟩ := k
  obtain ⟨hx, hb, hml, hown, hts, hK, hE, hr, hlk, hinj, hfr, hlo⟩ := hk
  intro H locs ls hl hP hS
  have hM := hC l (r, st1) hf hinj H.size
  obtain ⟨hi, hob⟩ := hrc
  obtain ⟨ci, fs, q, h1, h2, h3⟩ := hob st
  have hrecv : ∃ cellB : Cell, H[g.1 i]? = some cellB ∧ cellB.vm.isStatics = false ∧ s.vm.findClass y.cls = some cellB.cls := by
    rw [← h3]
    exact va_recv hK hP h2 (q0 := i) (by rw [fk_wat hi, h1])
  exact fk_after (va_runVN (b := g.1 i) (As := As) (rest := stk1) ⟨hx, hb, hml, hown, hts⟩ hM (⟨va_cnB a hts (fkB_good hY.2.2.1) rfl rfl rfl (hE.1 _ hlink) (hts _ hY.2.1) hY.2.2.2 ⟨Nat.le_trans hfr1 hfr, Nat.le_trans hlo1 hlo⟩, hts _ hY.1.1, hts _ hY.1.2⟩) ⟨fk_blind, hrecv, fun U hU hW => fk_pre hK hE hP hS hU hW⟩ rfl hlen (hl.1.trans hml) rfl (lv_room hcat) hdg ⟨Nat.zero_le _, Nat.zero_le _⟩) hS
    (fun q h1 h2 => fk_A_up hS.1 q h2) (fk_A_up hS.1) (fun H1 locs1 hP1 hS1 => kk H1 locs1 ls hl hP1 hS1)
theorem j_callVNl {w : fkW} {g : fkG} {k : fkK} {ρ : Type} {en : ρ → Option Value} {own : String} {cc : ByteArray} {nL fr lo pc : Nat} {ret : Option FieldType} {lv : List (Nat × Value)} {stk : List Value} {st : fkS} {F : Option (ρ × fkS)} (hk : fk_ok w g k own cc nL ret fr lo) {ix n a fr1 lo1 i : Nat} {y : MethodName} {b : ByteArray} {ret1 : Option FieldType} {f : Option (Int64 × fkS)} {F1 : Int64 → fkS → Option (ρ × fkS)} (As stk1 : List Value) (hstk : stk = As.reverse ++ fk_r g i :: stk1) (hC : ∀ (l : Launch) (o : Int64 × fkS), f = some o → fk_C w y b n ret1 fr1 lo1 l g (fk_r g i :: As) st (fk_eL o.1) o.2)
    (hrc : fk_rcv w g i y.cls) (hY : fk_yV y b n ret1 a) (hlink : Cond.methodLinkNest own ix y "PieFunnels" ∈ fk_nests) (hlen : As.length = a) (hcat : (stk1.map fun v => v.category).sum ≤ 8) (hfr1 : fr1 + 1 ≤ fr) (hlo1 : 8 + (n + 11) + lo1 ≤ lo) (hdg : decode cc pc = .ok (.invokevirtual ix, 3))
    (kk : ∀ (r : Int64) (st1 : fkS), fk_J w g en k (pc + 3) lv (.long r :: stk1) st1 (F1 r st1)) : fk_J w g en k pc lv stk st (fk_bind f F1) := by
  intro o ho hq
  subst hstk
  obtain ⟨r, st1, hf, ho⟩ := fk_bind_of ho
  have kk := kk r st1 o ho hq
  obtain ⟨p, l, e, R, s, m, args, below, meth, c, rv, sf⟩ := k
  obtain ⟨hx, hb, hml, hown, hts, hK, hE, hr, hlk, hinj, hfr, hlo⟩ := hk
  intro H locs ls hl hP hS
  have hM := hC l (r, st1) hf hinj H.size
  obtain ⟨hi, hob⟩ := hrc
  obtain ⟨ci, fs, q, h1, h2, h3⟩ := hob st
  have hrecv : ∃ cellB : Cell, H[g.1 i]? = some cellB ∧ cellB.vm.isStatics = false ∧ s.vm.findClass y.cls = some cellB.cls := by
    rw [← h3]
    exact va_recv hK hP h2 (q0 := i) (by rw [fk_wat hi, h1])
  exact fk_after (va_runVN (b := g.1 i) (As := As) (rest := stk1) ⟨hx, hb, hml, hown, hts⟩ hM (⟨va_cnB a hts (fkB_good hY.2.2.1) rfl rfl rfl (hE.1 _ hlink) (hts _ hY.2.1) hY.2.2.2 ⟨Nat.le_trans hfr1 hfr, Nat.le_trans hlo1 hlo⟩, hts _ hY.1.1, hts _ hY.1.2⟩) ⟨fk_blind, hrecv, fun U hU hW => fk_pre hK hE hP hS hU hW⟩ rfl hlen (hl.1.trans hml) rfl (lv_room hcat) hdg ⟨Nat.zero_le _, Nat.zero_le _⟩) hS
    (fun q h1 h2 => fk_A_up hS.1 q h2) (fk_A_up hS.1) (fun H1 locs1 hP1 hS1 => kk H1 locs1 ls hl hP1 hS1)
theorem j_callVNq {w : fkW} {g : fkG} {k : fkK} {ρ : Type} {en : ρ → Option Value} {own : String} {cc : ByteArray} {nL fr lo pc : Nat} {ret : Option FieldType} {lv : List (Nat × Value)} {stk : List Value} {st : fkS} {F : Option (ρ × fkS)} (hk : fk_ok w g k own cc nL ret fr lo) {ix n a fr1 lo1 i : Nat} {y : MethodName} {b : ByteArray} {ret1 : Option FieldType} {f : Option (Nat × fkS)} {F1 : Nat → fkS → Option (ρ × fkS)} (As stk1 : List Value) (hstk : stk = As.reverse ++ fk_r g i :: stk1) (hC : ∀ (l : Launch) (o : Nat × fkS), f = some o → fk_C w y b n ret1 fr1 lo1 l g (fk_r g i :: As) st ((fk_eQ g) o.1) o.2)
    (hrc : fk_rcv w g i y.cls) (hY : fk_yV y b n ret1 a) (hlink : Cond.methodLinkNest own ix y "PieFunnels" ∈ fk_nests) (hlen : As.length = a) (hcat : (stk1.map fun v => v.category).sum ≤ 8) (hfr1 : fr1 + 1 ≤ fr) (hlo1 : 8 + (n + 11) + lo1 ≤ lo) (hdg : decode cc pc = .ok (.invokevirtual ix, 3))
    (kk : ∀ (r : Nat) (st1 : fkS), fk_J w g en k (pc + 3) lv (fk_q g r :: stk1) st1 (F1 r st1)) : fk_J w g en k pc lv stk st (fk_bind f F1) := by
  intro o ho hq
  subst hstk
  obtain ⟨r, st1, hf, ho⟩ := fk_bind_of ho
  have kk := kk r st1 o ho hq
  obtain ⟨p, l, e, R, s, m, args, below, meth, c, rv, sf⟩ := k
  obtain ⟨hx, hb, hml, hown, hts, hK, hE, hr, hlk, hinj, hfr, hlo⟩ := hk
  intro H locs ls hl hP hS
  have hM := hC l (r, st1) hf hinj H.size
  obtain ⟨hi, hob⟩ := hrc
  obtain ⟨ci, fs, q, h1, h2, h3⟩ := hob st
  have hrecv : ∃ cellB : Cell, H[g.1 i]? = some cellB ∧ cellB.vm.isStatics = false ∧ s.vm.findClass y.cls = some cellB.cls := by
    rw [← h3]
    exact va_recv hK hP h2 (q0 := i) (by rw [fk_wat hi, h1])
  exact fk_after (va_runVN (b := g.1 i) (As := As) (rest := stk1) ⟨hx, hb, hml, hown, hts⟩ hM (⟨va_cnB a hts (fkB_good hY.2.2.1) rfl rfl rfl (hE.1 _ hlink) (hts _ hY.2.1) hY.2.2.2 ⟨Nat.le_trans hfr1 hfr, Nat.le_trans hlo1 hlo⟩, hts _ hY.1.1, hts _ hY.1.2⟩) ⟨fk_blind, hrecv, fun U hU hW => fk_pre hK hE hP hS hU hW⟩ rfl hlen (hl.1.trans hml) rfl (lv_room hcat) hdg ⟨Nat.zero_le _, Nat.zero_le _⟩) hS
    (fun q h1 h2 => fk_A_up hS.1 q h2) (fk_A_up hS.1) (fun H1 locs1 hP1 hS1 => kk H1 locs1 ls hl hP1 hS1)
theorem j_callSi {w : fkW} {g : fkG} {k : fkK} {ρ : Type} {en : ρ → Option Value} {own : String} {cc : ByteArray} {nL fr lo pc : Nat} {ret : Option FieldType} {lv : List (Nat × Value)} {stk : List Value} {st : fkS} {F : Option (ρ × fkS)} (hk : fk_ok w g k own cc nL ret fr lo) {ix n a fr1 lo1 i : Nat} {y : MethodName} {b : ByteArray} {ret1 : Option FieldType} {f : Option (Int32 × fkS)} {F1 : Int32 → fkS → Option (ρ × fkS)} (As stk1 : List Value) (hstk : stk = As.reverse ++ stk1) (hC : ∀ (l : Launch) (o : Int32 × fkS), f = some o → fk_C w y b n ret1 fr1 lo1 l g As st (fk_eI o.1) o.2)
    (hY : fk_yS y b n ret1 a) (hlink : Cond.methodLink own ix y ∈ fkB) (hlen : As.length = a) (hcat : (stk1.map fun v => v.category).sum ≤ 8) (hfr1 : fr1 + 1 ≤ fr) (hlo1 : 8 + (n + 11) + lo1 ≤ lo) (hdg : decode cc pc = .ok (.invokestatic ix, 3))
    (kk : ∀ (r : Int32) (st1 : fkS), fk_J w g en k (pc + 3) lv (.int r :: stk1) st1 (F1 r st1)) : fk_J w g en k pc lv stk st (fk_bind f F1) := by
  intro o ho hq
  subst hstk
  obtain ⟨r, st1, hf, ho⟩ := fk_bind_of ho
  have kk := kk r st1 o ho hq
  obtain ⟨p, l, e, R, s, m, args, below, meth, c, rv, sf⟩ := k
  obtain ⟨hx, hb, hml, hown, hts, hK, hE, hr, hlk, hinj, hfr, hlo⟩ := hk
  intro H locs ls hl hP hS
  have hM := hC l (r, st1) hf hinj H.size
  exact fk_after (va_runS (As := As) (rest := stk1) ⟨hx, hb, hml, hown, hts⟩ hM (⟨callB_of a hts (fkB_good hY.2.2.1) rfl rfl rfl (hts _ hY.2.1) (hts _ hlink) hY.2.2.2 ⟨Nat.le_trans hfr1 hfr, Nat.le_trans hlo1 hlo⟩, hts _ hY.1⟩) ⟨fk_blind, fun U hU hW => fk_pre hK hE hP hS hU hW⟩ rfl hlen (hl.1.trans hml) rfl (lv_room hcat) hdg ⟨Nat.zero_le _, Nat.zero_le _⟩) hS
    (fun q h1 h2 => fk_A_up hS.1 q h2) (fk_A_up hS.1) (fun H1 locs1 hP1 hS1 => kk H1 locs1 ls hl hP1 hS1)
theorem j_callSv {w : fkW} {g : fkG} {k : fkK} {ρ : Type} {en : ρ → Option Value} {own : String} {cc : ByteArray} {nL fr lo pc : Nat} {ret : Option FieldType} {lv : List (Nat × Value)} {stk : List Value} {st : fkS} {F : Option (ρ × fkS)} (hk : fk_ok w g k own cc nL ret fr lo) {ix n a fr1 lo1 i : Nat} {y : MethodName} {b : ByteArray} {ret1 : Option FieldType} {f : Option (Unit × fkS)} {F1 : Unit → fkS → Option (ρ × fkS)} (As stk1 : List Value) (hstk : stk = As.reverse ++ stk1) (hC : ∀ (l : Launch) (o : Unit × fkS), f = some o → fk_C w y b n ret1 fr1 lo1 l g As st (fk_eU o.1) o.2)
    (hY : fk_yS y b n ret1 a) (hlink : Cond.methodLink own ix y ∈ fkB) (hlen : As.length = a) (hcat : (stk1.map fun v => v.category).sum ≤ 8) (hfr1 : fr1 + 1 ≤ fr) (hlo1 : 8 + (n + 11) + lo1 ≤ lo) (hdg : decode cc pc = .ok (.invokestatic ix, 3))
    (kk : ∀ (r : Unit) (st1 : fkS), fk_J w g en k (pc + 3) lv (stk1) st1 (F1 r st1)) : fk_J w g en k pc lv stk st (fk_bind f F1) := by
  intro o ho hq
  subst hstk
  obtain ⟨r, st1, hf, ho⟩ := fk_bind_of ho
  have kk := kk r st1 o ho hq
  obtain ⟨p, l, e, R, s, m, args, below, meth, c, rv, sf⟩ := k
  obtain ⟨hx, hb, hml, hown, hts, hK, hE, hr, hlk, hinj, hfr, hlo⟩ := hk
  intro H locs ls hl hP hS
  have hM := hC l (r, st1) hf hinj H.size
  exact fk_after (va_runS (As := As) (rest := stk1) ⟨hx, hb, hml, hown, hts⟩ hM (⟨callB_of a hts (fkB_good hY.2.2.1) rfl rfl rfl (hts _ hY.2.1) (hts _ hlink) hY.2.2.2 ⟨Nat.le_trans hfr1 hfr, Nat.le_trans hlo1 hlo⟩, hts _ hY.1⟩) ⟨fk_blind, fun U hU hW => fk_pre hK hE hP hS hU hW⟩ rfl hlen (hl.1.trans hml) rfl (lv_room hcat) hdg ⟨Nat.zero_le _, Nat.zero_le _⟩) hS
    (fun q h1 h2 => fk_A_up hS.1 q h2) (fk_A_up hS.1) (fun H1 locs1 hP1 hS1 => kk H1 locs1 ls hl hP1 hS1)
theorem j_callSl {w : fkW} {g : fkG} {k : fkK} {ρ : Type} {en : ρ → Option Value} {own : String} {cc : ByteArray} {nL fr lo pc : Nat} {ret : Option FieldType} {lv : List (Nat × Value)} {stk : List Value} {st : fkS} {F : Option (ρ × fkS)} (hk : fk_ok w g k own cc nL ret fr lo) {ix n a fr1 lo1 i : Nat} {y : MethodName} {b : ByteArray} {ret1 : Option FieldType} {f : Option (Int64 × fkS)} {F1 : Int64 → fkS → Option (ρ × fkS)} (As stk1 : List Value) (hstk : stk = As.reverse ++ stk1) (hC : ∀ (l : Launch) (o : Int64 × fkS), f = some o → fk_C w y b n ret1 fr1 lo1 l g As st (fk_eL o.1) o.2)
    (hY : fk_yS y b n ret1 a) (hlink : Cond.methodLink own ix y ∈ fkB) (hlen : As.length = a) (hcat : (stk1.map fun v => v.category).sum ≤ 8) (hfr1 : fr1 + 1 ≤ fr) (hlo1 : 8 + (n + 11) + lo1 ≤ lo) (hdg : decode cc pc = .ok (.invokestatic ix, 3))
    (kk : ∀ (r : Int64) (st1 : fkS), fk_J w g en k (pc + 3) lv (.long r :: stk1) st1 (F1 r st1)) : fk_J w g en k pc lv stk st (fk_bind f F1) := by
  intro o ho hq
  subst hstk
  obtain ⟨r, st1, hf, ho⟩ := fk_bind_of ho
  have kk := kk r st1 o ho hq
  obtain ⟨p, l, e, R, s, m, args, below, meth, c, rv, sf⟩ := k
  obtain ⟨hx, hb, hml, hown, hts, hK, hE, hr, hlk, hinj, hfr, hlo⟩ := hk
  intro H locs ls hl hP hS
  have hM := hC l (r, st1) hf hinj H.size
  exact fk_after (va_runS (As := As) (rest := stk1) ⟨hx, hb, hml, hown, hts⟩ hM (⟨callB_of a hts (fkB_good hY.2.2.1) rfl rfl rfl (hts _ hY.2.1) (hts _ hlink) hY.2.2.2 ⟨Nat.le_trans hfr1 hfr, Nat.le_trans hlo1 hlo⟩, hts _ hY.1⟩) ⟨fk_blind, fun U hU hW => fk_pre hK hE hP hS hU hW⟩ rfl hlen (hl.1.trans hml) rfl (lv_room hcat) hdg ⟨Nat.zero_le _, Nat.zero_le _⟩) hS
    (fun q h1 h2 => fk_A_up hS.1 q h2) (fk_A_up hS.1) (fun H1 locs1 hP1 hS1 => kk H1 locs1 ls hl hP1 hS1)
theorem j_callSq {w : fkW} {g : fkG} {k : fkK} {ρ : Type} {en : ρ → Option Value} {own : String} {cc : ByteArray} {nL fr lo pc : Nat} {ret : Option FieldType} {lv : List (Nat × Value)} {stk : List Value} {st : fkS} {F : Option (ρ × fkS)} (hk : fk_ok w g k own cc nL ret fr lo) {ix n a fr1 lo1 i : Nat} {y : MethodName} {b : ByteArray} {ret1 : Option FieldType} {f : Option (Nat × fkS)} {F1 : Nat → fkS → Option (ρ × fkS)} (As stk1 : List Value) (hstk : stk = As.reverse ++ stk1) (hC : ∀ (l : Launch) (o : Nat × fkS), f = some o → fk_C w y b n ret1 fr1 lo1 l g As st ((fk_eQ g) o.1) o.2)
    (hY : fk_yS y b n ret1 a) (hlink : Cond.methodLink own ix y ∈ fkB) (hlen : As.length = a) (hcat : (stk1.map fun v => v.category).sum ≤ 8) (hfr1 : fr1 + 1 ≤ fr) (hlo1 : 8 + (n + 11) + lo1 ≤ lo) (hdg : decode cc pc = .ok (.invokestatic ix, 3))
    (kk : ∀ (r : Nat) (st1 : fkS), fk_J w g en k (pc + 3) lv (fk_q g r :: stk1) st1 (F1 r st1)) : fk_J w g en k pc lv stk st (fk_bind f F1) := by
  intro o ho hq
  subst hstk
  obtain ⟨r, st1, hf, ho⟩ := fk_bind_of ho
  have kk := kk r st1 o ho hq
  obtain ⟨p, l, e, R, s, m, args, below, meth, c, rv, sf⟩ := k
  obtain ⟨hx, hb, hml, hown, hts, hK, hE, hr, hlk, hinj, hfr, hlo⟩ := hk
  intro H locs ls hl hP hS
  have hM := hC l (r, st1) hf hinj H.size
  exact fk_after (va_runS (As := As) (rest := stk1) ⟨hx, hb, hml, hown, hts⟩ hM (⟨callB_of a hts (fkB_good hY.2.2.1) rfl rfl rfl (hts _ hY.2.1) (hts _ hlink) hY.2.2.2 ⟨Nat.le_trans hfr1 hfr, Nat.le_trans hlo1 hlo⟩, hts _ hY.1⟩) ⟨fk_blind, fun U hU hW => fk_pre hK hE hP hS hU hW⟩ rfl hlen (hl.1.trans hml) rfl (lv_room hcat) hdg ⟨Nat.zero_le _, Nat.zero_le _⟩) hS
    (fun q h1 h2 => fk_A_up hS.1 q h2) (fk_A_up hS.1) (fun H1 locs1 hP1 hS1 => kk H1 locs1 ls hl hP1 hS1)
theorem j_callSNi {w : fkW} {g : fkG} {k : fkK} {ρ : Type} {en : ρ → Option Value} {own : String} {cc : ByteArray} {nL fr lo pc : Nat} {ret : Option FieldType} {lv : List (Nat × Value)} {stk : List Value} {st : fkS} {F : Option (ρ × fkS)} (hk : fk_ok w g k own cc nL ret fr lo) {ix n a fr1 lo1 i : Nat} {y : MethodName} {b : ByteArray} {ret1 : Option FieldType} {f : Option (Int32 × fkS)} {F1 : Int32 → fkS → Option (ρ × fkS)} (As stk1 : List Value) (hstk : stk = As.reverse ++ stk1) (hC : ∀ (l : Launch) (o : Int32 × fkS), f = some o → fk_C w y b n ret1 fr1 lo1 l g As st (fk_eI o.1) o.2)
    (hY : fk_yS y b n ret1 a) (hlink : Cond.methodLinkNest own ix y "PieFunnels" ∈ fk_nests) (hlen : As.length = a) (hcat : (stk1.map fun v => v.category).sum ≤ 8) (hfr1 : fr1 + 1 ≤ fr) (hlo1 : 8 + (n + 11) + lo1 ≤ lo) (hdg : decode cc pc = .ok (.invokestatic ix, 3))
    (kk : ∀ (r : Int32) (st1 : fkS), fk_J w g en k (pc + 3) lv (.int r :: stk1) st1 (F1 r st1)) : fk_J w g en k pc lv stk st (fk_bind f F1) := by
  intro o ho hq
  subst hstk
  obtain ⟨r, st1, hf, ho⟩ := fk_bind_of ho
  have kk := kk r st1 o ho hq
  obtain ⟨p, l, e, R, s, m, args, below, meth, c, rv, sf⟩ := k
  obtain ⟨hx, hb, hml, hown, hts, hK, hE, hr, hlk, hinj, hfr, hlo⟩ := hk
  intro H locs ls hl hP hS
  have hM := hC l (r, st1) hf hinj H.size
  exact fk_after (va_runSN (As := As) (rest := stk1) ⟨hx, hb, hml, hown, hts⟩ hM (⟨va_cnB a hts (fkB_good hY.2.2.1) rfl rfl rfl (hE.1 _ hlink) (hts _ hY.2.1) hY.2.2.2 ⟨Nat.le_trans hfr1 hfr, Nat.le_trans hlo1 hlo⟩, hts _ hY.1, trivial⟩) ⟨fk_blind, fun U hU hW => fk_pre hK hE hP hS hU hW⟩ rfl hlen (hl.1.trans hml) rfl (lv_room hcat) hdg ⟨Nat.zero_le _, Nat.zero_le _⟩) hS
    (fun q h1 h2 => fk_A_up hS.1 q h2) (fk_A_up hS.1) (fun H1 locs1 hP1 hS1 => kk H1 locs1 ls hl hP1 hS1)
theorem j_callSNv {w : fkW} {g : fkG} {k : fkK} {ρ : Type} {en : ρ → Option Value} {own : String} {cc : ByteArray} {nL fr lo pc : Nat} {ret : Option FieldType} {lv : List (Nat × Value)} {stk : List Value} {st : fkS} {F : Option (ρ × fkS)} (hk : fk_ok w g k own cc nL ret fr lo) {ix n a fr1 lo1 i : Nat} {y : MethodName} {b : ByteArray} {ret1 : Option FieldType} {f : Option (Unit × fkS)} {F1 : Unit → fkS → Option (ρ × fkS)} (As stk1 : List Value) (hstk : stk = As.reverse ++ stk1) (hC : ∀ (l : Launch) (o : Unit × fkS), f = some o → fk_C w y b n ret1 fr1 lo1 l g As st (fk_eU o.1) o.2)
    (hY : fk_yS y b n ret1 a) (hlink : Cond.methodLinkNest own ix y "PieFunnels" ∈ fk_nests) (hlen : As.length = a) (hcat : (stk1.map fun v => v.category).sum ≤ 8) (hfr1 : fr1 + 1 ≤ fr) (hlo1 : 8 + (n + 11) + lo1 ≤ lo) (hdg : decode cc pc = .ok (.invokestatic ix, 3))
    (kk : ∀ (r : Unit) (st1 : fkS), fk_J w g en k (pc + 3) lv (stk1) st1 (F1 r st1)) : fk_J w g en k pc lv stk st (fk_bind f F1) := by
  intro o ho hq
  subst hstk
  obtain ⟨r, st1, hf, ho⟩ := fk_bind_of ho
  have kk := kk r st1 o ho hq
  obtain ⟨p, l, e, R, s, m, args, below, meth, c, rv, sf⟩ := k
  obtain ⟨hx, hb, hml, hown, hts, hK, hE, hr, hlk, hinj, hfr, hlo⟩ := hk
  intro H locs ls hl hP hS
  have hM := hC l (r, st1) hf hinj H.size
  exact fk_after (va_runSN (As := As) (rest := stk1) ⟨hx, hb, hml, hown, hts⟩ hM (⟨va_cnB a hts (fkB_good hY.2.2.1) rfl rfl rfl (hE.1 _ hlink) (hts _ hY.2.1) hY.2.2.2 ⟨Nat.le_trans hfr1 hfr, Nat.le_trans hlo1 hlo⟩, hts _ hY.1, trivial⟩) ⟨fk_blind, fun U hU hW => fk_pre hK hE hP hS hU hW⟩ rfl hlen (hl.1.trans hml) rfl (lv_room hcat) hdg ⟨Nat.zero_le _, Nat.zero_le _⟩) hS
    (fun q h1 h2 => fk_A_up hS.1 q h2) (fk_A_up hS.1) (fun H1 locs1 hP1 hS1 => kk H1 locs1 ls hl hP1 hS1)
theorem j_callSNl {w : fkW} {g : fkG} {k : fkK} {ρ : Type} {en : ρ → Option Value} {own : String} {cc : ByteArray} {nL fr lo pc : Nat} {ret : Option FieldType} {lv : List (Nat × Value)} {stk : List Value} {st : fkS} {F : Option (ρ × fkS)} (hk : fk_ok w g k own cc nL ret fr lo) {ix n a fr1 lo1 i : Nat} {y : MethodName} {b : ByteArray} {ret1 : Option FieldType} {f : Option (Int64 × fkS)} {F1 : Int64 → fkS → Option (ρ × fkS)} (As stk1 : List Value) (hstk : stk = As.reverse ++ stk1) (hC : ∀ (l : Launch) (o : Int64 × fkS), f = some o → fk_C w y b n ret1 fr1 lo1 l g As st (fk_eL o.1) o.2)
    (hY : fk_yS y b n ret1 a) (hlink : Cond.methodLinkNest own ix y "PieFunnels" ∈ fk_nests) (hlen : As.length = a) (hcat : (stk1.map fun v => v.category).sum ≤ 8) (hfr1 : fr1 + 1 ≤ fr) (hlo1 : 8 + (n + 11) + lo1 ≤ lo) (hdg : decode cc pc = .ok (.invokestatic ix, 3))
    (kk : ∀ (r : Int64) (st1 : fkS), fk_J w g en k (pc + 3) lv (.long r :: stk1) st1 (F1 r st1)) : fk_J w g en k pc lv stk st (fk_bind f F1) := by
  intro o ho hq
  subst hstk
  obtain ⟨r, st1, hf, ho⟩ := fk_bind_of ho
  have kk := kk r st1 o ho hq
  obtain ⟨p, l, e, R, s, m, args, below, meth, c, rv, sf⟩ := k
  obtain ⟨hx, hb, hml, hown, hts, hK, hE, hr, hlk, hinj, hfr, hlo⟩ := hk
  intro H locs ls hl hP hS
  have hM := hC l (r, st1) hf hinj H.size
  exact fk_after (va_runSN (As := As) (rest := stk1) ⟨hx, hb, hml, hown, hts⟩ hM (⟨va_cnB a hts (fkB_good hY.2.2.1) rfl rfl rfl (hE.1 _ hlink) (hts _ hY.2.1) hY.2.2.2 ⟨Nat.le_trans hfr1 hfr, Nat.le_trans hlo1 hlo⟩, hts _ hY.1, trivial⟩) ⟨fk_blind, fun U hU hW => fk_pre hK hE hP hS hU hW⟩ rfl hlen (hl.1.trans hml) rfl (lv_room hcat) hdg ⟨Nat.zero_le _, Nat.zero_le _⟩) hS
    (fun q h1 h2 => fk_A_up hS.1 q h2) (fk_A_up hS.1) (fun H1 locs1 hP1 hS1 => kk H1 locs1 ls hl hP1 hS1)
theorem j_callSNq {w : fkW} {g : fkG} {k : fkK} {ρ : Type} {en : ρ → Option Value} {own : String} {cc : ByteArray} {nL fr lo pc : Nat} {ret : Option FieldType} {lv : List (Nat × Value)} {stk : List Value} {st : fkS} {F : Option (ρ × fkS)} (hk : fk_ok w g k own cc nL ret fr lo) {ix n a fr1 lo1 i : Nat} {y : MethodName} {b : ByteArray} {ret1 : Option FieldType} {f : Option (Nat × fkS)} {F1 : Nat → fkS → Option (ρ × fkS)} (As stk1 : List Value) (hstk : stk = As.reverse ++ stk1) (hC : ∀ (l : Launch) (o : Nat × fkS), f = some o → fk_C w y b n ret1 fr1 lo1 l g As st ((fk_eQ g) o.1) o.2)
    (hY : fk_yS y b n ret1 a) (hlink : Cond.methodLinkNest own ix y "PieFunnels" ∈ fk_nests) (hlen : As.length = a) (hcat : (stk1.map fun v => v.category).sum ≤ 8) (hfr1 : fr1 + 1 ≤ fr) (hlo1 : 8 + (n + 11) + lo1 ≤ lo) (hdg : decode cc pc = .ok (.invokestatic ix, 3))
    (kk : ∀ (r : Nat) (st1 : fkS), fk_J w g en k (pc + 3) lv (fk_q g r :: stk1) st1 (F1 r st1)) : fk_J w g en k pc lv stk st (fk_bind f F1) := by
  intro o ho hq
  subst hstk
  obtain ⟨r, st1, hf, ho⟩ := fk_bind_of ho
  have kk := kk r st1 o ho hq
  obtain ⟨p, l, e, R, s, m, args, below, meth, c, rv, sf⟩ := k
  obtain ⟨hx, hb, hml, hown, hts, hK, hE, hr, hlk, hinj, hfr, hlo⟩ := hk
  intro H locs ls hl hP hS
  have hM := hC l (r, st1) hf hinj H.size
  exact fk_after (va_runSN (As := As) (rest := stk1) ⟨hx, hb, hml, hown, hts⟩ hM (⟨va_cnB a hts (fkB_good hY.2.2.1) rfl rfl rfl (hE.1 _ hlink) (hts _ hY.2.1) hY.2.2.2 ⟨Nat.le_trans hfr1 hfr, Nat.le_trans hlo1 hlo⟩, hts _ hY.1, trivial⟩) ⟨fk_blind, fun U hU hW => fk_pre hK hE hP hS hU hW⟩ rfl hlen (hl.1.trans hml) rfl (lv_room hcat) hdg ⟨Nat.zero_le _, Nat.zero_le _⟩) hS
    (fun q h1 h2 => fk_A_up hS.1 q h2) (fk_A_up hS.1) (fun H1 locs1 hP1 hS1 => kk H1 locs1 ls hl hP1 hS1)
end
section
def kdCL : List Nat := [7, 9, 11, 5, 5, 5, 5, 5, 5, 5, 5, 10, 10, 10, 10, 10, 10, 10, 10, 0, 0, 0, 9, 9, 9, 9, 9, 9, 9, 9, 9, 9, 9, 9, 4, 9, 1, 9, 3, 9, 6, 6, 9, 9, 2, 9, 9, 9]
def lnCL : List Nat := [0, 8, 8, 0, 0, 0, 0, 0, 0, 0, 0, 160, 160, 160, 160, 160, 160, 160, 160, 0, 0, 0, 7, 7, 7, 7, 7, 7, 7, 7, 7, 40, 40, 40, 0, 3, 0, 20, 0, 8, 0, 0, 16, 16, 0, 7, 7, 7]
def kdML : List Nat := [8, 9, 9, 9, 9, 9, 9, 9, 10, 9, 9, 9, 9, 9, 9, 9, 9, 9, 9, 9, 9, 9]
def lnML : List Nat := [0, 7, 7, 7, 3, 40, 8, 8, 1280, 3, 67, 20, 8, 67, 8, 16, 7, 14, 7, 7, 7, 7]
def kdC (i : Nat) : Nat := kdCL.getD i 99
def lnC (i : Nat) : Nat := lnCL.getD i 0
def kdM (i : Nat) : Nat := kdML.getD i 99
def lnM (i : Nat) : Nat := lnML.getD i 0
def xEC (g : fkG) (st : fkS) (i : Nat) : va_E := match kdC i with
  | 0 => .inr (0, [.int (gI st 0 i), fk_r g (i + 3), fk_r g (i + 6), fk_r g (i + 9), fk_r g (i + 12), .int (gI st 5 i), .int (gI st 6 i), .int (gI st 7 i), .int (gI st 8 i), .int (gI st 9 i), .int (gI st 10 i)])
  | 1 => .inr (1, [fk_r g (i + 1), .int (gI st 21 i), .int (gI st 22 i), .int (gI st 23 i), .int (gI st 24 i)])
  | 2 => .inr (2, [.int (gI st 40 i), .int (gI st 41 i), fk_r g (i + 1), fk_r g (i + 2), fk_r g (i + 3)])
  | 3 => .inr (3, [fk_r g (i + 1), .int (gI st 61 i)])
  | 4 => .inr (4, [.int (gI st 80 i), .int (gI st 81 i), va_rf ((gT st).map g.1), fk_r g (i + 1)])
  | 5 => .inr (5, [.int (gI st 100 i), .int (gI st 101 i), .int (gI st 102 i), .int (gI st 103 i), fk_r g (i + 8)])
  | 6 => .inr (6, [.int (gI st 120 i), .int (gI st 121 i), .int (gI st 122 i), .int (gI st 123 i), .int (gI st 124 i), fk_r g (i + 2)])
  | 7 => .inr (7, [fk_r g 2, fk_r g 19, fk_r g 20, fk_r g 21, .int (gI st 144 i), fk_r g 34, fk_r g 36, fk_r g 38, fk_r g 40, fk_r g 41, fk_r g 44, fk_r g 1])
  | 9 => .inl (g.2.2.1.1, lnC i, .inl (gA st i))
  | 10 => .inl (g.2.2.1.2.1, lnC i, .inr (.inl (gL st i)))
  | 11 => .inl (g.2.2.1.2.2, 8, .inr (.inr (.inr (.inr (fun j => some (g.1 (3 + j)))))))
  | _ => .inl (g.2.2.1.1, 0, .inl (fun _ => 0))
def xEM (g : fkG) (st : fkS) (i : Nat) : va_E := match kdM i with
  | 8 => .inr (8, (.int (gI st 0 i) :: fk_r g 1 :: fk_r g 2 :: fk_r g 3 :: fk_r g 4 :: fk_r g 5 :: .int (gI st 6 i) :: .int (gI st 7 i) :: .int (gI st 8 i) :: fk_r g 6 :: fk_r g 7 :: fk_r g 8 :: .int (gI st 12 i) :: .int (gI st 13 i) :: fk_r g 9 :: .int (gI st 15 i) :: fk_r g 10 :: .int (gI st 17 i) :: fk_r g 11 :: fk_r g 12 :: .int (gI st 20 i) :: fk_r g 13 :: .int (gI st 22 i) :: fk_r g 14 :: .int (gI st 24 i) :: fk_r g 15 :: .int (gI st 26 i) :: .int (gI st 27 i) :: fk_r g 16 :: fk_r g 17 :: fk_r g 18 :: .int (gI st 31 i) :: fk_r g 19 :: fk_r g 20 :: fk_r g 21 :: .int (gI st 35 i) :: .int (gI st 36 i) :: []))
  | 9 => .inl (g.2.2.1.1, lnM i, .inl (gA st i))
  | 10 => .inl (g.2.2.1.2.1, lnM i, .inr (.inl (gL st i)))
  | _ => .inl (g.2.2.1.1, 0, .inl (fun _ => 0))
def wC : fkW := (xEC, 48)
def wM : fkW := (xEM, 22)
theorem kdC_lt {i : Nat} (h : kdC i ≠ 99) : i < 48 := by
  rcases Nat.lt_or_ge i 48 with h1 | h1
  · exact h1
  · exfalso
    apply h
    unfold kdC
    rw [List.getD_eq_getElem?_getD, List.getElem?_eq_none (by rw [show kdCL.length = 48 from rfl]; exact h1)]
    rfl
theorem xEC_I {g : fkG} {st : fkS} {f i j : Nat} {v : Int32} (h : j ≠ i) : xEC g (sI st f i v) j = xEC g st j := by
  simp only [xEC, gI_sI, gA_sI, gL_sI, gT_sI, h, and_false, if_false]
theorem xEC_A {g : fkG} {st : fkS} {i j : Nat} {v : Nat → Int32} (h : j ≠ i) : xEC g (sAF st i v) j = xEC g st j := by
  simp only [xEC, gI_sAF, gA_sAF, gL_sAF, gT_sAF, h, if_false]
theorem xEC_L {g : fkG} {st : fkS} {i j : Nat} {v : Nat → Int64} (h : j ≠ i) : xEC g (sLF st i v) j = xEC g st j := by
  simp only [xEC, gI_sLF, gA_sLF, gL_sLF, gT_sLF, h, if_false]
theorem kdM_lt {i : Nat} (h : kdM i ≠ 99) : i < 22 := by
  rcases Nat.lt_or_ge i 22 with h1 | h1
  · exact h1
  · exfalso
    apply h
    unfold kdM
    rw [List.getD_eq_getElem?_getD, List.getElem?_eq_none (by rw [show kdML.length = 22 from rfl]; exact h1)]
    rfl
theorem xEM_I {g : fkG} {st : fkS} {f i j : Nat} {v : Int32} (h : j ≠ i) : xEM g (sI st f i v) j = xEM g st j := by
  simp only [xEM, gI_sI, gA_sI, gL_sI, gT_sI, h, and_false, if_false]
theorem xEM_A {g : fkG} {st : fkS} {i j : Nat} {v : Nat → Int32} (h : j ≠ i) : xEM g (sAF st i v) j = xEM g st j := by
  simp only [xEM, gI_sAF, gA_sAF, gL_sAF, gT_sAF, h, if_false]
theorem xEM_L {g : fkG} {st : fkS} {i j : Nat} {v : Nat → Int64} (h : j ≠ i) : xEM g (sLF st i v) j = xEM g st j := by
  simp only [xEM, gI_sLF, gA_sLF, gL_sLF, gT_sLF, h, if_false]
theorem kdC_4 : ∀ j, kdC j = 4 → j = 34 := by
  intro j h
  have h1 : j < 48 := kdC_lt (by rw [h]; decide)
  exact (show ∀ j, j < 48 → kdC j = 4 → j = 34 from by decide +kernel) j h1 h
theorem xEC_T {g : fkG} {st : fkS} {j : Nat} {t : Option Nat} (h : j ≠ 34) : xEC g (sT st t) j = xEC g st j := by
  have h4 : kdC j ≠ 4 := fun q => h (kdC_4 j q)
  unfold xEC
  split <;> first | rfl | (rename_i q; exact absurd q h4)
theorem at_0 {g : fkG} {st : fkS} {i : Nat} (h : kdC i = 0) : xEC g st i = .inr (0, [.int (gI st 0 i), fk_r g (i + 3), fk_r g (i + 6), fk_r g (i + 9), fk_r g (i + 12), .int (gI st 5 i), .int (gI st 6 i), .int (gI st 7 i), .int (gI st 8 i), .int (gI st 9 i), .int (gI st 10 i)]) := by
  unfold xEC
  rw [h]
  first | done | rfl
theorem wat_0 {g : fkG} {st : fkS} {i : Nat} (h : kdC i = 0) : (fk_ws wC g st)[i]? = some (g.1 i, .inr (0, [.int (gI st 0 i), fk_r g (i + 3), fk_r g (i + 6), fk_r g (i + 9), fk_r g (i + 12), .int (gI st 5 i), .int (gI st 6 i), .int (gI st 7 i), .int (gI st 8 i), .int (gI st 9 i), .int (gI st 10 i)])) := by
  rw [fk_wat (w := wC) (kdC_lt (by rw [h]; decide))]
  show some (g.1 i, xEC g st i) = _
  rw [at_0 h]
theorem rcv_0 {g : fkG} {i : Nat} (h : kdC i = 0) : fk_rcv wC g i RX0 := by
  refine ⟨kdC_lt (by rw [h]; decide), fun st => ⟨0, _, _, at_0 h, rfl, rfl⟩⟩
theorem wB_0 : ∀ w ∈ u_ws RX0 TX0 11, w ∈ fkB := fun w h => fkB_in ((show ∀ w ∈ u_ws RX0 TX0 11, w ∈ lw_tbl from by decide +kernel) w h) (List.all_eq_true.mp (show (u_ws RX0 TX0 11).all goodWord = true from by decide +kernel) w h)
theorem wst_0_0 {g : fkG} {st : fkS} {i : Nat} {v : Int32} (h : kdC i = 0) : (fk_ws wC g st).set i (g.1 i, .inr (0, [.int v, fk_r g (i + 3), fk_r g (i + 6), fk_r g (i + 9), fk_r g (i + 12), .int (gI st 5 i), .int (gI st 6 i), .int (gI st 7 i), .int (gI st 8 i), .int (gI st 9 i), .int (gI st 10 i)])) = fk_ws wC g (sI st 0 i v) := by
  refine fk_wset (w := wC) (kdC_lt (by rw [h]; decide)) (fun j _ hj => xEC_I hj) ?_
  show xEC g (sI st 0 i v) i = _
  rw [at_0 h]
  simp [gI_sI, gT_sI]
theorem wst_0_5 {g : fkG} {st : fkS} {i : Nat} {v : Int32} (h : kdC i = 0) : (fk_ws wC g st).set i (g.1 i, .inr (0, [.int (gI st 0 i), fk_r g (i + 3), fk_r g (i + 6), fk_r g (i + 9), fk_r g (i + 12), .int v, .int (gI st 6 i), .int (gI st 7 i), .int (gI st 8 i), .int (gI st 9 i), .int (gI st 10 i)])) = fk_ws wC g (sI st 5 i v) := by
  refine fk_wset (w := wC) (kdC_lt (by rw [h]; decide)) (fun j _ hj => xEC_I hj) ?_
  show xEC g (sI st 5 i v) i = _
  rw [at_0 h]
  simp [gI_sI, gT_sI]
theorem wst_0_6 {g : fkG} {st : fkS} {i : Nat} {v : Int32} (h : kdC i = 0) : (fk_ws wC g st).set i (g.1 i, .inr (0, [.int (gI st 0 i), fk_r g (i + 3), fk_r g (i + 6), fk_r g (i + 9), fk_r g (i + 12), .int (gI st 5 i), .int v, .int (gI st 7 i), .int (gI st 8 i), .int (gI st 9 i), .int (gI st 10 i)])) = fk_ws wC g (sI st 6 i v) := by
  refine fk_wset (w := wC) (kdC_lt (by rw [h]; decide)) (fun j _ hj => xEC_I hj) ?_
  show xEC g (sI st 6 i v) i = _
  rw [at_0 h]
  simp [gI_sI, gT_sI]
theorem wst_0_7 {g : fkG} {st : fkS} {i : Nat} {v : Int32} (h : kdC i = 0) : (fk_ws wC g st).set i (g.1 i, .inr (0, [.int (gI st 0 i), fk_r g (i + 3), fk_r g (i + 6), fk_r g (i + 9), fk_r g (i + 12), .int (gI st 5 i), .int (gI st 6 i), .int v, .int (gI st 8 i), .int (gI st 9 i), .int (gI st 10 i)])) = fk_ws wC g (sI st 7 i v) := by
  refine fk_wset (w := wC) (kdC_lt (by rw [h]; decide)) (fun j _ hj => xEC_I hj) ?_
  show xEC g (sI st 7 i v) i = _
  rw [at_0 h]
  simp [gI_sI, gT_sI]
theorem wst_0_8 {g : fkG} {st : fkS} {i : Nat} {v : Int32} (h : kdC i = 0) : (fk_ws wC g st).set i (g.1 i, .inr (0, [.int (gI st 0 i), fk_r g (i + 3), fk_r g (i + 6), fk_r g (i + 9), fk_r g (i + 12), .int (gI st 5 i), .int (gI st 6 i), .int (gI st 7 i), .int v, .int (gI st 9 i), .int (gI st 10 i)])) = fk_ws wC g (sI st 8 i v) := by
  refine fk_wset (w := wC) (kdC_lt (by rw [h]; decide)) (fun j _ hj => xEC_I hj) ?_
  show xEC g (sI st 8 i v) i = _
  rw [at_0 h]
  simp [gI_sI, gT_sI]
theorem wst_0_9 {g : fkG} {st : fkS} {i : Nat} {v : Int32} (h : kdC i = 0) : (fk_ws wC g st).set i (g.1 i, .inr (0, [.int (gI st 0 i), fk_r g (i + 3), fk_r g (i + 6), fk_r g (i + 9), fk_r g (i + 12), .int (gI st 5 i), .int (gI st 6 i), .int (gI st 7 i), .int (gI st 8 i), .int v, .int (gI st 10 i)])) = fk_ws wC g (sI st 9 i v) := by
  refine fk_wset (w := wC) (kdC_lt (by rw [h]; decide)) (fun j _ hj => xEC_I hj) ?_
  show xEC g (sI st 9 i v) i = _
  rw [at_0 h]
  simp [gI_sI, gT_sI]
theorem wst_0_10 {g : fkG} {st : fkS} {i : Nat} {v : Int32} (h : kdC i = 0) : (fk_ws wC g st).set i (g.1 i, .inr (0, [.int (gI st 0 i), fk_r g (i + 3), fk_r g (i + 6), fk_r g (i + 9), fk_r g (i + 12), .int (gI st 5 i), .int (gI st 6 i), .int (gI st 7 i), .int (gI st 8 i), .int (gI st 9 i), .int v])) = fk_ws wC g (sI st 10 i v) := by
  refine fk_wset (w := wC) (kdC_lt (by rw [h]; decide)) (fun j _ hj => xEC_I hj) ?_
  show xEC g (sI st 10 i v) i = _
  rw [at_0 h]
  simp [gI_sI, gT_sI]
theorem at_1 {g : fkG} {st : fkS} {i : Nat} (h : kdC i = 1) : xEC g st i = .inr (1, [fk_r g (i + 1), .int (gI st 21 i), .int (gI st 22 i), .int (gI st 23 i), .int (gI st 24 i)]) := by
  unfold xEC
  rw [h]
  first | done | rfl
theorem wat_1 {g : fkG} {st : fkS} {i : Nat} (h : kdC i = 1) : (fk_ws wC g st)[i]? = some (g.1 i, .inr (1, [fk_r g (i + 1), .int (gI st 21 i), .int (gI st 22 i), .int (gI st 23 i), .int (gI st 24 i)])) := by
  rw [fk_wat (w := wC) (kdC_lt (by rw [h]; decide))]
  show some (g.1 i, xEC g st i) = _
  rw [at_1 h]
theorem rcv_1 {g : fkG} {i : Nat} (h : kdC i = 1) : fk_rcv wC g i RX1 := by
  refine ⟨kdC_lt (by rw [h]; decide), fun st => ⟨1, _, _, at_1 h, rfl, rfl⟩⟩
theorem wB_1 : ∀ w ∈ u_ws RX1 TX1 5, w ∈ fkB := fun w h => fkB_in ((show ∀ w ∈ u_ws RX1 TX1 5, w ∈ lw_tbl from by decide +kernel) w h) (List.all_eq_true.mp (show (u_ws RX1 TX1 5).all goodWord = true from by decide +kernel) w h)
theorem wst_1_1 {g : fkG} {st : fkS} {i : Nat} {v : Int32} (h : kdC i = 1) : (fk_ws wC g st).set i (g.1 i, .inr (1, [fk_r g (i + 1), .int v, .int (gI st 22 i), .int (gI st 23 i), .int (gI st 24 i)])) = fk_ws wC g (sI st 21 i v) := by
  refine fk_wset (w := wC) (kdC_lt (by rw [h]; decide)) (fun j _ hj => xEC_I hj) ?_
  show xEC g (sI st 21 i v) i = _
  rw [at_1 h]
  simp [gI_sI, gT_sI]
theorem wst_1_2 {g : fkG} {st : fkS} {i : Nat} {v : Int32} (h : kdC i = 1) : (fk_ws wC g st).set i (g.1 i, .inr (1, [fk_r g (i + 1), .int (gI st 21 i), .int v, .int (gI st 23 i), .int (gI st 24 i)])) = fk_ws wC g (sI st 22 i v) := by
  refine fk_wset (w := wC) (kdC_lt (by rw [h]; decide)) (fun j _ hj => xEC_I hj) ?_
  show xEC g (sI st 22 i v) i = _
  rw [at_1 h]
  simp [gI_sI, gT_sI]
theorem wst_1_3 {g : fkG} {st : fkS} {i : Nat} {v : Int32} (h : kdC i = 1) : (fk_ws wC g st).set i (g.1 i, .inr (1, [fk_r g (i + 1), .int (gI st 21 i), .int (gI st 22 i), .int v, .int (gI st 24 i)])) = fk_ws wC g (sI st 23 i v) := by
  refine fk_wset (w := wC) (kdC_lt (by rw [h]; decide)) (fun j _ hj => xEC_I hj) ?_
  show xEC g (sI st 23 i v) i = _
  rw [at_1 h]
  simp [gI_sI, gT_sI]
theorem wst_1_4 {g : fkG} {st : fkS} {i : Nat} {v : Int32} (h : kdC i = 1) : (fk_ws wC g st).set i (g.1 i, .inr (1, [fk_r g (i + 1), .int (gI st 21 i), .int (gI st 22 i), .int (gI st 23 i), .int v])) = fk_ws wC g (sI st 24 i v) := by
  refine fk_wset (w := wC) (kdC_lt (by rw [h]; decide)) (fun j _ hj => xEC_I hj) ?_
  show xEC g (sI st 24 i v) i = _
  rw [at_1 h]
  simp [gI_sI, gT_sI]
theorem at_2 {g : fkG} {st : fkS} {i : Nat} (h : kdC i = 2) : xEC g st i = .inr (2, [.int (gI st 40 i), .int (gI st 41 i), fk_r g (i + 1), fk_r g (i + 2), fk_r g (i + 3)]) := by
  unfold xEC
  rw [h]
  first | done | rfl
theorem wat_2 {g : fkG} {st : fkS} {i : Nat} (h : kdC i = 2) : (fk_ws wC g st)[i]? = some (g.1 i, .inr (2, [.int (gI st 40 i), .int (gI st 41 i), fk_r g (i + 1), fk_r g (i + 2), fk_r g (i + 3)])) := by
  rw [fk_wat (w := wC) (kdC_lt (by rw [h]; decide))]
  show some (g.1 i, xEC g st i) = _
  rw [at_2 h]
theorem rcv_2 {g : fkG} {i : Nat} (h : kdC i = 2) : fk_rcv wC g i RX2 := by
  refine ⟨kdC_lt (by rw [h]; decide), fun st => ⟨2, _, _, at_2 h, rfl, rfl⟩⟩
theorem wB_2 : ∀ w ∈ u_ws RX2 TX2 5, w ∈ fkB := fun w h => fkB_in ((show ∀ w ∈ u_ws RX2 TX2 5, w ∈ lw_tbl from by decide +kernel) w h) (List.all_eq_true.mp (show (u_ws RX2 TX2 5).all goodWord = true from by decide +kernel) w h)
theorem wst_2_0 {g : fkG} {st : fkS} {i : Nat} {v : Int32} (h : kdC i = 2) : (fk_ws wC g st).set i (g.1 i, .inr (2, [.int v, .int (gI st 41 i), fk_r g (i + 1), fk_r g (i + 2), fk_r g (i + 3)])) = fk_ws wC g (sI st 40 i v) := by
  refine fk_wset (w := wC) (kdC_lt (by rw [h]; decide)) (fun j _ hj => xEC_I hj) ?_
  show xEC g (sI st 40 i v) i = _
  rw [at_2 h]
  simp [gI_sI, gT_sI]
theorem wst_2_1 {g : fkG} {st : fkS} {i : Nat} {v : Int32} (h : kdC i = 2) : (fk_ws wC g st).set i (g.1 i, .inr (2, [.int (gI st 40 i), .int v, fk_r g (i + 1), fk_r g (i + 2), fk_r g (i + 3)])) = fk_ws wC g (sI st 41 i v) := by
  refine fk_wset (w := wC) (kdC_lt (by rw [h]; decide)) (fun j _ hj => xEC_I hj) ?_
  show xEC g (sI st 41 i v) i = _
  rw [at_2 h]
  simp [gI_sI, gT_sI]
theorem at_3 {g : fkG} {st : fkS} {i : Nat} (h : kdC i = 3) : xEC g st i = .inr (3, [fk_r g (i + 1), .int (gI st 61 i)]) := by
  unfold xEC
  rw [h]
  first | done | rfl
theorem wat_3 {g : fkG} {st : fkS} {i : Nat} (h : kdC i = 3) : (fk_ws wC g st)[i]? = some (g.1 i, .inr (3, [fk_r g (i + 1), .int (gI st 61 i)])) := by
  rw [fk_wat (w := wC) (kdC_lt (by rw [h]; decide))]
  show some (g.1 i, xEC g st i) = _
  rw [at_3 h]
theorem rcv_3 {g : fkG} {i : Nat} (h : kdC i = 3) : fk_rcv wC g i RX3 := by
  refine ⟨kdC_lt (by rw [h]; decide), fun st => ⟨3, _, _, at_3 h, rfl, rfl⟩⟩
theorem wB_3 : ∀ w ∈ u_ws RX3 TX3 2, w ∈ fkB := fun w h => fkB_in ((show ∀ w ∈ u_ws RX3 TX3 2, w ∈ lw_tbl from by decide +kernel) w h) (List.all_eq_true.mp (show (u_ws RX3 TX3 2).all goodWord = true from by decide +kernel) w h)
theorem wst_3_1 {g : fkG} {st : fkS} {i : Nat} {v : Int32} (h : kdC i = 3) : (fk_ws wC g st).set i (g.1 i, .inr (3, [fk_r g (i + 1), .int v])) = fk_ws wC g (sI st 61 i v) := by
  refine fk_wset (w := wC) (kdC_lt (by rw [h]; decide)) (fun j _ hj => xEC_I hj) ?_
  show xEC g (sI st 61 i v) i = _
  rw [at_3 h]
  simp [gI_sI, gT_sI]
theorem at_4 {g : fkG} {st : fkS} {i : Nat} (h : kdC i = 4) : xEC g st i = .inr (4, [.int (gI st 80 i), .int (gI st 81 i), va_rf ((gT st).map g.1), fk_r g (i + 1)]) := by
  unfold xEC
  rw [h]
  first | done | rfl
theorem wat_4 {g : fkG} {st : fkS} {i : Nat} (h : kdC i = 4) : (fk_ws wC g st)[i]? = some (g.1 i, .inr (4, [.int (gI st 80 i), .int (gI st 81 i), va_rf ((gT st).map g.1), fk_r g (i + 1)])) := by
  rw [fk_wat (w := wC) (kdC_lt (by rw [h]; decide))]
  show some (g.1 i, xEC g st i) = _
  rw [at_4 h]
theorem rcv_4 {g : fkG} {i : Nat} (h : kdC i = 4) : fk_rcv wC g i RX4 := by
  refine ⟨kdC_lt (by rw [h]; decide), fun st => ⟨4, _, _, at_4 h, rfl, rfl⟩⟩
theorem wB_4 : ∀ w ∈ u_ws RX4 TX4 4, w ∈ fkB := fun w h => fkB_in ((show ∀ w ∈ u_ws RX4 TX4 4, w ∈ lw_tbl from by decide +kernel) w h) (List.all_eq_true.mp (show (u_ws RX4 TX4 4).all goodWord = true from by decide +kernel) w h)
theorem wst_4_0 {g : fkG} {st : fkS} {i : Nat} {v : Int32} (h : kdC i = 4) : (fk_ws wC g st).set i (g.1 i, .inr (4, [.int v, .int (gI st 81 i), va_rf ((gT st).map g.1), fk_r g (i + 1)])) = fk_ws wC g (sI st 80 i v) := by
  refine fk_wset (w := wC) (kdC_lt (by rw [h]; decide)) (fun j _ hj => xEC_I hj) ?_
  show xEC g (sI st 80 i v) i = _
  rw [at_4 h]
  simp [gI_sI, gT_sI]
theorem wst_4_1 {g : fkG} {st : fkS} {i : Nat} {v : Int32} (h : kdC i = 4) : (fk_ws wC g st).set i (g.1 i, .inr (4, [.int (gI st 80 i), .int v, va_rf ((gT st).map g.1), fk_r g (i + 1)])) = fk_ws wC g (sI st 81 i v) := by
  refine fk_wset (w := wC) (kdC_lt (by rw [h]; decide)) (fun j _ hj => xEC_I hj) ?_
  show xEC g (sI st 81 i v) i = _
  rw [at_4 h]
  simp [gI_sI, gT_sI]
theorem at_5 {g : fkG} {st : fkS} {i : Nat} (h : kdC i = 5) : xEC g st i = .inr (5, [.int (gI st 100 i), .int (gI st 101 i), .int (gI st 102 i), .int (gI st 103 i), fk_r g (i + 8)]) := by
  unfold xEC
  rw [h]
  first | done | rfl
theorem wat_5 {g : fkG} {st : fkS} {i : Nat} (h : kdC i = 5) : (fk_ws wC g st)[i]? = some (g.1 i, .inr (5, [.int (gI st 100 i), .int (gI st 101 i), .int (gI st 102 i), .int (gI st 103 i), fk_r g (i + 8)])) := by
  rw [fk_wat (w := wC) (kdC_lt (by rw [h]; decide))]
  show some (g.1 i, xEC g st i) = _
  rw [at_5 h]
theorem rcv_5 {g : fkG} {i : Nat} (h : kdC i = 5) : fk_rcv wC g i RX5 := by
  refine ⟨kdC_lt (by rw [h]; decide), fun st => ⟨5, _, _, at_5 h, rfl, rfl⟩⟩
theorem wB_5 : ∀ w ∈ u_ws RX5 TX5 5, w ∈ fkB := fun w h => fkB_in ((show ∀ w ∈ u_ws RX5 TX5 5, w ∈ lw_tbl from by decide +kernel) w h) (List.all_eq_true.mp (show (u_ws RX5 TX5 5).all goodWord = true from by decide +kernel) w h)
theorem wst_5_0 {g : fkG} {st : fkS} {i : Nat} {v : Int32} (h : kdC i = 5) : (fk_ws wC g st).set i (g.1 i, .inr (5, [.int v, .int (gI st 101 i), .int (gI st 102 i), .int (gI st 103 i), fk_r g (i + 8)])) = fk_ws wC g (sI st 100 i v) := by
  refine fk_wset (w := wC) (kdC_lt (by rw [h]; decide)) (fun j _ hj => xEC_I hj) ?_
  show xEC g (sI st 100 i v) i = _
  rw [at_5 h]
  simp [gI_sI, gT_sI]
theorem wst_5_1 {g : fkG} {st : fkS} {i : Nat} {v : Int32} (h : kdC i = 5) : (fk_ws wC g st).set i (g.1 i, .inr (5, [.int (gI st 100 i), .int v, .int (gI st 102 i), .int (gI st 103 i), fk_r g (i + 8)])) = fk_ws wC g (sI st 101 i v) := by
  refine fk_wset (w := wC) (kdC_lt (by rw [h]; decide)) (fun j _ hj => xEC_I hj) ?_
  show xEC g (sI st 101 i v) i = _
  rw [at_5 h]
  simp [gI_sI, gT_sI]
theorem wst_5_2 {g : fkG} {st : fkS} {i : Nat} {v : Int32} (h : kdC i = 5) : (fk_ws wC g st).set i (g.1 i, .inr (5, [.int (gI st 100 i), .int (gI st 101 i), .int v, .int (gI st 103 i), fk_r g (i + 8)])) = fk_ws wC g (sI st 102 i v) := by
  refine fk_wset (w := wC) (kdC_lt (by rw [h]; decide)) (fun j _ hj => xEC_I hj) ?_
  show xEC g (sI st 102 i v) i = _
  rw [at_5 h]
  simp [gI_sI, gT_sI]
theorem wst_5_3 {g : fkG} {st : fkS} {i : Nat} {v : Int32} (h : kdC i = 5) : (fk_ws wC g st).set i (g.1 i, .inr (5, [.int (gI st 100 i), .int (gI st 101 i), .int (gI st 102 i), .int v, fk_r g (i + 8)])) = fk_ws wC g (sI st 103 i v) := by
  refine fk_wset (w := wC) (kdC_lt (by rw [h]; decide)) (fun j _ hj => xEC_I hj) ?_
  show xEC g (sI st 103 i v) i = _
  rw [at_5 h]
  simp [gI_sI, gT_sI]
theorem at_6 {g : fkG} {st : fkS} {i : Nat} (h : kdC i = 6) : xEC g st i = .inr (6, [.int (gI st 120 i), .int (gI st 121 i), .int (gI st 122 i), .int (gI st 123 i), .int (gI st 124 i), fk_r g (i + 2)]) := by
  unfold xEC
  rw [h]
  first | done | rfl
theorem wat_6 {g : fkG} {st : fkS} {i : Nat} (h : kdC i = 6) : (fk_ws wC g st)[i]? = some (g.1 i, .inr (6, [.int (gI st 120 i), .int (gI st 121 i), .int (gI st 122 i), .int (gI st 123 i), .int (gI st 124 i), fk_r g (i + 2)])) := by
  rw [fk_wat (w := wC) (kdC_lt (by rw [h]; decide))]
  show some (g.1 i, xEC g st i) = _
  rw [at_6 h]
theorem rcv_6 {g : fkG} {i : Nat} (h : kdC i = 6) : fk_rcv wC g i RX6 := by
  refine ⟨kdC_lt (by rw [h]; decide), fun st => ⟨6, _, _, at_6 h, rfl, rfl⟩⟩
theorem wB_6 : ∀ w ∈ u_ws RX6 TX6 6, w ∈ fkB := fun w h => fkB_in ((show ∀ w ∈ u_ws RX6 TX6 6, w ∈ lw_tbl from by decide +kernel) w h) (List.all_eq_true.mp (show (u_ws RX6 TX6 6).all goodWord = true from by decide +kernel) w h)
theorem wst_6_0 {g : fkG} {st : fkS} {i : Nat} {v : Int32} (h : kdC i = 6) : (fk_ws wC g st).set i (g.1 i, .inr (6, [.int v, .int (gI st 121 i), .int (gI st 122 i), .int (gI st 123 i), .int (gI st 124 i), fk_r g (i + 2)])) = fk_ws wC g (sI st 120 i v) := by
  refine fk_wset (w := wC) (kdC_lt (by rw [h]; decide)) (fun j _ hj => xEC_I hj) ?_
  show xEC g (sI st 120 i v) i = _
  rw [at_6 h]
  simp [gI_sI, gT_sI]
theorem wst_6_1 {g : fkG} {st : fkS} {i : Nat} {v : Int32} (h : kdC i = 6) : (fk_ws wC g st).set i (g.1 i, .inr (6, [.int (gI st 120 i), .int v, .int (gI st 122 i), .int (gI st 123 i), .int (gI st 124 i), fk_r g (i + 2)])) = fk_ws wC g (sI st 121 i v) := by
  refine fk_wset (w := wC) (kdC_lt (by rw [h]; decide)) (fun j _ hj => xEC_I hj) ?_
  show xEC g (sI st 121 i v) i = _
  rw [at_6 h]
  simp [gI_sI, gT_sI]
theorem wst_6_2 {g : fkG} {st : fkS} {i : Nat} {v : Int32} (h : kdC i = 6) : (fk_ws wC g st).set i (g.1 i, .inr (6, [.int (gI st 120 i), .int (gI st 121 i), .int v, .int (gI st 123 i), .int (gI st 124 i), fk_r g (i + 2)])) = fk_ws wC g (sI st 122 i v) := by
  refine fk_wset (w := wC) (kdC_lt (by rw [h]; decide)) (fun j _ hj => xEC_I hj) ?_
  show xEC g (sI st 122 i v) i = _
  rw [at_6 h]
  simp [gI_sI, gT_sI]
theorem wst_6_3 {g : fkG} {st : fkS} {i : Nat} {v : Int32} (h : kdC i = 6) : (fk_ws wC g st).set i (g.1 i, .inr (6, [.int (gI st 120 i), .int (gI st 121 i), .int (gI st 122 i), .int v, .int (gI st 124 i), fk_r g (i + 2)])) = fk_ws wC g (sI st 123 i v) := by
  refine fk_wset (w := wC) (kdC_lt (by rw [h]; decide)) (fun j _ hj => xEC_I hj) ?_
  show xEC g (sI st 123 i v) i = _
  rw [at_6 h]
  simp [gI_sI, gT_sI]
theorem wst_6_4 {g : fkG} {st : fkS} {i : Nat} {v : Int32} (h : kdC i = 6) : (fk_ws wC g st).set i (g.1 i, .inr (6, [.int (gI st 120 i), .int (gI st 121 i), .int (gI st 122 i), .int (gI st 123 i), .int v, fk_r g (i + 2)])) = fk_ws wC g (sI st 124 i v) := by
  refine fk_wset (w := wC) (kdC_lt (by rw [h]; decide)) (fun j _ hj => xEC_I hj) ?_
  show xEC g (sI st 124 i v) i = _
  rw [at_6 h]
  simp [gI_sI, gT_sI]
theorem at_7 {g : fkG} {st : fkS} {i : Nat} (h : kdC i = 7) : xEC g st i = .inr (7, [fk_r g 2, fk_r g 19, fk_r g 20, fk_r g 21, .int (gI st 144 i), fk_r g 34, fk_r g 36, fk_r g 38, fk_r g 40, fk_r g 41, fk_r g 44, fk_r g 1]) := by
  unfold xEC
  rw [h]
  first | done | rfl
theorem wat_7 {g : fkG} {st : fkS} {i : Nat} (h : kdC i = 7) : (fk_ws wC g st)[i]? = some (g.1 i, .inr (7, [fk_r g 2, fk_r g 19, fk_r g 20, fk_r g 21, .int (gI st 144 i), fk_r g 34, fk_r g 36, fk_r g 38, fk_r g 40, fk_r g 41, fk_r g 44, fk_r g 1])) := by
  rw [fk_wat (w := wC) (kdC_lt (by rw [h]; decide))]
  show some (g.1 i, xEC g st i) = _
  rw [at_7 h]
theorem rcv_7 {g : fkG} {i : Nat} (h : kdC i = 7) : fk_rcv wC g i RX7 := by
  refine ⟨kdC_lt (by rw [h]; decide), fun st => ⟨7, _, _, at_7 h, rfl, rfl⟩⟩
theorem wB_7 : ∀ w ∈ u_ws RX7 TX7 12, w ∈ fkB := fun w h => fkB_in ((show ∀ w ∈ u_ws RX7 TX7 12, w ∈ lw_tbl from by decide +kernel) w h) (List.all_eq_true.mp (show (u_ws RX7 TX7 12).all goodWord = true from by decide +kernel) w h)
theorem wst_7_4 {g : fkG} {st : fkS} {i : Nat} {v : Int32} (h : kdC i = 7) : (fk_ws wC g st).set i (g.1 i, .inr (7, [fk_r g 2, fk_r g 19, fk_r g 20, fk_r g 21, .int v, fk_r g 34, fk_r g 36, fk_r g 38, fk_r g 40, fk_r g 41, fk_r g 44, fk_r g 1])) = fk_ws wC g (sI st 144 i v) := by
  refine fk_wset (w := wC) (kdC_lt (by rw [h]; decide)) (fun j _ hj => xEC_I hj) ?_
  show xEC g (sI st 144 i v) i = _
  rw [at_7 h]
  simp [gI_sI, gT_sI]
theorem at_8 {g : fkG} {st : fkS} {i : Nat} (h : kdM i = 8) : xEM g st i = .inr (8, (.int (gI st 0 i) :: fk_r g 1 :: fk_r g 2 :: fk_r g 3 :: fk_r g 4 :: fk_r g 5 :: .int (gI st 6 i) :: .int (gI st 7 i) :: .int (gI st 8 i) :: fk_r g 6 :: fk_r g 7 :: fk_r g 8 :: .int (gI st 12 i) :: .int (gI st 13 i) :: fk_r g 9 :: .int (gI st 15 i) :: fk_r g 10 :: .int (gI st 17 i) :: fk_r g 11 :: fk_r g 12 :: .int (gI st 20 i) :: fk_r g 13 :: .int (gI st 22 i) :: fk_r g 14 :: .int (gI st 24 i) :: fk_r g 15 :: .int (gI st 26 i) :: .int (gI st 27 i) :: fk_r g 16 :: fk_r g 17 :: fk_r g 18 :: .int (gI st 31 i) :: fk_r g 19 :: fk_r g 20 :: fk_r g 21 :: .int (gI st 35 i) :: .int (gI st 36 i) :: [])) := by
  unfold xEM
  rw [h]
  first | done | rfl
theorem wat_8 {g : fkG} {st : fkS} {i : Nat} (h : kdM i = 8) : (fk_ws wM g st)[i]? = some (g.1 i, .inr (8, (.int (gI st 0 i) :: fk_r g 1 :: fk_r g 2 :: fk_r g 3 :: fk_r g 4 :: fk_r g 5 :: .int (gI st 6 i) :: .int (gI st 7 i) :: .int (gI st 8 i) :: fk_r g 6 :: fk_r g 7 :: fk_r g 8 :: .int (gI st 12 i) :: .int (gI st 13 i) :: fk_r g 9 :: .int (gI st 15 i) :: fk_r g 10 :: .int (gI st 17 i) :: fk_r g 11 :: fk_r g 12 :: .int (gI st 20 i) :: fk_r g 13 :: .int (gI st 22 i) :: fk_r g 14 :: .int (gI st 24 i) :: fk_r g 15 :: .int (gI st 26 i) :: .int (gI st 27 i) :: fk_r g 16 :: fk_r g 17 :: fk_r g 18 :: .int (gI st 31 i) :: fk_r g 19 :: fk_r g 20 :: fk_r g 21 :: .int (gI st 35 i) :: .int (gI st 36 i) :: []))) := by
  rw [fk_wat (w := wM) (kdM_lt (by rw [h]; decide))]
  show some (g.1 i, xEM g st i) = _
  rw [at_8 h]
theorem rcv_8 {g : fkG} {i : Nat} (h : kdM i = 8) : fk_rcv wM g i RX8 := by
  refine ⟨kdM_lt (by rw [h]; decide), fun st => ⟨8, _, _, at_8 h, rfl, rfl⟩⟩
theorem wB_8 : ∀ w ∈ u_ws RX8 TX8 37, w ∈ fkB := fun w h => fkB_in ((show ∀ w ∈ u_ws RX8 TX8 37, w ∈ lw_tbl from by decide +kernel) w h) (List.all_eq_true.mp (show (u_ws RX8 TX8 37).all goodWord = true from by decide +kernel) w h)
theorem wst_8_0 {g : fkG} {st : fkS} {i : Nat} {v : Int32} (h : kdM i = 8) : (fk_ws wM g st).set i (g.1 i, .inr (8, (.int v :: fk_r g 1 :: fk_r g 2 :: fk_r g 3 :: fk_r g 4 :: fk_r g 5 :: .int (gI st 6 i) :: .int (gI st 7 i) :: .int (gI st 8 i) :: fk_r g 6 :: fk_r g 7 :: fk_r g 8 :: .int (gI st 12 i) :: .int (gI st 13 i) :: fk_r g 9 :: .int (gI st 15 i) :: fk_r g 10 :: .int (gI st 17 i) :: fk_r g 11 :: fk_r g 12 :: .int (gI st 20 i) :: fk_r g 13 :: .int (gI st 22 i) :: fk_r g 14 :: .int (gI st 24 i) :: fk_r g 15 :: .int (gI st 26 i) :: .int (gI st 27 i) :: fk_r g 16 :: fk_r g 17 :: fk_r g 18 :: .int (gI st 31 i) :: fk_r g 19 :: fk_r g 20 :: fk_r g 21 :: .int (gI st 35 i) :: .int (gI st 36 i) :: []))) = fk_ws wM g (sI st 0 i v) := by
  refine fk_wset (w := wM) (kdM_lt (by rw [h]; decide)) (fun j _ hj => xEM_I hj) ?_
  show xEM g (sI st 0 i v) i = _
  rw [at_8 h]
  simp [gI_sI, gT_sI]
theorem wst_8_6 {g : fkG} {st : fkS} {i : Nat} {v : Int32} (h : kdM i = 8) : (fk_ws wM g st).set i (g.1 i, .inr (8, (.int (gI st 0 i) :: fk_r g 1 :: fk_r g 2 :: fk_r g 3 :: fk_r g 4 :: fk_r g 5 :: .int v :: .int (gI st 7 i) :: .int (gI st 8 i) :: fk_r g 6 :: fk_r g 7 :: fk_r g 8 :: .int (gI st 12 i) :: .int (gI st 13 i) :: fk_r g 9 :: .int (gI st 15 i) :: fk_r g 10 :: .int (gI st 17 i) :: fk_r g 11 :: fk_r g 12 :: .int (gI st 20 i) :: fk_r g 13 :: .int (gI st 22 i) :: fk_r g 14 :: .int (gI st 24 i) :: fk_r g 15 :: .int (gI st 26 i) :: .int (gI st 27 i) :: fk_r g 16 :: fk_r g 17 :: fk_r g 18 :: .int (gI st 31 i) :: fk_r g 19 :: fk_r g 20 :: fk_r g 21 :: .int (gI st 35 i) :: .int (gI st 36 i) :: []))) = fk_ws wM g (sI st 6 i v) := by
  refine fk_wset (w := wM) (kdM_lt (by rw [h]; decide)) (fun j _ hj => xEM_I hj) ?_
  show xEM g (sI st 6 i v) i = _
  rw [at_8 h]
  simp [gI_sI, gT_sI]
theorem wst_8_7 {g : fkG} {st : fkS} {i : Nat} {v : Int32} (h : kdM i = 8) : (fk_ws wM g st).set i (g.1 i, .inr (8, (.int (gI st 0 i) :: fk_r g 1 :: fk_r g 2 :: fk_r g 3 :: fk_r g 4 :: fk_r g 5 :: .int (gI st 6 i) :: .int v :: .int (gI st 8 i) :: fk_r g 6 :: fk_r g 7 :: fk_r g 8 :: .int (gI st 12 i) :: .int (gI st 13 i) :: fk_r g 9 :: .int (gI st 15 i) :: fk_r g 10 :: .int (gI st 17 i) :: fk_r g 11 :: fk_r g 12 :: .int (gI st 20 i) :: fk_r g 13 :: .int (gI st 22 i) :: fk_r g 14 :: .int (gI st 24 i) :: fk_r g 15 :: .int (gI st 26 i) :: .int (gI st 27 i) :: fk_r g 16 :: fk_r g 17 :: fk_r g 18 :: .int (gI st 31 i) :: fk_r g 19 :: fk_r g 20 :: fk_r g 21 :: .int (gI st 35 i) :: .int (gI st 36 i) :: []))) = fk_ws wM g (sI st 7 i v) := by
  refine fk_wset (w := wM) (kdM_lt (by rw [h]; decide)) (fun j _ hj => xEM_I hj) ?_
  show xEM g (sI st 7 i v) i = _
  rw [at_8 h]
  simp [gI_sI, gT_sI]
theorem wst_8_8 {g : fkG} {st : fkS} {i : Nat} {v : Int32} (h : kdM i = 8) : (fk_ws wM g st).set i (g.1 i, .inr (8, (.int (gI st 0 i) :: fk_r g 1 :: fk_r g 2 :: fk_r g 3 :: fk_r g 4 :: fk_r g 5 :: .int (gI st 6 i) :: .int (gI st 7 i) :: .int v :: fk_r g 6 :: fk_r g 7 :: fk_r g 8 :: .int (gI st 12 i) :: .int (gI st 13 i) :: fk_r g 9 :: .int (gI st 15 i) :: fk_r g 10 :: .int (gI st 17 i) :: fk_r g 11 :: fk_r g 12 :: .int (gI st 20 i) :: fk_r g 13 :: .int (gI st 22 i) :: fk_r g 14 :: .int (gI st 24 i) :: fk_r g 15 :: .int (gI st 26 i) :: .int (gI st 27 i) :: fk_r g 16 :: fk_r g 17 :: fk_r g 18 :: .int (gI st 31 i) :: fk_r g 19 :: fk_r g 20 :: fk_r g 21 :: .int (gI st 35 i) :: .int (gI st 36 i) :: []))) = fk_ws wM g (sI st 8 i v) := by
  refine fk_wset (w := wM) (kdM_lt (by rw [h]; decide)) (fun j _ hj => xEM_I hj) ?_
  show xEM g (sI st 8 i v) i = _
  rw [at_8 h]
  simp [gI_sI, gT_sI]
theorem wst_8_12 {g : fkG} {st : fkS} {i : Nat} {v : Int32} (h : kdM i = 8) : (fk_ws wM g st).set i (g.1 i, .inr (8, (.int (gI st 0 i) :: fk_r g 1 :: fk_r g 2 :: fk_r g 3 :: fk_r g 4 :: fk_r g 5 :: .int (gI st 6 i) :: .int (gI st 7 i) :: .int (gI st 8 i) :: fk_r g 6 :: fk_r g 7 :: fk_r g 8 :: .int v :: .int (gI st 13 i) :: fk_r g 9 :: .int (gI st 15 i) :: fk_r g 10 :: .int (gI st 17 i) :: fk_r g 11 :: fk_r g 12 :: .int (gI st 20 i) :: fk_r g 13 :: .int (gI st 22 i) :: fk_r g 14 :: .int (gI st 24 i) :: fk_r g 15 :: .int (gI st 26 i) :: .int (gI st 27 i) :: fk_r g 16 :: fk_r g 17 :: fk_r g 18 :: .int (gI st 31 i) :: fk_r g 19 :: fk_r g 20 :: fk_r g 21 :: .int (gI st 35 i) :: .int (gI st 36 i) :: []))) = fk_ws wM g (sI st 12 i v) := by
  refine fk_wset (w := wM) (kdM_lt (by rw [h]; decide)) (fun j _ hj => xEM_I hj) ?_
  show xEM g (sI st 12 i v) i = _
  rw [at_8 h]
  simp [gI_sI, gT_sI]
theorem wst_8_13 {g : fkG} {st : fkS} {i : Nat} {v : Int32} (h : kdM i = 8) : (fk_ws wM g st).set i (g.1 i, .inr (8, (.int (gI st 0 i) :: fk_r g 1 :: fk_r g 2 :: fk_r g 3 :: fk_r g 4 :: fk_r g 5 :: .int (gI st 6 i) :: .int (gI st 7 i) :: .int (gI st 8 i) :: fk_r g 6 :: fk_r g 7 :: fk_r g 8 :: .int (gI st 12 i) :: .int v :: fk_r g 9 :: .int (gI st 15 i) :: fk_r g 10 :: .int (gI st 17 i) :: fk_r g 11 :: fk_r g 12 :: .int (gI st 20 i) :: fk_r g 13 :: .int (gI st 22 i) :: fk_r g 14 :: .int (gI st 24 i) :: fk_r g 15 :: .int (gI st 26 i) :: .int (gI st 27 i) :: fk_r g 16 :: fk_r g 17 :: fk_r g 18 :: .int (gI st 31 i) :: fk_r g 19 :: fk_r g 20 :: fk_r g 21 :: .int (gI st 35 i) :: .int (gI st 36 i) :: []))) = fk_ws wM g (sI st 13 i v) := by
  refine fk_wset (w := wM) (kdM_lt (by rw [h]; decide)) (fun j _ hj => xEM_I hj) ?_
  show xEM g (sI st 13 i v) i = _
  rw [at_8 h]
  simp [gI_sI, gT_sI]
theorem wst_8_15 {g : fkG} {st : fkS} {i : Nat} {v : Int32} (h : kdM i = 8) : (fk_ws wM g st).set i (g.1 i, .inr (8, (.int (gI st 0 i) :: fk_r g 1 :: fk_r g 2 :: fk_r g 3 :: fk_r g 4 :: fk_r g 5 :: .int (gI st 6 i) :: .int (gI st 7 i) :: .int (gI st 8 i) :: fk_r g 6 :: fk_r g 7 :: fk_r g 8 :: .int (gI st 12 i) :: .int (gI st 13 i) :: fk_r g 9 :: .int v :: fk_r g 10 :: .int (gI st 17 i) :: fk_r g 11 :: fk_r g 12 :: .int (gI st 20 i) :: fk_r g 13 :: .int (gI st 22 i) :: fk_r g 14 :: .int (gI st 24 i) :: fk_r g 15 :: .int (gI st 26 i) :: .int (gI st 27 i) :: fk_r g 16 :: fk_r g 17 :: fk_r g 18 :: .int (gI st 31 i) :: fk_r g 19 :: fk_r g 20 :: fk_r g 21 :: .int (gI st 35 i) :: .int (gI st 36 i) :: []))) = fk_ws wM g (sI st 15 i v) := by
  refine fk_wset (w := wM) (kdM_lt (by rw [h]; decide)) (fun j _ hj => xEM_I hj) ?_
  show xEM g (sI st 15 i v) i = _
  rw [at_8 h]
  simp [gI_sI, gT_sI]
theorem wst_8_17 {g : fkG} {st : fkS} {i : Nat} {v : Int32} (h : kdM i = 8) : (fk_ws wM g st).set i (g.1 i, .inr (8, (.int (gI st 0 i) :: fk_r g 1 :: fk_r g 2 :: fk_r g 3 :: fk_r g 4 :: fk_r g 5 :: .int (gI st 6 i) :: .int (gI st 7 i) :: .int (gI st 8 i) :: fk_r g 6 :: fk_r g 7 :: fk_r g 8 :: .int (gI st 12 i) :: .int (gI st 13 i) :: fk_r g 9 :: .int (gI st 15 i) :: fk_r g 10 :: .int v :: fk_r g 11 :: fk_r g 12 :: .int (gI st 20 i) :: fk_r g 13 :: .int (gI st 22 i) :: fk_r g 14 :: .int (gI st 24 i) :: fk_r g 15 :: .int (gI st 26 i) :: .int (gI st 27 i) :: fk_r g 16 :: fk_r g 17 :: fk_r g 18 :: .int (gI st 31 i) :: fk_r g 19 :: fk_r g 20 :: fk_r g 21 :: .int (gI st 35 i) :: .int (gI st 36 i) :: []))) = fk_ws wM g (sI st 17 i v) := by
  refine fk_wset (w := wM) (kdM_lt (by rw [h]; decide)) (fun j _ hj => xEM_I hj) ?_
  show xEM g (sI st 17 i v) i = _
  rw [at_8 h]
  simp [gI_sI, gT_sI]
theorem wst_8_20 {g : fkG} {st : fkS} {i : Nat} {v : Int32} (h : kdM i = 8) : (fk_ws wM g st).set i (g.1 i, .inr (8, (.int (gI st 0 i) :: fk_r g 1 :: fk_r g 2 :: fk_r g 3 :: fk_r g 4 :: fk_r g 5 :: .int (gI st 6 i) :: .int (gI st 7 i) :: .int (gI st 8 i) :: fk_r g 6 :: fk_r g 7 :: fk_r g 8 :: .int (gI st 12 i) :: .int (gI st 13 i) :: fk_r g 9 :: .int (gI st 15 i) :: fk_r g 10 :: .int (gI st 17 i) :: fk_r g 11 :: fk_r g 12 :: .int v :: fk_r g 13 :: .int (gI st 22 i) :: fk_r g 14 :: .int (gI st 24 i) :: fk_r g 15 :: .int (gI st 26 i) :: .int (gI st 27 i) :: fk_r g 16 :: fk_r g 17 :: fk_r g 18 :: .int (gI st 31 i) :: fk_r g 19 :: fk_r g 20 :: fk_r g 21 :: .int (gI st 35 i) :: .int (gI st 36 i) :: []))) = fk_ws wM g (sI st 20 i v) := by
  refine fk_wset (w := wM) (kdM_lt (by rw [h]; decide)) (fun j _ hj => xEM_I hj) ?_
  show xEM g (sI st 20 i v) i = _
  rw [at_8 h]
  simp [gI_sI, gT_sI]
theorem wst_8_22 {g : fkG} {st : fkS} {i : Nat} {v : Int32} (h : kdM i = 8) : (fk_ws wM g st).set i (g.1 i, .inr (8, (.int (gI st 0 i) :: fk_r g 1 :: fk_r g 2 :: fk_r g 3 :: fk_r g 4 :: fk_r g 5 :: .int (gI st 6 i) :: .int (gI st 7 i) :: .int (gI st 8 i) :: fk_r g 6 :: fk_r g 7 :: fk_r g 8 :: .int (gI st 12 i) :: .int (gI st 13 i) :: fk_r g 9 :: .int (gI st 15 i) :: fk_r g 10 :: .int (gI st 17 i) :: fk_r g 11 :: fk_r g 12 :: .int (gI st 20 i) :: fk_r g 13 :: .int v :: fk_r g 14 :: .int (gI st 24 i) :: fk_r g 15 :: .int (gI st 26 i) :: .int (gI st 27 i) :: fk_r g 16 :: fk_r g 17 :: fk_r g 18 :: .int (gI st 31 i) :: fk_r g 19 :: fk_r g 20 :: fk_r g 21 :: .int (gI st 35 i) :: .int (gI st 36 i) :: []))) = fk_ws wM g (sI st 22 i v) := by
  refine fk_wset (w := wM) (kdM_lt (by rw [h]; decide)) (fun j _ hj => xEM_I hj) ?_
  show xEM g (sI st 22 i v) i = _
  rw [at_8 h]
  simp [gI_sI, gT_sI]
theorem wst_8_24 {g : fkG} {st : fkS} {i : Nat} {v : Int32} (h : kdM i = 8) : (fk_ws wM g st).set i (g.1 i, .inr (8, (.int (gI st 0 i) :: fk_r g 1 :: fk_r g 2 :: fk_r g 3 :: fk_r g 4 :: fk_r g 5 :: .int (gI st 6 i) :: .int (gI st 7 i) :: .int (gI st 8 i) :: fk_r g 6 :: fk_r g 7 :: fk_r g 8 :: .int (gI st 12 i) :: .int (gI st 13 i) :: fk_r g 9 :: .int (gI st 15 i) :: fk_r g 10 :: .int (gI st 17 i) :: fk_r g 11 :: fk_r g 12 :: .int (gI st 20 i) :: fk_r g 13 :: .int (gI st 22 i) :: fk_r g 14 :: .int v :: fk_r g 15 :: .int (gI st 26 i) :: .int (gI st 27 i) :: fk_r g 16 :: fk_r g 17 :: fk_r g 18 :: .int (gI st 31 i) :: fk_r g 19 :: fk_r g 20 :: fk_r g 21 :: .int (gI st 35 i) :: .int (gI st 36 i) :: []))) = fk_ws wM g (sI st 24 i v) := by
  refine fk_wset (w := wM) (kdM_lt (by rw [h]; decide)) (fun j _ hj => xEM_I hj) ?_
  show xEM g (sI st 24 i v) i = _
  rw [at_8 h]
  simp [gI_sI, gT_sI]
theorem wst_8_26 {g : fkG} {st : fkS} {i : Nat} {v : Int32} (h : kdM i = 8) : (fk_ws wM g st).set i (g.1 i, .inr (8, (.int (gI st 0 i) :: fk_r g 1 :: fk_r g 2 :: fk_r g 3 :: fk_r g 4 :: fk_r g 5 :: .int (gI st 6 i) :: .int (gI st 7 i) :: .int (gI st 8 i) :: fk_r g 6 :: fk_r g 7 :: fk_r g 8 :: .int (gI st 12 i) :: .int (gI st 13 i) :: fk_r g 9 :: .int (gI st 15 i) :: fk_r g 10 :: .int (gI st 17 i) :: fk_r g 11 :: fk_r g 12 :: .int (gI st 20 i) :: fk_r g 13 :: .int (gI st 22 i) :: fk_r g 14 :: .int (gI st 24 i) :: fk_r g 15 :: .int v :: .int (gI st 27 i) :: fk_r g 16 :: fk_r g 17 :: fk_r g 18 :: .int (gI st 31 i) :: fk_r g 19 :: fk_r g 20 :: fk_r g 21 :: .int (gI st 35 i) :: .int (gI st 36 i) :: []))) = fk_ws wM g (sI st 26 i v) := by
  refine fk_wset (w := wM) (kdM_lt (by rw [h]; decide)) (fun j _ hj => xEM_I hj) ?_
  show xEM g (sI st 26 i v) i = _
  rw [at_8 h]
  simp [gI_sI, gT_sI]
theorem wst_8_27 {g : fkG} {st : fkS} {i : Nat} {v : Int32} (h : kdM i = 8) : (fk_ws wM g st).set i (g.1 i, .inr (8, (.int (gI st 0 i) :: fk_r g 1 :: fk_r g 2 :: fk_r g 3 :: fk_r g 4 :: fk_r g 5 :: .int (gI st 6 i) :: .int (gI st 7 i) :: .int (gI st 8 i) :: fk_r g 6 :: fk_r g 7 :: fk_r g 8 :: .int (gI st 12 i) :: .int (gI st 13 i) :: fk_r g 9 :: .int (gI st 15 i) :: fk_r g 10 :: .int (gI st 17 i) :: fk_r g 11 :: fk_r g 12 :: .int (gI st 20 i) :: fk_r g 13 :: .int (gI st 22 i) :: fk_r g 14 :: .int (gI st 24 i) :: fk_r g 15 :: .int (gI st 26 i) :: .int v :: fk_r g 16 :: fk_r g 17 :: fk_r g 18 :: .int (gI st 31 i) :: fk_r g 19 :: fk_r g 20 :: fk_r g 21 :: .int (gI st 35 i) :: .int (gI st 36 i) :: []))) = fk_ws wM g (sI st 27 i v) := by
  refine fk_wset (w := wM) (kdM_lt (by rw [h]; decide)) (fun j _ hj => xEM_I hj) ?_
  show xEM g (sI st 27 i v) i = _
  rw [at_8 h]
  simp [gI_sI, gT_sI]
theorem wst_8_31 {g : fkG} {st : fkS} {i : Nat} {v : Int32} (h : kdM i = 8) : (fk_ws wM g st).set i (g.1 i, .inr (8, (.int (gI st 0 i) :: fk_r g 1 :: fk_r g 2 :: fk_r g 3 :: fk_r g 4 :: fk_r g 5 :: .int (gI st 6 i) :: .int (gI st 7 i) :: .int (gI st 8 i) :: fk_r g 6 :: fk_r g 7 :: fk_r g 8 :: .int (gI st 12 i) :: .int (gI st 13 i) :: fk_r g 9 :: .int (gI st 15 i) :: fk_r g 10 :: .int (gI st 17 i) :: fk_r g 11 :: fk_r g 12 :: .int (gI st 20 i) :: fk_r g 13 :: .int (gI st 22 i) :: fk_r g 14 :: .int (gI st 24 i) :: fk_r g 15 :: .int (gI st 26 i) :: .int (gI st 27 i) :: fk_r g 16 :: fk_r g 17 :: fk_r g 18 :: .int v :: fk_r g 19 :: fk_r g 20 :: fk_r g 21 :: .int (gI st 35 i) :: .int (gI st 36 i) :: []))) = fk_ws wM g (sI st 31 i v) := by
  refine fk_wset (w := wM) (kdM_lt (by rw [h]; decide)) (fun j _ hj => xEM_I hj) ?_
  show xEM g (sI st 31 i v) i = _
  rw [at_8 h]
  simp [gI_sI, gT_sI]
theorem wst_8_35 {g : fkG} {st : fkS} {i : Nat} {v : Int32} (h : kdM i = 8) : (fk_ws wM g st).set i (g.1 i, .inr (8, (.int (gI st 0 i) :: fk_r g 1 :: fk_r g 2 :: fk_r g 3 :: fk_r g 4 :: fk_r g 5 :: .int (gI st 6 i) :: .int (gI st 7 i) :: .int (gI st 8 i) :: fk_r g 6 :: fk_r g 7 :: fk_r g 8 :: .int (gI st 12 i) :: .int (gI st 13 i) :: fk_r g 9 :: .int (gI st 15 i) :: fk_r g 10 :: .int (gI st 17 i) :: fk_r g 11 :: fk_r g 12 :: .int (gI st 20 i) :: fk_r g 13 :: .int (gI st 22 i) :: fk_r g 14 :: .int (gI st 24 i) :: fk_r g 15 :: .int (gI st 26 i) :: .int (gI st 27 i) :: fk_r g 16 :: fk_r g 17 :: fk_r g 18 :: .int (gI st 31 i) :: fk_r g 19 :: fk_r g 20 :: fk_r g 21 :: .int v :: .int (gI st 36 i) :: []))) = fk_ws wM g (sI st 35 i v) := by
  refine fk_wset (w := wM) (kdM_lt (by rw [h]; decide)) (fun j _ hj => xEM_I hj) ?_
  show xEM g (sI st 35 i v) i = _
  rw [at_8 h]
  simp [gI_sI, gT_sI]
theorem wst_8_36 {g : fkG} {st : fkS} {i : Nat} {v : Int32} (h : kdM i = 8) : (fk_ws wM g st).set i (g.1 i, .inr (8, (.int (gI st 0 i) :: fk_r g 1 :: fk_r g 2 :: fk_r g 3 :: fk_r g 4 :: fk_r g 5 :: .int (gI st 6 i) :: .int (gI st 7 i) :: .int (gI st 8 i) :: fk_r g 6 :: fk_r g 7 :: fk_r g 8 :: .int (gI st 12 i) :: .int (gI st 13 i) :: fk_r g 9 :: .int (gI st 15 i) :: fk_r g 10 :: .int (gI st 17 i) :: fk_r g 11 :: fk_r g 12 :: .int (gI st 20 i) :: fk_r g 13 :: .int (gI st 22 i) :: fk_r g 14 :: .int (gI st 24 i) :: fk_r g 15 :: .int (gI st 26 i) :: .int (gI st 27 i) :: fk_r g 16 :: fk_r g 17 :: fk_r g 18 :: .int (gI st 31 i) :: fk_r g 19 :: fk_r g 20 :: fk_r g 21 :: .int (gI st 35 i) :: .int v :: []))) = fk_ws wM g (sI st 36 i v) := by
  refine fk_wset (w := wM) (kdM_lt (by rw [h]; decide)) (fun j _ hj => xEM_I hj) ?_
  show xEM g (sI st 36 i v) i = _
  rw [at_8 h]
  simp [gI_sI, gT_sI]
theorem wst_4_T {g : fkG} {st : fkS} {t : Nat} : (fk_ws wC g st).set 34 (g.1 34, .inr (4, [.int (gI st 80 34), .int (gI st 81 34), fk_r g t, fk_r g 35])) = fk_ws wC g (sT st (some t)) :=
  fk_wset (w := wC) (show 34 < 48 by decide) (fun j _ hj => xEC_T hj) rfl
/-- a row of ints, of longs, at a place of the world -/
def fk_isI (w : fkW) (g : fkG) (i n : Nat) : Prop := i < w.2 ∧ (∀ st, w.1 g st i = .inl (g.2.2.1.1, n, .inl (gA st i))) ∧ ∀ (st : fkS) (h : Nat → Int32) (j : Nat), j ≠ i → w.1 g (sAF st i h) j = w.1 g st j
def fk_isL (w : fkW) (g : fkG) (i n : Nat) : Prop := i < w.2 ∧ (∀ st, w.1 g st i = .inl (g.2.2.1.2.1, n, .inr (.inl (gL st i)))) ∧ ∀ (st : fkS) (h : Nat → Int64) (j : Nat), j ≠ i → w.1 g (sLF st i h) j = w.1 g st j
theorem isI_C {g : fkG} {i n : Nat} (h : kdC i = 9) (hn : lnC i = n) : fk_isI wC g i n := by
  refine ⟨kdC_lt (by rw [h]; decide), fun st => ?_, fun st v j hj => xEC_A hj⟩
  show xEC g st i = _
  subst hn
  unfold xEC
  rw [h]
  first | done | rfl
theorem isL_C {g : fkG} {i n : Nat} (h : kdC i = 10) (hn : lnC i = n) : fk_isL wC g i n := by
  refine ⟨kdC_lt (by rw [h]; decide), fun st => ?_, fun st v j hj => xEC_L hj⟩
  show xEC g st i = _
  subst hn
  unfold xEC
  rw [h]
  first | done | rfl
theorem isI_M {g : fkG} {i n : Nat} (h : kdM i = 9) (hn : lnM i = n) : fk_isI wM g i n := by
  refine ⟨kdM_lt (by rw [h]; decide), fun st => ?_, fun st v j hj => xEM_A hj⟩
  show xEM g st i = _
  subst hn
  unfold xEM
  rw [h]
  first | done | rfl
theorem isL_M {g : fkG} {i n : Nat} (h : kdM i = 10) (hn : lnM i = n) : fk_isL wM g i n := by
  refine ⟨kdM_lt (by rw [h]; decide), fun st => ?_, fun st v j hj => xEM_L hj⟩
  show xEM g st i = _
  subst hn
  unfold xEM
  rw [h]
  first | done | rfl
theorem isI_0_1 {g : fkG} {i : Nat} (h : kdC i = 0) : fk_isI wC g (i + 3) 7 := by
  have h1 : i < 48 := kdC_lt (by rw [h]; decide)
  have h2 := (show ∀ i, i < 48 → kdC i = 0 → kdC (i + 3) = 9 ∧ lnC (i + 3) = 7 from by decide +kernel) i h1 h
  exact isI_C h2.1 h2.2
theorem isI_0_2 {g : fkG} {i : Nat} (h : kdC i = 0) : fk_isI wC g (i + 6) 7 := by
  have h1 : i < 48 := kdC_lt (by rw [h]; decide)
  have h2 := (show ∀ i, i < 48 → kdC i = 0 → kdC (i + 6) = 9 ∧ lnC (i + 6) = 7 from by decide +kernel) i h1 h
  exact isI_C h2.1 h2.2
theorem isI_0_3 {g : fkG} {i : Nat} (h : kdC i = 0) : fk_isI wC g (i + 9) 7 := by
  have h1 : i < 48 := kdC_lt (by rw [h]; decide)
  have h2 := (show ∀ i, i < 48 → kdC i = 0 → kdC (i + 9) = 9 ∧ lnC (i + 9) = 7 from by decide +kernel) i h1 h
  exact isI_C h2.1 h2.2
theorem isI_0_4 {g : fkG} {i : Nat} (h : kdC i = 0) : fk_isI wC g (i + 12) 40 := by
  have h1 : i < 48 := kdC_lt (by rw [h]; decide)
  have h2 := (show ∀ i, i < 48 → kdC i = 0 → kdC (i + 12) = 9 ∧ lnC (i + 12) = 40 from by decide +kernel) i h1 h
  exact isI_C h2.1 h2.2
theorem isI_1_0 {g : fkG} {i : Nat} (h : kdC i = 1) : fk_isI wC g (i + 1) 20 := by
  have h1 : i < 48 := kdC_lt (by rw [h]; decide)
  have h2 := (show ∀ i, i < 48 → kdC i = 1 → kdC (i + 1) = 9 ∧ lnC (i + 1) = 20 from by decide +kernel) i h1 h
  exact isI_C h2.1 h2.2
theorem isI_2_2 {g : fkG} {i : Nat} (h : kdC i = 2) : fk_isI wC g (i + 1) 7 := by
  have h1 : i < 48 := kdC_lt (by rw [h]; decide)
  have h2 := (show ∀ i, i < 48 → kdC i = 2 → kdC (i + 1) = 9 ∧ lnC (i + 1) = 7 from by decide +kernel) i h1 h
  exact isI_C h2.1 h2.2
theorem isI_2_3 {g : fkG} {i : Nat} (h : kdC i = 2) : fk_isI wC g (i + 2) 7 := by
  have h1 : i < 48 := kdC_lt (by rw [h]; decide)
  have h2 := (show ∀ i, i < 48 → kdC i = 2 → kdC (i + 2) = 9 ∧ lnC (i + 2) = 7 from by decide +kernel) i h1 h
  exact isI_C h2.1 h2.2
theorem isI_2_4 {g : fkG} {i : Nat} (h : kdC i = 2) : fk_isI wC g (i + 3) 7 := by
  have h1 : i < 48 := kdC_lt (by rw [h]; decide)
  have h2 := (show ∀ i, i < 48 → kdC i = 2 → kdC (i + 3) = 9 ∧ lnC (i + 3) = 7 from by decide +kernel) i h1 h
  exact isI_C h2.1 h2.2
theorem isI_3_0 {g : fkG} {i : Nat} (h : kdC i = 3) : fk_isI wC g (i + 1) 8 := by
  have h1 : i < 48 := kdC_lt (by rw [h]; decide)
  have h2 := (show ∀ i, i < 48 → kdC i = 3 → kdC (i + 1) = 9 ∧ lnC (i + 1) = 8 from by decide +kernel) i h1 h
  exact isI_C h2.1 h2.2
theorem isI_4_3 {g : fkG} {i : Nat} (h : kdC i = 4) : fk_isI wC g (i + 1) 3 := by
  have h1 : i < 48 := kdC_lt (by rw [h]; decide)
  have h2 := (show ∀ i, i < 48 → kdC i = 4 → kdC (i + 1) = 9 ∧ lnC (i + 1) = 3 from by decide +kernel) i h1 h
  exact isI_C h2.1 h2.2
theorem isL_5_4 {g : fkG} {i : Nat} (h : kdC i = 5) : fk_isL wC g (i + 8) 160 := by
  have h1 : i < 48 := kdC_lt (by rw [h]; decide)
  have h2 := (show ∀ i, i < 48 → kdC i = 5 → kdC (i + 8) = 10 ∧ lnC (i + 8) = 160 from by decide +kernel) i h1 h
  exact isL_C h2.1 h2.2
theorem isI_6_5 {g : fkG} {i : Nat} (h : kdC i = 6) : fk_isI wC g (i + 2) 16 := by
  have h1 : i < 48 := kdC_lt (by rw [h]; decide)
  have h2 := (show ∀ i, i < 48 → kdC i = 6 → kdC (i + 2) = 9 ∧ lnC (i + 2) = 16 from by decide +kernel) i h1 h
  exact isI_C h2.1 h2.2
theorem isI_7_11 {g : fkG} : fk_isI wC g 1 8 := isI_C rfl rfl
theorem isI_8_1 {g : fkG} : fk_isI wM g 1 7 := isI_M rfl rfl
theorem isI_8_2 {g : fkG} : fk_isI wM g 2 7 := isI_M rfl rfl
theorem isI_8_3 {g : fkG} : fk_isI wM g 3 7 := isI_M rfl rfl
theorem isI_8_4 {g : fkG} : fk_isI wM g 4 3 := isI_M rfl rfl
theorem isI_8_5 {g : fkG} : fk_isI wM g 5 40 := isI_M rfl rfl
theorem isI_8_9 {g : fkG} : fk_isI wM g 6 8 := isI_M rfl rfl
theorem isI_8_10 {g : fkG} : fk_isI wM g 7 8 := isI_M rfl rfl
theorem isL_8_11 {g : fkG} : fk_isL wM g 8 1280 := isL_M rfl rfl
theorem isI_8_14 {g : fkG} : fk_isI wM g 9 3 := isI_M rfl rfl
theorem isI_8_16 {g : fkG} : fk_isI wM g 10 67 := isI_M rfl rfl
theorem isI_8_18 {g : fkG} : fk_isI wM g 11 20 := isI_M rfl rfl
theorem isI_8_19 {g : fkG} : fk_isI wM g 12 8 := isI_M rfl rfl
theorem isI_8_21 {g : fkG} : fk_isI wM g 13 67 := isI_M rfl rfl
theorem isI_8_23 {g : fkG} : fk_isI wM g 14 8 := isI_M rfl rfl
theorem isI_8_25 {g : fkG} : fk_isI wM g 15 16 := isI_M rfl rfl
theorem isI_8_28 {g : fkG} : fk_isI wM g 16 7 := isI_M rfl rfl
theorem isI_8_29 {g : fkG} : fk_isI wM g 17 14 := isI_M rfl rfl
theorem isI_8_30 {g : fkG} : fk_isI wM g 18 7 := isI_M rfl rfl
theorem isI_8_32 {g : fkG} : fk_isI wM g 19 7 := isI_M rfl rfl
theorem isI_8_33 {g : fkG} : fk_isI wM g 20 7 := isI_M rfl rfl
theorem isI_8_34 {g : fkG} : fk_isI wM g 21 7 := isI_M rfl rfl
theorem a_iload {w : fkW} {g : fkG} {k : fkK} {ρ : Type} {en : ρ → Option Value} {own : String} {cc : ByteArray} {nL fr lo pc : Nat} {ret : Option FieldType} {lv : List (Nat × Value)} {stk : List Value} {st : fkS} {F : Option (ρ × fkS)} (hk : fk_ok w g k own cc nL ret fr lo) {i n : Nat} {j : Int32} {F1 : Int32 → Option (ρ × fkS)} (hi : fk_isI w g i n) (hdg : decode cc pc = .ok (.iaload, 1))
    (kk : ∀ x, fk_J w g en k (pc + 1) lv (.int x :: stk) st (F1 x)) : fk_J w g en k pc lv (.int j :: fk_r g i :: stk) st (fk_chk (fk_in j n) (fk_let (gA st i j.toNatClampNeg) F1)) := by
  intro o ho hq
  cases hin : fk_in j n with
  | false => rw [hin] at ho; exact absurd ho (by simp [fk_chk])
  | true =>
  rw [hin] at ho
  have hin := fk_in_vp hin
  have kk := kk (gA st i j.toNatClampNeg) o ho hq
  obtain ⟨p, l, e, R, s, m, args, below, meth, c, rv, sf⟩ := k
  obtain ⟨hx, hb, hml, hown, hts, hK, hE, hr, hlk, hinj, hfr, hlo⟩ := hk
  obtain ⟨hi1, hi2, hi3⟩ := hi
  intro H locs ls hl hP hS
  exact va_iald (D := g.2.1) (ws := fk_ws w g st) hx hb hK hP i 0 (by rw [fk_wat hi1, hi2]) rfl hin hdg (kk H locs ls hl hP hS)
theorem a_istore {w : fkW} {g : fkG} {k : fkK} {ρ : Type} {en : ρ → Option Value} {own : String} {cc : ByteArray} {nL fr lo pc : Nat} {ret : Option FieldType} {lv : List (Nat × Value)} {stk : List Value} {st : fkS} {F : Option (ρ × fkS)} (hk : fk_ok w g k own cc nL ret fr lo) {i n : Nat} {j : Int32} {x : Int32} {F1 : fkS → Option (ρ × fkS)} (hi : fk_isI w g i n) (hdg : decode cc pc = .ok (.iastore, 1))
    (kk : ∀ st1, fk_J w g en k (pc + 1) lv stk st1 (F1 st1)) : fk_J w g en k pc lv (.int x :: .int j :: fk_r g i :: stk) st (fk_chk (fk_in j n) (fk_let (sA st i j.toNatClampNeg x) F1)) := by
  intro o ho hq
  cases hin : fk_in j n with
  | false => rw [hin] at ho; exact absurd ho (by simp [fk_chk])
  | true =>
  rw [hin] at ho
  have hin := fk_in_vp hin
  have kk := kk (sA st i j.toNatClampNeg x) o ho hq
  obtain ⟨p, l, e, R, s, m, args, below, meth, c, rv, sf⟩ := k
  obtain ⟨hx, hb, hml, hown, hts, hK, hE, hr, hlk, hinj, hfr, hlo⟩ := hk
  obtain ⟨hi1, hi2, hi3⟩ := hi
  intro H locs ls hl hP hS
  refine va_iast (D := g.2.1) (ws := fk_ws w g st) hx hb hK hP (fk_wD hinj _ _) hS i 0 (by rw [fk_wat hi1, hi2]) rfl hin hdg (fun H1 locs1 hP1 hD1 hS1 => kk H1 locs1 ls hl ?_ hS1)
  rw [fk_wset (st' := sA st i j.toNatClampNeg x) hi1 (fun q _ hq => hi3 _ _ _ hq) (by rw [sA, hi2]; simp [gA_sAF])] at hP1
  exact hP1
theorem a_ilen {w : fkW} {g : fkG} {k : fkK} {ρ : Type} {en : ρ → Option Value} {own : String} {cc : ByteArray} {nL fr lo pc : Nat} {ret : Option FieldType} {lv : List (Nat × Value)} {stk : List Value} {st : fkS} {F : Option (ρ × fkS)} (hk : fk_ok w g k own cc nL ret fr lo) {i n : Nat} {v : Int32} (hi : fk_isI w g i n) (hv : Int32.ofNat n = v) (hdg : decode cc pc = .ok (.arraylength, 1))
    (kk : fk_J w g en k (pc + 1) lv (.int v :: stk) st F) : fk_J w g en k pc lv (fk_r g i :: stk) st F := by
  intro o ho hq
  have kk := kk o ho hq
  obtain ⟨p, l, e, R, s, m, args, below, meth, c, rv, sf⟩ := k
  obtain ⟨hx, hb, hml, hown, hts, hK, hE, hr, hlk, hinj, hfr, hlo⟩ := hk
  intro H locs ls hl hP hS
  obtain ⟨hi1, hi2, hi3⟩ := hi
  exact va_alen (D := g.2.1) (ws := fk_ws w g st) hx hb hK hP i 0 (by rw [fk_wat hi1, hi2]) rfl hv hdg (kk H locs ls hl hP hS)
theorem a_lload {w : fkW} {g : fkG} {k : fkK} {ρ : Type} {en : ρ → Option Value} {own : String} {cc : ByteArray} {nL fr lo pc : Nat} {ret : Option FieldType} {lv : List (Nat × Value)} {stk : List Value} {st : fkS} {F : Option (ρ × fkS)} (hk : fk_ok w g k own cc nL ret fr lo) {i n : Nat} {j : Int32} {F1 : Int64 → Option (ρ × fkS)} (hi : fk_isL w g i n) (hdg : decode cc pc = .ok (.laload, 1))
    (kk : ∀ x, fk_J w g en k (pc + 1) lv (.long x :: stk) st (F1 x)) : fk_J w g en k pc lv (.int j :: fk_r g i :: stk) st (fk_chk (fk_in j n) (fk_let (gL st i j.toNatClampNeg) F1)) := by
  intro o ho hq
  cases hin : fk_in j n with
  | false => rw [hin] at ho; exact absurd ho (by simp [fk_chk])
  | true =>
  rw [hin] at ho
  have hin := fk_in_vp hin
  have kk := kk (gL st i j.toNatClampNeg) o ho hq
  obtain ⟨p, l, e, R, s, m, args, below, meth, c, rv, sf⟩ := k
  obtain ⟨hx, hb, hml, hown, hts, hK, hE, hr, hlk, hinj, hfr, hlo⟩ := hk
  obtain ⟨hi1, hi2, hi3⟩ := hi
  intro H locs ls hl hP hS
  exact va_lald (D := g.2.1) (ws := fk_ws w g st) hx hb hK hP i 1 (by rw [fk_wat hi1, hi2]) rfl hin hdg (kk H locs ls hl hP hS)
theorem a_lstore {w : fkW} {g : fkG} {k : fkK} {ρ : Type} {en : ρ → Option Value} {own : String} {cc : ByteArray} {nL fr lo pc : Nat} {ret : Option FieldType} {lv : List (Nat × Value)} {stk : List Value} {st : fkS} {F : Option (ρ × fkS)} (hk : fk_ok w g k own cc nL ret fr lo) {i n : Nat} {j : Int32} {x : Int64} {F1 : fkS → Option (ρ × fkS)} (hi : fk_isL w g i n) (hdg : decode cc pc = .ok (.lastore, 1))
    (kk : ∀ st1, fk_J w g en k (pc + 1) lv stk st1 (F1 st1)) : fk_J w g en k pc lv (.long x :: .int j :: fk_r g i :: stk) st (fk_chk (fk_in j n) (fk_let (sL st i j.toNatClampNeg x) F1)) := by
  intro o ho hq
  cases hin : fk_in j n with
  | false => rw [hin] at ho; exact absurd ho (by simp [fk_chk])
  | true =>
  rw [hin] at ho
  have hin := fk_in_vp hin
  have kk := kk (sL st i j.toNatClampNeg x) o ho hq
  obtain ⟨p, l, e, R, s, m, args, below, meth, c, rv, sf⟩ := k
  obtain ⟨hx, hb, hml, hown, hts, hK, hE, hr, hlk, hinj, hfr, hlo⟩ := hk
  obtain ⟨hi1, hi2, hi3⟩ := hi
  intro H locs ls hl hP hS
  refine va_last (D := g.2.1) (ws := fk_ws w g st) hx hb hK hP (fk_wD hinj _ _) hS i 1 (by rw [fk_wat hi1, hi2]) rfl hin hdg (fun H1 locs1 hP1 hD1 hS1 => kk H1 locs1 ls hl ?_ hS1)
  rw [fk_wset (st' := sL st i j.toNatClampNeg x) hi1 (fun q _ hq => hi3 _ _ _ hq) (by rw [sL, hi2]; simp [gL_sLF])] at hP1
  exact hP1
theorem a_llen {w : fkW} {g : fkG} {k : fkK} {ρ : Type} {en : ρ → Option Value} {own : String} {cc : ByteArray} {nL fr lo pc : Nat} {ret : Option FieldType} {lv : List (Nat × Value)} {stk : List Value} {st : fkS} {F : Option (ρ × fkS)} (hk : fk_ok w g k own cc nL ret fr lo) {i n : Nat} {v : Int32} (hi : fk_isL w g i n) (hv : Int32.ofNat n = v) (hdg : decode cc pc = .ok (.arraylength, 1))
    (kk : fk_J w g en k (pc + 1) lv (.int v :: stk) st F) : fk_J w g en k pc lv (fk_r g i :: stk) st F := by
  intro o ho hq
  have kk := kk o ho hq
  obtain ⟨p, l, e, R, s, m, args, below, meth, c, rv, sf⟩ := k
  obtain ⟨hx, hb, hml, hown, hts, hK, hE, hr, hlk, hinj, hfr, hlo⟩ := hk
  intro H locs ls hl hP hS
  obtain ⟨hi1, hi2, hi3⟩ := hi
  exact va_alen (D := g.2.1) (ws := fk_ws w g st) hx hb hK hP i 1 (by rw [fk_wat hi1, hi2]) rfl hv hdg (kk H locs ls hl hP hS)
def fk_cp (sp dp n : Int32) (n0 n1 : Nat) : Bool := decide (¬ sp < 0 ∧ ¬ dp < 0 ∧ ¬ n < 0 ∧ sp.toNatClampNeg + n.toNatClampNeg ≤ n0 ∧ dp.toNatClampNeg + n.toNatClampNeg ≤ n1)
theorem wd_cpn : Cond.native arraycopyName ∈ fkB := fkB_in (List.mem_of_getElem? (i := 426) (by decide +kernel)) rfl
theorem wd_cps : Cond.static arraycopyName ∈ fkB := fkB_in (List.mem_of_getElem? (i := 425) (by decide +kernel)) rfl
theorem wd_cpi : Cond.initialized "java/lang/System" ∈ fkB := fkB_in (List.mem_of_getElem? (i := 114) (by decide +kernel)) rfl
theorem a_icopy {w : fkW} {g : fkG} {k : fkK} {ρ : Type} {en : ρ → Option Value} {own : String} {cc : ByteArray} {nL fr lo pc : Nat} {ret : Option FieldType} {lv : List (Nat × Value)} {stk : List Value} {st : fkS} {F : Option (ρ × fkS)} (hk : fk_ok w g k own cc nL ret fr lo) {ix i0 i1 n0 n1 : Nat} {sp dp n : Int32} {F1 : fkS → Option (ρ × fkS)} (h0 : fk_isI w g i0 n0) (h1 : fk_isI w g i1 n1) (hlink : Cond.methodLink own ix arraycopyName ∈ fkB) (hf : 1 ≤ fr) (hlq : (stk.map fun v => v.category).sum + (nativeFrameWords "java/lang/System" "arraycopy" 5 + 11) ≤ lo) (hdg : decode cc pc = .ok (.invokestatic ix, 3))
    (kk : ∀ st1, fk_J w g en k (pc + 3) lv stk st1 (F1 st1)) : fk_J w g en k pc lv (.int n :: .int dp :: fk_r g i1 :: .int sp :: fk_r g i0 :: stk) st (fk_chk (fk_cp sp dp n n0 n1) (fk_let (sAF st i1 (va_cpy (gA st i0) (gA st i1) sp.toNatClampNeg dp.toNatClampNeg n.toNatClampNeg)) F1)) := by
  intro o ho hq
  cases hin : fk_cp sp dp n n0 n1 with
  | false => rw [hin] at ho; exact absurd ho (by simp [fk_chk])
  | true =>
  rw [hin] at ho
  have hin := of_decide_eq_true hin
  have kk := kk (sAF st i1 (va_cpy (gA st i0) (gA st i1) sp.toNatClampNeg dp.toNatClampNeg n.toNatClampNeg)) o ho hq
  obtain ⟨p, l, e, R, s, m, args, below, meth, c, rv, sf⟩ := k
  obtain ⟨hx, hb, hml, hown, hts, hK, hE, hr, hlk, hinj, hfr, hlo⟩ := hk
  obtain ⟨hi1, hi2, hi3⟩ := h0
  obtain ⟨hj1, hj2, hj3⟩ := h1
  intro H locs ls hl hP hS
  refine va_copyi (D := g.2.1) (ws := fk_ws w g st) hx hb hl.1.symm hown (hts _ hlink) (hts _ wd_cpn) (hts _ wd_cps) (hts _ wd_cpi) hK hP (fk_wD hinj _ _) hS i0 i1 0 0 (by rw [fk_wat hi1, hi2]) (by rw [fk_wat hj1, hj2]) rfl rfl rfl hin.1 hin.2.1 hin.2.2.1 hin.2.2.2.1 hin.2.2.2.2 (fun _ _ => rfl) (Nat.le_trans hf hfr) (Nat.le_trans hlq hlo) hdg (fun H1 locs1 hP1 hD1 hS1 => kk H1 locs1 ls hl ?_ hS1)
  rw [fk_wset (st' := sAF st i1 (va_cpy (gA st i0) (gA st i1) sp.toNatClampNeg dp.toNatClampNeg n.toNatClampNeg)) hj1 (fun q _ hq => hj3 _ _ _ hq) (by rw [hj2]; simp [gA_sAF])] at hP1
  exact hP1
theorem a_lcopy {w : fkW} {g : fkG} {k : fkK} {ρ : Type} {en : ρ → Option Value} {own : String} {cc : ByteArray} {nL fr lo pc : Nat} {ret : Option FieldType} {lv : List (Nat × Value)} {stk : List Value} {st : fkS} {F : Option (ρ × fkS)} (hk : fk_ok w g k own cc nL ret fr lo) {ix i0 i1 n0 n1 : Nat} {sp dp n : Int32} {F1 : fkS → Option (ρ × fkS)} (h0 : fk_isL w g i0 n0) (h1 : fk_isL w g i1 n1) (hlink : Cond.methodLink own ix arraycopyName ∈ fkB) (hf : 1 ≤ fr) (hlq : (stk.map fun v => v.category).sum + (nativeFrameWords "java/lang/System" "arraycopy" 5 + 11) ≤ lo) (hdg : decode cc pc = .ok (.invokestatic ix, 3))
    (kk : ∀ st1, fk_J w g en k (pc + 3) lv stk st1 (F1 st1)) : fk_J w g en k pc lv (.int n :: .int dp :: fk_r g i1 :: .int sp :: fk_r g i0 :: stk) st (fk_chk (fk_cp sp dp n n0 n1) (fk_let (sLF st i1 (va_cpy (gL st i0) (gL st i1) sp.toNatClampNeg dp.toNatClampNeg n.toNatClampNeg)) F1)) := by
  intro o ho hq
  cases hin : fk_cp sp dp n n0 n1 with
  | false => rw [hin] at ho; exact absurd ho (by simp [fk_chk])
  | true =>
  rw [hin] at ho
  have hin := of_decide_eq_true hin
  have kk := kk (sLF st i1 (va_cpy (gL st i0) (gL st i1) sp.toNatClampNeg dp.toNatClampNeg n.toNatClampNeg)) o ho hq
  obtain ⟨p, l, e, R, s, m, args, below, meth, c, rv, sf⟩ := k
  obtain ⟨hx, hb, hml, hown, hts, hK, hE, hr, hlk, hinj, hfr, hlo⟩ := hk
  obtain ⟨hi1, hi2, hi3⟩ := h0
  obtain ⟨hj1, hj2, hj3⟩ := h1
  intro H locs ls hl hP hS
  refine va_copyl (D := g.2.1) (ws := fk_ws w g st) hx hb hl.1.symm hown (hts _ hlink) (hts _ wd_cpn) (hts _ wd_cps) (hts _ wd_cpi) hK hP (fk_wD hinj _ _) hS i0 i1 1 1 (by rw [fk_wat hi1, hi2]) (by rw [fk_wat hj1, hj2]) rfl rfl rfl hin.1 hin.2.1 hin.2.2.1 hin.2.2.2.1 hin.2.2.2.2 (fun _ _ => rfl) (Nat.le_trans hf hfr) (Nat.le_trans hlq hlo) hdg (fun H1 locs1 hP1 hD1 hS1 => kk H1 locs1 ls hl ?_ hS1)
  rw [fk_wset (st' := sLF st i1 (va_cpy (gL st i0) (gL st i1) sp.toNatClampNeg dp.toNatClampNeg n.toNatClampNeg)) hj1 (fun q _ hq => hj3 _ _ _ hq) (by rw [hj2]; simp [gL_sLF])] at hP1
  exact hP1
theorem sh_kd : ∀ n, n < 8 → kdC (3 + n) = 5 := by decide +kernel
theorem fk_in_lt {j : Int32} {n : Nat} (h : fk_in j n = true) : j.toNatClampNeg < n := by
  have h1 := fk_in_vp h
  unfold vp_in at h1
  omega
theorem a_shelf {g : fkG} {k : fkK} {ρ : Type} {en : ρ → Option Value} {own : String} {cc : ByteArray} {nL fr lo pc : Nat} {ret : Option FieldType} {lv : List (Nat × Value)} {stk : List Value} {st : fkS} {F : Option (ρ × fkS)} (hk : fk_ok wC g k own cc nL ret fr lo) {j : Int32} (hdg : decode cc pc = .ok (.aaload, 1))
    (kk : kdC (3 + j.toNatClampNeg) = 5 → fk_J wC g en k (pc + 1) lv (fk_r g (3 + j.toNatClampNeg) :: stk) st F) : fk_J wC g en k pc lv (.int j :: fk_r g 2 :: stk) st (fk_chk (fk_in j 8) F) := by
  intro o ho hq
  cases hin : fk_in j 8 with
  | false => rw [hin] at ho; exact absurd ho (by simp [fk_chk])
  | true =>
  rw [hin] at ho
  have kk := kk (sh_kd _ (fk_in_lt hin)) o ho hq
  have hin := fk_in_vp hin
  obtain ⟨p, l, e, R, s, m, args, below, meth, c, rv, sf⟩ := k
  obtain ⟨hx, hb, hml, hown, hts, hK, hE, hr, hlk, hinj, hfr, hlo⟩ := hk
  intro H locs ls hl hP hS
  exact va_aldq (D := g.2.1) (ws := fk_ws wC g st) hx hb hK hP 2 2 (f := fun j => some (g.1 (3 + j))) (n := 8) (by rw [fk_wat (w := wC) (show 2 < 48 by decide)]; rfl) rfl hin hdg (kk H locs ls hl hP hS)
def fk_rka (g : fkG) : Value := .ref g.2.2.2.1.1
theorem wd_ka : Cond.fieldLink RX7 344 "PieFunnels" "KIND_ABOVE" "[I" ∈ fkB := fkB_in (List.mem_of_getElem? (i := 466) (by decide +kernel)) rfl
theorem a_kaget {w : fkW} {g : fkG} {k : fkK} {ρ : Type} {en : ρ → Option Value} {cc : ByteArray} {nL fr lo pc : Nat} {ret : Option FieldType} {lv : List (Nat × Value)} {stk : List Value} {st : fkS} {F : Option (ρ × fkS)} (hk : fk_ok w g k RX7 cc nL ret fr lo) (hdg : decode cc pc = .ok (.getstatic 344, 3))
    (kk : fk_J w g en k (pc + 3) lv (fk_rka g :: stk) st F) : fk_J w g en k pc lv stk st F := by
  intro o ho hq
  have kk := kk o ho hq
  obtain ⟨p, l, e, R, s, m, args, below, meth, c, rv, sf⟩ := k
  obtain ⟨hx, hb, hml, hown, hts, hK, hE, hr, hlk, hinj, hfr, hlo⟩ := hk
  intro H locs ls hl hP hS
  exact va_gets hx hb hE.2.1 hS hown (hts _ wd_ka) (fun _ h => h) hdg (kk H locs ls hl hP hS)
theorem a_kaload {w : fkW} {g : fkG} {k : fkK} {ρ : Type} {en : ρ → Option Value} {own : String} {cc : ByteArray} {nL fr lo pc : Nat} {ret : Option FieldType} {lv : List (Nat × Value)} {stk : List Value} {st : fkS} {F : Option (ρ × fkS)} (hk : fk_ok w g k own cc nL ret fr lo) {j : Int32} {F1 : Int32 → Option (ρ × fkS)} (hdg : decode cc pc = .ok (.iaload, 1))
    (kk : ∀ x, fk_J w g en k (pc + 1) lv (.int x :: stk) st (F1 x)) : fk_J w g en k pc lv (.int j :: fk_rka g :: stk) st (fk_chk (fk_in j 7) (fk_let (fk_ka j.toNatClampNeg) F1)) := by
  intro o ho hq
  cases hin : fk_in j 7 with
  | false => rw [hin] at ho; exact absurd ho (by simp [fk_chk])
  | true =>
  rw [hin] at ho
  have hin := fk_in_vp hin
  have kk := kk (fk_ka j.toNatClampNeg) o ho hq
  obtain ⟨p, l, e, R, s, m, args, below, meth, c, rv, sf⟩ := k
  obtain ⟨hx, hb, hml, hown, hts, hK, hE, hr, hlk, hinj, hfr, hlo⟩ := hk
  intro H locs ls hl hP hS
  exact va_ti hx hb hE.2.2.1 hS hin rfl hdg (kk H locs ls hl hP hS)
theorem a_kalen {w : fkW} {g : fkG} {k : fkK} {ρ : Type} {en : ρ → Option Value} {own : String} {cc : ByteArray} {nL fr lo pc : Nat} {ret : Option FieldType} {lv : List (Nat × Value)} {stk : List Value} {st : fkS} {F : Option (ρ × fkS)} (hk : fk_ok w g k own cc nL ret fr lo) (hdg : decode cc pc = .ok (.arraylength, 1))
    (kk : fk_J w g en k (pc + 1) lv (.int 7 :: stk) st F) : fk_J w g en k pc lv (fk_rka g :: stk) st F := by
  intro o ho hq
  have kk := kk o ho hq
  obtain ⟨p, l, e, R, s, m, args, below, meth, c, rv, sf⟩ := k
  obtain ⟨hx, hb, hml, hown, hts, hK, hE, hr, hlk, hinj, hfr, hlo⟩ := hk
  intro H locs ls hl hP hS
  exact va_tlen hx hb hE.2.2.1 hS rfl hdg (kk H locs ls hl hP hS)
def fk_rbo (g : fkG) : Value := .ref g.2.2.2.1.2
theorem wd_bo : Cond.fieldLink RX1 46 "PieFunnels$Moves" "BODIES" "[I" ∈ fkB := fkB_in (List.mem_of_getElem? (i := 861) (by decide +kernel)) rfl
theorem a_boget {w : fkW} {g : fkG} {k : fkK} {ρ : Type} {en : ρ → Option Value} {cc : ByteArray} {nL fr lo pc : Nat} {ret : Option FieldType} {lv : List (Nat × Value)} {stk : List Value} {st : fkS} {F : Option (ρ × fkS)} (hk : fk_ok w g k RX1 cc nL ret fr lo) (hdg : decode cc pc = .ok (.getstatic 46, 3))
    (kk : fk_J w g en k (pc + 3) lv (fk_rbo g :: stk) st F) : fk_J w g en k pc lv stk st F := by
  intro o ho hq
  have kk := kk o ho hq
  obtain ⟨p, l, e, R, s, m, args, below, meth, c, rv, sf⟩ := k
  obtain ⟨hx, hb, hml, hown, hts, hK, hE, hr, hlk, hinj, hfr, hlo⟩ := hk
  intro H locs ls hl hP hS
  exact va_gets hx hb hE.2.2.2.1 hS hown (hts _ wd_bo) (fun _ h => h) hdg (kk H locs ls hl hP hS)
theorem a_boload {w : fkW} {g : fkG} {k : fkK} {ρ : Type} {en : ρ → Option Value} {own : String} {cc : ByteArray} {nL fr lo pc : Nat} {ret : Option FieldType} {lv : List (Nat × Value)} {stk : List Value} {st : fkS} {F : Option (ρ × fkS)} (hk : fk_ok w g k own cc nL ret fr lo) {j : Int32} {F1 : Int32 → Option (ρ × fkS)} (hdg : decode cc pc = .ok (.iaload, 1))
    (kk : ∀ x, fk_J w g en k (pc + 1) lv (.int x :: stk) st (F1 x)) : fk_J w g en k pc lv (.int j :: fk_rbo g :: stk) st (fk_chk (fk_in j 21) (fk_let (fk_bo j.toNatClampNeg) F1)) := by
  intro o ho hq
  cases hin : fk_in j 21 with
  | false => rw [hin] at ho; exact absurd ho (by simp [fk_chk])
  | true =>
  rw [hin] at ho
  have hin := fk_in_vp hin
  have kk := kk (fk_bo j.toNatClampNeg) o ho hq
  obtain ⟨p, l, e, R, s, m, args, below, meth, c, rv, sf⟩ := k
  obtain ⟨hx, hb, hml, hown, hts, hK, hE, hr, hlk, hinj, hfr, hlo⟩ := hk
  intro H locs ls hl hP hS
  exact va_ti hx hb hE.2.2.2.2.1 hS hin rfl hdg (kk H locs ls hl hP hS)
theorem a_bolen {w : fkW} {g : fkG} {k : fkK} {ρ : Type} {en : ρ → Option Value} {own : String} {cc : ByteArray} {nL fr lo pc : Nat} {ret : Option FieldType} {lv : List (Nat × Value)} {stk : List Value} {st : fkS} {F : Option (ρ × fkS)} (hk : fk_ok w g k own cc nL ret fr lo) (hdg : decode cc pc = .ok (.arraylength, 1))
    (kk : fk_J w g en k (pc + 1) lv (.int 21 :: stk) st F) : fk_J w g en k pc lv (fk_rbo g :: stk) st F := by
  intro o ho hq
  have kk := kk o ho hq
  obtain ⟨p, l, e, R, s, m, args, below, meth, c, rv, sf⟩ := k
  obtain ⟨hx, hb, hml, hown, hts, hK, hE, hr, hlk, hinj, hfr, hlo⟩ := hk
  intro H locs ls hl hP hS
  exact va_tlen hx hb hE.2.2.2.2.1 hS rfl hdg (kk H locs ls hl hP hS)
end
section
theorem wf_0_9 : Cond.fieldLink RX0 9 "PieFunnels$Bakery" "birds" "I" ∈ fkB := fkB_in (List.mem_of_getElem? (i := 135) (by decide +kernel)) rfl
theorem f_0_9 {g : fkG} {k : fkK} {ρ : Type} {en : ρ → Option Value} {cc : ByteArray} {nL fr lo pc : Nat} {ret : Option FieldType} {lv : List (Nat × Value)} {stk : List Value} {st : fkS} (hk : fk_ok wC g k RX0 cc nL ret fr lo) {i : Nat} {F1 : Int32 → Option (ρ × fkS)} (hi : kdC i = 0) (hdg : decode cc pc = .ok (.getfield 9, 3))
    (kk : ∀ x, fk_J wC g en k (pc + 3) lv (.int x :: stk) st (F1 x)) : fk_J wC g en k pc lv (fk_r g i :: stk) st (fk_let (gI st 0 i) F1) := by
  intro o ho hq
  have kk := kk (gI st 0 i) o ho hq
  obtain ⟨p, l, e, R, s, m, args, below, meth, c, rv, sf⟩ := k
  obtain ⟨hx, hb, hml, hown, hts, hK, hE, hr, hlk, hinj, hfr, hlo⟩ := hk
  intro H locs ls hl hP hS
  exact va_get (D := g.2.1) (ci := 0) (C := RX0) (T := TX0) (N := 11) (v := .int (gI st 0 i)) hx hb hts wB_0 hown hK hP i (wat_0 hi) rfl 0 (by decide) (hts _ wf_0_9) (fun _ h => h) rfl hdg (kk H locs ls hl hP hS)
theorem p_0_9 {g : fkG} {k : fkK} {ρ : Type} {en : ρ → Option Value} {cc : ByteArray} {nL fr lo pc : Nat} {ret : Option FieldType} {lv : List (Nat × Value)} {stk : List Value} {st : fkS} (hk : fk_ok wC g k RX0 cc nL ret fr lo) {i : Nat} {v : Int32} {F1 : fkS → Option (ρ × fkS)} (hi : kdC i = 0) (hdg : decode cc pc = .ok (.putfield 9, 3))
    (kk : ∀ st1, fk_J wC g en k (pc + 3) lv stk st1 (F1 st1)) : fk_J wC g en k pc lv (.int v :: fk_r g i :: stk) st (fk_let (sI st 0 i v) F1) := by
  intro o ho hq
  have kk := kk (sI st 0 i v) o ho hq
  obtain ⟨p, l, e, R, s, m, args, below, meth, c, rv, sf⟩ := k
  obtain ⟨hx, hb, hml, hown, hts, hK, hE, hr, hlk, hinj, hfr, hlo⟩ := hk
  intro H locs ls hl hP hS
  refine va_put (D := g.2.1) (ci := 0) (C := RX0) (T := TX0) (N := 11) (v := .int v) (ty := .int) hx hb hts wB_0 tyX0 tyX0_ok nmX0 hown hK hP (fk_wD hinj _ _) hS i (wat_0 hi) rfl 0 (by decide) (hts _ wf_0_9) (fun _ h => h) rfl (by decide +kernel) rfl rfl (Nat.le_of_ble_eq_true rfl) hdg (fun H1 locs1 hP1 hD1 hS1 => kk H1 locs1 ls hl ?_ hS1)
  rw [← wst_0_0 hi]
  exact hP1
theorem wf_4_64 : Cond.fieldLinkNest RX4 64 "PieFunnels$Bakery" "birds" "I" "PieFunnels" ∈ fk_nests := List.mem_of_getElem? (i := 0) (by decide +kernel)
theorem f_4_64 {g : fkG} {k : fkK} {ρ : Type} {en : ρ → Option Value} {cc : ByteArray} {nL fr lo pc : Nat} {ret : Option FieldType} {lv : List (Nat × Value)} {stk : List Value} {st : fkS} (hk : fk_ok wC g k RX4 cc nL ret fr lo) {i : Nat} {F1 : Int32 → Option (ρ × fkS)} (hi : kdC i = 0) (hdg : decode cc pc = .ok (.getfield 64, 3))
    (kk : ∀ x, fk_J wC g en k (pc + 3) lv (.int x :: stk) st (F1 x)) : fk_J wC g en k pc lv (fk_r g i :: stk) st (fk_let (gI st 0 i) F1) := by
  intro o ho hq
  have kk := kk (gI st 0 i) o ho hq
  obtain ⟨p, l, e, R, s, m, args, below, meth, c, rv, sf⟩ := k
  obtain ⟨hx, hb, hml, hown, hts, hK, hE, hr, hlk, hinj, hfr, hlo⟩ := hk
  intro H locs ls hl hP hS
  exact va_getN (D := g.2.1) (ci := 0) (C := RX0) (T := TX0) (N := 11) (v := .int (gI st 0 i)) hx hb hts wB_0 hown hK hP i (wat_0 hi) rfl 0 (by decide) (va_Nw.use rfl (hE.1 _ wf_4_64)) (fun _ h => h) rfl hdg (kk H locs ls hl hP hS)
theorem p_4_64 {g : fkG} {k : fkK} {ρ : Type} {en : ρ → Option Value} {cc : ByteArray} {nL fr lo pc : Nat} {ret : Option FieldType} {lv : List (Nat × Value)} {stk : List Value} {st : fkS} (hk : fk_ok wC g k RX4 cc nL ret fr lo) {i : Nat} {v : Int32} {F1 : fkS → Option (ρ × fkS)} (hi : kdC i = 0) (hdg : decode cc pc = .ok (.putfield 64, 3))
    (kk : ∀ st1, fk_J wC g en k (pc + 3) lv stk st1 (F1 st1)) : fk_J wC g en k pc lv (.int v :: fk_r g i :: stk) st (fk_let (sI st 0 i v) F1) := by
  intro o ho hq
  have kk := kk (sI st 0 i v) o ho hq
  obtain ⟨p, l, e, R, s, m, args, below, meth, c, rv, sf⟩ := k
  obtain ⟨hx, hb, hml, hown, hts, hK, hE, hr, hlk, hinj, hfr, hlo⟩ := hk
  intro H locs ls hl hP hS
  refine va_putN (D := g.2.1) (ci := 0) (C := RX0) (T := TX0) (N := 11) (v := .int v) (ty := .int) hx hb hts wB_0 tyX0 tyX0_ok nmX0 hown hK hP (fk_wD hinj _ _) hS i (wat_0 hi) rfl 0 (by decide) (va_Nw.use rfl (hE.1 _ wf_4_64)) (fun _ h => h) rfl (by decide +kernel) rfl rfl (Nat.le_of_ble_eq_true rfl) hdg (fun H1 locs1 hP1 hD1 hS1 => kk H1 locs1 ls hl ?_ hS1)
  rw [← wst_0_0 hi]
  exact hP1
theorem wf_7_171 : Cond.fieldLinkNest RX7 171 "PieFunnels$Bakery" "birds" "I" "PieFunnels" ∈ fk_nests := List.mem_of_getElem? (i := 1) (by decide +kernel)
theorem f_7_171 {g : fkG} {k : fkK} {ρ : Type} {en : ρ → Option Value} {cc : ByteArray} {nL fr lo pc : Nat} {ret : Option FieldType} {lv : List (Nat × Value)} {stk : List Value} {st : fkS} (hk : fk_ok wC g k RX7 cc nL ret fr lo) {i : Nat} {F1 : Int32 → Option (ρ × fkS)} (hi : kdC i = 0) (hdg : decode cc pc = .ok (.getfield 171, 3))
    (kk : ∀ x, fk_J wC g en k (pc + 3) lv (.int x :: stk) st (F1 x)) : fk_J wC g en k pc lv (fk_r g i :: stk) st (fk_let (gI st 0 i) F1) := by
  intro o ho hq
  have kk := kk (gI st 0 i) o ho hq
  obtain ⟨p, l, e, R, s, m, args, below, meth, c, rv, sf⟩ := k
  obtain ⟨hx, hb, hml, hown, hts, hK, hE, hr, hlk, hinj, hfr, hlo⟩ := hk
  intro H locs ls hl hP hS
  exact va_getN (D := g.2.1) (ci := 0) (C := RX0) (T := TX0) (N := 11) (v := .int (gI st 0 i)) hx hb hts wB_0 hown hK hP i (wat_0 hi) rfl 0 (by decide) (va_Nw.use rfl (hE.1 _ wf_7_171)) (fun _ h => h) rfl hdg (kk H locs ls hl hP hS)
theorem p_7_171 {g : fkG} {k : fkK} {ρ : Type} {en : ρ → Option Value} {cc : ByteArray} {nL fr lo pc : Nat} {ret : Option FieldType} {lv : List (Nat × Value)} {stk : List Value} {st : fkS} (hk : fk_ok wC g k RX7 cc nL ret fr lo) {i : Nat} {v : Int32} {F1 : fkS → Option (ρ × fkS)} (hi : kdC i = 0) (hdg : decode cc pc = .ok (.putfield 171, 3))
    (kk : ∀ st1, fk_J wC g en k (pc + 3) lv stk st1 (F1 st1)) : fk_J wC g en k pc lv (.int v :: fk_r g i :: stk) st (fk_let (sI st 0 i v) F1) := by
  intro o ho hq
  have kk := kk (sI st 0 i v) o ho hq
  obtain ⟨p, l, e, R, s, m, args, below, meth, c, rv, sf⟩ := k
  obtain ⟨hx, hb, hml, hown, hts, hK, hE, hr, hlk, hinj, hfr, hlo⟩ := hk
  intro H locs ls hl hP hS
  refine va_putN (D := g.2.1) (ci := 0) (C := RX0) (T := TX0) (N := 11) (v := .int v) (ty := .int) hx hb hts wB_0 tyX0 tyX0_ok nmX0 hown hK hP (fk_wD hinj _ _) hS i (wat_0 hi) rfl 0 (by decide) (va_Nw.use rfl (hE.1 _ wf_7_171)) (fun _ h => h) rfl (by decide +kernel) rfl rfl (Nat.le_of_ble_eq_true rfl) hdg (fun H1 locs1 hP1 hD1 hS1 => kk H1 locs1 ls hl ?_ hS1)
  rw [← wst_0_0 hi]
  exact hP1
theorem wf_0_15 : Cond.fieldLink RX0 15 "PieFunnels$Bakery" "kinds" "[I" ∈ fkB := fkB_in (List.mem_of_getElem? (i := 138) (by decide +kernel)) rfl
theorem f_0_15 {g : fkG} {k : fkK} {ρ : Type} {en : ρ → Option Value} {cc : ByteArray} {nL fr lo pc : Nat} {ret : Option FieldType} {lv : List (Nat × Value)} {stk : List Value} {st : fkS} {F : Option (ρ × fkS)} (hk : fk_ok wC g k RX0 cc nL ret fr lo) {i : Nat} (hi : kdC i = 0) (hdg : decode cc pc = .ok (.getfield 15, 3))
    (kk : fk_J wC g en k (pc + 3) lv (fk_r g (i + 3) :: stk) st F) : fk_J wC g en k pc lv (fk_r g i :: stk) st F := by
  intro o ho hq
  have kk := kk o ho hq
  obtain ⟨p, l, e, R, s, m, args, below, meth, c, rv, sf⟩ := k
  obtain ⟨hx, hb, hml, hown, hts, hK, hE, hr, hlk, hinj, hfr, hlo⟩ := hk
  intro H locs ls hl hP hS
  exact va_get (D := g.2.1) (ci := 0) (C := RX0) (T := TX0) (N := 11) (v := fk_r g (i + 3)) hx hb hts wB_0 hown hK hP i (wat_0 hi) rfl 1 (by decide) (hts _ wf_0_15) (fun _ h => h) rfl hdg (kk H locs ls hl hP hS)
theorem wf_6_37 : Cond.fieldLinkNest RX6 37 "PieFunnels$Bakery" "kinds" "[I" "PieFunnels" ∈ fk_nests := List.mem_of_getElem? (i := 2) (by decide +kernel)
theorem f_6_37 {g : fkG} {k : fkK} {ρ : Type} {en : ρ → Option Value} {cc : ByteArray} {nL fr lo pc : Nat} {ret : Option FieldType} {lv : List (Nat × Value)} {stk : List Value} {st : fkS} {F : Option (ρ × fkS)} (hk : fk_ok wC g k RX6 cc nL ret fr lo) {i : Nat} (hi : kdC i = 0) (hdg : decode cc pc = .ok (.getfield 37, 3))
    (kk : fk_J wC g en k (pc + 3) lv (fk_r g (i + 3) :: stk) st F) : fk_J wC g en k pc lv (fk_r g i :: stk) st F := by
  intro o ho hq
  have kk := kk o ho hq
  obtain ⟨p, l, e, R, s, m, args, below, meth, c, rv, sf⟩ := k
  obtain ⟨hx, hb, hml, hown, hts, hK, hE, hr, hlk, hinj, hfr, hlo⟩ := hk
  intro H locs ls hl hP hS
  exact va_getN (D := g.2.1) (ci := 0) (C := RX0) (T := TX0) (N := 11) (v := fk_r g (i + 3)) hx hb hts wB_0 hown hK hP i (wat_0 hi) rfl 1 (by decide) (va_Nw.use rfl (hE.1 _ wf_6_37)) (fun _ h => h) rfl hdg (kk H locs ls hl hP hS)
theorem wf_1_34 : Cond.fieldLinkNest RX1 34 "PieFunnels$Bakery" "kinds" "[I" "PieFunnels" ∈ fk_nests := List.mem_of_getElem? (i := 3) (by decide +kernel)
theorem f_1_34 {g : fkG} {k : fkK} {ρ : Type} {en : ρ → Option Value} {cc : ByteArray} {nL fr lo pc : Nat} {ret : Option FieldType} {lv : List (Nat × Value)} {stk : List Value} {st : fkS} {F : Option (ρ × fkS)} (hk : fk_ok wC g k RX1 cc nL ret fr lo) {i : Nat} (hi : kdC i = 0) (hdg : decode cc pc = .ok (.getfield 34, 3))
    (kk : fk_J wC g en k (pc + 3) lv (fk_r g (i + 3) :: stk) st F) : fk_J wC g en k pc lv (fk_r g i :: stk) st F := by
  intro o ho hq
  have kk := kk o ho hq
  obtain ⟨p, l, e, R, s, m, args, below, meth, c, rv, sf⟩ := k
  obtain ⟨hx, hb, hml, hown, hts, hK, hE, hr, hlk, hinj, hfr, hlo⟩ := hk
  intro H locs ls hl hP hS
  exact va_getN (D := g.2.1) (ci := 0) (C := RX0) (T := TX0) (N := 11) (v := fk_r g (i + 3)) hx hb hts wB_0 hown hK hP i (wat_0 hi) rfl 1 (by decide) (va_Nw.use rfl (hE.1 _ wf_1_34)) (fun _ h => h) rfl hdg (kk H locs ls hl hP hS)
theorem wf_7_142 : Cond.fieldLinkNest RX7 142 "PieFunnels$Bakery" "kinds" "[I" "PieFunnels" ∈ fk_nests := List.mem_of_getElem? (i := 4) (by decide +kernel)
theorem f_7_142 {g : fkG} {k : fkK} {ρ : Type} {en : ρ → Option Value} {cc : ByteArray} {nL fr lo pc : Nat} {ret : Option FieldType} {lv : List (Nat × Value)} {stk : List Value} {st : fkS} {F : Option (ρ × fkS)} (hk : fk_ok wC g k RX7 cc nL ret fr lo) {i : Nat} (hi : kdC i = 0) (hdg : decode cc pc = .ok (.getfield 142, 3))
    (kk : fk_J wC g en k (pc + 3) lv (fk_r g (i + 3) :: stk) st F) : fk_J wC g en k pc lv (fk_r g i :: stk) st F := by
  intro o ho hq
  have kk := kk o ho hq
  obtain ⟨p, l, e, R, s, m, args, below, meth, c, rv, sf⟩ := k
  obtain ⟨hx, hb, hml, hown, hts, hK, hE, hr, hlk, hinj, hfr, hlo⟩ := hk
  intro H locs ls hl hP hS
  exact va_getN (D := g.2.1) (ci := 0) (C := RX0) (T := TX0) (N := 11) (v := fk_r g (i + 3)) hx hb hts wB_0 hown hK hP i (wat_0 hi) rfl 1 (by decide) (va_Nw.use rfl (hE.1 _ wf_7_142)) (fun _ h => h) rfl hdg (kk H locs ls hl hP hS)
theorem wf_0_19 : Cond.fieldLink RX0 19 "PieFunnels$Bakery" "as" "[I" ∈ fkB := fkB_in (List.mem_of_getElem? (i := 142) (by decide +kernel)) rfl
theorem f_0_19 {g : fkG} {k : fkK} {ρ : Type} {en : ρ → Option Value} {cc : ByteArray} {nL fr lo pc : Nat} {ret : Option FieldType} {lv : List (Nat × Value)} {stk : List Value} {st : fkS} {F : Option (ρ × fkS)} (hk : fk_ok wC g k RX0 cc nL ret fr lo) {i : Nat} (hi : kdC i = 0) (hdg : decode cc pc = .ok (.getfield 19, 3))
    (kk : fk_J wC g en k (pc + 3) lv (fk_r g (i + 6) :: stk) st F) : fk_J wC g en k pc lv (fk_r g i :: stk) st F := by
  intro o ho hq
  have kk := kk o ho hq
  obtain ⟨p, l, e, R, s, m, args, below, meth, c, rv, sf⟩ := k
  obtain ⟨hx, hb, hml, hown, hts, hK, hE, hr, hlk, hinj, hfr, hlo⟩ := hk
  intro H locs ls hl hP hS
  exact va_get (D := g.2.1) (ci := 0) (C := RX0) (T := TX0) (N := 11) (v := fk_r g (i + 6)) hx hb hts wB_0 hown hK hP i (wat_0 hi) rfl 2 (by decide) (hts _ wf_0_19) (fun _ h => h) rfl hdg (kk H locs ls hl hP hS)
theorem wf_6_40 : Cond.fieldLinkNest RX6 40 "PieFunnels$Bakery" "as" "[I" "PieFunnels" ∈ fk_nests := List.mem_of_getElem? (i := 5) (by decide +kernel)
theorem f_6_40 {g : fkG} {k : fkK} {ρ : Type} {en : ρ → Option Value} {cc : ByteArray} {nL fr lo pc : Nat} {ret : Option FieldType} {lv : List (Nat × Value)} {stk : List Value} {st : fkS} {F : Option (ρ × fkS)} (hk : fk_ok wC g k RX6 cc nL ret fr lo) {i : Nat} (hi : kdC i = 0) (hdg : decode cc pc = .ok (.getfield 40, 3))
    (kk : fk_J wC g en k (pc + 3) lv (fk_r g (i + 6) :: stk) st F) : fk_J wC g en k pc lv (fk_r g i :: stk) st F := by
  intro o ho hq
  have kk := kk o ho hq
  obtain ⟨p, l, e, R, s, m, args, below, meth, c, rv, sf⟩ := k
  obtain ⟨hx, hb, hml, hown, hts, hK, hE, hr, hlk, hinj, hfr, hlo⟩ := hk
  intro H locs ls hl hP hS
  exact va_getN (D := g.2.1) (ci := 0) (C := RX0) (T := TX0) (N := 11) (v := fk_r g (i + 6)) hx hb hts wB_0 hown hK hP i (wat_0 hi) rfl 2 (by decide) (va_Nw.use rfl (hE.1 _ wf_6_40)) (fun _ h => h) rfl hdg (kk H locs ls hl hP hS)
theorem wf_1_37 : Cond.fieldLinkNest RX1 37 "PieFunnels$Bakery" "as" "[I" "PieFunnels" ∈ fk_nests := List.mem_of_getElem? (i := 6) (by decide +kernel)
theorem f_1_37 {g : fkG} {k : fkK} {ρ : Type} {en : ρ → Option Value} {cc : ByteArray} {nL fr lo pc : Nat} {ret : Option FieldType} {lv : List (Nat × Value)} {stk : List Value} {st : fkS} {F : Option (ρ × fkS)} (hk : fk_ok wC g k RX1 cc nL ret fr lo) {i : Nat} (hi : kdC i = 0) (hdg : decode cc pc = .ok (.getfield 37, 3))
    (kk : fk_J wC g en k (pc + 3) lv (fk_r g (i + 6) :: stk) st F) : fk_J wC g en k pc lv (fk_r g i :: stk) st F := by
  intro o ho hq
  have kk := kk o ho hq
  obtain ⟨p, l, e, R, s, m, args, below, meth, c, rv, sf⟩ := k
  obtain ⟨hx, hb, hml, hown, hts, hK, hE, hr, hlk, hinj, hfr, hlo⟩ := hk
  intro H locs ls hl hP hS
  exact va_getN (D := g.2.1) (ci := 0) (C := RX0) (T := TX0) (N := 11) (v := fk_r g (i + 6)) hx hb hts wB_0 hown hK hP i (wat_0 hi) rfl 2 (by decide) (va_Nw.use rfl (hE.1 _ wf_1_37)) (fun _ h => h) rfl hdg (kk H locs ls hl hP hS)
theorem wf_7_193 : Cond.fieldLinkNest RX7 193 "PieFunnels$Bakery" "as" "[I" "PieFunnels" ∈ fk_nests := List.mem_of_getElem? (i := 7) (by decide +kernel)
theorem f_7_193 {g : fkG} {k : fkK} {ρ : Type} {en : ρ → Option Value} {cc : ByteArray} {nL fr lo pc : Nat} {ret : Option FieldType} {lv : List (Nat × Value)} {stk : List Value} {st : fkS} {F : Option (ρ × fkS)} (hk : fk_ok wC g k RX7 cc nL ret fr lo) {i : Nat} (hi : kdC i = 0) (hdg : decode cc pc = .ok (.getfield 193, 3))
    (kk : fk_J wC g en k (pc + 3) lv (fk_r g (i + 6) :: stk) st F) : fk_J wC g en k pc lv (fk_r g i :: stk) st F := by
  intro o ho hq
  have kk := kk o ho hq
  obtain ⟨p, l, e, R, s, m, args, below, meth, c, rv, sf⟩ := k
  obtain ⟨hx, hb, hml, hown, hts, hK, hE, hr, hlk, hinj, hfr, hlo⟩ := hk
  intro H locs ls hl hP hS
  exact va_getN (D := g.2.1) (ci := 0) (C := RX0) (T := TX0) (N := 11) (v := fk_r g (i + 6)) hx hb hts wB_0 hown hK hP i (wat_0 hi) rfl 2 (by decide) (va_Nw.use rfl (hE.1 _ wf_7_193)) (fun _ h => h) rfl hdg (kk H locs ls hl hP hS)
theorem wf_0_22 : Cond.fieldLink RX0 22 "PieFunnels$Bakery" "mouths" "[I" ∈ fkB := fkB_in (List.mem_of_getElem? (i := 146) (by decide +kernel)) rfl
theorem f_0_22 {g : fkG} {k : fkK} {ρ : Type} {en : ρ → Option Value} {cc : ByteArray} {nL fr lo pc : Nat} {ret : Option FieldType} {lv : List (Nat × Value)} {stk : List Value} {st : fkS} {F : Option (ρ × fkS)} (hk : fk_ok wC g k RX0 cc nL ret fr lo) {i : Nat} (hi : kdC i = 0) (hdg : decode cc pc = .ok (.getfield 22, 3))
    (kk : fk_J wC g en k (pc + 3) lv (fk_r g (i + 9) :: stk) st F) : fk_J wC g en k pc lv (fk_r g i :: stk) st F := by
  intro o ho hq
  have kk := kk o ho hq
  obtain ⟨p, l, e, R, s, m, args, below, meth, c, rv, sf⟩ := k
  obtain ⟨hx, hb, hml, hown, hts, hK, hE, hr, hlk, hinj, hfr, hlo⟩ := hk
  intro H locs ls hl hP hS
  exact va_get (D := g.2.1) (ci := 0) (C := RX0) (T := TX0) (N := 11) (v := fk_r g (i + 9)) hx hb hts wB_0 hown hK hP i (wat_0 hi) rfl 3 (by decide) (hts _ wf_0_22) (fun _ h => h) rfl hdg (kk H locs ls hl hP hS)
theorem wf_6_43 : Cond.fieldLinkNest RX6 43 "PieFunnels$Bakery" "mouths" "[I" "PieFunnels" ∈ fk_nests := List.mem_of_getElem? (i := 8) (by decide +kernel)
theorem f_6_43 {g : fkG} {k : fkK} {ρ : Type} {en : ρ → Option Value} {cc : ByteArray} {nL fr lo pc : Nat} {ret : Option FieldType} {lv : List (Nat × Value)} {stk : List Value} {st : fkS} {F : Option (ρ × fkS)} (hk : fk_ok wC g k RX6 cc nL ret fr lo) {i : Nat} (hi : kdC i = 0) (hdg : decode cc pc = .ok (.getfield 43, 3))
    (kk : fk_J wC g en k (pc + 3) lv (fk_r g (i + 9) :: stk) st F) : fk_J wC g en k pc lv (fk_r g i :: stk) st F := by
  intro o ho hq
  have kk := kk o ho hq
  obtain ⟨p, l, e, R, s, m, args, below, meth, c, rv, sf⟩ := k
  obtain ⟨hx, hb, hml, hown, hts, hK, hE, hr, hlk, hinj, hfr, hlo⟩ := hk
  intro H locs ls hl hP hS
  exact va_getN (D := g.2.1) (ci := 0) (C := RX0) (T := TX0) (N := 11) (v := fk_r g (i + 9)) hx hb hts wB_0 hown hK hP i (wat_0 hi) rfl 3 (by decide) (va_Nw.use rfl (hE.1 _ wf_6_43)) (fun _ h => h) rfl hdg (kk H locs ls hl hP hS)
theorem wf_7_196 : Cond.fieldLinkNest RX7 196 "PieFunnels$Bakery" "mouths" "[I" "PieFunnels" ∈ fk_nests := List.mem_of_getElem? (i := 9) (by decide +kernel)
theorem f_7_196 {g : fkG} {k : fkK} {ρ : Type} {en : ρ → Option Value} {cc : ByteArray} {nL fr lo pc : Nat} {ret : Option FieldType} {lv : List (Nat × Value)} {stk : List Value} {st : fkS} {F : Option (ρ × fkS)} (hk : fk_ok wC g k RX7 cc nL ret fr lo) {i : Nat} (hi : kdC i = 0) (hdg : decode cc pc = .ok (.getfield 196, 3))
    (kk : fk_J wC g en k (pc + 3) lv (fk_r g (i + 9) :: stk) st F) : fk_J wC g en k pc lv (fk_r g i :: stk) st F := by
  intro o ho hq
  have kk := kk o ho hq
  obtain ⟨p, l, e, R, s, m, args, below, meth, c, rv, sf⟩ := k
  obtain ⟨hx, hb, hml, hown, hts, hK, hE, hr, hlk, hinj, hfr, hlo⟩ := hk
  intro H locs ls hl hP hS
  exact va_getN (D := g.2.1) (ci := 0) (C := RX0) (T := TX0) (N := 11) (v := fk_r g (i + 9)) hx hb hts wB_0 hown hK hP i (wat_0 hi) rfl 3 (by decide) (va_Nw.use rfl (hE.1 _ wf_7_196)) (fun _ h => h) rfl hdg (kk H locs ls hl hP hS)
theorem wf_0_25 : Cond.fieldLink RX0 25 "PieFunnels$Bakery" "table" "[I" ∈ fkB := fkB_in (List.mem_of_getElem? (i := 149) (by decide +kernel)) rfl
theorem f_0_25 {g : fkG} {k : fkK} {ρ : Type} {en : ρ → Option Value} {cc : ByteArray} {nL fr lo pc : Nat} {ret : Option FieldType} {lv : List (Nat × Value)} {stk : List Value} {st : fkS} {F : Option (ρ × fkS)} (hk : fk_ok wC g k RX0 cc nL ret fr lo) {i : Nat} (hi : kdC i = 0) (hdg : decode cc pc = .ok (.getfield 25, 3))
    (kk : fk_J wC g en k (pc + 3) lv (fk_r g (i + 12) :: stk) st F) : fk_J wC g en k pc lv (fk_r g i :: stk) st F := by
  intro o ho hq
  have kk := kk o ho hq
  obtain ⟨p, l, e, R, s, m, args, below, meth, c, rv, sf⟩ := k
  obtain ⟨hx, hb, hml, hown, hts, hK, hE, hr, hlk, hinj, hfr, hlo⟩ := hk
  intro H locs ls hl hP hS
  exact va_get (D := g.2.1) (ci := 0) (C := RX0) (T := TX0) (N := 11) (v := fk_r g (i + 12)) hx hb hts wB_0 hown hK hP i (wat_0 hi) rfl 4 (by decide) (hts _ wf_0_25) (fun _ h => h) rfl hdg (kk H locs ls hl hP hS)
theorem wf_0_28 : Cond.fieldLink RX0 28 "PieFunnels$Bakery" "heat" "I" ∈ fkB := fkB_in (List.mem_of_getElem? (i := 150) (by decide +kernel)) rfl
theorem f_0_28 {g : fkG} {k : fkK} {ρ : Type} {en : ρ → Option Value} {cc : ByteArray} {nL fr lo pc : Nat} {ret : Option FieldType} {lv : List (Nat × Value)} {stk : List Value} {st : fkS} (hk : fk_ok wC g k RX0 cc nL ret fr lo) {i : Nat} {F1 : Int32 → Option (ρ × fkS)} (hi : kdC i = 0) (hdg : decode cc pc = .ok (.getfield 28, 3))
    (kk : ∀ x, fk_J wC g en k (pc + 3) lv (.int x :: stk) st (F1 x)) : fk_J wC g en k pc lv (fk_r g i :: stk) st (fk_let (gI st 5 i) F1) := by
  intro o ho hq
  have kk := kk (gI st 5 i) o ho hq
  obtain ⟨p, l, e, R, s, m, args, below, meth, c, rv, sf⟩ := k
  obtain ⟨hx, hb, hml, hown, hts, hK, hE, hr, hlk, hinj, hfr, hlo⟩ := hk
  intro H locs ls hl hP hS
  exact va_get (D := g.2.1) (ci := 0) (C := RX0) (T := TX0) (N := 11) (v := .int (gI st 5 i)) hx hb hts wB_0 hown hK hP i (wat_0 hi) rfl 5 (by decide) (hts _ wf_0_28) (fun _ h => h) rfl hdg (kk H locs ls hl hP hS)
theorem p_0_28 {g : fkG} {k : fkK} {ρ : Type} {en : ρ → Option Value} {cc : ByteArray} {nL fr lo pc : Nat} {ret : Option FieldType} {lv : List (Nat × Value)} {stk : List Value} {st : fkS} (hk : fk_ok wC g k RX0 cc nL ret fr lo) {i : Nat} {v : Int32} {F1 : fkS → Option (ρ × fkS)} (hi : kdC i = 0) (hdg : decode cc pc = .ok (.putfield 28, 3))
    (kk : ∀ st1, fk_J wC g en k (pc + 3) lv stk st1 (F1 st1)) : fk_J wC g en k pc lv (.int v :: fk_r g i :: stk) st (fk_let (sI st 5 i v) F1) := by
  intro o ho hq
  have kk := kk (sI st 5 i v) o ho hq
  obtain ⟨p, l, e, R, s, m, args, below, meth, c, rv, sf⟩ := k
  obtain ⟨hx, hb, hml, hown, hts, hK, hE, hr, hlk, hinj, hfr, hlo⟩ := hk
  intro H locs ls hl hP hS
  refine va_put (D := g.2.1) (ci := 0) (C := RX0) (T := TX0) (N := 11) (v := .int v) (ty := .int) hx hb hts wB_0 tyX0 tyX0_ok nmX0 hown hK hP (fk_wD hinj _ _) hS i (wat_0 hi) rfl 5 (by decide) (hts _ wf_0_28) (fun _ h => h) rfl (by decide +kernel) rfl rfl (Nat.le_of_ble_eq_true rfl) hdg (fun H1 locs1 hP1 hD1 hS1 => kk H1 locs1 ls hl ?_ hS1)
  rw [← wst_0_5 hi]
  exact hP1
theorem wf_6_46 : Cond.fieldLinkNest RX6 46 "PieFunnels$Bakery" "heat" "I" "PieFunnels" ∈ fk_nests := List.mem_of_getElem? (i := 10) (by decide +kernel)
theorem f_6_46 {g : fkG} {k : fkK} {ρ : Type} {en : ρ → Option Value} {cc : ByteArray} {nL fr lo pc : Nat} {ret : Option FieldType} {lv : List (Nat × Value)} {stk : List Value} {st : fkS} (hk : fk_ok wC g k RX6 cc nL ret fr lo) {i : Nat} {F1 : Int32 → Option (ρ × fkS)} (hi : kdC i = 0) (hdg : decode cc pc = .ok (.getfield 46, 3))
    (kk : ∀ x, fk_J wC g en k (pc + 3) lv (.int x :: stk) st (F1 x)) : fk_J wC g en k pc lv (fk_r g i :: stk) st (fk_let (gI st 5 i) F1) := by
  intro o ho hq
  have kk := kk (gI st 5 i) o ho hq
  obtain ⟨p, l, e, R, s, m, args, below, meth, c, rv, sf⟩ := k
  obtain ⟨hx, hb, hml, hown, hts, hK, hE, hr, hlk, hinj, hfr, hlo⟩ := hk
  intro H locs ls hl hP hS
  exact va_getN (D := g.2.1) (ci := 0) (C := RX0) (T := TX0) (N := 11) (v := .int (gI st 5 i)) hx hb hts wB_0 hown hK hP i (wat_0 hi) rfl 5 (by decide) (va_Nw.use rfl (hE.1 _ wf_6_46)) (fun _ h => h) rfl hdg (kk H locs ls hl hP hS)
theorem p_6_46 {g : fkG} {k : fkK} {ρ : Type} {en : ρ → Option Value} {cc : ByteArray} {nL fr lo pc : Nat} {ret : Option FieldType} {lv : List (Nat × Value)} {stk : List Value} {st : fkS} (hk : fk_ok wC g k RX6 cc nL ret fr lo) {i : Nat} {v : Int32} {F1 : fkS → Option (ρ × fkS)} (hi : kdC i = 0) (hdg : decode cc pc = .ok (.putfield 46, 3))
    (kk : ∀ st1, fk_J wC g en k (pc + 3) lv stk st1 (F1 st1)) : fk_J wC g en k pc lv (.int v :: fk_r g i :: stk) st (fk_let (sI st 5 i v) F1) := by
  intro o ho hq
  have kk := kk (sI st 5 i v) o ho hq
  obtain ⟨p, l, e, R, s, m, args, below, meth, c, rv, sf⟩ := k
  obtain ⟨hx, hb, hml, hown, hts, hK, hE, hr, hlk, hinj, hfr, hlo⟩ := hk
  intro H locs ls hl hP hS
  refine va_putN (D := g.2.1) (ci := 0) (C := RX0) (T := TX0) (N := 11) (v := .int v) (ty := .int) hx hb hts wB_0 tyX0 tyX0_ok nmX0 hown hK hP (fk_wD hinj _ _) hS i (wat_0 hi) rfl 5 (by decide) (va_Nw.use rfl (hE.1 _ wf_6_46)) (fun _ h => h) rfl (by decide +kernel) rfl rfl (Nat.le_of_ble_eq_true rfl) hdg (fun H1 locs1 hP1 hD1 hS1 => kk H1 locs1 ls hl ?_ hS1)
  rw [← wst_0_5 hi]
  exact hP1
theorem wf_4_88 : Cond.fieldLinkNest RX4 88 "PieFunnels$Bakery" "heat" "I" "PieFunnels" ∈ fk_nests := List.mem_of_getElem? (i := 11) (by decide +kernel)
theorem f_4_88 {g : fkG} {k : fkK} {ρ : Type} {en : ρ → Option Value} {cc : ByteArray} {nL fr lo pc : Nat} {ret : Option FieldType} {lv : List (Nat × Value)} {stk : List Value} {st : fkS} (hk : fk_ok wC g k RX4 cc nL ret fr lo) {i : Nat} {F1 : Int32 → Option (ρ × fkS)} (hi : kdC i = 0) (hdg : decode cc pc = .ok (.getfield 88, 3))
    (kk : ∀ x, fk_J wC g en k (pc + 3) lv (.int x :: stk) st (F1 x)) : fk_J wC g en k pc lv (fk_r g i :: stk) st (fk_let (gI st 5 i) F1) := by
  intro o ho hq
  have kk := kk (gI st 5 i) o ho hq
  obtain ⟨p, l, e, R, s, m, args, below, meth, c, rv, sf⟩ := k
  obtain ⟨hx, hb, hml, hown, hts, hK, hE, hr, hlk, hinj, hfr, hlo⟩ := hk
  intro H locs ls hl hP hS
  exact va_getN (D := g.2.1) (ci := 0) (C := RX0) (T := TX0) (N := 11) (v := .int (gI st 5 i)) hx hb hts wB_0 hown hK hP i (wat_0 hi) rfl 5 (by decide) (va_Nw.use rfl (hE.1 _ wf_4_88)) (fun _ h => h) rfl hdg (kk H locs ls hl hP hS)
theorem p_4_88 {g : fkG} {k : fkK} {ρ : Type} {en : ρ → Option Value} {cc : ByteArray} {nL fr lo pc : Nat} {ret : Option FieldType} {lv : List (Nat × Value)} {stk : List Value} {st : fkS} (hk : fk_ok wC g k RX4 cc nL ret fr lo) {i : Nat} {v : Int32} {F1 : fkS → Option (ρ × fkS)} (hi : kdC i = 0) (hdg : decode cc pc = .ok (.putfield 88, 3))
    (kk : ∀ st1, fk_J wC g en k (pc + 3) lv stk st1 (F1 st1)) : fk_J wC g en k pc lv (.int v :: fk_r g i :: stk) st (fk_let (sI st 5 i v) F1) := by
  intro o ho hq
  have kk := kk (sI st 5 i v) o ho hq
  obtain ⟨p, l, e, R, s, m, args, below, meth, c, rv, sf⟩ := k
  obtain ⟨hx, hb, hml, hown, hts, hK, hE, hr, hlk, hinj, hfr, hlo⟩ := hk
  intro H locs ls hl hP hS
  refine va_putN (D := g.2.1) (ci := 0) (C := RX0) (T := TX0) (N := 11) (v := .int v) (ty := .int) hx hb hts wB_0 tyX0 tyX0_ok nmX0 hown hK hP (fk_wD hinj _ _) hS i (wat_0 hi) rfl 5 (by decide) (va_Nw.use rfl (hE.1 _ wf_4_88)) (fun _ h => h) rfl (by decide +kernel) rfl rfl (Nat.le_of_ble_eq_true rfl) hdg (fun H1 locs1 hP1 hD1 hS1 => kk H1 locs1 ls hl ?_ hS1)
  rw [← wst_0_5 hi]
  exact hP1
theorem wf_7_178 : Cond.fieldLinkNest RX7 178 "PieFunnels$Bakery" "heat" "I" "PieFunnels" ∈ fk_nests := List.mem_of_getElem? (i := 12) (by decide +kernel)
theorem f_7_178 {g : fkG} {k : fkK} {ρ : Type} {en : ρ → Option Value} {cc : ByteArray} {nL fr lo pc : Nat} {ret : Option FieldType} {lv : List (Nat × Value)} {stk : List Value} {st : fkS} (hk : fk_ok wC g k RX7 cc nL ret fr lo) {i : Nat} {F1 : Int32 → Option (ρ × fkS)} (hi : kdC i = 0) (hdg : decode cc pc = .ok (.getfield 178, 3))
    (kk : ∀ x, fk_J wC g en k (pc + 3) lv (.int x :: stk) st (F1 x)) : fk_J wC g en k pc lv (fk_r g i :: stk) st (fk_let (gI st 5 i) F1) := by
  intro o ho hq
  have kk := kk (gI st 5 i) o ho hq
  obtain ⟨p, l, e, R, s, m, args, below, meth, c, rv, sf⟩ := k
  obtain ⟨hx, hb, hml, hown, hts, hK, hE, hr, hlk, hinj, hfr, hlo⟩ := hk
  intro H locs ls hl hP hS
  exact va_getN (D := g.2.1) (ci := 0) (C := RX0) (T := TX0) (N := 11) (v := .int (gI st 5 i)) hx hb hts wB_0 hown hK hP i (wat_0 hi) rfl 5 (by decide) (va_Nw.use rfl (hE.1 _ wf_7_178)) (fun _ h => h) rfl hdg (kk H locs ls hl hP hS)
theorem p_7_178 {g : fkG} {k : fkK} {ρ : Type} {en : ρ → Option Value} {cc : ByteArray} {nL fr lo pc : Nat} {ret : Option FieldType} {lv : List (Nat × Value)} {stk : List Value} {st : fkS} (hk : fk_ok wC g k RX7 cc nL ret fr lo) {i : Nat} {v : Int32} {F1 : fkS → Option (ρ × fkS)} (hi : kdC i = 0) (hdg : decode cc pc = .ok (.putfield 178, 3))
    (kk : ∀ st1, fk_J wC g en k (pc + 3) lv stk st1 (F1 st1)) : fk_J wC g en k pc lv (.int v :: fk_r g i :: stk) st (fk_let (sI st 5 i v) F1) := by
  intro o ho hq
  have kk := kk (sI st 5 i v) o ho hq
  obtain ⟨p, l, e, R, s, m, args, below, meth, c, rv, sf⟩ := k
  obtain ⟨hx, hb, hml, hown, hts, hK, hE, hr, hlk, hinj, hfr, hlo⟩ := hk
  intro H locs ls hl hP hS
  refine va_putN (D := g.2.1) (ci := 0) (C := RX0) (T := TX0) (N := 11) (v := .int v) (ty := .int) hx hb hts wB_0 tyX0 tyX0_ok nmX0 hown hK hP (fk_wD hinj _ _) hS i (wat_0 hi) rfl 5 (by decide) (va_Nw.use rfl (hE.1 _ wf_7_178)) (fun _ h => h) rfl (by decide +kernel) rfl rfl (Nat.le_of_ble_eq_true rfl) hdg (fun H1 locs1 hP1 hD1 hS1 => kk H1 locs1 ls hl ?_ hS1)
  rw [← wst_0_5 hi]
  exact hP1
theorem wf_0_31 : Cond.fieldLink RX0 31 "PieFunnels$Bakery" "state" "I" ∈ fkB := fkB_in (List.mem_of_getElem? (i := 154) (by decide +kernel)) rfl
theorem f_0_31 {g : fkG} {k : fkK} {ρ : Type} {en : ρ → Option Value} {cc : ByteArray} {nL fr lo pc : Nat} {ret : Option FieldType} {lv : List (Nat × Value)} {stk : List Value} {st : fkS} (hk : fk_ok wC g k RX0 cc nL ret fr lo) {i : Nat} {F1 : Int32 → Option (ρ × fkS)} (hi : kdC i = 0) (hdg : decode cc pc = .ok (.getfield 31, 3))
    (kk : ∀ x, fk_J wC g en k (pc + 3) lv (.int x :: stk) st (F1 x)) : fk_J wC g en k pc lv (fk_r g i :: stk) st (fk_let (gI st 6 i) F1) := by
  intro o ho hq
  have kk := kk (gI st 6 i) o ho hq
  obtain ⟨p, l, e, R, s, m, args, below, meth, c, rv, sf⟩ := k
  obtain ⟨hx, hb, hml, hown, hts, hK, hE, hr, hlk, hinj, hfr, hlo⟩ := hk
  intro H locs ls hl hP hS
  exact va_get (D := g.2.1) (ci := 0) (C := RX0) (T := TX0) (N := 11) (v := .int (gI st 6 i)) hx hb hts wB_0 hown hK hP i (wat_0 hi) rfl 6 (by decide) (hts _ wf_0_31) (fun _ h => h) rfl hdg (kk H locs ls hl hP hS)
theorem p_0_31 {g : fkG} {k : fkK} {ρ : Type} {en : ρ → Option Value} {cc : ByteArray} {nL fr lo pc : Nat} {ret : Option FieldType} {lv : List (Nat × Value)} {stk : List Value} {st : fkS} (hk : fk_ok wC g k RX0 cc nL ret fr lo) {i : Nat} {v : Int32} {F1 : fkS → Option (ρ × fkS)} (hi : kdC i = 0) (hdg : decode cc pc = .ok (.putfield 31, 3))
    (kk : ∀ st1, fk_J wC g en k (pc + 3) lv stk st1 (F1 st1)) : fk_J wC g en k pc lv (.int v :: fk_r g i :: stk) st (fk_let (sI st 6 i v) F1) := by
  intro o ho hq
  have kk := kk (sI st 6 i v) o ho hq
  obtain ⟨p, l, e, R, s, m, args, below, meth, c, rv, sf⟩ := k
  obtain ⟨hx, hb, hml, hown, hts, hK, hE, hr, hlk, hinj, hfr, hlo⟩ := hk
  intro H locs ls hl hP hS
  refine va_put (D := g.2.1) (ci := 0) (C := RX0) (T := TX0) (N := 11) (v := .int v) (ty := .int) hx hb hts wB_0 tyX0 tyX0_ok nmX0 hown hK hP (fk_wD hinj _ _) hS i (wat_0 hi) rfl 6 (by decide) (hts _ wf_0_31) (fun _ h => h) rfl (by decide +kernel) rfl rfl (Nat.le_of_ble_eq_true rfl) hdg (fun H1 locs1 hP1 hD1 hS1 => kk H1 locs1 ls hl ?_ hS1)
  rw [← wst_0_6 hi]
  exact hP1
theorem wf_4_91 : Cond.fieldLinkNest RX4 91 "PieFunnels$Bakery" "state" "I" "PieFunnels" ∈ fk_nests := List.mem_of_getElem? (i := 13) (by decide +kernel)
theorem f_4_91 {g : fkG} {k : fkK} {ρ : Type} {en : ρ → Option Value} {cc : ByteArray} {nL fr lo pc : Nat} {ret : Option FieldType} {lv : List (Nat × Value)} {stk : List Value} {st : fkS} (hk : fk_ok wC g k RX4 cc nL ret fr lo) {i : Nat} {F1 : Int32 → Option (ρ × fkS)} (hi : kdC i = 0) (hdg : decode cc pc = .ok (.getfield 91, 3))
    (kk : ∀ x, fk_J wC g en k (pc + 3) lv (.int x :: stk) st (F1 x)) : fk_J wC g en k pc lv (fk_r g i :: stk) st (fk_let (gI st 6 i) F1) := by
  intro o ho hq
  have kk := kk (gI st 6 i) o ho hq
  obtain ⟨p, l, e, R, s, m, args, below, meth, c, rv, sf⟩ := k
  obtain ⟨hx, hb, hml, hown, hts, hK, hE, hr, hlk, hinj, hfr, hlo⟩ := hk
  intro H locs ls hl hP hS
  exact va_getN (D := g.2.1) (ci := 0) (C := RX0) (T := TX0) (N := 11) (v := .int (gI st 6 i)) hx hb hts wB_0 hown hK hP i (wat_0 hi) rfl 6 (by decide) (va_Nw.use rfl (hE.1 _ wf_4_91)) (fun _ h => h) rfl hdg (kk H locs ls hl hP hS)
theorem p_4_91 {g : fkG} {k : fkK} {ρ : Type} {en : ρ → Option Value} {cc : ByteArray} {nL fr lo pc : Nat} {ret : Option FieldType} {lv : List (Nat × Value)} {stk : List Value} {st : fkS} (hk : fk_ok wC g k RX4 cc nL ret fr lo) {i : Nat} {v : Int32} {F1 : fkS → Option (ρ × fkS)} (hi : kdC i = 0) (hdg : decode cc pc = .ok (.putfield 91, 3))
    (kk : ∀ st1, fk_J wC g en k (pc + 3) lv stk st1 (F1 st1)) : fk_J wC g en k pc lv (.int v :: fk_r g i :: stk) st (fk_let (sI st 6 i v) F1) := by
  intro o ho hq
  have kk := kk (sI st 6 i v) o ho hq
  obtain ⟨p, l, e, R, s, m, args, below, meth, c, rv, sf⟩ := k
  obtain ⟨hx, hb, hml, hown, hts, hK, hE, hr, hlk, hinj, hfr, hlo⟩ := hk
  intro H locs ls hl hP hS
  refine va_putN (D := g.2.1) (ci := 0) (C := RX0) (T := TX0) (N := 11) (v := .int v) (ty := .int) hx hb hts wB_0 tyX0 tyX0_ok nmX0 hown hK hP (fk_wD hinj _ _) hS i (wat_0 hi) rfl 6 (by decide) (va_Nw.use rfl (hE.1 _ wf_4_91)) (fun _ h => h) rfl (by decide +kernel) rfl rfl (Nat.le_of_ble_eq_true rfl) hdg (fun H1 locs1 hP1 hD1 hS1 => kk H1 locs1 ls hl ?_ hS1)
  rw [← wst_0_6 hi]
  exact hP1
theorem wf_7_181 : Cond.fieldLinkNest RX7 181 "PieFunnels$Bakery" "state" "I" "PieFunnels" ∈ fk_nests := List.mem_of_getElem? (i := 14) (by decide +kernel)
theorem f_7_181 {g : fkG} {k : fkK} {ρ : Type} {en : ρ → Option Value} {cc : ByteArray} {nL fr lo pc : Nat} {ret : Option FieldType} {lv : List (Nat × Value)} {stk : List Value} {st : fkS} (hk : fk_ok wC g k RX7 cc nL ret fr lo) {i : Nat} {F1 : Int32 → Option (ρ × fkS)} (hi : kdC i = 0) (hdg : decode cc pc = .ok (.getfield 181, 3))
    (kk : ∀ x, fk_J wC g en k (pc + 3) lv (.int x :: stk) st (F1 x)) : fk_J wC g en k pc lv (fk_r g i :: stk) st (fk_let (gI st 6 i) F1) := by
  intro o ho hq
  have kk := kk (gI st 6 i) o ho hq
  obtain ⟨p, l, e, R, s, m, args, below, meth, c, rv, sf⟩ := k
  obtain ⟨hx, hb, hml, hown, hts, hK, hE, hr, hlk, hinj, hfr, hlo⟩ := hk
  intro H locs ls hl hP hS
  exact va_getN (D := g.2.1) (ci := 0) (C := RX0) (T := TX0) (N := 11) (v := .int (gI st 6 i)) hx hb hts wB_0 hown hK hP i (wat_0 hi) rfl 6 (by decide) (va_Nw.use rfl (hE.1 _ wf_7_181)) (fun _ h => h) rfl hdg (kk H locs ls hl hP hS)
theorem p_7_181 {g : fkG} {k : fkK} {ρ : Type} {en : ρ → Option Value} {cc : ByteArray} {nL fr lo pc : Nat} {ret : Option FieldType} {lv : List (Nat × Value)} {stk : List Value} {st : fkS} (hk : fk_ok wC g k RX7 cc nL ret fr lo) {i : Nat} {v : Int32} {F1 : fkS → Option (ρ × fkS)} (hi : kdC i = 0) (hdg : decode cc pc = .ok (.putfield 181, 3))
    (kk : ∀ st1, fk_J wC g en k (pc + 3) lv stk st1 (F1 st1)) : fk_J wC g en k pc lv (.int v :: fk_r g i :: stk) st (fk_let (sI st 6 i v) F1) := by
  intro o ho hq
  have kk := kk (sI st 6 i v) o ho hq
  obtain ⟨p, l, e, R, s, m, args, below, meth, c, rv, sf⟩ := k
  obtain ⟨hx, hb, hml, hown, hts, hK, hE, hr, hlk, hinj, hfr, hlo⟩ := hk
  intro H locs ls hl hP hS
  refine va_putN (D := g.2.1) (ci := 0) (C := RX0) (T := TX0) (N := 11) (v := .int v) (ty := .int) hx hb hts wB_0 tyX0 tyX0_ok nmX0 hown hK hP (fk_wD hinj _ _) hS i (wat_0 hi) rfl 6 (by decide) (va_Nw.use rfl (hE.1 _ wf_7_181)) (fun _ h => h) rfl (by decide +kernel) rfl rfl (Nat.le_of_ble_eq_true rfl) hdg (fun H1 locs1 hP1 hD1 hS1 => kk H1 locs1 ls hl ?_ hS1)
  rw [← wst_0_6 hi]
  exact hP1
theorem wf_0_34 : Cond.fieldLink RX0 34 "PieFunnels$Bakery" "troubles" "I" ∈ fkB := fkB_in (List.mem_of_getElem? (i := 157) (by decide +kernel)) rfl
theorem f_0_34 {g : fkG} {k : fkK} {ρ : Type} {en : ρ → Option Value} {cc : ByteArray} {nL fr lo pc : Nat} {ret : Option FieldType} {lv : List (Nat × Value)} {stk : List Value} {st : fkS} (hk : fk_ok wC g k RX0 cc nL ret fr lo) {i : Nat} {F1 : Int32 → Option (ρ × fkS)} (hi : kdC i = 0) (hdg : decode cc pc = .ok (.getfield 34, 3))
    (kk : ∀ x, fk_J wC g en k (pc + 3) lv (.int x :: stk) st (F1 x)) : fk_J wC g en k pc lv (fk_r g i :: stk) st (fk_let (gI st 7 i) F1) := by
  intro o ho hq
  have kk := kk (gI st 7 i) o ho hq
  obtain ⟨p, l, e, R, s, m, args, below, meth, c, rv, sf⟩ := k
  obtain ⟨hx, hb, hml, hown, hts, hK, hE, hr, hlk, hinj, hfr, hlo⟩ := hk
  intro H locs ls hl hP hS
  exact va_get (D := g.2.1) (ci := 0) (C := RX0) (T := TX0) (N := 11) (v := .int (gI st 7 i)) hx hb hts wB_0 hown hK hP i (wat_0 hi) rfl 7 (by decide) (hts _ wf_0_34) (fun _ h => h) rfl hdg (kk H locs ls hl hP hS)
theorem p_0_34 {g : fkG} {k : fkK} {ρ : Type} {en : ρ → Option Value} {cc : ByteArray} {nL fr lo pc : Nat} {ret : Option FieldType} {lv : List (Nat × Value)} {stk : List Value} {st : fkS} (hk : fk_ok wC g k RX0 cc nL ret fr lo) {i : Nat} {v : Int32} {F1 : fkS → Option (ρ × fkS)} (hi : kdC i = 0) (hdg : decode cc pc = .ok (.putfield 34, 3))
    (kk : ∀ st1, fk_J wC g en k (pc + 3) lv stk st1 (F1 st1)) : fk_J wC g en k pc lv (.int v :: fk_r g i :: stk) st (fk_let (sI st 7 i v) F1) := by
  intro o ho hq
  have kk := kk (sI st 7 i v) o ho hq
  obtain ⟨p, l, e, R, s, m, args, below, meth, c, rv, sf⟩ := k
  obtain ⟨hx, hb, hml, hown, hts, hK, hE, hr, hlk, hinj, hfr, hlo⟩ := hk
  intro H locs ls hl hP hS
  refine va_put (D := g.2.1) (ci := 0) (C := RX0) (T := TX0) (N := 11) (v := .int v) (ty := .int) hx hb hts wB_0 tyX0 tyX0_ok nmX0 hown hK hP (fk_wD hinj _ _) hS i (wat_0 hi) rfl 7 (by decide) (hts _ wf_0_34) (fun _ h => h) rfl (by decide +kernel) rfl rfl (Nat.le_of_ble_eq_true rfl) hdg (fun H1 locs1 hP1 hD1 hS1 => kk H1 locs1 ls hl ?_ hS1)
  rw [← wst_0_7 hi]
  exact hP1
theorem wf_4_97 : Cond.fieldLinkNest RX4 97 "PieFunnels$Bakery" "troubles" "I" "PieFunnels" ∈ fk_nests := List.mem_of_getElem? (i := 15) (by decide +kernel)
theorem f_4_97 {g : fkG} {k : fkK} {ρ : Type} {en : ρ → Option Value} {cc : ByteArray} {nL fr lo pc : Nat} {ret : Option FieldType} {lv : List (Nat × Value)} {stk : List Value} {st : fkS} (hk : fk_ok wC g k RX4 cc nL ret fr lo) {i : Nat} {F1 : Int32 → Option (ρ × fkS)} (hi : kdC i = 0) (hdg : decode cc pc = .ok (.getfield 97, 3))
    (kk : ∀ x, fk_J wC g en k (pc + 3) lv (.int x :: stk) st (F1 x)) : fk_J wC g en k pc lv (fk_r g i :: stk) st (fk_let (gI st 7 i) F1) := by
  intro o ho hq
  have kk := kk (gI st 7 i) o ho hq
  obtain ⟨p, l, e, R, s, m, args, below, meth, c, rv, sf⟩ := k
  obtain ⟨hx, hb, hml, hown, hts, hK, hE, hr, hlk, hinj, hfr, hlo⟩ := hk
  intro H locs ls hl hP hS
  exact va_getN (D := g.2.1) (ci := 0) (C := RX0) (T := TX0) (N := 11) (v := .int (gI st 7 i)) hx hb hts wB_0 hown hK hP i (wat_0 hi) rfl 7 (by decide) (va_Nw.use rfl (hE.1 _ wf_4_97)) (fun _ h => h) rfl hdg (kk H locs ls hl hP hS)
theorem p_4_97 {g : fkG} {k : fkK} {ρ : Type} {en : ρ → Option Value} {cc : ByteArray} {nL fr lo pc : Nat} {ret : Option FieldType} {lv : List (Nat × Value)} {stk : List Value} {st : fkS} (hk : fk_ok wC g k RX4 cc nL ret fr lo) {i : Nat} {v : Int32} {F1 : fkS → Option (ρ × fkS)} (hi : kdC i = 0) (hdg : decode cc pc = .ok (.putfield 97, 3))
    (kk : ∀ st1, fk_J wC g en k (pc + 3) lv stk st1 (F1 st1)) : fk_J wC g en k pc lv (.int v :: fk_r g i :: stk) st (fk_let (sI st 7 i v) F1) := by
  intro o ho hq
  have kk := kk (sI st 7 i v) o ho hq
  obtain ⟨p, l, e, R, s, m, args, below, meth, c, rv, sf⟩ := k
  obtain ⟨hx, hb, hml, hown, hts, hK, hE, hr, hlk, hinj, hfr, hlo⟩ := hk
  intro H locs ls hl hP hS
  refine va_putN (D := g.2.1) (ci := 0) (C := RX0) (T := TX0) (N := 11) (v := .int v) (ty := .int) hx hb hts wB_0 tyX0 tyX0_ok nmX0 hown hK hP (fk_wD hinj _ _) hS i (wat_0 hi) rfl 7 (by decide) (va_Nw.use rfl (hE.1 _ wf_4_97)) (fun _ h => h) rfl (by decide +kernel) rfl rfl (Nat.le_of_ble_eq_true rfl) hdg (fun H1 locs1 hP1 hD1 hS1 => kk H1 locs1 ls hl ?_ hS1)
  rw [← wst_0_7 hi]
  exact hP1
theorem wf_7_184 : Cond.fieldLinkNest RX7 184 "PieFunnels$Bakery" "troubles" "I" "PieFunnels" ∈ fk_nests := List.mem_of_getElem? (i := 16) (by decide +kernel)
theorem f_7_184 {g : fkG} {k : fkK} {ρ : Type} {en : ρ → Option Value} {cc : ByteArray} {nL fr lo pc : Nat} {ret : Option FieldType} {lv : List (Nat × Value)} {stk : List Value} {st : fkS} (hk : fk_ok wC g k RX7 cc nL ret fr lo) {i : Nat} {F1 : Int32 → Option (ρ × fkS)} (hi : kdC i = 0) (hdg : decode cc pc = .ok (.getfield 184, 3))
    (kk : ∀ x, fk_J wC g en k (pc + 3) lv (.int x :: stk) st (F1 x)) : fk_J wC g en k pc lv (fk_r g i :: stk) st (fk_let (gI st 7 i) F1) := by
  intro o ho hq
  have kk := kk (gI st 7 i) o ho hq
  obtain ⟨p, l, e, R, s, m, args, below, meth, c, rv, sf⟩ := k
  obtain ⟨hx, hb, hml, hown, hts, hK, hE, hr, hlk, hinj, hfr, hlo⟩ := hk
  intro H locs ls hl hP hS
  exact va_getN (D := g.2.1) (ci := 0) (C := RX0) (T := TX0) (N := 11) (v := .int (gI st 7 i)) hx hb hts wB_0 hown hK hP i (wat_0 hi) rfl 7 (by decide) (va_Nw.use rfl (hE.1 _ wf_7_184)) (fun _ h => h) rfl hdg (kk H locs ls hl hP hS)
theorem p_7_184 {g : fkG} {k : fkK} {ρ : Type} {en : ρ → Option Value} {cc : ByteArray} {nL fr lo pc : Nat} {ret : Option FieldType} {lv : List (Nat × Value)} {stk : List Value} {st : fkS} (hk : fk_ok wC g k RX7 cc nL ret fr lo) {i : Nat} {v : Int32} {F1 : fkS → Option (ρ × fkS)} (hi : kdC i = 0) (hdg : decode cc pc = .ok (.putfield 184, 3))
    (kk : ∀ st1, fk_J wC g en k (pc + 3) lv stk st1 (F1 st1)) : fk_J wC g en k pc lv (.int v :: fk_r g i :: stk) st (fk_let (sI st 7 i v) F1) := by
  intro o ho hq
  have kk := kk (sI st 7 i v) o ho hq
  obtain ⟨p, l, e, R, s, m, args, below, meth, c, rv, sf⟩ := k
  obtain ⟨hx, hb, hml, hown, hts, hK, hE, hr, hlk, hinj, hfr, hlo⟩ := hk
  intro H locs ls hl hP hS
  refine va_putN (D := g.2.1) (ci := 0) (C := RX0) (T := TX0) (N := 11) (v := .int v) (ty := .int) hx hb hts wB_0 tyX0 tyX0_ok nmX0 hown hK hP (fk_wD hinj _ _) hS i (wat_0 hi) rfl 7 (by decide) (va_Nw.use rfl (hE.1 _ wf_7_184)) (fun _ h => h) rfl (by decide +kernel) rfl rfl (Nat.le_of_ble_eq_true rfl) hdg (fun H1 locs1 hP1 hD1 hS1 => kk H1 locs1 ls hl ?_ hS1)
  rw [← wst_0_7 hi]
  exact hP1
theorem wf_0_37 : Cond.fieldLink RX0 37 "PieFunnels$Bakery" "bakes" "I" ∈ fkB := fkB_in (List.mem_of_getElem? (i := 160) (by decide +kernel)) rfl
theorem f_0_37 {g : fkG} {k : fkK} {ρ : Type} {en : ρ → Option Value} {cc : ByteArray} {nL fr lo pc : Nat} {ret : Option FieldType} {lv : List (Nat × Value)} {stk : List Value} {st : fkS} (hk : fk_ok wC g k RX0 cc nL ret fr lo) {i : Nat} {F1 : Int32 → Option (ρ × fkS)} (hi : kdC i = 0) (hdg : decode cc pc = .ok (.getfield 37, 3))
    (kk : ∀ x, fk_J wC g en k (pc + 3) lv (.int x :: stk) st (F1 x)) : fk_J wC g en k pc lv (fk_r g i :: stk) st (fk_let (gI st 8 i) F1) := by
  intro o ho hq
  have kk := kk (gI st 8 i) o ho hq
  obtain ⟨p, l, e, R, s, m, args, below, meth, c, rv, sf⟩ := k
  obtain ⟨hx, hb, hml, hown, hts, hK, hE, hr, hlk, hinj, hfr, hlo⟩ := hk
  intro H locs ls hl hP hS
  exact va_get (D := g.2.1) (ci := 0) (C := RX0) (T := TX0) (N := 11) (v := .int (gI st 8 i)) hx hb hts wB_0 hown hK hP i (wat_0 hi) rfl 8 (by decide) (hts _ wf_0_37) (fun _ h => h) rfl hdg (kk H locs ls hl hP hS)
theorem p_0_37 {g : fkG} {k : fkK} {ρ : Type} {en : ρ → Option Value} {cc : ByteArray} {nL fr lo pc : Nat} {ret : Option FieldType} {lv : List (Nat × Value)} {stk : List Value} {st : fkS} (hk : fk_ok wC g k RX0 cc nL ret fr lo) {i : Nat} {v : Int32} {F1 : fkS → Option (ρ × fkS)} (hi : kdC i = 0) (hdg : decode cc pc = .ok (.putfield 37, 3))
    (kk : ∀ st1, fk_J wC g en k (pc + 3) lv stk st1 (F1 st1)) : fk_J wC g en k pc lv (.int v :: fk_r g i :: stk) st (fk_let (sI st 8 i v) F1) := by
  intro o ho hq
  have kk := kk (sI st 8 i v) o ho hq
  obtain ⟨p, l, e, R, s, m, args, below, meth, c, rv, sf⟩ := k
  obtain ⟨hx, hb, hml, hown, hts, hK, hE, hr, hlk, hinj, hfr, hlo⟩ := hk
  intro H locs ls hl hP hS
  refine va_put (D := g.2.1) (ci := 0) (C := RX0) (T := TX0) (N := 11) (v := .int v) (ty := .int) hx hb hts wB_0 tyX0 tyX0_ok nmX0 hown hK hP (fk_wD hinj _ _) hS i (wat_0 hi) rfl 8 (by decide) (hts _ wf_0_37) (fun _ h => h) rfl (by decide +kernel) rfl rfl (Nat.le_of_ble_eq_true rfl) hdg (fun H1 locs1 hP1 hD1 hS1 => kk H1 locs1 ls hl ?_ hS1)
  rw [← wst_0_8 hi]
  exact hP1
theorem wf_7_328 : Cond.fieldLinkNest RX7 328 "PieFunnels$Bakery" "bakes" "I" "PieFunnels" ∈ fk_nests := List.mem_of_getElem? (i := 17) (by decide +kernel)
theorem f_7_328 {g : fkG} {k : fkK} {ρ : Type} {en : ρ → Option Value} {cc : ByteArray} {nL fr lo pc : Nat} {ret : Option FieldType} {lv : List (Nat × Value)} {stk : List Value} {st : fkS} (hk : fk_ok wC g k RX7 cc nL ret fr lo) {i : Nat} {F1 : Int32 → Option (ρ × fkS)} (hi : kdC i = 0) (hdg : decode cc pc = .ok (.getfield 328, 3))
    (kk : ∀ x, fk_J wC g en k (pc + 3) lv (.int x :: stk) st (F1 x)) : fk_J wC g en k pc lv (fk_r g i :: stk) st (fk_let (gI st 8 i) F1) := by
  intro o ho hq
  have kk := kk (gI st 8 i) o ho hq
  obtain ⟨p, l, e, R, s, m, args, below, meth, c, rv, sf⟩ := k
  obtain ⟨hx, hb, hml, hown, hts, hK, hE, hr, hlk, hinj, hfr, hlo⟩ := hk
  intro H locs ls hl hP hS
  exact va_getN (D := g.2.1) (ci := 0) (C := RX0) (T := TX0) (N := 11) (v := .int (gI st 8 i)) hx hb hts wB_0 hown hK hP i (wat_0 hi) rfl 8 (by decide) (va_Nw.use rfl (hE.1 _ wf_7_328)) (fun _ h => h) rfl hdg (kk H locs ls hl hP hS)
theorem p_7_328 {g : fkG} {k : fkK} {ρ : Type} {en : ρ → Option Value} {cc : ByteArray} {nL fr lo pc : Nat} {ret : Option FieldType} {lv : List (Nat × Value)} {stk : List Value} {st : fkS} (hk : fk_ok wC g k RX7 cc nL ret fr lo) {i : Nat} {v : Int32} {F1 : fkS → Option (ρ × fkS)} (hi : kdC i = 0) (hdg : decode cc pc = .ok (.putfield 328, 3))
    (kk : ∀ st1, fk_J wC g en k (pc + 3) lv stk st1 (F1 st1)) : fk_J wC g en k pc lv (.int v :: fk_r g i :: stk) st (fk_let (sI st 8 i v) F1) := by
  intro o ho hq
  have kk := kk (sI st 8 i v) o ho hq
  obtain ⟨p, l, e, R, s, m, args, below, meth, c, rv, sf⟩ := k
  obtain ⟨hx, hb, hml, hown, hts, hK, hE, hr, hlk, hinj, hfr, hlo⟩ := hk
  intro H locs ls hl hP hS
  refine va_putN (D := g.2.1) (ci := 0) (C := RX0) (T := TX0) (N := 11) (v := .int v) (ty := .int) hx hb hts wB_0 tyX0 tyX0_ok nmX0 hown hK hP (fk_wD hinj _ _) hS i (wat_0 hi) rfl 8 (by decide) (va_Nw.use rfl (hE.1 _ wf_7_328)) (fun _ h => h) rfl (by decide +kernel) rfl rfl (Nat.le_of_ble_eq_true rfl) hdg (fun H1 locs1 hP1 hD1 hS1 => kk H1 locs1 ls hl ?_ hS1)
  rw [← wst_0_8 hi]
  exact hP1
theorem wf_0_40 : Cond.fieldLink RX0 40 "PieFunnels$Bakery" "suffered" "I" ∈ fkB := fkB_in (List.mem_of_getElem? (i := 162) (by decide +kernel)) rfl
theorem f_0_40 {g : fkG} {k : fkK} {ρ : Type} {en : ρ → Option Value} {cc : ByteArray} {nL fr lo pc : Nat} {ret : Option FieldType} {lv : List (Nat × Value)} {stk : List Value} {st : fkS} (hk : fk_ok wC g k RX0 cc nL ret fr lo) {i : Nat} {F1 : Int32 → Option (ρ × fkS)} (hi : kdC i = 0) (hdg : decode cc pc = .ok (.getfield 40, 3))
    (kk : ∀ x, fk_J wC g en k (pc + 3) lv (.int x :: stk) st (F1 x)) : fk_J wC g en k pc lv (fk_r g i :: stk) st (fk_let (gI st 9 i) F1) := by
  intro o ho hq
  have kk := kk (gI st 9 i) o ho hq
  obtain ⟨p, l, e, R, s, m, args, below, meth, c, rv, sf⟩ := k
  obtain ⟨hx, hb, hml, hown, hts, hK, hE, hr, hlk, hinj, hfr, hlo⟩ := hk
  intro H locs ls hl hP hS
  exact va_get (D := g.2.1) (ci := 0) (C := RX0) (T := TX0) (N := 11) (v := .int (gI st 9 i)) hx hb hts wB_0 hown hK hP i (wat_0 hi) rfl 9 (by decide) (hts _ wf_0_40) (fun _ h => h) rfl hdg (kk H locs ls hl hP hS)
theorem p_0_40 {g : fkG} {k : fkK} {ρ : Type} {en : ρ → Option Value} {cc : ByteArray} {nL fr lo pc : Nat} {ret : Option FieldType} {lv : List (Nat × Value)} {stk : List Value} {st : fkS} (hk : fk_ok wC g k RX0 cc nL ret fr lo) {i : Nat} {v : Int32} {F1 : fkS → Option (ρ × fkS)} (hi : kdC i = 0) (hdg : decode cc pc = .ok (.putfield 40, 3))
    (kk : ∀ st1, fk_J wC g en k (pc + 3) lv stk st1 (F1 st1)) : fk_J wC g en k pc lv (.int v :: fk_r g i :: stk) st (fk_let (sI st 9 i v) F1) := by
  intro o ho hq
  have kk := kk (sI st 9 i v) o ho hq
  obtain ⟨p, l, e, R, s, m, args, below, meth, c, rv, sf⟩ := k
  obtain ⟨hx, hb, hml, hown, hts, hK, hE, hr, hlk, hinj, hfr, hlo⟩ := hk
  intro H locs ls hl hP hS
  refine va_put (D := g.2.1) (ci := 0) (C := RX0) (T := TX0) (N := 11) (v := .int v) (ty := .int) hx hb hts wB_0 tyX0 tyX0_ok nmX0 hown hK hP (fk_wD hinj _ _) hS i (wat_0 hi) rfl 9 (by decide) (hts _ wf_0_40) (fun _ h => h) rfl (by decide +kernel) rfl rfl (Nat.le_of_ble_eq_true rfl) hdg (fun H1 locs1 hP1 hD1 hS1 => kk H1 locs1 ls hl ?_ hS1)
  rw [← wst_0_9 hi]
  exact hP1
theorem wf_7_305 : Cond.fieldLinkNest RX7 305 "PieFunnels$Bakery" "suffered" "I" "PieFunnels" ∈ fk_nests := List.mem_of_getElem? (i := 18) (by decide +kernel)
theorem f_7_305 {g : fkG} {k : fkK} {ρ : Type} {en : ρ → Option Value} {cc : ByteArray} {nL fr lo pc : Nat} {ret : Option FieldType} {lv : List (Nat × Value)} {stk : List Value} {st : fkS} (hk : fk_ok wC g k RX7 cc nL ret fr lo) {i : Nat} {F1 : Int32 → Option (ρ × fkS)} (hi : kdC i = 0) (hdg : decode cc pc = .ok (.getfield 305, 3))
    (kk : ∀ x, fk_J wC g en k (pc + 3) lv (.int x :: stk) st (F1 x)) : fk_J wC g en k pc lv (fk_r g i :: stk) st (fk_let (gI st 9 i) F1) := by
  intro o ho hq
  have kk := kk (gI st 9 i) o ho hq
  obtain ⟨p, l, e, R, s, m, args, below, meth, c, rv, sf⟩ := k
  obtain ⟨hx, hb, hml, hown, hts, hK, hE, hr, hlk, hinj, hfr, hlo⟩ := hk
  intro H locs ls hl hP hS
  exact va_getN (D := g.2.1) (ci := 0) (C := RX0) (T := TX0) (N := 11) (v := .int (gI st 9 i)) hx hb hts wB_0 hown hK hP i (wat_0 hi) rfl 9 (by decide) (va_Nw.use rfl (hE.1 _ wf_7_305)) (fun _ h => h) rfl hdg (kk H locs ls hl hP hS)
theorem p_7_305 {g : fkG} {k : fkK} {ρ : Type} {en : ρ → Option Value} {cc : ByteArray} {nL fr lo pc : Nat} {ret : Option FieldType} {lv : List (Nat × Value)} {stk : List Value} {st : fkS} (hk : fk_ok wC g k RX7 cc nL ret fr lo) {i : Nat} {v : Int32} {F1 : fkS → Option (ρ × fkS)} (hi : kdC i = 0) (hdg : decode cc pc = .ok (.putfield 305, 3))
    (kk : ∀ st1, fk_J wC g en k (pc + 3) lv stk st1 (F1 st1)) : fk_J wC g en k pc lv (.int v :: fk_r g i :: stk) st (fk_let (sI st 9 i v) F1) := by
  intro o ho hq
  have kk := kk (sI st 9 i v) o ho hq
  obtain ⟨p, l, e, R, s, m, args, below, meth, c, rv, sf⟩ := k
  obtain ⟨hx, hb, hml, hown, hts, hK, hE, hr, hlk, hinj, hfr, hlo⟩ := hk
  intro H locs ls hl hP hS
  refine va_putN (D := g.2.1) (ci := 0) (C := RX0) (T := TX0) (N := 11) (v := .int v) (ty := .int) hx hb hts wB_0 tyX0 tyX0_ok nmX0 hown hK hP (fk_wD hinj _ _) hS i (wat_0 hi) rfl 9 (by decide) (va_Nw.use rfl (hE.1 _ wf_7_305)) (fun _ h => h) rfl (by decide +kernel) rfl rfl (Nat.le_of_ble_eq_true rfl) hdg (fun H1 locs1 hP1 hD1 hS1 => kk H1 locs1 ls hl ?_ hS1)
  rw [← wst_0_9 hi]
  exact hP1
theorem wf_0_43 : Cond.fieldLink RX0 43 "PieFunnels$Bakery" "seed" "I" ∈ fkB := fkB_in (List.mem_of_getElem? (i := 164) (by decide +kernel)) rfl
theorem f_0_43 {g : fkG} {k : fkK} {ρ : Type} {en : ρ → Option Value} {cc : ByteArray} {nL fr lo pc : Nat} {ret : Option FieldType} {lv : List (Nat × Value)} {stk : List Value} {st : fkS} (hk : fk_ok wC g k RX0 cc nL ret fr lo) {i : Nat} {F1 : Int32 → Option (ρ × fkS)} (hi : kdC i = 0) (hdg : decode cc pc = .ok (.getfield 43, 3))
    (kk : ∀ x, fk_J wC g en k (pc + 3) lv (.int x :: stk) st (F1 x)) : fk_J wC g en k pc lv (fk_r g i :: stk) st (fk_let (gI st 10 i) F1) := by
  intro o ho hq
  have kk := kk (gI st 10 i) o ho hq
  obtain ⟨p, l, e, R, s, m, args, below, meth, c, rv, sf⟩ := k
  obtain ⟨hx, hb, hml, hown, hts, hK, hE, hr, hlk, hinj, hfr, hlo⟩ := hk
  intro H locs ls hl hP hS
  exact va_get (D := g.2.1) (ci := 0) (C := RX0) (T := TX0) (N := 11) (v := .int (gI st 10 i)) hx hb hts wB_0 hown hK hP i (wat_0 hi) rfl 10 (by decide) (hts _ wf_0_43) (fun _ h => h) rfl hdg (kk H locs ls hl hP hS)
theorem p_0_43 {g : fkG} {k : fkK} {ρ : Type} {en : ρ → Option Value} {cc : ByteArray} {nL fr lo pc : Nat} {ret : Option FieldType} {lv : List (Nat × Value)} {stk : List Value} {st : fkS} (hk : fk_ok wC g k RX0 cc nL ret fr lo) {i : Nat} {v : Int32} {F1 : fkS → Option (ρ × fkS)} (hi : kdC i = 0) (hdg : decode cc pc = .ok (.putfield 43, 3))
    (kk : ∀ st1, fk_J wC g en k (pc + 3) lv stk st1 (F1 st1)) : fk_J wC g en k pc lv (.int v :: fk_r g i :: stk) st (fk_let (sI st 10 i v) F1) := by
  intro o ho hq
  have kk := kk (sI st 10 i v) o ho hq
  obtain ⟨p, l, e, R, s, m, args, below, meth, c, rv, sf⟩ := k
  obtain ⟨hx, hb, hml, hown, hts, hK, hE, hr, hlk, hinj, hfr, hlo⟩ := hk
  intro H locs ls hl hP hS
  refine va_put (D := g.2.1) (ci := 0) (C := RX0) (T := TX0) (N := 11) (v := .int v) (ty := .int) hx hb hts wB_0 tyX0 tyX0_ok nmX0 hown hK hP (fk_wD hinj _ _) hS i (wat_0 hi) rfl 10 (by decide) (hts _ wf_0_43) (fun _ h => h) rfl (by decide +kernel) rfl rfl (Nat.le_of_ble_eq_true rfl) hdg (fun H1 locs1 hP1 hD1 hS1 => kk H1 locs1 ls hl ?_ hS1)
  rw [← wst_0_10 hi]
  exact hP1
theorem wf_7_308 : Cond.fieldLinkNest RX7 308 "PieFunnels$Bakery" "seed" "I" "PieFunnels" ∈ fk_nests := List.mem_of_getElem? (i := 19) (by decide +kernel)
theorem f_7_308 {g : fkG} {k : fkK} {ρ : Type} {en : ρ → Option Value} {cc : ByteArray} {nL fr lo pc : Nat} {ret : Option FieldType} {lv : List (Nat × Value)} {stk : List Value} {st : fkS} (hk : fk_ok wC g k RX7 cc nL ret fr lo) {i : Nat} {F1 : Int32 → Option (ρ × fkS)} (hi : kdC i = 0) (hdg : decode cc pc = .ok (.getfield 308, 3))
    (kk : ∀ x, fk_J wC g en k (pc + 3) lv (.int x :: stk) st (F1 x)) : fk_J wC g en k pc lv (fk_r g i :: stk) st (fk_let (gI st 10 i) F1) := by
  intro o ho hq
  have kk := kk (gI st 10 i) o ho hq
  obtain ⟨p, l, e, R, s, m, args, below, meth, c, rv, sf⟩ := k
  obtain ⟨hx, hb, hml, hown, hts, hK, hE, hr, hlk, hinj, hfr, hlo⟩ := hk
  intro H locs ls hl hP hS
  exact va_getN (D := g.2.1) (ci := 0) (C := RX0) (T := TX0) (N := 11) (v := .int (gI st 10 i)) hx hb hts wB_0 hown hK hP i (wat_0 hi) rfl 10 (by decide) (va_Nw.use rfl (hE.1 _ wf_7_308)) (fun _ h => h) rfl hdg (kk H locs ls hl hP hS)
theorem p_7_308 {g : fkG} {k : fkK} {ρ : Type} {en : ρ → Option Value} {cc : ByteArray} {nL fr lo pc : Nat} {ret : Option FieldType} {lv : List (Nat × Value)} {stk : List Value} {st : fkS} (hk : fk_ok wC g k RX7 cc nL ret fr lo) {i : Nat} {v : Int32} {F1 : fkS → Option (ρ × fkS)} (hi : kdC i = 0) (hdg : decode cc pc = .ok (.putfield 308, 3))
    (kk : ∀ st1, fk_J wC g en k (pc + 3) lv stk st1 (F1 st1)) : fk_J wC g en k pc lv (.int v :: fk_r g i :: stk) st (fk_let (sI st 10 i v) F1) := by
  intro o ho hq
  have kk := kk (sI st 10 i v) o ho hq
  obtain ⟨p, l, e, R, s, m, args, below, meth, c, rv, sf⟩ := k
  obtain ⟨hx, hb, hml, hown, hts, hK, hE, hr, hlk, hinj, hfr, hlo⟩ := hk
  intro H locs ls hl hP hS
  refine va_putN (D := g.2.1) (ci := 0) (C := RX0) (T := TX0) (N := 11) (v := .int v) (ty := .int) hx hb hts wB_0 tyX0 tyX0_ok nmX0 hown hK hP (fk_wD hinj _ _) hS i (wat_0 hi) rfl 10 (by decide) (va_Nw.use rfl (hE.1 _ wf_7_308)) (fun _ h => h) rfl (by decide +kernel) rfl rfl (Nat.le_of_ble_eq_true rfl) hdg (fun H1 locs1 hP1 hD1 hS1 => kk H1 locs1 ls hl ?_ hS1)
  rw [← wst_0_10 hi]
  exact hP1
theorem wf_4_9 : Cond.fieldLink RX4 9 "PieFunnels$Reader" "fault" "I" ∈ fkB := fkB_in (List.mem_of_getElem? (i := 196) (by decide +kernel)) rfl
theorem f_4_9 {g : fkG} {k : fkK} {ρ : Type} {en : ρ → Option Value} {cc : ByteArray} {nL fr lo pc : Nat} {ret : Option FieldType} {lv : List (Nat × Value)} {stk : List Value} {st : fkS} (hk : fk_ok wC g k RX4 cc nL ret fr lo) {i : Nat} {F1 : Int32 → Option (ρ × fkS)} (hi : kdC i = 4) (hdg : decode cc pc = .ok (.getfield 9, 3))
    (kk : ∀ x, fk_J wC g en k (pc + 3) lv (.int x :: stk) st (F1 x)) : fk_J wC g en k pc lv (fk_r g i :: stk) st (fk_let (gI st 80 i) F1) := by
  intro o ho hq
  have kk := kk (gI st 80 i) o ho hq
  obtain ⟨p, l, e, R, s, m, args, below, meth, c, rv, sf⟩ := k
  obtain ⟨hx, hb, hml, hown, hts, hK, hE, hr, hlk, hinj, hfr, hlo⟩ := hk
  intro H locs ls hl hP hS
  exact va_get (D := g.2.1) (ci := 4) (C := RX4) (T := TX4) (N := 4) (v := .int (gI st 80 i)) hx hb hts wB_4 hown hK hP i (wat_4 hi) rfl 0 (by decide) (hts _ wf_4_9) (fun _ h => h) rfl hdg (kk H locs ls hl hP hS)
theorem p_4_9 {g : fkG} {k : fkK} {ρ : Type} {en : ρ → Option Value} {cc : ByteArray} {nL fr lo pc : Nat} {ret : Option FieldType} {lv : List (Nat × Value)} {stk : List Value} {st : fkS} (hk : fk_ok wC g k RX4 cc nL ret fr lo) {i : Nat} {v : Int32} {F1 : fkS → Option (ρ × fkS)} (hi : kdC i = 4) (hdg : decode cc pc = .ok (.putfield 9, 3))
    (kk : ∀ st1, fk_J wC g en k (pc + 3) lv stk st1 (F1 st1)) : fk_J wC g en k pc lv (.int v :: fk_r g i :: stk) st (fk_let (sI st 80 i v) F1) := by
  intro o ho hq
  have kk := kk (sI st 80 i v) o ho hq
  obtain ⟨p, l, e, R, s, m, args, below, meth, c, rv, sf⟩ := k
  obtain ⟨hx, hb, hml, hown, hts, hK, hE, hr, hlk, hinj, hfr, hlo⟩ := hk
  intro H locs ls hl hP hS
  refine va_put (D := g.2.1) (ci := 4) (C := RX4) (T := TX4) (N := 4) (v := .int v) (ty := .int) hx hb hts wB_4 tyX4 tyX4_ok nmX4 hown hK hP (fk_wD hinj _ _) hS i (wat_4 hi) rfl 0 (by decide) (hts _ wf_4_9) (fun _ h => h) rfl (by decide +kernel) rfl rfl (Nat.le_of_ble_eq_true rfl) hdg (fun H1 locs1 hP1 hD1 hS1 => kk H1 locs1 ls hl ?_ hS1)
  rw [← wst_4_0 hi]
  exact hP1
theorem wf_7_207 : Cond.fieldLinkNest RX7 207 "PieFunnels$Reader" "fault" "I" "PieFunnels" ∈ fk_nests := List.mem_of_getElem? (i := 20) (by decide +kernel)
theorem f_7_207 {g : fkG} {k : fkK} {ρ : Type} {en : ρ → Option Value} {cc : ByteArray} {nL fr lo pc : Nat} {ret : Option FieldType} {lv : List (Nat × Value)} {stk : List Value} {st : fkS} (hk : fk_ok wC g k RX7 cc nL ret fr lo) {i : Nat} {F1 : Int32 → Option (ρ × fkS)} (hi : kdC i = 4) (hdg : decode cc pc = .ok (.getfield 207, 3))
    (kk : ∀ x, fk_J wC g en k (pc + 3) lv (.int x :: stk) st (F1 x)) : fk_J wC g en k pc lv (fk_r g i :: stk) st (fk_let (gI st 80 i) F1) := by
  intro o ho hq
  have kk := kk (gI st 80 i) o ho hq
  obtain ⟨p, l, e, R, s, m, args, below, meth, c, rv, sf⟩ := k
  obtain ⟨hx, hb, hml, hown, hts, hK, hE, hr, hlk, hinj, hfr, hlo⟩ := hk
  intro H locs ls hl hP hS
  exact va_getN (D := g.2.1) (ci := 4) (C := RX4) (T := TX4) (N := 4) (v := .int (gI st 80 i)) hx hb hts wB_4 hown hK hP i (wat_4 hi) rfl 0 (by decide) (va_Nw.use rfl (hE.1 _ wf_7_207)) (fun _ h => h) rfl hdg (kk H locs ls hl hP hS)
theorem p_7_207 {g : fkG} {k : fkK} {ρ : Type} {en : ρ → Option Value} {cc : ByteArray} {nL fr lo pc : Nat} {ret : Option FieldType} {lv : List (Nat × Value)} {stk : List Value} {st : fkS} (hk : fk_ok wC g k RX7 cc nL ret fr lo) {i : Nat} {v : Int32} {F1 : fkS → Option (ρ × fkS)} (hi : kdC i = 4) (hdg : decode cc pc = .ok (.putfield 207, 3))
    (kk : ∀ st1, fk_J wC g en k (pc + 3) lv stk st1 (F1 st1)) : fk_J wC g en k pc lv (.int v :: fk_r g i :: stk) st (fk_let (sI st 80 i v) F1) := by
  intro o ho hq
  have kk := kk (sI st 80 i v) o ho hq
  obtain ⟨p, l, e, R, s, m, args, below, meth, c, rv, sf⟩ := k
  obtain ⟨hx, hb, hml, hown, hts, hK, hE, hr, hlk, hinj, hfr, hlo⟩ := hk
  intro H locs ls hl hP hS
  refine va_putN (D := g.2.1) (ci := 4) (C := RX4) (T := TX4) (N := 4) (v := .int v) (ty := .int) hx hb hts wB_4 tyX4 tyX4_ok nmX4 hown hK hP (fk_wD hinj _ _) hS i (wat_4 hi) rfl 0 (by decide) (va_Nw.use rfl (hE.1 _ wf_7_207)) (fun _ h => h) rfl (by decide +kernel) rfl rfl (Nat.le_of_ble_eq_true rfl) hdg (fun H1 locs1 hP1 hD1 hS1 => kk H1 locs1 ls hl ?_ hS1)
  rw [← wst_4_0 hi]
  exact hP1
theorem wf_4_15 : Cond.fieldLink RX4 15 "PieFunnels$Reader" "place" "I" ∈ fkB := fkB_in (List.mem_of_getElem? (i := 198) (by decide +kernel)) rfl
theorem f_4_15 {g : fkG} {k : fkK} {ρ : Type} {en : ρ → Option Value} {cc : ByteArray} {nL fr lo pc : Nat} {ret : Option FieldType} {lv : List (Nat × Value)} {stk : List Value} {st : fkS} (hk : fk_ok wC g k RX4 cc nL ret fr lo) {i : Nat} {F1 : Int32 → Option (ρ × fkS)} (hi : kdC i = 4) (hdg : decode cc pc = .ok (.getfield 15, 3))
    (kk : ∀ x, fk_J wC g en k (pc + 3) lv (.int x :: stk) st (F1 x)) : fk_J wC g en k pc lv (fk_r g i :: stk) st (fk_let (gI st 81 i) F1) := by
  intro o ho hq
  have kk := kk (gI st 81 i) o ho hq
  obtain ⟨p, l, e, R, s, m, args, below, meth, c, rv, sf⟩ := k
  obtain ⟨hx, hb, hml, hown, hts, hK, hE, hr, hlk, hinj, hfr, hlo⟩ := hk
  intro H locs ls hl hP hS
  exact va_get (D := g.2.1) (ci := 4) (C := RX4) (T := TX4) (N := 4) (v := .int (gI st 81 i)) hx hb hts wB_4 hown hK hP i (wat_4 hi) rfl 1 (by decide) (hts _ wf_4_15) (fun _ h => h) rfl hdg (kk H locs ls hl hP hS)
theorem p_4_15 {g : fkG} {k : fkK} {ρ : Type} {en : ρ → Option Value} {cc : ByteArray} {nL fr lo pc : Nat} {ret : Option FieldType} {lv : List (Nat × Value)} {stk : List Value} {st : fkS} (hk : fk_ok wC g k RX4 cc nL ret fr lo) {i : Nat} {v : Int32} {F1 : fkS → Option (ρ × fkS)} (hi : kdC i = 4) (hdg : decode cc pc = .ok (.putfield 15, 3))
    (kk : ∀ st1, fk_J wC g en k (pc + 3) lv stk st1 (F1 st1)) : fk_J wC g en k pc lv (.int v :: fk_r g i :: stk) st (fk_let (sI st 81 i v) F1) := by
  intro o ho hq
  have kk := kk (sI st 81 i v) o ho hq
  obtain ⟨p, l, e, R, s, m, args, below, meth, c, rv, sf⟩ := k
  obtain ⟨hx, hb, hml, hown, hts, hK, hE, hr, hlk, hinj, hfr, hlo⟩ := hk
  intro H locs ls hl hP hS
  refine va_put (D := g.2.1) (ci := 4) (C := RX4) (T := TX4) (N := 4) (v := .int v) (ty := .int) hx hb hts wB_4 tyX4 tyX4_ok nmX4 hown hK hP (fk_wD hinj _ _) hS i (wat_4 hi) rfl 1 (by decide) (hts _ wf_4_15) (fun _ h => h) rfl (by decide +kernel) rfl rfl (Nat.le_of_ble_eq_true rfl) hdg (fun H1 locs1 hP1 hD1 hS1 => kk H1 locs1 ls hl ?_ hS1)
  rw [← wst_4_1 hi]
  exact hP1
theorem wf_4_18 : Cond.fieldLink RX4 18 "PieFunnels$Reader" "text" "LPieFunnels$Shelf;" ∈ fkB := fkB_in (List.mem_of_getElem? (i := 199) (by decide +kernel)) rfl
def fk_txt {α : Type} (t : Option Nat) (F1 : Option α) (F2 : Nat → Option α) : Option α := match t with
  | none => F1
  | some t => if kdC t = 5 then F2 t else none
theorem f_4_18 {g : fkG} {k : fkK} {ρ : Type} {en : ρ → Option Value} {cc : ByteArray} {nL fr lo pc : Nat} {ret : Option FieldType} {lv : List (Nat × Value)} {stk : List Value} {st : fkS} (hk : fk_ok wC g k RX4 cc nL ret fr lo) {F1 : Option (ρ × fkS)} {F2 : Nat → Option (ρ × fkS)} (hdg : decode cc pc = .ok (.getfield 18, 3))
    (k1 : fk_J wC g en k (pc + 3) lv (.null :: stk) st F1) (k2 : ∀ t, kdC t = 5 → fk_J wC g en k (pc + 3) lv (fk_r g t :: stk) st (F2 t)) : fk_J wC g en k pc lv (fk_r g 34 :: stk) st (fk_txt (gT st) F1 F2) := by
  intro o ho hq
  have kk : fk_V wC g k (pc + 3) lv (va_rf ((gT st).map g.1) :: stk) st := by
    cases ht : gT st with
    | none =>
      rw [ht] at ho
      exact k1 o ho hq
    | some t =>
      rw [ht] at ho
      by_cases h5 : kdC t = 5
      · exact k2 t h5 o (by simpa [fk_txt, h5] using ho) hq
      · exact absurd ho (by simp [fk_txt, h5])
  obtain ⟨p, l, e, R, s, m, args, below, meth, c, rv, sf⟩ := k
  obtain ⟨hx, hb, hml, hown, hts, hK, hE, hr, hlk, hinj, hfr, hlo⟩ := hk
  intro H locs ls hl hP hS
  exact va_get (D := g.2.1) (ci := 4) (C := RX4) (T := TX4) (N := 4) (v := va_rf ((gT st).map g.1)) hx hb hts wB_4 hown hK hP 34 (wat_4 (i := 34) rfl) rfl 2 (by decide) (hts _ wf_4_18) (fun _ h => h) rfl hdg (kk H locs ls hl hP hS)
theorem p_4_18 {g : fkG} {k : fkK} {ρ : Type} {en : ρ → Option Value} {cc : ByteArray} {nL fr lo pc : Nat} {ret : Option FieldType} {lv : List (Nat × Value)} {stk : List Value} {st : fkS} (hk : fk_ok wC g k RX4 cc nL ret fr lo) {t : Nat} {F1 : fkS → Option (ρ × fkS)} (hdg : decode cc pc = .ok (.putfield 18, 3))
    (kk : ∀ st1, fk_J wC g en k (pc + 3) lv stk st1 (F1 st1)) : fk_J wC g en k pc lv (fk_r g t :: fk_r g 34 :: stk) st (fk_let (sT st (some t)) F1) := by
  intro o ho hq
  have kk := kk (sT st (some t)) o ho hq
  obtain ⟨p, l, e, R, s, m, args, below, meth, c, rv, sf⟩ := k
  obtain ⟨hx, hb, hml, hown, hts, hK, hE, hr, hlk, hinj, hfr, hlo⟩ := hk
  intro H locs ls hl hP hS
  refine va_put (D := g.2.1) (ci := 4) (C := RX4) (T := TX4) (N := 4) (v := fk_r g t) (ty := .object "PieFunnels$Shelf") hx hb hts wB_4 tyX4 tyX4_ok nmX4 hown hK hP (fk_wD hinj _ _) hS 34 (wat_4 (i := 34) rfl) rfl 2 (by decide) (hts _ wf_4_18) (fun _ h => h) rfl (by decide +kernel) rfl rfl (Nat.le_of_ble_eq_true rfl) hdg (fun H1 locs1 hP1 hD1 hS1 => kk H1 locs1 ls hl ?_ hS1)
  rw [← wst_4_T]
  exact hP1
theorem wf_4_22 : Cond.fieldLink RX4 22 "PieFunnels$Reader" "numbers" "[I" ∈ fkB := fkB_in (List.mem_of_getElem? (i := 200) (by decide +kernel)) rfl
theorem f_4_22 {g : fkG} {k : fkK} {ρ : Type} {en : ρ → Option Value} {cc : ByteArray} {nL fr lo pc : Nat} {ret : Option FieldType} {lv : List (Nat × Value)} {stk : List Value} {st : fkS} {F : Option (ρ × fkS)} (hk : fk_ok wC g k RX4 cc nL ret fr lo) {i : Nat} (hi : kdC i = 4) (hdg : decode cc pc = .ok (.getfield 22, 3))
    (kk : fk_J wC g en k (pc + 3) lv (fk_r g (i + 1) :: stk) st F) : fk_J wC g en k pc lv (fk_r g i :: stk) st F := by
  intro o ho hq
  have kk := kk o ho hq
  obtain ⟨p, l, e, R, s, m, args, below, meth, c, rv, sf⟩ := k
  obtain ⟨hx, hb, hml, hown, hts, hK, hE, hr, hlk, hinj, hfr, hlo⟩ := hk
  intro H locs ls hl hP hS
  exact va_get (D := g.2.1) (ci := 4) (C := RX4) (T := TX4) (N := 4) (v := fk_r g (i + 1)) hx hb hts wB_4 hown hK hP i (wat_4 hi) rfl 3 (by decide) (hts _ wf_4_22) (fun _ h => h) rfl hdg (kk H locs ls hl hP hS)
theorem wf_1_9 : Cond.fieldLink RX1 9 "PieFunnels$Moves" "trace" "[I" ∈ fkB := fkB_in (List.mem_of_getElem? (i := 216) (by decide +kernel)) rfl
theorem f_1_9 {g : fkG} {k : fkK} {ρ : Type} {en : ρ → Option Value} {cc : ByteArray} {nL fr lo pc : Nat} {ret : Option FieldType} {lv : List (Nat × Value)} {stk : List Value} {st : fkS} {F : Option (ρ × fkS)} (hk : fk_ok wC g k RX1 cc nL ret fr lo) {i : Nat} (hi : kdC i = 1) (hdg : decode cc pc = .ok (.getfield 9, 3))
    (kk : fk_J wC g en k (pc + 3) lv (fk_r g (i + 1) :: stk) st F) : fk_J wC g en k pc lv (fk_r g i :: stk) st F := by
  intro o ho hq
  have kk := kk o ho hq
  obtain ⟨p, l, e, R, s, m, args, below, meth, c, rv, sf⟩ := k
  obtain ⟨hx, hb, hml, hown, hts, hK, hE, hr, hlk, hinj, hfr, hlo⟩ := hk
  intro H locs ls hl hP hS
  exact va_get (D := g.2.1) (ci := 1) (C := RX1) (T := TX1) (N := 5) (v := fk_r g (i + 1)) hx hb hts wB_1 hown hK hP i (wat_1 hi) rfl 0 (by decide) (hts _ wf_1_9) (fun _ h => h) rfl hdg (kk H locs ls hl hP hS)
theorem wf_7_325 : Cond.fieldLinkNest RX7 325 "PieFunnels$Moves" "trace" "[I" "PieFunnels" ∈ fk_nests := List.mem_of_getElem? (i := 21) (by decide +kernel)
theorem f_7_325 {g : fkG} {k : fkK} {ρ : Type} {en : ρ → Option Value} {cc : ByteArray} {nL fr lo pc : Nat} {ret : Option FieldType} {lv : List (Nat × Value)} {stk : List Value} {st : fkS} {F : Option (ρ × fkS)} (hk : fk_ok wC g k RX7 cc nL ret fr lo) {i : Nat} (hi : kdC i = 1) (hdg : decode cc pc = .ok (.getfield 325, 3))
    (kk : fk_J wC g en k (pc + 3) lv (fk_r g (i + 1) :: stk) st F) : fk_J wC g en k pc lv (fk_r g i :: stk) st F := by
  intro o ho hq
  have kk := kk o ho hq
  obtain ⟨p, l, e, R, s, m, args, below, meth, c, rv, sf⟩ := k
  obtain ⟨hx, hb, hml, hown, hts, hK, hE, hr, hlk, hinj, hfr, hlo⟩ := hk
  intro H locs ls hl hP hS
  exact va_getN (D := g.2.1) (ci := 1) (C := RX1) (T := TX1) (N := 5) (v := fk_r g (i + 1)) hx hb hts wB_1 hown hK hP i (wat_1 hi) rfl 0 (by decide) (va_Nw.use rfl (hE.1 _ wf_7_325)) (fun _ h => h) rfl hdg (kk H locs ls hl hP hS)
theorem wf_1_15 : Cond.fieldLink RX1 15 "PieFunnels$Moves" "ran" "I" ∈ fkB := fkB_in (List.mem_of_getElem? (i := 218) (by decide +kernel)) rfl
theorem f_1_15 {g : fkG} {k : fkK} {ρ : Type} {en : ρ → Option Value} {cc : ByteArray} {nL fr lo pc : Nat} {ret : Option FieldType} {lv : List (Nat × Value)} {stk : List Value} {st : fkS} (hk : fk_ok wC g k RX1 cc nL ret fr lo) {i : Nat} {F1 : Int32 → Option (ρ × fkS)} (hi : kdC i = 1) (hdg : decode cc pc = .ok (.getfield 15, 3))
    (kk : ∀ x, fk_J wC g en k (pc + 3) lv (.int x :: stk) st (F1 x)) : fk_J wC g en k pc lv (fk_r g i :: stk) st (fk_let (gI st 21 i) F1) := by
  intro o ho hq
  have kk := kk (gI st 21 i) o ho hq
  obtain ⟨p, l, e, R, s, m, args, below, meth, c, rv, sf⟩ := k
  obtain ⟨hx, hb, hml, hown, hts, hK, hE, hr, hlk, hinj, hfr, hlo⟩ := hk
  intro H locs ls hl hP hS
  exact va_get (D := g.2.1) (ci := 1) (C := RX1) (T := TX1) (N := 5) (v := .int (gI st 21 i)) hx hb hts wB_1 hown hK hP i (wat_1 hi) rfl 1 (by decide) (hts _ wf_1_15) (fun _ h => h) rfl hdg (kk H locs ls hl hP hS)
theorem p_1_15 {g : fkG} {k : fkK} {ρ : Type} {en : ρ → Option Value} {cc : ByteArray} {nL fr lo pc : Nat} {ret : Option FieldType} {lv : List (Nat × Value)} {stk : List Value} {st : fkS} (hk : fk_ok wC g k RX1 cc nL ret fr lo) {i : Nat} {v : Int32} {F1 : fkS → Option (ρ × fkS)} (hi : kdC i = 1) (hdg : decode cc pc = .ok (.putfield 15, 3))
    (kk : ∀ st1, fk_J wC g en k (pc + 3) lv stk st1 (F1 st1)) : fk_J wC g en k pc lv (.int v :: fk_r g i :: stk) st (fk_let (sI st 21 i v) F1) := by
  intro o ho hq
  have kk := kk (sI st 21 i v) o ho hq
  obtain ⟨p, l, e, R, s, m, args, below, meth, c, rv, sf⟩ := k
  obtain ⟨hx, hb, hml, hown, hts, hK, hE, hr, hlk, hinj, hfr, hlo⟩ := hk
  intro H locs ls hl hP hS
  refine va_put (D := g.2.1) (ci := 1) (C := RX1) (T := TX1) (N := 5) (v := .int v) (ty := .int) hx hb hts wB_1 tyX1 tyX1_ok nmX1 hown hK hP (fk_wD hinj _ _) hS i (wat_1 hi) rfl 1 (by decide) (hts _ wf_1_15) (fun _ h => h) rfl (by decide +kernel) rfl rfl (Nat.le_of_ble_eq_true rfl) hdg (fun H1 locs1 hP1 hD1 hS1 => kk H1 locs1 ls hl ?_ hS1)
  rw [← wst_1_1 hi]
  exact hP1
theorem wf_7_331 : Cond.fieldLinkNest RX7 331 "PieFunnels$Moves" "ran" "I" "PieFunnels" ∈ fk_nests := List.mem_of_getElem? (i := 22) (by decide +kernel)
theorem f_7_331 {g : fkG} {k : fkK} {ρ : Type} {en : ρ → Option Value} {cc : ByteArray} {nL fr lo pc : Nat} {ret : Option FieldType} {lv : List (Nat × Value)} {stk : List Value} {st : fkS} (hk : fk_ok wC g k RX7 cc nL ret fr lo) {i : Nat} {F1 : Int32 → Option (ρ × fkS)} (hi : kdC i = 1) (hdg : decode cc pc = .ok (.getfield 331, 3))
    (kk : ∀ x, fk_J wC g en k (pc + 3) lv (.int x :: stk) st (F1 x)) : fk_J wC g en k pc lv (fk_r g i :: stk) st (fk_let (gI st 21 i) F1) := by
  intro o ho hq
  have kk := kk (gI st 21 i) o ho hq
  obtain ⟨p, l, e, R, s, m, args, below, meth, c, rv, sf⟩ := k
  obtain ⟨hx, hb, hml, hown, hts, hK, hE, hr, hlk, hinj, hfr, hlo⟩ := hk
  intro H locs ls hl hP hS
  exact va_getN (D := g.2.1) (ci := 1) (C := RX1) (T := TX1) (N := 5) (v := .int (gI st 21 i)) hx hb hts wB_1 hown hK hP i (wat_1 hi) rfl 1 (by decide) (va_Nw.use rfl (hE.1 _ wf_7_331)) (fun _ h => h) rfl hdg (kk H locs ls hl hP hS)
theorem p_7_331 {g : fkG} {k : fkK} {ρ : Type} {en : ρ → Option Value} {cc : ByteArray} {nL fr lo pc : Nat} {ret : Option FieldType} {lv : List (Nat × Value)} {stk : List Value} {st : fkS} (hk : fk_ok wC g k RX7 cc nL ret fr lo) {i : Nat} {v : Int32} {F1 : fkS → Option (ρ × fkS)} (hi : kdC i = 1) (hdg : decode cc pc = .ok (.putfield 331, 3))
    (kk : ∀ st1, fk_J wC g en k (pc + 3) lv stk st1 (F1 st1)) : fk_J wC g en k pc lv (.int v :: fk_r g i :: stk) st (fk_let (sI st 21 i v) F1) := by
  intro o ho hq
  have kk := kk (sI st 21 i v) o ho hq
  obtain ⟨p, l, e, R, s, m, args, below, meth, c, rv, sf⟩ := k
  obtain ⟨hx, hb, hml, hown, hts, hK, hE, hr, hlk, hinj, hfr, hlo⟩ := hk
  intro H locs ls hl hP hS
  refine va_putN (D := g.2.1) (ci := 1) (C := RX1) (T := TX1) (N := 5) (v := .int v) (ty := .int) hx hb hts wB_1 tyX1 tyX1_ok nmX1 hown hK hP (fk_wD hinj _ _) hS i (wat_1 hi) rfl 1 (by decide) (va_Nw.use rfl (hE.1 _ wf_7_331)) (fun _ h => h) rfl (by decide +kernel) rfl rfl (Nat.le_of_ble_eq_true rfl) hdg (fun H1 locs1 hP1 hD1 hS1 => kk H1 locs1 ls hl ?_ hS1)
  rw [← wst_1_1 hi]
  exact hP1
theorem wf_1_19 : Cond.fieldLink RX1 19 "PieFunnels$Moves" "kind" "I" ∈ fkB := fkB_in (List.mem_of_getElem? (i := 220) (by decide +kernel)) rfl
theorem f_1_19 {g : fkG} {k : fkK} {ρ : Type} {en : ρ → Option Value} {cc : ByteArray} {nL fr lo pc : Nat} {ret : Option FieldType} {lv : List (Nat × Value)} {stk : List Value} {st : fkS} (hk : fk_ok wC g k RX1 cc nL ret fr lo) {i : Nat} {F1 : Int32 → Option (ρ × fkS)} (hi : kdC i = 1) (hdg : decode cc pc = .ok (.getfield 19, 3))
    (kk : ∀ x, fk_J wC g en k (pc + 3) lv (.int x :: stk) st (F1 x)) : fk_J wC g en k pc lv (fk_r g i :: stk) st (fk_let (gI st 22 i) F1) := by
  intro o ho hq
  have kk := kk (gI st 22 i) o ho hq
  obtain ⟨p, l, e, R, s, m, args, below, meth, c, rv, sf⟩ := k
  obtain ⟨hx, hb, hml, hown, hts, hK, hE, hr, hlk, hinj, hfr, hlo⟩ := hk
  intro H locs ls hl hP hS
  exact va_get (D := g.2.1) (ci := 1) (C := RX1) (T := TX1) (N := 5) (v := .int (gI st 22 i)) hx hb hts wB_1 hown hK hP i (wat_1 hi) rfl 2 (by decide) (hts _ wf_1_19) (fun _ h => h) rfl hdg (kk H locs ls hl hP hS)
theorem p_1_19 {g : fkG} {k : fkK} {ρ : Type} {en : ρ → Option Value} {cc : ByteArray} {nL fr lo pc : Nat} {ret : Option FieldType} {lv : List (Nat × Value)} {stk : List Value} {st : fkS} (hk : fk_ok wC g k RX1 cc nL ret fr lo) {i : Nat} {v : Int32} {F1 : fkS → Option (ρ × fkS)} (hi : kdC i = 1) (hdg : decode cc pc = .ok (.putfield 19, 3))
    (kk : ∀ st1, fk_J wC g en k (pc + 3) lv stk st1 (F1 st1)) : fk_J wC g en k pc lv (.int v :: fk_r g i :: stk) st (fk_let (sI st 22 i v) F1) := by
  intro o ho hq
  have kk := kk (sI st 22 i v) o ho hq
  obtain ⟨p, l, e, R, s, m, args, below, meth, c, rv, sf⟩ := k
  obtain ⟨hx, hb, hml, hown, hts, hK, hE, hr, hlk, hinj, hfr, hlo⟩ := hk
  intro H locs ls hl hP hS
  refine va_put (D := g.2.1) (ci := 1) (C := RX1) (T := TX1) (N := 5) (v := .int v) (ty := .int) hx hb hts wB_1 tyX1 tyX1_ok nmX1 hown hK hP (fk_wD hinj _ _) hS i (wat_1 hi) rfl 2 (by decide) (hts _ wf_1_19) (fun _ h => h) rfl (by decide +kernel) rfl rfl (Nat.le_of_ble_eq_true rfl) hdg (fun H1 locs1 hP1 hD1 hS1 => kk H1 locs1 ls hl ?_ hS1)
  rw [← wst_1_2 hi]
  exact hP1
theorem wf_7_315 : Cond.fieldLinkNest RX7 315 "PieFunnels$Moves" "kind" "I" "PieFunnels" ∈ fk_nests := List.mem_of_getElem? (i := 23) (by decide +kernel)
theorem f_7_315 {g : fkG} {k : fkK} {ρ : Type} {en : ρ → Option Value} {cc : ByteArray} {nL fr lo pc : Nat} {ret : Option FieldType} {lv : List (Nat × Value)} {stk : List Value} {st : fkS} (hk : fk_ok wC g k RX7 cc nL ret fr lo) {i : Nat} {F1 : Int32 → Option (ρ × fkS)} (hi : kdC i = 1) (hdg : decode cc pc = .ok (.getfield 315, 3))
    (kk : ∀ x, fk_J wC g en k (pc + 3) lv (.int x :: stk) st (F1 x)) : fk_J wC g en k pc lv (fk_r g i :: stk) st (fk_let (gI st 22 i) F1) := by
  intro o ho hq
  have kk := kk (gI st 22 i) o ho hq
  obtain ⟨p, l, e, R, s, m, args, below, meth, c, rv, sf⟩ := k
  obtain ⟨hx, hb, hml, hown, hts, hK, hE, hr, hlk, hinj, hfr, hlo⟩ := hk
  intro H locs ls hl hP hS
  exact va_getN (D := g.2.1) (ci := 1) (C := RX1) (T := TX1) (N := 5) (v := .int (gI st 22 i)) hx hb hts wB_1 hown hK hP i (wat_1 hi) rfl 2 (by decide) (va_Nw.use rfl (hE.1 _ wf_7_315)) (fun _ h => h) rfl hdg (kk H locs ls hl hP hS)
theorem p_7_315 {g : fkG} {k : fkK} {ρ : Type} {en : ρ → Option Value} {cc : ByteArray} {nL fr lo pc : Nat} {ret : Option FieldType} {lv : List (Nat × Value)} {stk : List Value} {st : fkS} (hk : fk_ok wC g k RX7 cc nL ret fr lo) {i : Nat} {v : Int32} {F1 : fkS → Option (ρ × fkS)} (hi : kdC i = 1) (hdg : decode cc pc = .ok (.putfield 315, 3))
    (kk : ∀ st1, fk_J wC g en k (pc + 3) lv stk st1 (F1 st1)) : fk_J wC g en k pc lv (.int v :: fk_r g i :: stk) st (fk_let (sI st 22 i v) F1) := by
  intro o ho hq
  have kk := kk (sI st 22 i v) o ho hq
  obtain ⟨p, l, e, R, s, m, args, below, meth, c, rv, sf⟩ := k
  obtain ⟨hx, hb, hml, hown, hts, hK, hE, hr, hlk, hinj, hfr, hlo⟩ := hk
  intro H locs ls hl hP hS
  refine va_putN (D := g.2.1) (ci := 1) (C := RX1) (T := TX1) (N := 5) (v := .int v) (ty := .int) hx hb hts wB_1 tyX1 tyX1_ok nmX1 hown hK hP (fk_wD hinj _ _) hS i (wat_1 hi) rfl 2 (by decide) (va_Nw.use rfl (hE.1 _ wf_7_315)) (fun _ h => h) rfl (by decide +kernel) rfl rfl (Nat.le_of_ble_eq_true rfl) hdg (fun H1 locs1 hP1 hD1 hS1 => kk H1 locs1 ls hl ?_ hS1)
  rw [← wst_1_2 hi]
  exact hP1
theorem wf_1_22 : Cond.fieldLink RX1 22 "PieFunnels$Moves" "number" "I" ∈ fkB := fkB_in (List.mem_of_getElem? (i := 222) (by decide +kernel)) rfl
theorem f_1_22 {g : fkG} {k : fkK} {ρ : Type} {en : ρ → Option Value} {cc : ByteArray} {nL fr lo pc : Nat} {ret : Option FieldType} {lv : List (Nat × Value)} {stk : List Value} {st : fkS} (hk : fk_ok wC g k RX1 cc nL ret fr lo) {i : Nat} {F1 : Int32 → Option (ρ × fkS)} (hi : kdC i = 1) (hdg : decode cc pc = .ok (.getfield 22, 3))
    (kk : ∀ x, fk_J wC g en k (pc + 3) lv (.int x :: stk) st (F1 x)) : fk_J wC g en k pc lv (fk_r g i :: stk) st (fk_let (gI st 23 i) F1) := by
  intro o ho hq
  have kk := kk (gI st 23 i) o ho hq
  obtain ⟨p, l, e, R, s, m, args, below, meth, c, rv, sf⟩ := k
  obtain ⟨hx, hb, hml, hown, hts, hK, hE, hr, hlk, hinj, hfr, hlo⟩ := hk
  intro H locs ls hl hP hS
  exact va_get (D := g.2.1) (ci := 1) (C := RX1) (T := TX1) (N := 5) (v := .int (gI st 23 i)) hx hb hts wB_1 hown hK hP i (wat_1 hi) rfl 3 (by decide) (hts _ wf_1_22) (fun _ h => h) rfl hdg (kk H locs ls hl hP hS)
theorem p_1_22 {g : fkG} {k : fkK} {ρ : Type} {en : ρ → Option Value} {cc : ByteArray} {nL fr lo pc : Nat} {ret : Option FieldType} {lv : List (Nat × Value)} {stk : List Value} {st : fkS} (hk : fk_ok wC g k RX1 cc nL ret fr lo) {i : Nat} {v : Int32} {F1 : fkS → Option (ρ × fkS)} (hi : kdC i = 1) (hdg : decode cc pc = .ok (.putfield 22, 3))
    (kk : ∀ st1, fk_J wC g en k (pc + 3) lv stk st1 (F1 st1)) : fk_J wC g en k pc lv (.int v :: fk_r g i :: stk) st (fk_let (sI st 23 i v) F1) := by
  intro o ho hq
  have kk := kk (sI st 23 i v) o ho hq
  obtain ⟨p, l, e, R, s, m, args, below, meth, c, rv, sf⟩ := k
  obtain ⟨hx, hb, hml, hown, hts, hK, hE, hr, hlk, hinj, hfr, hlo⟩ := hk
  intro H locs ls hl hP hS
  refine va_put (D := g.2.1) (ci := 1) (C := RX1) (T := TX1) (N := 5) (v := .int v) (ty := .int) hx hb hts wB_1 tyX1 tyX1_ok nmX1 hown hK hP (fk_wD hinj _ _) hS i (wat_1 hi) rfl 3 (by decide) (hts _ wf_1_22) (fun _ h => h) rfl (by decide +kernel) rfl rfl (Nat.le_of_ble_eq_true rfl) hdg (fun H1 locs1 hP1 hD1 hS1 => kk H1 locs1 ls hl ?_ hS1)
  rw [← wst_1_3 hi]
  exact hP1
theorem wf_1_25 : Cond.fieldLink RX1 25 "PieFunnels$Moves" "a" "I" ∈ fkB := fkB_in (List.mem_of_getElem? (i := 223) (by decide +kernel)) rfl
theorem f_1_25 {g : fkG} {k : fkK} {ρ : Type} {en : ρ → Option Value} {cc : ByteArray} {nL fr lo pc : Nat} {ret : Option FieldType} {lv : List (Nat × Value)} {stk : List Value} {st : fkS} (hk : fk_ok wC g k RX1 cc nL ret fr lo) {i : Nat} {F1 : Int32 → Option (ρ × fkS)} (hi : kdC i = 1) (hdg : decode cc pc = .ok (.getfield 25, 3))
    (kk : ∀ x, fk_J wC g en k (pc + 3) lv (.int x :: stk) st (F1 x)) : fk_J wC g en k pc lv (fk_r g i :: stk) st (fk_let (gI st 24 i) F1) := by
  intro o ho hq
  have kk := kk (gI st 24 i) o ho hq
  obtain ⟨p, l, e, R, s, m, args, below, meth, c, rv, sf⟩ := k
  obtain ⟨hx, hb, hml, hown, hts, hK, hE, hr, hlk, hinj, hfr, hlo⟩ := hk
  intro H locs ls hl hP hS
  exact va_get (D := g.2.1) (ci := 1) (C := RX1) (T := TX1) (N := 5) (v := .int (gI st 24 i)) hx hb hts wB_1 hown hK hP i (wat_1 hi) rfl 4 (by decide) (hts _ wf_1_25) (fun _ h => h) rfl hdg (kk H locs ls hl hP hS)
theorem p_1_25 {g : fkG} {k : fkK} {ρ : Type} {en : ρ → Option Value} {cc : ByteArray} {nL fr lo pc : Nat} {ret : Option FieldType} {lv : List (Nat × Value)} {stk : List Value} {st : fkS} (hk : fk_ok wC g k RX1 cc nL ret fr lo) {i : Nat} {v : Int32} {F1 : fkS → Option (ρ × fkS)} (hi : kdC i = 1) (hdg : decode cc pc = .ok (.putfield 25, 3))
    (kk : ∀ st1, fk_J wC g en k (pc + 3) lv stk st1 (F1 st1)) : fk_J wC g en k pc lv (.int v :: fk_r g i :: stk) st (fk_let (sI st 24 i v) F1) := by
  intro o ho hq
  have kk := kk (sI st 24 i v) o ho hq
  obtain ⟨p, l, e, R, s, m, args, below, meth, c, rv, sf⟩ := k
  obtain ⟨hx, hb, hml, hown, hts, hK, hE, hr, hlk, hinj, hfr, hlo⟩ := hk
  intro H locs ls hl hP hS
  refine va_put (D := g.2.1) (ci := 1) (C := RX1) (T := TX1) (N := 5) (v := .int v) (ty := .int) hx hb hts wB_1 tyX1 tyX1_ok nmX1 hown hK hP (fk_wD hinj _ _) hS i (wat_1 hi) rfl 4 (by decide) (hts _ wf_1_25) (fun _ h => h) rfl (by decide +kernel) rfl rfl (Nat.le_of_ble_eq_true rfl) hdg (fun H1 locs1 hP1 hD1 hS1 => kk H1 locs1 ls hl ?_ hS1)
  rw [← wst_1_4 hi]
  exact hP1
theorem wf_3_9 : Cond.fieldLink RX3 9 "PieFunnels$Pie" "stuffings" "[I" ∈ fkB := fkB_in (List.mem_of_getElem? (i := 241) (by decide +kernel)) rfl
theorem f_3_9 {g : fkG} {k : fkK} {ρ : Type} {en : ρ → Option Value} {cc : ByteArray} {nL fr lo pc : Nat} {ret : Option FieldType} {lv : List (Nat × Value)} {stk : List Value} {st : fkS} {F : Option (ρ × fkS)} (hk : fk_ok wC g k RX3 cc nL ret fr lo) {i : Nat} (hi : kdC i = 3) (hdg : decode cc pc = .ok (.getfield 9, 3))
    (kk : fk_J wC g en k (pc + 3) lv (fk_r g (i + 1) :: stk) st F) : fk_J wC g en k pc lv (fk_r g i :: stk) st F := by
  intro o ho hq
  have kk := kk o ho hq
  obtain ⟨p, l, e, R, s, m, args, below, meth, c, rv, sf⟩ := k
  obtain ⟨hx, hb, hml, hown, hts, hK, hE, hr, hlk, hinj, hfr, hlo⟩ := hk
  intro H locs ls hl hP hS
  exact va_get (D := g.2.1) (ci := 3) (C := RX3) (T := TX3) (N := 2) (v := fk_r g (i + 1)) hx hb hts wB_3 hown hK hP i (wat_3 hi) rfl 0 (by decide) (hts _ wf_3_9) (fun _ h => h) rfl hdg (kk H locs ls hl hP hS)
theorem wf_6_83 : Cond.fieldLinkNest RX6 83 "PieFunnels$Pie" "stuffings" "[I" "PieFunnels" ∈ fk_nests := List.mem_of_getElem? (i := 24) (by decide +kernel)
theorem f_6_83 {g : fkG} {k : fkK} {ρ : Type} {en : ρ → Option Value} {cc : ByteArray} {nL fr lo pc : Nat} {ret : Option FieldType} {lv : List (Nat × Value)} {stk : List Value} {st : fkS} {F : Option (ρ × fkS)} (hk : fk_ok wC g k RX6 cc nL ret fr lo) {i : Nat} (hi : kdC i = 3) (hdg : decode cc pc = .ok (.getfield 83, 3))
    (kk : fk_J wC g en k (pc + 3) lv (fk_r g (i + 1) :: stk) st F) : fk_J wC g en k pc lv (fk_r g i :: stk) st F := by
  intro o ho hq
  have kk := kk o ho hq
  obtain ⟨p, l, e, R, s, m, args, below, meth, c, rv, sf⟩ := k
  obtain ⟨hx, hb, hml, hown, hts, hK, hE, hr, hlk, hinj, hfr, hlo⟩ := hk
  intro H locs ls hl hP hS
  exact va_getN (D := g.2.1) (ci := 3) (C := RX3) (T := TX3) (N := 2) (v := fk_r g (i + 1)) hx hb hts wB_3 hown hK hP i (wat_3 hi) rfl 0 (by decide) (va_Nw.use rfl (hE.1 _ wf_6_83)) (fun _ h => h) rfl hdg (kk H locs ls hl hP hS)
theorem wf_7_231 : Cond.fieldLinkNest RX7 231 "PieFunnels$Pie" "stuffings" "[I" "PieFunnels" ∈ fk_nests := List.mem_of_getElem? (i := 25) (by decide +kernel)
theorem f_7_231 {g : fkG} {k : fkK} {ρ : Type} {en : ρ → Option Value} {cc : ByteArray} {nL fr lo pc : Nat} {ret : Option FieldType} {lv : List (Nat × Value)} {stk : List Value} {st : fkS} {F : Option (ρ × fkS)} (hk : fk_ok wC g k RX7 cc nL ret fr lo) {i : Nat} (hi : kdC i = 3) (hdg : decode cc pc = .ok (.getfield 231, 3))
    (kk : fk_J wC g en k (pc + 3) lv (fk_r g (i + 1) :: stk) st F) : fk_J wC g en k pc lv (fk_r g i :: stk) st F := by
  intro o ho hq
  have kk := kk o ho hq
  obtain ⟨p, l, e, R, s, m, args, below, meth, c, rv, sf⟩ := k
  obtain ⟨hx, hb, hml, hown, hts, hK, hE, hr, hlk, hinj, hfr, hlo⟩ := hk
  intro H locs ls hl hP hS
  exact va_getN (D := g.2.1) (ci := 3) (C := RX3) (T := TX3) (N := 2) (v := fk_r g (i + 1)) hx hb hts wB_3 hown hK hP i (wat_3 hi) rfl 0 (by decide) (va_Nw.use rfl (hE.1 _ wf_7_231)) (fun _ h => h) rfl hdg (kk H locs ls hl hP hS)
theorem wf_3_15 : Cond.fieldLink RX3 15 "PieFunnels$Pie" "layers" "I" ∈ fkB := fkB_in (List.mem_of_getElem? (i := 244) (by decide +kernel)) rfl
theorem f_3_15 {g : fkG} {k : fkK} {ρ : Type} {en : ρ → Option Value} {cc : ByteArray} {nL fr lo pc : Nat} {ret : Option FieldType} {lv : List (Nat × Value)} {stk : List Value} {st : fkS} (hk : fk_ok wC g k RX3 cc nL ret fr lo) {i : Nat} {F1 : Int32 → Option (ρ × fkS)} (hi : kdC i = 3) (hdg : decode cc pc = .ok (.getfield 15, 3))
    (kk : ∀ x, fk_J wC g en k (pc + 3) lv (.int x :: stk) st (F1 x)) : fk_J wC g en k pc lv (fk_r g i :: stk) st (fk_let (gI st 61 i) F1) := by
  intro o ho hq
  have kk := kk (gI st 61 i) o ho hq
  obtain ⟨p, l, e, R, s, m, args, below, meth, c, rv, sf⟩ := k
  obtain ⟨hx, hb, hml, hown, hts, hK, hE, hr, hlk, hinj, hfr, hlo⟩ := hk
  intro H locs ls hl hP hS
  exact va_get (D := g.2.1) (ci := 3) (C := RX3) (T := TX3) (N := 2) (v := .int (gI st 61 i)) hx hb hts wB_3 hown hK hP i (wat_3 hi) rfl 1 (by decide) (hts _ wf_3_15) (fun _ h => h) rfl hdg (kk H locs ls hl hP hS)
theorem p_3_15 {g : fkG} {k : fkK} {ρ : Type} {en : ρ → Option Value} {cc : ByteArray} {nL fr lo pc : Nat} {ret : Option FieldType} {lv : List (Nat × Value)} {stk : List Value} {st : fkS} (hk : fk_ok wC g k RX3 cc nL ret fr lo) {i : Nat} {v : Int32} {F1 : fkS → Option (ρ × fkS)} (hi : kdC i = 3) (hdg : decode cc pc = .ok (.putfield 15, 3))
    (kk : ∀ st1, fk_J wC g en k (pc + 3) lv stk st1 (F1 st1)) : fk_J wC g en k pc lv (.int v :: fk_r g i :: stk) st (fk_let (sI st 61 i v) F1) := by
  intro o ho hq
  have kk := kk (sI st 61 i v) o ho hq
  obtain ⟨p, l, e, R, s, m, args, below, meth, c, rv, sf⟩ := k
  obtain ⟨hx, hb, hml, hown, hts, hK, hE, hr, hlk, hinj, hfr, hlo⟩ := hk
  intro H locs ls hl hP hS
  refine va_put (D := g.2.1) (ci := 3) (C := RX3) (T := TX3) (N := 2) (v := .int v) (ty := .int) hx hb hts wB_3 tyX3 tyX3_ok nmX3 hown hK hP (fk_wD hinj _ _) hS i (wat_3 hi) rfl 1 (by decide) (hts _ wf_3_15) (fun _ h => h) rfl (by decide +kernel) rfl rfl (Nat.le_of_ble_eq_true rfl) hdg (fun H1 locs1 hP1 hD1 hS1 => kk H1 locs1 ls hl ?_ hS1)
  rw [← wst_3_1 hi]
  exact hP1
theorem wf_6_69 : Cond.fieldLinkNest RX6 69 "PieFunnels$Pie" "layers" "I" "PieFunnels" ∈ fk_nests := List.mem_of_getElem? (i := 26) (by decide +kernel)
theorem f_6_69 {g : fkG} {k : fkK} {ρ : Type} {en : ρ → Option Value} {cc : ByteArray} {nL fr lo pc : Nat} {ret : Option FieldType} {lv : List (Nat × Value)} {stk : List Value} {st : fkS} (hk : fk_ok wC g k RX6 cc nL ret fr lo) {i : Nat} {F1 : Int32 → Option (ρ × fkS)} (hi : kdC i = 3) (hdg : decode cc pc = .ok (.getfield 69, 3))
    (kk : ∀ x, fk_J wC g en k (pc + 3) lv (.int x :: stk) st (F1 x)) : fk_J wC g en k pc lv (fk_r g i :: stk) st (fk_let (gI st 61 i) F1) := by
  intro o ho hq
  have kk := kk (gI st 61 i) o ho hq
  obtain ⟨p, l, e, R, s, m, args, below, meth, c, rv, sf⟩ := k
  obtain ⟨hx, hb, hml, hown, hts, hK, hE, hr, hlk, hinj, hfr, hlo⟩ := hk
  intro H locs ls hl hP hS
  exact va_getN (D := g.2.1) (ci := 3) (C := RX3) (T := TX3) (N := 2) (v := .int (gI st 61 i)) hx hb hts wB_3 hown hK hP i (wat_3 hi) rfl 1 (by decide) (va_Nw.use rfl (hE.1 _ wf_6_69)) (fun _ h => h) rfl hdg (kk H locs ls hl hP hS)
theorem p_6_69 {g : fkG} {k : fkK} {ρ : Type} {en : ρ → Option Value} {cc : ByteArray} {nL fr lo pc : Nat} {ret : Option FieldType} {lv : List (Nat × Value)} {stk : List Value} {st : fkS} (hk : fk_ok wC g k RX6 cc nL ret fr lo) {i : Nat} {v : Int32} {F1 : fkS → Option (ρ × fkS)} (hi : kdC i = 3) (hdg : decode cc pc = .ok (.putfield 69, 3))
    (kk : ∀ st1, fk_J wC g en k (pc + 3) lv stk st1 (F1 st1)) : fk_J wC g en k pc lv (.int v :: fk_r g i :: stk) st (fk_let (sI st 61 i v) F1) := by
  intro o ho hq
  have kk := kk (sI st 61 i v) o ho hq
  obtain ⟨p, l, e, R, s, m, args, below, meth, c, rv, sf⟩ := k
  obtain ⟨hx, hb, hml, hown, hts, hK, hE, hr, hlk, hinj, hfr, hlo⟩ := hk
  intro H locs ls hl hP hS
  refine va_putN (D := g.2.1) (ci := 3) (C := RX3) (T := TX3) (N := 2) (v := .int v) (ty := .int) hx hb hts wB_3 tyX3 tyX3_ok nmX3 hown hK hP (fk_wD hinj _ _) hS i (wat_3 hi) rfl 1 (by decide) (va_Nw.use rfl (hE.1 _ wf_6_69)) (fun _ h => h) rfl (by decide +kernel) rfl rfl (Nat.le_of_ble_eq_true rfl) hdg (fun H1 locs1 hP1 hD1 hS1 => kk H1 locs1 ls hl ?_ hS1)
  rw [← wst_3_1 hi]
  exact hP1
theorem wf_7_228 : Cond.fieldLinkNest RX7 228 "PieFunnels$Pie" "layers" "I" "PieFunnels" ∈ fk_nests := List.mem_of_getElem? (i := 27) (by decide +kernel)
theorem f_7_228 {g : fkG} {k : fkK} {ρ : Type} {en : ρ → Option Value} {cc : ByteArray} {nL fr lo pc : Nat} {ret : Option FieldType} {lv : List (Nat × Value)} {stk : List Value} {st : fkS} (hk : fk_ok wC g k RX7 cc nL ret fr lo) {i : Nat} {F1 : Int32 → Option (ρ × fkS)} (hi : kdC i = 3) (hdg : decode cc pc = .ok (.getfield 228, 3))
    (kk : ∀ x, fk_J wC g en k (pc + 3) lv (.int x :: stk) st (F1 x)) : fk_J wC g en k pc lv (fk_r g i :: stk) st (fk_let (gI st 61 i) F1) := by
  intro o ho hq
  have kk := kk (gI st 61 i) o ho hq
  obtain ⟨p, l, e, R, s, m, args, below, meth, c, rv, sf⟩ := k
  obtain ⟨hx, hb, hml, hown, hts, hK, hE, hr, hlk, hinj, hfr, hlo⟩ := hk
  intro H locs ls hl hP hS
  exact va_getN (D := g.2.1) (ci := 3) (C := RX3) (T := TX3) (N := 2) (v := .int (gI st 61 i)) hx hb hts wB_3 hown hK hP i (wat_3 hi) rfl 1 (by decide) (va_Nw.use rfl (hE.1 _ wf_7_228)) (fun _ h => h) rfl hdg (kk H locs ls hl hP hS)
theorem p_7_228 {g : fkG} {k : fkK} {ρ : Type} {en : ρ → Option Value} {cc : ByteArray} {nL fr lo pc : Nat} {ret : Option FieldType} {lv : List (Nat × Value)} {stk : List Value} {st : fkS} (hk : fk_ok wC g k RX7 cc nL ret fr lo) {i : Nat} {v : Int32} {F1 : fkS → Option (ρ × fkS)} (hi : kdC i = 3) (hdg : decode cc pc = .ok (.putfield 228, 3))
    (kk : ∀ st1, fk_J wC g en k (pc + 3) lv stk st1 (F1 st1)) : fk_J wC g en k pc lv (.int v :: fk_r g i :: stk) st (fk_let (sI st 61 i v) F1) := by
  intro o ho hq
  have kk := kk (sI st 61 i v) o ho hq
  obtain ⟨p, l, e, R, s, m, args, below, meth, c, rv, sf⟩ := k
  obtain ⟨hx, hb, hml, hown, hts, hK, hE, hr, hlk, hinj, hfr, hlo⟩ := hk
  intro H locs ls hl hP hS
  refine va_putN (D := g.2.1) (ci := 3) (C := RX3) (T := TX3) (N := 2) (v := .int v) (ty := .int) hx hb hts wB_3 tyX3 tyX3_ok nmX3 hown hK hP (fk_wD hinj _ _) hS i (wat_3 hi) rfl 1 (by decide) (va_Nw.use rfl (hE.1 _ wf_7_228)) (fun _ h => h) rfl (by decide +kernel) rfl rfl (Nat.le_of_ble_eq_true rfl) hdg (fun H1 locs1 hP1 hD1 hS1 => kk H1 locs1 ls hl ?_ hS1)
  rw [← wst_3_1 hi]
  exact hP1
theorem wf_6_9 : Cond.fieldLink RX6 9 "PieFunnels$Voice" "kind" "I" ∈ fkB := fkB_in (List.mem_of_getElem? (i := 258) (by decide +kernel)) rfl
theorem f_6_9 {g : fkG} {k : fkK} {ρ : Type} {en : ρ → Option Value} {cc : ByteArray} {nL fr lo pc : Nat} {ret : Option FieldType} {lv : List (Nat × Value)} {stk : List Value} {st : fkS} (hk : fk_ok wC g k RX6 cc nL ret fr lo) {i : Nat} {F1 : Int32 → Option (ρ × fkS)} (hi : kdC i = 6) (hdg : decode cc pc = .ok (.getfield 9, 3))
    (kk : ∀ x, fk_J wC g en k (pc + 3) lv (.int x :: stk) st (F1 x)) : fk_J wC g en k pc lv (fk_r g i :: stk) st (fk_let (gI st 120 i) F1) := by
  intro o ho hq
  have kk := kk (gI st 120 i) o ho hq
  obtain ⟨p, l, e, R, s, m, args, below, meth, c, rv, sf⟩ := k
  obtain ⟨hx, hb, hml, hown, hts, hK, hE, hr, hlk, hinj, hfr, hlo⟩ := hk
  intro H locs ls hl hP hS
  exact va_get (D := g.2.1) (ci := 6) (C := RX6) (T := TX6) (N := 6) (v := .int (gI st 120 i)) hx hb hts wB_6 hown hK hP i (wat_6 hi) rfl 0 (by decide) (hts _ wf_6_9) (fun _ h => h) rfl hdg (kk H locs ls hl hP hS)
theorem p_6_9 {g : fkG} {k : fkK} {ρ : Type} {en : ρ → Option Value} {cc : ByteArray} {nL fr lo pc : Nat} {ret : Option FieldType} {lv : List (Nat × Value)} {stk : List Value} {st : fkS} (hk : fk_ok wC g k RX6 cc nL ret fr lo) {i : Nat} {v : Int32} {F1 : fkS → Option (ρ × fkS)} (hi : kdC i = 6) (hdg : decode cc pc = .ok (.putfield 9, 3))
    (kk : ∀ st1, fk_J wC g en k (pc + 3) lv stk st1 (F1 st1)) : fk_J wC g en k pc lv (.int v :: fk_r g i :: stk) st (fk_let (sI st 120 i v) F1) := by
  intro o ho hq
  have kk := kk (sI st 120 i v) o ho hq
  obtain ⟨p, l, e, R, s, m, args, below, meth, c, rv, sf⟩ := k
  obtain ⟨hx, hb, hml, hown, hts, hK, hE, hr, hlk, hinj, hfr, hlo⟩ := hk
  intro H locs ls hl hP hS
  refine va_put (D := g.2.1) (ci := 6) (C := RX6) (T := TX6) (N := 6) (v := .int v) (ty := .int) hx hb hts wB_6 tyX6 tyX6_ok nmX6 hown hK hP (fk_wD hinj _ _) hS i (wat_6 hi) rfl 0 (by decide) (hts _ wf_6_9) (fun _ h => h) rfl (by decide +kernel) rfl rfl (Nat.le_of_ble_eq_true rfl) hdg (fun H1 locs1 hP1 hD1 hS1 => kk H1 locs1 ls hl ?_ hS1)
  rw [← wst_6_0 hi]
  exact hP1
theorem wf_7_334 : Cond.fieldLinkNest RX7 334 "PieFunnels$Voice" "kind" "I" "PieFunnels" ∈ fk_nests := List.mem_of_getElem? (i := 28) (by decide +kernel)
theorem f_7_334 {g : fkG} {k : fkK} {ρ : Type} {en : ρ → Option Value} {cc : ByteArray} {nL fr lo pc : Nat} {ret : Option FieldType} {lv : List (Nat × Value)} {stk : List Value} {st : fkS} (hk : fk_ok wC g k RX7 cc nL ret fr lo) {i : Nat} {F1 : Int32 → Option (ρ × fkS)} (hi : kdC i = 6) (hdg : decode cc pc = .ok (.getfield 334, 3))
    (kk : ∀ x, fk_J wC g en k (pc + 3) lv (.int x :: stk) st (F1 x)) : fk_J wC g en k pc lv (fk_r g i :: stk) st (fk_let (gI st 120 i) F1) := by
  intro o ho hq
  have kk := kk (gI st 120 i) o ho hq
  obtain ⟨p, l, e, R, s, m, args, below, meth, c, rv, sf⟩ := k
  obtain ⟨hx, hb, hml, hown, hts, hK, hE, hr, hlk, hinj, hfr, hlo⟩ := hk
  intro H locs ls hl hP hS
  exact va_getN (D := g.2.1) (ci := 6) (C := RX6) (T := TX6) (N := 6) (v := .int (gI st 120 i)) hx hb hts wB_6 hown hK hP i (wat_6 hi) rfl 0 (by decide) (va_Nw.use rfl (hE.1 _ wf_7_334)) (fun _ h => h) rfl hdg (kk H locs ls hl hP hS)
theorem p_7_334 {g : fkG} {k : fkK} {ρ : Type} {en : ρ → Option Value} {cc : ByteArray} {nL fr lo pc : Nat} {ret : Option FieldType} {lv : List (Nat × Value)} {stk : List Value} {st : fkS} (hk : fk_ok wC g k RX7 cc nL ret fr lo) {i : Nat} {v : Int32} {F1 : fkS → Option (ρ × fkS)} (hi : kdC i = 6) (hdg : decode cc pc = .ok (.putfield 334, 3))
    (kk : ∀ st1, fk_J wC g en k (pc + 3) lv stk st1 (F1 st1)) : fk_J wC g en k pc lv (.int v :: fk_r g i :: stk) st (fk_let (sI st 120 i v) F1) := by
  intro o ho hq
  have kk := kk (sI st 120 i v) o ho hq
  obtain ⟨p, l, e, R, s, m, args, below, meth, c, rv, sf⟩ := k
  obtain ⟨hx, hb, hml, hown, hts, hK, hE, hr, hlk, hinj, hfr, hlo⟩ := hk
  intro H locs ls hl hP hS
  refine va_putN (D := g.2.1) (ci := 6) (C := RX6) (T := TX6) (N := 6) (v := .int v) (ty := .int) hx hb hts wB_6 tyX6 tyX6_ok nmX6 hown hK hP (fk_wD hinj _ _) hS i (wat_6 hi) rfl 0 (by decide) (va_Nw.use rfl (hE.1 _ wf_7_334)) (fun _ h => h) rfl (by decide +kernel) rfl rfl (Nat.le_of_ble_eq_true rfl) hdg (fun H1 locs1 hP1 hD1 hS1 => kk H1 locs1 ls hl ?_ hS1)
  rw [← wst_6_0 hi]
  exact hP1
theorem wf_6_15 : Cond.fieldLink RX6 15 "PieFunnels$Voice" "a" "I" ∈ fkB := fkB_in (List.mem_of_getElem? (i := 260) (by decide +kernel)) rfl
theorem f_6_15 {g : fkG} {k : fkK} {ρ : Type} {en : ρ → Option Value} {cc : ByteArray} {nL fr lo pc : Nat} {ret : Option FieldType} {lv : List (Nat × Value)} {stk : List Value} {st : fkS} (hk : fk_ok wC g k RX6 cc nL ret fr lo) {i : Nat} {F1 : Int32 → Option (ρ × fkS)} (hi : kdC i = 6) (hdg : decode cc pc = .ok (.getfield 15, 3))
    (kk : ∀ x, fk_J wC g en k (pc + 3) lv (.int x :: stk) st (F1 x)) : fk_J wC g en k pc lv (fk_r g i :: stk) st (fk_let (gI st 121 i) F1) := by
  intro o ho hq
  have kk := kk (gI st 121 i) o ho hq
  obtain ⟨p, l, e, R, s, m, args, below, meth, c, rv, sf⟩ := k
  obtain ⟨hx, hb, hml, hown, hts, hK, hE, hr, hlk, hinj, hfr, hlo⟩ := hk
  intro H locs ls hl hP hS
  exact va_get (D := g.2.1) (ci := 6) (C := RX6) (T := TX6) (N := 6) (v := .int (gI st 121 i)) hx hb hts wB_6 hown hK hP i (wat_6 hi) rfl 1 (by decide) (hts _ wf_6_15) (fun _ h => h) rfl hdg (kk H locs ls hl hP hS)
theorem p_6_15 {g : fkG} {k : fkK} {ρ : Type} {en : ρ → Option Value} {cc : ByteArray} {nL fr lo pc : Nat} {ret : Option FieldType} {lv : List (Nat × Value)} {stk : List Value} {st : fkS} (hk : fk_ok wC g k RX6 cc nL ret fr lo) {i : Nat} {v : Int32} {F1 : fkS → Option (ρ × fkS)} (hi : kdC i = 6) (hdg : decode cc pc = .ok (.putfield 15, 3))
    (kk : ∀ st1, fk_J wC g en k (pc + 3) lv stk st1 (F1 st1)) : fk_J wC g en k pc lv (.int v :: fk_r g i :: stk) st (fk_let (sI st 121 i v) F1) := by
  intro o ho hq
  have kk := kk (sI st 121 i v) o ho hq
  obtain ⟨p, l, e, R, s, m, args, below, meth, c, rv, sf⟩ := k
  obtain ⟨hx, hb, hml, hown, hts, hK, hE, hr, hlk, hinj, hfr, hlo⟩ := hk
  intro H locs ls hl hP hS
  refine va_put (D := g.2.1) (ci := 6) (C := RX6) (T := TX6) (N := 6) (v := .int v) (ty := .int) hx hb hts wB_6 tyX6 tyX6_ok nmX6 hown hK hP (fk_wD hinj _ _) hS i (wat_6 hi) rfl 1 (by decide) (hts _ wf_6_15) (fun _ h => h) rfl (by decide +kernel) rfl rfl (Nat.le_of_ble_eq_true rfl) hdg (fun H1 locs1 hP1 hD1 hS1 => kk H1 locs1 ls hl ?_ hS1)
  rw [← wst_6_1 hi]
  exact hP1
theorem wf_7_168 : Cond.fieldLinkNest RX7 168 "PieFunnels$Voice" "a" "I" "PieFunnels" ∈ fk_nests := List.mem_of_getElem? (i := 29) (by decide +kernel)
theorem f_7_168 {g : fkG} {k : fkK} {ρ : Type} {en : ρ → Option Value} {cc : ByteArray} {nL fr lo pc : Nat} {ret : Option FieldType} {lv : List (Nat × Value)} {stk : List Value} {st : fkS} (hk : fk_ok wC g k RX7 cc nL ret fr lo) {i : Nat} {F1 : Int32 → Option (ρ × fkS)} (hi : kdC i = 6) (hdg : decode cc pc = .ok (.getfield 168, 3))
    (kk : ∀ x, fk_J wC g en k (pc + 3) lv (.int x :: stk) st (F1 x)) : fk_J wC g en k pc lv (fk_r g i :: stk) st (fk_let (gI st 121 i) F1) := by
  intro o ho hq
  have kk := kk (gI st 121 i) o ho hq
  obtain ⟨p, l, e, R, s, m, args, below, meth, c, rv, sf⟩ := k
  obtain ⟨hx, hb, hml, hown, hts, hK, hE, hr, hlk, hinj, hfr, hlo⟩ := hk
  intro H locs ls hl hP hS
  exact va_getN (D := g.2.1) (ci := 6) (C := RX6) (T := TX6) (N := 6) (v := .int (gI st 121 i)) hx hb hts wB_6 hown hK hP i (wat_6 hi) rfl 1 (by decide) (va_Nw.use rfl (hE.1 _ wf_7_168)) (fun _ h => h) rfl hdg (kk H locs ls hl hP hS)
theorem p_7_168 {g : fkG} {k : fkK} {ρ : Type} {en : ρ → Option Value} {cc : ByteArray} {nL fr lo pc : Nat} {ret : Option FieldType} {lv : List (Nat × Value)} {stk : List Value} {st : fkS} (hk : fk_ok wC g k RX7 cc nL ret fr lo) {i : Nat} {v : Int32} {F1 : fkS → Option (ρ × fkS)} (hi : kdC i = 6) (hdg : decode cc pc = .ok (.putfield 168, 3))
    (kk : ∀ st1, fk_J wC g en k (pc + 3) lv stk st1 (F1 st1)) : fk_J wC g en k pc lv (.int v :: fk_r g i :: stk) st (fk_let (sI st 121 i v) F1) := by
  intro o ho hq
  have kk := kk (sI st 121 i v) o ho hq
  obtain ⟨p, l, e, R, s, m, args, below, meth, c, rv, sf⟩ := k
  obtain ⟨hx, hb, hml, hown, hts, hK, hE, hr, hlk, hinj, hfr, hlo⟩ := hk
  intro H locs ls hl hP hS
  refine va_putN (D := g.2.1) (ci := 6) (C := RX6) (T := TX6) (N := 6) (v := .int v) (ty := .int) hx hb hts wB_6 tyX6 tyX6_ok nmX6 hown hK hP (fk_wD hinj _ _) hS i (wat_6 hi) rfl 1 (by decide) (va_Nw.use rfl (hE.1 _ wf_7_168)) (fun _ h => h) rfl (by decide +kernel) rfl rfl (Nat.le_of_ble_eq_true rfl) hdg (fun H1 locs1 hP1 hD1 hS1 => kk H1 locs1 ls hl ?_ hS1)
  rw [← wst_6_1 hi]
  exact hP1
theorem wf_6_18 : Cond.fieldLink RX6 18 "PieFunnels$Voice" "mouth" "I" ∈ fkB := fkB_in (List.mem_of_getElem? (i := 262) (by decide +kernel)) rfl
theorem f_6_18 {g : fkG} {k : fkK} {ρ : Type} {en : ρ → Option Value} {cc : ByteArray} {nL fr lo pc : Nat} {ret : Option FieldType} {lv : List (Nat × Value)} {stk : List Value} {st : fkS} (hk : fk_ok wC g k RX6 cc nL ret fr lo) {i : Nat} {F1 : Int32 → Option (ρ × fkS)} (hi : kdC i = 6) (hdg : decode cc pc = .ok (.getfield 18, 3))
    (kk : ∀ x, fk_J wC g en k (pc + 3) lv (.int x :: stk) st (F1 x)) : fk_J wC g en k pc lv (fk_r g i :: stk) st (fk_let (gI st 122 i) F1) := by
  intro o ho hq
  have kk := kk (gI st 122 i) o ho hq
  obtain ⟨p, l, e, R, s, m, args, below, meth, c, rv, sf⟩ := k
  obtain ⟨hx, hb, hml, hown, hts, hK, hE, hr, hlk, hinj, hfr, hlo⟩ := hk
  intro H locs ls hl hP hS
  exact va_get (D := g.2.1) (ci := 6) (C := RX6) (T := TX6) (N := 6) (v := .int (gI st 122 i)) hx hb hts wB_6 hown hK hP i (wat_6 hi) rfl 2 (by decide) (hts _ wf_6_18) (fun _ h => h) rfl hdg (kk H locs ls hl hP hS)
theorem p_6_18 {g : fkG} {k : fkK} {ρ : Type} {en : ρ → Option Value} {cc : ByteArray} {nL fr lo pc : Nat} {ret : Option FieldType} {lv : List (Nat × Value)} {stk : List Value} {st : fkS} (hk : fk_ok wC g k RX6 cc nL ret fr lo) {i : Nat} {v : Int32} {F1 : fkS → Option (ρ × fkS)} (hi : kdC i = 6) (hdg : decode cc pc = .ok (.putfield 18, 3))
    (kk : ∀ st1, fk_J wC g en k (pc + 3) lv stk st1 (F1 st1)) : fk_J wC g en k pc lv (.int v :: fk_r g i :: stk) st (fk_let (sI st 122 i v) F1) := by
  intro o ho hq
  have kk := kk (sI st 122 i v) o ho hq
  obtain ⟨p, l, e, R, s, m, args, below, meth, c, rv, sf⟩ := k
  obtain ⟨hx, hb, hml, hown, hts, hK, hE, hr, hlk, hinj, hfr, hlo⟩ := hk
  intro H locs ls hl hP hS
  refine va_put (D := g.2.1) (ci := 6) (C := RX6) (T := TX6) (N := 6) (v := .int v) (ty := .int) hx hb hts wB_6 tyX6 tyX6_ok nmX6 hown hK hP (fk_wD hinj _ _) hS i (wat_6 hi) rfl 2 (by decide) (hts _ wf_6_18) (fun _ h => h) rfl (by decide +kernel) rfl rfl (Nat.le_of_ble_eq_true rfl) hdg (fun H1 locs1 hP1 hD1 hS1 => kk H1 locs1 ls hl ?_ hS1)
  rw [← wst_6_2 hi]
  exact hP1
theorem wf_7_152 : Cond.fieldLinkNest RX7 152 "PieFunnels$Voice" "mouth" "I" "PieFunnels" ∈ fk_nests := List.mem_of_getElem? (i := 30) (by decide +kernel)
theorem f_7_152 {g : fkG} {k : fkK} {ρ : Type} {en : ρ → Option Value} {cc : ByteArray} {nL fr lo pc : Nat} {ret : Option FieldType} {lv : List (Nat × Value)} {stk : List Value} {st : fkS} (hk : fk_ok wC g k RX7 cc nL ret fr lo) {i : Nat} {F1 : Int32 → Option (ρ × fkS)} (hi : kdC i = 6) (hdg : decode cc pc = .ok (.getfield 152, 3))
    (kk : ∀ x, fk_J wC g en k (pc + 3) lv (.int x :: stk) st (F1 x)) : fk_J wC g en k pc lv (fk_r g i :: stk) st (fk_let (gI st 122 i) F1) := by
  intro o ho hq
  have kk := kk (gI st 122 i) o ho hq
  obtain ⟨p, l, e, R, s, m, args, below, meth, c, rv, sf⟩ := k
  obtain ⟨hx, hb, hml, hown, hts, hK, hE, hr, hlk, hinj, hfr, hlo⟩ := hk
  intro H locs ls hl hP hS
  exact va_getN (D := g.2.1) (ci := 6) (C := RX6) (T := TX6) (N := 6) (v := .int (gI st 122 i)) hx hb hts wB_6 hown hK hP i (wat_6 hi) rfl 2 (by decide) (va_Nw.use rfl (hE.1 _ wf_7_152)) (fun _ h => h) rfl hdg (kk H locs ls hl hP hS)
theorem p_7_152 {g : fkG} {k : fkK} {ρ : Type} {en : ρ → Option Value} {cc : ByteArray} {nL fr lo pc : Nat} {ret : Option FieldType} {lv : List (Nat × Value)} {stk : List Value} {st : fkS} (hk : fk_ok wC g k RX7 cc nL ret fr lo) {i : Nat} {v : Int32} {F1 : fkS → Option (ρ × fkS)} (hi : kdC i = 6) (hdg : decode cc pc = .ok (.putfield 152, 3))
    (kk : ∀ st1, fk_J wC g en k (pc + 3) lv stk st1 (F1 st1)) : fk_J wC g en k pc lv (.int v :: fk_r g i :: stk) st (fk_let (sI st 122 i v) F1) := by
  intro o ho hq
  have kk := kk (sI st 122 i v) o ho hq
  obtain ⟨p, l, e, R, s, m, args, below, meth, c, rv, sf⟩ := k
  obtain ⟨hx, hb, hml, hown, hts, hK, hE, hr, hlk, hinj, hfr, hlo⟩ := hk
  intro H locs ls hl hP hS
  refine va_putN (D := g.2.1) (ci := 6) (C := RX6) (T := TX6) (N := 6) (v := .int v) (ty := .int) hx hb hts wB_6 tyX6 tyX6_ok nmX6 hown hK hP (fk_wD hinj _ _) hS i (wat_6 hi) rfl 2 (by decide) (va_Nw.use rfl (hE.1 _ wf_7_152)) (fun _ h => h) rfl (by decide +kernel) rfl rfl (Nat.le_of_ble_eq_true rfl) hdg (fun H1 locs1 hP1 hD1 hS1 => kk H1 locs1 ls hl ?_ hS1)
  rw [← wst_6_2 hi]
  exact hP1
theorem wf_6_21 : Cond.fieldLink RX6 21 "PieFunnels$Voice" "heat" "I" ∈ fkB := fkB_in (List.mem_of_getElem? (i := 264) (by decide +kernel)) rfl
theorem f_6_21 {g : fkG} {k : fkK} {ρ : Type} {en : ρ → Option Value} {cc : ByteArray} {nL fr lo pc : Nat} {ret : Option FieldType} {lv : List (Nat × Value)} {stk : List Value} {st : fkS} (hk : fk_ok wC g k RX6 cc nL ret fr lo) {i : Nat} {F1 : Int32 → Option (ρ × fkS)} (hi : kdC i = 6) (hdg : decode cc pc = .ok (.getfield 21, 3))
    (kk : ∀ x, fk_J wC g en k (pc + 3) lv (.int x :: stk) st (F1 x)) : fk_J wC g en k pc lv (fk_r g i :: stk) st (fk_let (gI st 123 i) F1) := by
  intro o ho hq
  have kk := kk (gI st 123 i) o ho hq
  obtain ⟨p, l, e, R, s, m, args, below, meth, c, rv, sf⟩ := k
  obtain ⟨hx, hb, hml, hown, hts, hK, hE, hr, hlk, hinj, hfr, hlo⟩ := hk
  intro H locs ls hl hP hS
  exact va_get (D := g.2.1) (ci := 6) (C := RX6) (T := TX6) (N := 6) (v := .int (gI st 123 i)) hx hb hts wB_6 hown hK hP i (wat_6 hi) rfl 3 (by decide) (hts _ wf_6_21) (fun _ h => h) rfl hdg (kk H locs ls hl hP hS)
theorem p_6_21 {g : fkG} {k : fkK} {ρ : Type} {en : ρ → Option Value} {cc : ByteArray} {nL fr lo pc : Nat} {ret : Option FieldType} {lv : List (Nat × Value)} {stk : List Value} {st : fkS} (hk : fk_ok wC g k RX6 cc nL ret fr lo) {i : Nat} {v : Int32} {F1 : fkS → Option (ρ × fkS)} (hi : kdC i = 6) (hdg : decode cc pc = .ok (.putfield 21, 3))
    (kk : ∀ st1, fk_J wC g en k (pc + 3) lv stk st1 (F1 st1)) : fk_J wC g en k pc lv (.int v :: fk_r g i :: stk) st (fk_let (sI st 123 i v) F1) := by
  intro o ho hq
  have kk := kk (sI st 123 i v) o ho hq
  obtain ⟨p, l, e, R, s, m, args, below, meth, c, rv, sf⟩ := k
  obtain ⟨hx, hb, hml, hown, hts, hK, hE, hr, hlk, hinj, hfr, hlo⟩ := hk
  intro H locs ls hl hP hS
  refine va_put (D := g.2.1) (ci := 6) (C := RX6) (T := TX6) (N := 6) (v := .int v) (ty := .int) hx hb hts wB_6 tyX6 tyX6_ok nmX6 hown hK hP (fk_wD hinj _ _) hS i (wat_6 hi) rfl 3 (by decide) (hts _ wf_6_21) (fun _ h => h) rfl (by decide +kernel) rfl rfl (Nat.le_of_ble_eq_true rfl) hdg (fun H1 locs1 hP1 hD1 hS1 => kk H1 locs1 ls hl ?_ hS1)
  rw [← wst_6_3 hi]
  exact hP1
theorem wf_7_270 : Cond.fieldLinkNest RX7 270 "PieFunnels$Voice" "heat" "I" "PieFunnels" ∈ fk_nests := List.mem_of_getElem? (i := 31) (by decide +kernel)
theorem f_7_270 {g : fkG} {k : fkK} {ρ : Type} {en : ρ → Option Value} {cc : ByteArray} {nL fr lo pc : Nat} {ret : Option FieldType} {lv : List (Nat × Value)} {stk : List Value} {st : fkS} (hk : fk_ok wC g k RX7 cc nL ret fr lo) {i : Nat} {F1 : Int32 → Option (ρ × fkS)} (hi : kdC i = 6) (hdg : decode cc pc = .ok (.getfield 270, 3))
    (kk : ∀ x, fk_J wC g en k (pc + 3) lv (.int x :: stk) st (F1 x)) : fk_J wC g en k pc lv (fk_r g i :: stk) st (fk_let (gI st 123 i) F1) := by
  intro o ho hq
  have kk := kk (gI st 123 i) o ho hq
  obtain ⟨p, l, e, R, s, m, args, below, meth, c, rv, sf⟩ := k
  obtain ⟨hx, hb, hml, hown, hts, hK, hE, hr, hlk, hinj, hfr, hlo⟩ := hk
  intro H locs ls hl hP hS
  exact va_getN (D := g.2.1) (ci := 6) (C := RX6) (T := TX6) (N := 6) (v := .int (gI st 123 i)) hx hb hts wB_6 hown hK hP i (wat_6 hi) rfl 3 (by decide) (va_Nw.use rfl (hE.1 _ wf_7_270)) (fun _ h => h) rfl hdg (kk H locs ls hl hP hS)
theorem p_7_270 {g : fkG} {k : fkK} {ρ : Type} {en : ρ → Option Value} {cc : ByteArray} {nL fr lo pc : Nat} {ret : Option FieldType} {lv : List (Nat × Value)} {stk : List Value} {st : fkS} (hk : fk_ok wC g k RX7 cc nL ret fr lo) {i : Nat} {v : Int32} {F1 : fkS → Option (ρ × fkS)} (hi : kdC i = 6) (hdg : decode cc pc = .ok (.putfield 270, 3))
    (kk : ∀ st1, fk_J wC g en k (pc + 3) lv stk st1 (F1 st1)) : fk_J wC g en k pc lv (.int v :: fk_r g i :: stk) st (fk_let (sI st 123 i v) F1) := by
  intro o ho hq
  have kk := kk (sI st 123 i v) o ho hq
  obtain ⟨p, l, e, R, s, m, args, below, meth, c, rv, sf⟩ := k
  obtain ⟨hx, hb, hml, hown, hts, hK, hE, hr, hlk, hinj, hfr, hlo⟩ := hk
  intro H locs ls hl hP hS
  refine va_putN (D := g.2.1) (ci := 6) (C := RX6) (T := TX6) (N := 6) (v := .int v) (ty := .int) hx hb hts wB_6 tyX6 tyX6_ok nmX6 hown hK hP (fk_wD hinj _ _) hS i (wat_6 hi) rfl 3 (by decide) (va_Nw.use rfl (hE.1 _ wf_7_270)) (fun _ h => h) rfl (by decide +kernel) rfl rfl (Nat.le_of_ble_eq_true rfl) hdg (fun H1 locs1 hP1 hD1 hS1 => kk H1 locs1 ls hl ?_ hS1)
  rw [← wst_6_3 hi]
  exact hP1
theorem wf_6_24 : Cond.fieldLink RX6 24 "PieFunnels$Voice" "count" "I" ∈ fkB := fkB_in (List.mem_of_getElem? (i := 266) (by decide +kernel)) rfl
theorem f_6_24 {g : fkG} {k : fkK} {ρ : Type} {en : ρ → Option Value} {cc : ByteArray} {nL fr lo pc : Nat} {ret : Option FieldType} {lv : List (Nat × Value)} {stk : List Value} {st : fkS} (hk : fk_ok wC g k RX6 cc nL ret fr lo) {i : Nat} {F1 : Int32 → Option (ρ × fkS)} (hi : kdC i = 6) (hdg : decode cc pc = .ok (.getfield 24, 3))
    (kk : ∀ x, fk_J wC g en k (pc + 3) lv (.int x :: stk) st (F1 x)) : fk_J wC g en k pc lv (fk_r g i :: stk) st (fk_let (gI st 124 i) F1) := by
  intro o ho hq
  have kk := kk (gI st 124 i) o ho hq
  obtain ⟨p, l, e, R, s, m, args, below, meth, c, rv, sf⟩ := k
  obtain ⟨hx, hb, hml, hown, hts, hK, hE, hr, hlk, hinj, hfr, hlo⟩ := hk
  intro H locs ls hl hP hS
  exact va_get (D := g.2.1) (ci := 6) (C := RX6) (T := TX6) (N := 6) (v := .int (gI st 124 i)) hx hb hts wB_6 hown hK hP i (wat_6 hi) rfl 4 (by decide) (hts _ wf_6_24) (fun _ h => h) rfl hdg (kk H locs ls hl hP hS)
theorem p_6_24 {g : fkG} {k : fkK} {ρ : Type} {en : ρ → Option Value} {cc : ByteArray} {nL fr lo pc : Nat} {ret : Option FieldType} {lv : List (Nat × Value)} {stk : List Value} {st : fkS} (hk : fk_ok wC g k RX6 cc nL ret fr lo) {i : Nat} {v : Int32} {F1 : fkS → Option (ρ × fkS)} (hi : kdC i = 6) (hdg : decode cc pc = .ok (.putfield 24, 3))
    (kk : ∀ st1, fk_J wC g en k (pc + 3) lv stk st1 (F1 st1)) : fk_J wC g en k pc lv (.int v :: fk_r g i :: stk) st (fk_let (sI st 124 i v) F1) := by
  intro o ho hq
  have kk := kk (sI st 124 i v) o ho hq
  obtain ⟨p, l, e, R, s, m, args, below, meth, c, rv, sf⟩ := k
  obtain ⟨hx, hb, hml, hown, hts, hK, hE, hr, hlk, hinj, hfr, hlo⟩ := hk
  intro H locs ls hl hP hS
  refine va_put (D := g.2.1) (ci := 6) (C := RX6) (T := TX6) (N := 6) (v := .int v) (ty := .int) hx hb hts wB_6 tyX6 tyX6_ok nmX6 hown hK hP (fk_wD hinj _ _) hS i (wat_6 hi) rfl 4 (by decide) (hts _ wf_6_24) (fun _ h => h) rfl (by decide +kernel) rfl rfl (Nat.le_of_ble_eq_true rfl) hdg (fun H1 locs1 hP1 hD1 hS1 => kk H1 locs1 ls hl ?_ hS1)
  rw [← wst_6_4 hi]
  exact hP1
theorem wf_0_56 : Cond.fieldLinkNest RX0 56 "PieFunnels$Voice" "count" "I" "PieFunnels" ∈ fk_nests := List.mem_of_getElem? (i := 32) (by decide +kernel)
theorem f_0_56 {g : fkG} {k : fkK} {ρ : Type} {en : ρ → Option Value} {cc : ByteArray} {nL fr lo pc : Nat} {ret : Option FieldType} {lv : List (Nat × Value)} {stk : List Value} {st : fkS} (hk : fk_ok wC g k RX0 cc nL ret fr lo) {i : Nat} {F1 : Int32 → Option (ρ × fkS)} (hi : kdC i = 6) (hdg : decode cc pc = .ok (.getfield 56, 3))
    (kk : ∀ x, fk_J wC g en k (pc + 3) lv (.int x :: stk) st (F1 x)) : fk_J wC g en k pc lv (fk_r g i :: stk) st (fk_let (gI st 124 i) F1) := by
  intro o ho hq
  have kk := kk (gI st 124 i) o ho hq
  obtain ⟨p, l, e, R, s, m, args, below, meth, c, rv, sf⟩ := k
  obtain ⟨hx, hb, hml, hown, hts, hK, hE, hr, hlk, hinj, hfr, hlo⟩ := hk
  intro H locs ls hl hP hS
  exact va_getN (D := g.2.1) (ci := 6) (C := RX6) (T := TX6) (N := 6) (v := .int (gI st 124 i)) hx hb hts wB_6 hown hK hP i (wat_6 hi) rfl 4 (by decide) (va_Nw.use rfl (hE.1 _ wf_0_56)) (fun _ h => h) rfl hdg (kk H locs ls hl hP hS)
theorem p_0_56 {g : fkG} {k : fkK} {ρ : Type} {en : ρ → Option Value} {cc : ByteArray} {nL fr lo pc : Nat} {ret : Option FieldType} {lv : List (Nat × Value)} {stk : List Value} {st : fkS} (hk : fk_ok wC g k RX0 cc nL ret fr lo) {i : Nat} {v : Int32} {F1 : fkS → Option (ρ × fkS)} (hi : kdC i = 6) (hdg : decode cc pc = .ok (.putfield 56, 3))
    (kk : ∀ st1, fk_J wC g en k (pc + 3) lv stk st1 (F1 st1)) : fk_J wC g en k pc lv (.int v :: fk_r g i :: stk) st (fk_let (sI st 124 i v) F1) := by
  intro o ho hq
  have kk := kk (sI st 124 i v) o ho hq
  obtain ⟨p, l, e, R, s, m, args, below, meth, c, rv, sf⟩ := k
  obtain ⟨hx, hb, hml, hown, hts, hK, hE, hr, hlk, hinj, hfr, hlo⟩ := hk
  intro H locs ls hl hP hS
  refine va_putN (D := g.2.1) (ci := 6) (C := RX6) (T := TX6) (N := 6) (v := .int v) (ty := .int) hx hb hts wB_6 tyX6 tyX6_ok nmX6 hown hK hP (fk_wD hinj _ _) hS i (wat_6 hi) rfl 4 (by decide) (va_Nw.use rfl (hE.1 _ wf_0_56)) (fun _ h => h) rfl (by decide +kernel) rfl rfl (Nat.le_of_ble_eq_true rfl) hdg (fun H1 locs1 hP1 hD1 hS1 => kk H1 locs1 ls hl ?_ hS1)
  rw [← wst_6_4 hi]
  exact hP1
theorem wf_7_162 : Cond.fieldLinkNest RX7 162 "PieFunnels$Voice" "count" "I" "PieFunnels" ∈ fk_nests := List.mem_of_getElem? (i := 33) (by decide +kernel)
theorem f_7_162 {g : fkG} {k : fkK} {ρ : Type} {en : ρ → Option Value} {cc : ByteArray} {nL fr lo pc : Nat} {ret : Option FieldType} {lv : List (Nat × Value)} {stk : List Value} {st : fkS} (hk : fk_ok wC g k RX7 cc nL ret fr lo) {i : Nat} {F1 : Int32 → Option (ρ × fkS)} (hi : kdC i = 6) (hdg : decode cc pc = .ok (.getfield 162, 3))
    (kk : ∀ x, fk_J wC g en k (pc + 3) lv (.int x :: stk) st (F1 x)) : fk_J wC g en k pc lv (fk_r g i :: stk) st (fk_let (gI st 124 i) F1) := by
  intro o ho hq
  have kk := kk (gI st 124 i) o ho hq
  obtain ⟨p, l, e, R, s, m, args, below, meth, c, rv, sf⟩ := k
  obtain ⟨hx, hb, hml, hown, hts, hK, hE, hr, hlk, hinj, hfr, hlo⟩ := hk
  intro H locs ls hl hP hS
  exact va_getN (D := g.2.1) (ci := 6) (C := RX6) (T := TX6) (N := 6) (v := .int (gI st 124 i)) hx hb hts wB_6 hown hK hP i (wat_6 hi) rfl 4 (by decide) (va_Nw.use rfl (hE.1 _ wf_7_162)) (fun _ h => h) rfl hdg (kk H locs ls hl hP hS)
theorem p_7_162 {g : fkG} {k : fkK} {ρ : Type} {en : ρ → Option Value} {cc : ByteArray} {nL fr lo pc : Nat} {ret : Option FieldType} {lv : List (Nat × Value)} {stk : List Value} {st : fkS} (hk : fk_ok wC g k RX7 cc nL ret fr lo) {i : Nat} {v : Int32} {F1 : fkS → Option (ρ × fkS)} (hi : kdC i = 6) (hdg : decode cc pc = .ok (.putfield 162, 3))
    (kk : ∀ st1, fk_J wC g en k (pc + 3) lv stk st1 (F1 st1)) : fk_J wC g en k pc lv (.int v :: fk_r g i :: stk) st (fk_let (sI st 124 i v) F1) := by
  intro o ho hq
  have kk := kk (sI st 124 i v) o ho hq
  obtain ⟨p, l, e, R, s, m, args, below, meth, c, rv, sf⟩ := k
  obtain ⟨hx, hb, hml, hown, hts, hK, hE, hr, hlk, hinj, hfr, hlo⟩ := hk
  intro H locs ls hl hP hS
  refine va_putN (D := g.2.1) (ci := 6) (C := RX6) (T := TX6) (N := 6) (v := .int v) (ty := .int) hx hb hts wB_6 tyX6 tyX6_ok nmX6 hown hK hP (fk_wD hinj _ _) hS i (wat_6 hi) rfl 4 (by decide) (va_Nw.use rfl (hE.1 _ wf_7_162)) (fun _ h => h) rfl (by decide +kernel) rfl rfl (Nat.le_of_ble_eq_true rfl) hdg (fun H1 locs1 hP1 hD1 hS1 => kk H1 locs1 ls hl ?_ hS1)
  rw [← wst_6_4 hi]
  exact hP1
theorem wf_6_27 : Cond.fieldLink RX6 27 "PieFunnels$Voice" "signs" "[I" ∈ fkB := fkB_in (List.mem_of_getElem? (i := 269) (by decide +kernel)) rfl
theorem f_6_27 {g : fkG} {k : fkK} {ρ : Type} {en : ρ → Option Value} {cc : ByteArray} {nL fr lo pc : Nat} {ret : Option FieldType} {lv : List (Nat × Value)} {stk : List Value} {st : fkS} {F : Option (ρ × fkS)} (hk : fk_ok wC g k RX6 cc nL ret fr lo) {i : Nat} (hi : kdC i = 6) (hdg : decode cc pc = .ok (.getfield 27, 3))
    (kk : fk_J wC g en k (pc + 3) lv (fk_r g (i + 2) :: stk) st F) : fk_J wC g en k pc lv (fk_r g i :: stk) st F := by
  intro o ho hq
  have kk := kk o ho hq
  obtain ⟨p, l, e, R, s, m, args, below, meth, c, rv, sf⟩ := k
  obtain ⟨hx, hb, hml, hown, hts, hK, hE, hr, hlk, hinj, hfr, hlo⟩ := hk
  intro H locs ls hl hP hS
  exact va_get (D := g.2.1) (ci := 6) (C := RX6) (T := TX6) (N := 6) (v := fk_r g (i + 2)) hx hb hts wB_6 hown hK hP i (wat_6 hi) rfl 5 (by decide) (hts _ wf_6_27) (fun _ h => h) rfl hdg (kk H locs ls hl hP hS)
theorem wf_0_61 : Cond.fieldLinkNest RX0 61 "PieFunnels$Voice" "signs" "[I" "PieFunnels" ∈ fk_nests := List.mem_of_getElem? (i := 34) (by decide +kernel)
theorem f_0_61 {g : fkG} {k : fkK} {ρ : Type} {en : ρ → Option Value} {cc : ByteArray} {nL fr lo pc : Nat} {ret : Option FieldType} {lv : List (Nat × Value)} {stk : List Value} {st : fkS} {F : Option (ρ × fkS)} (hk : fk_ok wC g k RX0 cc nL ret fr lo) {i : Nat} (hi : kdC i = 6) (hdg : decode cc pc = .ok (.getfield 61, 3))
    (kk : fk_J wC g en k (pc + 3) lv (fk_r g (i + 2) :: stk) st F) : fk_J wC g en k pc lv (fk_r g i :: stk) st F := by
  intro o ho hq
  have kk := kk o ho hq
  obtain ⟨p, l, e, R, s, m, args, below, meth, c, rv, sf⟩ := k
  obtain ⟨hx, hb, hml, hown, hts, hK, hE, hr, hlk, hinj, hfr, hlo⟩ := hk
  intro H locs ls hl hP hS
  exact va_getN (D := g.2.1) (ci := 6) (C := RX6) (T := TX6) (N := 6) (v := fk_r g (i + 2)) hx hb hts wB_6 hown hK hP i (wat_6 hi) rfl 5 (by decide) (va_Nw.use rfl (hE.1 _ wf_0_61)) (fun _ h => h) rfl hdg (kk H locs ls hl hP hS)
theorem wf_7_165 : Cond.fieldLinkNest RX7 165 "PieFunnels$Voice" "signs" "[I" "PieFunnels" ∈ fk_nests := List.mem_of_getElem? (i := 35) (by decide +kernel)
theorem f_7_165 {g : fkG} {k : fkK} {ρ : Type} {en : ρ → Option Value} {cc : ByteArray} {nL fr lo pc : Nat} {ret : Option FieldType} {lv : List (Nat × Value)} {stk : List Value} {st : fkS} {F : Option (ρ × fkS)} (hk : fk_ok wC g k RX7 cc nL ret fr lo) {i : Nat} (hi : kdC i = 6) (hdg : decode cc pc = .ok (.getfield 165, 3))
    (kk : fk_J wC g en k (pc + 3) lv (fk_r g (i + 2) :: stk) st F) : fk_J wC g en k pc lv (fk_r g i :: stk) st F := by
  intro o ho hq
  have kk := kk o ho hq
  obtain ⟨p, l, e, R, s, m, args, below, meth, c, rv, sf⟩ := k
  obtain ⟨hx, hb, hml, hown, hts, hK, hE, hr, hlk, hinj, hfr, hlo⟩ := hk
  intro H locs ls hl hP hS
  exact va_getN (D := g.2.1) (ci := 6) (C := RX6) (T := TX6) (N := 6) (v := fk_r g (i + 2)) hx hb hts wB_6 hown hK hP i (wat_6 hi) rfl 5 (by decide) (va_Nw.use rfl (hE.1 _ wf_7_165)) (fun _ h => h) rfl hdg (kk H locs ls hl hP hS)
theorem wf_2_9 : Cond.fieldLink RX2 9 "PieFunnels$Parting" "tribes" "I" ∈ fkB := fkB_in (List.mem_of_getElem? (i := 291) (by decide +kernel)) rfl
theorem f_2_9 {g : fkG} {k : fkK} {ρ : Type} {en : ρ → Option Value} {cc : ByteArray} {nL fr lo pc : Nat} {ret : Option FieldType} {lv : List (Nat × Value)} {stk : List Value} {st : fkS} (hk : fk_ok wC g k RX2 cc nL ret fr lo) {i : Nat} {F1 : Int32 → Option (ρ × fkS)} (hi : kdC i = 2) (hdg : decode cc pc = .ok (.getfield 9, 3))
    (kk : ∀ x, fk_J wC g en k (pc + 3) lv (.int x :: stk) st (F1 x)) : fk_J wC g en k pc lv (fk_r g i :: stk) st (fk_let (gI st 40 i) F1) := by
  intro o ho hq
  have kk := kk (gI st 40 i) o ho hq
  obtain ⟨p, l, e, R, s, m, args, below, meth, c, rv, sf⟩ := k
  obtain ⟨hx, hb, hml, hown, hts, hK, hE, hr, hlk, hinj, hfr, hlo⟩ := hk
  intro H locs ls hl hP hS
  exact va_get (D := g.2.1) (ci := 2) (C := RX2) (T := TX2) (N := 5) (v := .int (gI st 40 i)) hx hb hts wB_2 hown hK hP i (wat_2 hi) rfl 0 (by decide) (hts _ wf_2_9) (fun _ h => h) rfl hdg (kk H locs ls hl hP hS)
theorem p_2_9 {g : fkG} {k : fkK} {ρ : Type} {en : ρ → Option Value} {cc : ByteArray} {nL fr lo pc : Nat} {ret : Option FieldType} {lv : List (Nat × Value)} {stk : List Value} {st : fkS} (hk : fk_ok wC g k RX2 cc nL ret fr lo) {i : Nat} {v : Int32} {F1 : fkS → Option (ρ × fkS)} (hi : kdC i = 2) (hdg : decode cc pc = .ok (.putfield 9, 3))
    (kk : ∀ st1, fk_J wC g en k (pc + 3) lv stk st1 (F1 st1)) : fk_J wC g en k pc lv (.int v :: fk_r g i :: stk) st (fk_let (sI st 40 i v) F1) := by
  intro o ho hq
  have kk := kk (sI st 40 i v) o ho hq
  obtain ⟨p, l, e, R, s, m, args, below, meth, c, rv, sf⟩ := k
  obtain ⟨hx, hb, hml, hown, hts, hK, hE, hr, hlk, hinj, hfr, hlo⟩ := hk
  intro H locs ls hl hP hS
  refine va_put (D := g.2.1) (ci := 2) (C := RX2) (T := TX2) (N := 5) (v := .int v) (ty := .int) hx hb hts wB_2 tyX2 tyX2_ok nmX2 hown hK hP (fk_wD hinj _ _) hS i (wat_2 hi) rfl 0 (by decide) (hts _ wf_2_9) (fun _ h => h) rfl (by decide +kernel) rfl rfl (Nat.le_of_ble_eq_true rfl) hdg (fun H1 locs1 hP1 hD1 hS1 => kk H1 locs1 ls hl ?_ hS1)
  rw [← wst_2_0 hi]
  exact hP1
theorem wf_7_277 : Cond.fieldLinkNest RX7 277 "PieFunnels$Parting" "tribes" "I" "PieFunnels" ∈ fk_nests := List.mem_of_getElem? (i := 36) (by decide +kernel)
theorem f_7_277 {g : fkG} {k : fkK} {ρ : Type} {en : ρ → Option Value} {cc : ByteArray} {nL fr lo pc : Nat} {ret : Option FieldType} {lv : List (Nat × Value)} {stk : List Value} {st : fkS} (hk : fk_ok wC g k RX7 cc nL ret fr lo) {i : Nat} {F1 : Int32 → Option (ρ × fkS)} (hi : kdC i = 2) (hdg : decode cc pc = .ok (.getfield 277, 3))
    (kk : ∀ x, fk_J wC g en k (pc + 3) lv (.int x :: stk) st (F1 x)) : fk_J wC g en k pc lv (fk_r g i :: stk) st (fk_let (gI st 40 i) F1) := by
  intro o ho hq
  have kk := kk (gI st 40 i) o ho hq
  obtain ⟨p, l, e, R, s, m, args, below, meth, c, rv, sf⟩ := k
  obtain ⟨hx, hb, hml, hown, hts, hK, hE, hr, hlk, hinj, hfr, hlo⟩ := hk
  intro H locs ls hl hP hS
  exact va_getN (D := g.2.1) (ci := 2) (C := RX2) (T := TX2) (N := 5) (v := .int (gI st 40 i)) hx hb hts wB_2 hown hK hP i (wat_2 hi) rfl 0 (by decide) (va_Nw.use rfl (hE.1 _ wf_7_277)) (fun _ h => h) rfl hdg (kk H locs ls hl hP hS)
theorem p_7_277 {g : fkG} {k : fkK} {ρ : Type} {en : ρ → Option Value} {cc : ByteArray} {nL fr lo pc : Nat} {ret : Option FieldType} {lv : List (Nat × Value)} {stk : List Value} {st : fkS} (hk : fk_ok wC g k RX7 cc nL ret fr lo) {i : Nat} {v : Int32} {F1 : fkS → Option (ρ × fkS)} (hi : kdC i = 2) (hdg : decode cc pc = .ok (.putfield 277, 3))
    (kk : ∀ st1, fk_J wC g en k (pc + 3) lv stk st1 (F1 st1)) : fk_J wC g en k pc lv (.int v :: fk_r g i :: stk) st (fk_let (sI st 40 i v) F1) := by
  intro o ho hq
  have kk := kk (sI st 40 i v) o ho hq
  obtain ⟨p, l, e, R, s, m, args, below, meth, c, rv, sf⟩ := k
  obtain ⟨hx, hb, hml, hown, hts, hK, hE, hr, hlk, hinj, hfr, hlo⟩ := hk
  intro H locs ls hl hP hS
  refine va_putN (D := g.2.1) (ci := 2) (C := RX2) (T := TX2) (N := 5) (v := .int v) (ty := .int) hx hb hts wB_2 tyX2 tyX2_ok nmX2 hown hK hP (fk_wD hinj _ _) hS i (wat_2 hi) rfl 0 (by decide) (va_Nw.use rfl (hE.1 _ wf_7_277)) (fun _ h => h) rfl (by decide +kernel) rfl rfl (Nat.le_of_ble_eq_true rfl) hdg (fun H1 locs1 hP1 hD1 hS1 => kk H1 locs1 ls hl ?_ hS1)
  rw [← wst_2_0 hi]
  exact hP1
theorem wf_2_15 : Cond.fieldLink RX2 15 "PieFunnels$Parting" "served" "I" ∈ fkB := fkB_in (List.mem_of_getElem? (i := 293) (by decide +kernel)) rfl
theorem f_2_15 {g : fkG} {k : fkK} {ρ : Type} {en : ρ → Option Value} {cc : ByteArray} {nL fr lo pc : Nat} {ret : Option FieldType} {lv : List (Nat × Value)} {stk : List Value} {st : fkS} (hk : fk_ok wC g k RX2 cc nL ret fr lo) {i : Nat} {F1 : Int32 → Option (ρ × fkS)} (hi : kdC i = 2) (hdg : decode cc pc = .ok (.getfield 15, 3))
    (kk : ∀ x, fk_J wC g en k (pc + 3) lv (.int x :: stk) st (F1 x)) : fk_J wC g en k pc lv (fk_r g i :: stk) st (fk_let (gI st 41 i) F1) := by
  intro o ho hq
  have kk := kk (gI st 41 i) o ho hq
  obtain ⟨p, l, e, R, s, m, args, below, meth, c, rv, sf⟩ := k
  obtain ⟨hx, hb, hml, hown, hts, hK, hE, hr, hlk, hinj, hfr, hlo⟩ := hk
  intro H locs ls hl hP hS
  exact va_get (D := g.2.1) (ci := 2) (C := RX2) (T := TX2) (N := 5) (v := .int (gI st 41 i)) hx hb hts wB_2 hown hK hP i (wat_2 hi) rfl 1 (by decide) (hts _ wf_2_15) (fun _ h => h) rfl hdg (kk H locs ls hl hP hS)
theorem p_2_15 {g : fkG} {k : fkK} {ρ : Type} {en : ρ → Option Value} {cc : ByteArray} {nL fr lo pc : Nat} {ret : Option FieldType} {lv : List (Nat × Value)} {stk : List Value} {st : fkS} (hk : fk_ok wC g k RX2 cc nL ret fr lo) {i : Nat} {v : Int32} {F1 : fkS → Option (ρ × fkS)} (hi : kdC i = 2) (hdg : decode cc pc = .ok (.putfield 15, 3))
    (kk : ∀ st1, fk_J wC g en k (pc + 3) lv stk st1 (F1 st1)) : fk_J wC g en k pc lv (.int v :: fk_r g i :: stk) st (fk_let (sI st 41 i v) F1) := by
  intro o ho hq
  have kk := kk (sI st 41 i v) o ho hq
  obtain ⟨p, l, e, R, s, m, args, below, meth, c, rv, sf⟩ := k
  obtain ⟨hx, hb, hml, hown, hts, hK, hE, hr, hlk, hinj, hfr, hlo⟩ := hk
  intro H locs ls hl hP hS
  refine va_put (D := g.2.1) (ci := 2) (C := RX2) (T := TX2) (N := 5) (v := .int v) (ty := .int) hx hb hts wB_2 tyX2 tyX2_ok nmX2 hown hK hP (fk_wD hinj _ _) hS i (wat_2 hi) rfl 1 (by decide) (hts _ wf_2_15) (fun _ h => h) rfl (by decide +kernel) rfl rfl (Nat.le_of_ble_eq_true rfl) hdg (fun H1 locs1 hP1 hD1 hS1 => kk H1 locs1 ls hl ?_ hS1)
  rw [← wst_2_1 hi]
  exact hP1
theorem wf_7_286 : Cond.fieldLinkNest RX7 286 "PieFunnels$Parting" "served" "I" "PieFunnels" ∈ fk_nests := List.mem_of_getElem? (i := 37) (by decide +kernel)
theorem f_7_286 {g : fkG} {k : fkK} {ρ : Type} {en : ρ → Option Value} {cc : ByteArray} {nL fr lo pc : Nat} {ret : Option FieldType} {lv : List (Nat × Value)} {stk : List Value} {st : fkS} (hk : fk_ok wC g k RX7 cc nL ret fr lo) {i : Nat} {F1 : Int32 → Option (ρ × fkS)} (hi : kdC i = 2) (hdg : decode cc pc = .ok (.getfield 286, 3))
    (kk : ∀ x, fk_J wC g en k (pc + 3) lv (.int x :: stk) st (F1 x)) : fk_J wC g en k pc lv (fk_r g i :: stk) st (fk_let (gI st 41 i) F1) := by
  intro o ho hq
  have kk := kk (gI st 41 i) o ho hq
  obtain ⟨p, l, e, R, s, m, args, below, meth, c, rv, sf⟩ := k
  obtain ⟨hx, hb, hml, hown, hts, hK, hE, hr, hlk, hinj, hfr, hlo⟩ := hk
  intro H locs ls hl hP hS
  exact va_getN (D := g.2.1) (ci := 2) (C := RX2) (T := TX2) (N := 5) (v := .int (gI st 41 i)) hx hb hts wB_2 hown hK hP i (wat_2 hi) rfl 1 (by decide) (va_Nw.use rfl (hE.1 _ wf_7_286)) (fun _ h => h) rfl hdg (kk H locs ls hl hP hS)
theorem p_7_286 {g : fkG} {k : fkK} {ρ : Type} {en : ρ → Option Value} {cc : ByteArray} {nL fr lo pc : Nat} {ret : Option FieldType} {lv : List (Nat × Value)} {stk : List Value} {st : fkS} (hk : fk_ok wC g k RX7 cc nL ret fr lo) {i : Nat} {v : Int32} {F1 : fkS → Option (ρ × fkS)} (hi : kdC i = 2) (hdg : decode cc pc = .ok (.putfield 286, 3))
    (kk : ∀ st1, fk_J wC g en k (pc + 3) lv stk st1 (F1 st1)) : fk_J wC g en k pc lv (.int v :: fk_r g i :: stk) st (fk_let (sI st 41 i v) F1) := by
  intro o ho hq
  have kk := kk (sI st 41 i v) o ho hq
  obtain ⟨p, l, e, R, s, m, args, below, meth, c, rv, sf⟩ := k
  obtain ⟨hx, hb, hml, hown, hts, hK, hE, hr, hlk, hinj, hfr, hlo⟩ := hk
  intro H locs ls hl hP hS
  refine va_putN (D := g.2.1) (ci := 2) (C := RX2) (T := TX2) (N := 5) (v := .int v) (ty := .int) hx hb hts wB_2 tyX2 tyX2_ok nmX2 hown hK hP (fk_wD hinj _ _) hS i (wat_2 hi) rfl 1 (by decide) (va_Nw.use rfl (hE.1 _ wf_7_286)) (fun _ h => h) rfl (by decide +kernel) rfl rfl (Nat.le_of_ble_eq_true rfl) hdg (fun H1 locs1 hP1 hD1 hS1 => kk H1 locs1 ls hl ?_ hS1)
  rw [← wst_2_1 hi]
  exact hP1
theorem wf_2_18 : Cond.fieldLink RX2 18 "PieFunnels$Parting" "wishes" "[I" ∈ fkB := fkB_in (List.mem_of_getElem? (i := 295) (by decide +kernel)) rfl
theorem f_2_18 {g : fkG} {k : fkK} {ρ : Type} {en : ρ → Option Value} {cc : ByteArray} {nL fr lo pc : Nat} {ret : Option FieldType} {lv : List (Nat × Value)} {stk : List Value} {st : fkS} {F : Option (ρ × fkS)} (hk : fk_ok wC g k RX2 cc nL ret fr lo) {i : Nat} (hi : kdC i = 2) (hdg : decode cc pc = .ok (.getfield 18, 3))
    (kk : fk_J wC g en k (pc + 3) lv (fk_r g (i + 1) :: stk) st F) : fk_J wC g en k pc lv (fk_r g i :: stk) st F := by
  intro o ho hq
  have kk := kk o ho hq
  obtain ⟨p, l, e, R, s, m, args, below, meth, c, rv, sf⟩ := k
  obtain ⟨hx, hb, hml, hown, hts, hK, hE, hr, hlk, hinj, hfr, hlo⟩ := hk
  intro H locs ls hl hP hS
  exact va_get (D := g.2.1) (ci := 2) (C := RX2) (T := TX2) (N := 5) (v := fk_r g (i + 1)) hx hb hts wB_2 hown hK hP i (wat_2 hi) rfl 2 (by decide) (hts _ wf_2_18) (fun _ h => h) rfl hdg (kk H locs ls hl hP hS)
theorem wf_2_22 : Cond.fieldLink RX2 22 "PieFunnels$Parting" "whom" "[I" ∈ fkB := fkB_in (List.mem_of_getElem? (i := 296) (by decide +kernel)) rfl
theorem f_2_22 {g : fkG} {k : fkK} {ρ : Type} {en : ρ → Option Value} {cc : ByteArray} {nL fr lo pc : Nat} {ret : Option FieldType} {lv : List (Nat × Value)} {stk : List Value} {st : fkS} {F : Option (ρ × fkS)} (hk : fk_ok wC g k RX2 cc nL ret fr lo) {i : Nat} (hi : kdC i = 2) (hdg : decode cc pc = .ok (.getfield 22, 3))
    (kk : fk_J wC g en k (pc + 3) lv (fk_r g (i + 2) :: stk) st F) : fk_J wC g en k pc lv (fk_r g i :: stk) st F := by
  intro o ho hq
  have kk := kk o ho hq
  obtain ⟨p, l, e, R, s, m, args, below, meth, c, rv, sf⟩ := k
  obtain ⟨hx, hb, hml, hown, hts, hK, hE, hr, hlk, hinj, hfr, hlo⟩ := hk
  intro H locs ls hl hP hS
  exact va_get (D := g.2.1) (ci := 2) (C := RX2) (T := TX2) (N := 5) (v := fk_r g (i + 2)) hx hb hts wB_2 hown hK hP i (wat_2 hi) rfl 3 (by decide) (hts _ wf_2_22) (fun _ h => h) rfl hdg (kk H locs ls hl hP hS)
theorem wf_2_25 : Cond.fieldLink RX2 25 "PieFunnels$Parting" "brought" "[I" ∈ fkB := fkB_in (List.mem_of_getElem? (i := 297) (by decide +kernel)) rfl
theorem f_2_25 {g : fkG} {k : fkK} {ρ : Type} {en : ρ → Option Value} {cc : ByteArray} {nL fr lo pc : Nat} {ret : Option FieldType} {lv : List (Nat × Value)} {stk : List Value} {st : fkS} {F : Option (ρ × fkS)} (hk : fk_ok wC g k RX2 cc nL ret fr lo) {i : Nat} (hi : kdC i = 2) (hdg : decode cc pc = .ok (.getfield 25, 3))
    (kk : fk_J wC g en k (pc + 3) lv (fk_r g (i + 3) :: stk) st F) : fk_J wC g en k pc lv (fk_r g i :: stk) st F := by
  intro o ho hq
  have kk := kk o ho hq
  obtain ⟨p, l, e, R, s, m, args, below, meth, c, rv, sf⟩ := k
  obtain ⟨hx, hb, hml, hown, hts, hK, hE, hr, hlk, hinj, hfr, hlo⟩ := hk
  intro H locs ls hl hP hS
  exact va_get (D := g.2.1) (ci := 2) (C := RX2) (T := TX2) (N := 5) (v := fk_r g (i + 3)) hx hb hts wB_2 hown hK hP i (wat_2 hi) rfl 4 (by decide) (hts _ wf_2_25) (fun _ h => h) rfl hdg (kk H locs ls hl hP hS)
theorem wf_5_11 : Cond.fieldLink RX5 11 "PieFunnels$Shelf" "content" "I" ∈ fkB := fkB_in (List.mem_of_getElem? (i := 314) (by decide +kernel)) rfl
theorem f_5_11 {g : fkG} {k : fkK} {ρ : Type} {en : ρ → Option Value} {cc : ByteArray} {nL fr lo pc : Nat} {ret : Option FieldType} {lv : List (Nat × Value)} {stk : List Value} {st : fkS} (hk : fk_ok wC g k RX5 cc nL ret fr lo) {i : Nat} {F1 : Int32 → Option (ρ × fkS)} (hi : kdC i = 5) (hdg : decode cc pc = .ok (.getfield 11, 3))
    (kk : ∀ x, fk_J wC g en k (pc + 3) lv (.int x :: stk) st (F1 x)) : fk_J wC g en k pc lv (fk_r g i :: stk) st (fk_let (gI st 100 i) F1) := by
  intro o ho hq
  have kk := kk (gI st 100 i) o ho hq
  obtain ⟨p, l, e, R, s, m, args, below, meth, c, rv, sf⟩ := k
  obtain ⟨hx, hb, hml, hown, hts, hK, hE, hr, hlk, hinj, hfr, hlo⟩ := hk
  intro H locs ls hl hP hS
  exact va_get (D := g.2.1) (ci := 5) (C := RX5) (T := TX5) (N := 5) (v := .int (gI st 100 i)) hx hb hts wB_5 hown hK hP i (wat_5 hi) rfl 0 (by decide) (hts _ wf_5_11) (fun _ h => h) rfl hdg (kk H locs ls hl hP hS)
theorem p_5_11 {g : fkG} {k : fkK} {ρ : Type} {en : ρ → Option Value} {cc : ByteArray} {nL fr lo pc : Nat} {ret : Option FieldType} {lv : List (Nat × Value)} {stk : List Value} {st : fkS} (hk : fk_ok wC g k RX5 cc nL ret fr lo) {i : Nat} {v : Int32} {F1 : fkS → Option (ρ × fkS)} (hi : kdC i = 5) (hdg : decode cc pc = .ok (.putfield 11, 3))
    (kk : ∀ st1, fk_J wC g en k (pc + 3) lv stk st1 (F1 st1)) : fk_J wC g en k pc lv (.int v :: fk_r g i :: stk) st (fk_let (sI st 100 i v) F1) := by
  intro o ho hq
  have kk := kk (sI st 100 i v) o ho hq
  obtain ⟨p, l, e, R, s, m, args, below, meth, c, rv, sf⟩ := k
  obtain ⟨hx, hb, hml, hown, hts, hK, hE, hr, hlk, hinj, hfr, hlo⟩ := hk
  intro H locs ls hl hP hS
  refine va_put (D := g.2.1) (ci := 5) (C := RX5) (T := TX5) (N := 5) (v := .int v) (ty := .int) hx hb hts wB_5 tyX5 tyX5_ok nmX5 hown hK hP (fk_wD hinj _ _) hS i (wat_5 hi) rfl 0 (by decide) (hts _ wf_5_11) (fun _ h => h) rfl (by decide +kernel) rfl rfl (Nat.le_of_ble_eq_true rfl) hdg (fun H1 locs1 hP1 hD1 hS1 => kk H1 locs1 ls hl ?_ hS1)
  rw [← wst_5_0 hi]
  exact hP1
theorem wf_7_133 : Cond.fieldLinkNest RX7 133 "PieFunnels$Shelf" "content" "I" "PieFunnels" ∈ fk_nests := List.mem_of_getElem? (i := 38) (by decide +kernel)
theorem f_7_133 {g : fkG} {k : fkK} {ρ : Type} {en : ρ → Option Value} {cc : ByteArray} {nL fr lo pc : Nat} {ret : Option FieldType} {lv : List (Nat × Value)} {stk : List Value} {st : fkS} (hk : fk_ok wC g k RX7 cc nL ret fr lo) {i : Nat} {F1 : Int32 → Option (ρ × fkS)} (hi : kdC i = 5) (hdg : decode cc pc = .ok (.getfield 133, 3))
    (kk : ∀ x, fk_J wC g en k (pc + 3) lv (.int x :: stk) st (F1 x)) : fk_J wC g en k pc lv (fk_r g i :: stk) st (fk_let (gI st 100 i) F1) := by
  intro o ho hq
  have kk := kk (gI st 100 i) o ho hq
  obtain ⟨p, l, e, R, s, m, args, below, meth, c, rv, sf⟩ := k
  obtain ⟨hx, hb, hml, hown, hts, hK, hE, hr, hlk, hinj, hfr, hlo⟩ := hk
  intro H locs ls hl hP hS
  exact va_getN (D := g.2.1) (ci := 5) (C := RX5) (T := TX5) (N := 5) (v := .int (gI st 100 i)) hx hb hts wB_5 hown hK hP i (wat_5 hi) rfl 0 (by decide) (va_Nw.use rfl (hE.1 _ wf_7_133)) (fun _ h => h) rfl hdg (kk H locs ls hl hP hS)
theorem p_7_133 {g : fkG} {k : fkK} {ρ : Type} {en : ρ → Option Value} {cc : ByteArray} {nL fr lo pc : Nat} {ret : Option FieldType} {lv : List (Nat × Value)} {stk : List Value} {st : fkS} (hk : fk_ok wC g k RX7 cc nL ret fr lo) {i : Nat} {v : Int32} {F1 : fkS → Option (ρ × fkS)} (hi : kdC i = 5) (hdg : decode cc pc = .ok (.putfield 133, 3))
    (kk : ∀ st1, fk_J wC g en k (pc + 3) lv stk st1 (F1 st1)) : fk_J wC g en k pc lv (.int v :: fk_r g i :: stk) st (fk_let (sI st 100 i v) F1) := by
  intro o ho hq
  have kk := kk (sI st 100 i v) o ho hq
  obtain ⟨p, l, e, R, s, m, args, below, meth, c, rv, sf⟩ := k
  obtain ⟨hx, hb, hml, hown, hts, hK, hE, hr, hlk, hinj, hfr, hlo⟩ := hk
  intro H locs ls hl hP hS
  refine va_putN (D := g.2.1) (ci := 5) (C := RX5) (T := TX5) (N := 5) (v := .int v) (ty := .int) hx hb hts wB_5 tyX5 tyX5_ok nmX5 hown hK hP (fk_wD hinj _ _) hS i (wat_5 hi) rfl 0 (by decide) (va_Nw.use rfl (hE.1 _ wf_7_133)) (fun _ h => h) rfl (by decide +kernel) rfl rfl (Nat.le_of_ble_eq_true rfl) hdg (fun H1 locs1 hP1 hD1 hS1 => kk H1 locs1 ls hl ?_ hS1)
  rw [← wst_5_0 hi]
  exact hP1
theorem wf_5_15 : Cond.fieldLink RX5 15 "PieFunnels$Shelf" "bird" "I" ∈ fkB := fkB_in (List.mem_of_getElem? (i := 316) (by decide +kernel)) rfl
theorem f_5_15 {g : fkG} {k : fkK} {ρ : Type} {en : ρ → Option Value} {cc : ByteArray} {nL fr lo pc : Nat} {ret : Option FieldType} {lv : List (Nat × Value)} {stk : List Value} {st : fkS} (hk : fk_ok wC g k RX5 cc nL ret fr lo) {i : Nat} {F1 : Int32 → Option (ρ × fkS)} (hi : kdC i = 5) (hdg : decode cc pc = .ok (.getfield 15, 3))
    (kk : ∀ x, fk_J wC g en k (pc + 3) lv (.int x :: stk) st (F1 x)) : fk_J wC g en k pc lv (fk_r g i :: stk) st (fk_let (gI st 101 i) F1) := by
  intro o ho hq
  have kk := kk (gI st 101 i) o ho hq
  obtain ⟨p, l, e, R, s, m, args, below, meth, c, rv, sf⟩ := k
  obtain ⟨hx, hb, hml, hown, hts, hK, hE, hr, hlk, hinj, hfr, hlo⟩ := hk
  intro H locs ls hl hP hS
  exact va_get (D := g.2.1) (ci := 5) (C := RX5) (T := TX5) (N := 5) (v := .int (gI st 101 i)) hx hb hts wB_5 hown hK hP i (wat_5 hi) rfl 1 (by decide) (hts _ wf_5_15) (fun _ h => h) rfl hdg (kk H locs ls hl hP hS)
theorem p_5_15 {g : fkG} {k : fkK} {ρ : Type} {en : ρ → Option Value} {cc : ByteArray} {nL fr lo pc : Nat} {ret : Option FieldType} {lv : List (Nat × Value)} {stk : List Value} {st : fkS} (hk : fk_ok wC g k RX5 cc nL ret fr lo) {i : Nat} {v : Int32} {F1 : fkS → Option (ρ × fkS)} (hi : kdC i = 5) (hdg : decode cc pc = .ok (.putfield 15, 3))
    (kk : ∀ st1, fk_J wC g en k (pc + 3) lv stk st1 (F1 st1)) : fk_J wC g en k pc lv (.int v :: fk_r g i :: stk) st (fk_let (sI st 101 i v) F1) := by
  intro o ho hq
  have kk := kk (sI st 101 i v) o ho hq
  obtain ⟨p, l, e, R, s, m, args, below, meth, c, rv, sf⟩ := k
  obtain ⟨hx, hb, hml, hown, hts, hK, hE, hr, hlk, hinj, hfr, hlo⟩ := hk
  intro H locs ls hl hP hS
  refine va_put (D := g.2.1) (ci := 5) (C := RX5) (T := TX5) (N := 5) (v := .int v) (ty := .int) hx hb hts wB_5 tyX5 tyX5_ok nmX5 hown hK hP (fk_wD hinj _ _) hS i (wat_5 hi) rfl 1 (by decide) (hts _ wf_5_15) (fun _ h => h) rfl (by decide +kernel) rfl rfl (Nat.le_of_ble_eq_true rfl) hdg (fun H1 locs1 hP1 hD1 hS1 => kk H1 locs1 ls hl ?_ hS1)
  rw [← wst_5_1 hi]
  exact hP1
theorem wf_7_136 : Cond.fieldLinkNest RX7 136 "PieFunnels$Shelf" "bird" "I" "PieFunnels" ∈ fk_nests := List.mem_of_getElem? (i := 39) (by decide +kernel)
theorem f_7_136 {g : fkG} {k : fkK} {ρ : Type} {en : ρ → Option Value} {cc : ByteArray} {nL fr lo pc : Nat} {ret : Option FieldType} {lv : List (Nat × Value)} {stk : List Value} {st : fkS} (hk : fk_ok wC g k RX7 cc nL ret fr lo) {i : Nat} {F1 : Int32 → Option (ρ × fkS)} (hi : kdC i = 5) (hdg : decode cc pc = .ok (.getfield 136, 3))
    (kk : ∀ x, fk_J wC g en k (pc + 3) lv (.int x :: stk) st (F1 x)) : fk_J wC g en k pc lv (fk_r g i :: stk) st (fk_let (gI st 101 i) F1) := by
  intro o ho hq
  have kk := kk (gI st 101 i) o ho hq
  obtain ⟨p, l, e, R, s, m, args, below, meth, c, rv, sf⟩ := k
  obtain ⟨hx, hb, hml, hown, hts, hK, hE, hr, hlk, hinj, hfr, hlo⟩ := hk
  intro H locs ls hl hP hS
  exact va_getN (D := g.2.1) (ci := 5) (C := RX5) (T := TX5) (N := 5) (v := .int (gI st 101 i)) hx hb hts wB_5 hown hK hP i (wat_5 hi) rfl 1 (by decide) (va_Nw.use rfl (hE.1 _ wf_7_136)) (fun _ h => h) rfl hdg (kk H locs ls hl hP hS)
theorem p_7_136 {g : fkG} {k : fkK} {ρ : Type} {en : ρ → Option Value} {cc : ByteArray} {nL fr lo pc : Nat} {ret : Option FieldType} {lv : List (Nat × Value)} {stk : List Value} {st : fkS} (hk : fk_ok wC g k RX7 cc nL ret fr lo) {i : Nat} {v : Int32} {F1 : fkS → Option (ρ × fkS)} (hi : kdC i = 5) (hdg : decode cc pc = .ok (.putfield 136, 3))
    (kk : ∀ st1, fk_J wC g en k (pc + 3) lv stk st1 (F1 st1)) : fk_J wC g en k pc lv (.int v :: fk_r g i :: stk) st (fk_let (sI st 101 i v) F1) := by
  intro o ho hq
  have kk := kk (sI st 101 i v) o ho hq
  obtain ⟨p, l, e, R, s, m, args, below, meth, c, rv, sf⟩ := k
  obtain ⟨hx, hb, hml, hown, hts, hK, hE, hr, hlk, hinj, hfr, hlo⟩ := hk
  intro H locs ls hl hP hS
  refine va_putN (D := g.2.1) (ci := 5) (C := RX5) (T := TX5) (N := 5) (v := .int v) (ty := .int) hx hb hts wB_5 tyX5 tyX5_ok nmX5 hown hK hP (fk_wD hinj _ _) hS i (wat_5 hi) rfl 1 (by decide) (va_Nw.use rfl (hE.1 _ wf_7_136)) (fun _ h => h) rfl (by decide +kernel) rfl rfl (Nat.le_of_ble_eq_true rfl) hdg (fun H1 locs1 hP1 hD1 hS1 => kk H1 locs1 ls hl ?_ hS1)
  rw [← wst_5_1 hi]
  exact hP1
theorem wf_5_18 : Cond.fieldLink RX5 18 "PieFunnels$Shelf" "sort" "I" ∈ fkB := fkB_in (List.mem_of_getElem? (i := 318) (by decide +kernel)) rfl
theorem f_5_18 {g : fkG} {k : fkK} {ρ : Type} {en : ρ → Option Value} {cc : ByteArray} {nL fr lo pc : Nat} {ret : Option FieldType} {lv : List (Nat × Value)} {stk : List Value} {st : fkS} (hk : fk_ok wC g k RX5 cc nL ret fr lo) {i : Nat} {F1 : Int32 → Option (ρ × fkS)} (hi : kdC i = 5) (hdg : decode cc pc = .ok (.getfield 18, 3))
    (kk : ∀ x, fk_J wC g en k (pc + 3) lv (.int x :: stk) st (F1 x)) : fk_J wC g en k pc lv (fk_r g i :: stk) st (fk_let (gI st 102 i) F1) := by
  intro o ho hq
  have kk := kk (gI st 102 i) o ho hq
  obtain ⟨p, l, e, R, s, m, args, below, meth, c, rv, sf⟩ := k
  obtain ⟨hx, hb, hml, hown, hts, hK, hE, hr, hlk, hinj, hfr, hlo⟩ := hk
  intro H locs ls hl hP hS
  exact va_get (D := g.2.1) (ci := 5) (C := RX5) (T := TX5) (N := 5) (v := .int (gI st 102 i)) hx hb hts wB_5 hown hK hP i (wat_5 hi) rfl 2 (by decide) (hts _ wf_5_18) (fun _ h => h) rfl hdg (kk H locs ls hl hP hS)
theorem p_5_18 {g : fkG} {k : fkK} {ρ : Type} {en : ρ → Option Value} {cc : ByteArray} {nL fr lo pc : Nat} {ret : Option FieldType} {lv : List (Nat × Value)} {stk : List Value} {st : fkS} (hk : fk_ok wC g k RX5 cc nL ret fr lo) {i : Nat} {v : Int32} {F1 : fkS → Option (ρ × fkS)} (hi : kdC i = 5) (hdg : decode cc pc = .ok (.putfield 18, 3))
    (kk : ∀ st1, fk_J wC g en k (pc + 3) lv stk st1 (F1 st1)) : fk_J wC g en k pc lv (.int v :: fk_r g i :: stk) st (fk_let (sI st 102 i v) F1) := by
  intro o ho hq
  have kk := kk (sI st 102 i v) o ho hq
  obtain ⟨p, l, e, R, s, m, args, below, meth, c, rv, sf⟩ := k
  obtain ⟨hx, hb, hml, hown, hts, hK, hE, hr, hlk, hinj, hfr, hlo⟩ := hk
  intro H locs ls hl hP hS
  refine va_put (D := g.2.1) (ci := 5) (C := RX5) (T := TX5) (N := 5) (v := .int v) (ty := .int) hx hb hts wB_5 tyX5 tyX5_ok nmX5 hown hK hP (fk_wD hinj _ _) hS i (wat_5 hi) rfl 2 (by decide) (hts _ wf_5_18) (fun _ h => h) rfl (by decide +kernel) rfl rfl (Nat.le_of_ble_eq_true rfl) hdg (fun H1 locs1 hP1 hD1 hS1 => kk H1 locs1 ls hl ?_ hS1)
  rw [← wst_5_2 hi]
  exact hP1
theorem wf_7_102 : Cond.fieldLinkNest RX7 102 "PieFunnels$Shelf" "sort" "I" "PieFunnels" ∈ fk_nests := List.mem_of_getElem? (i := 40) (by decide +kernel)
theorem f_7_102 {g : fkG} {k : fkK} {ρ : Type} {en : ρ → Option Value} {cc : ByteArray} {nL fr lo pc : Nat} {ret : Option FieldType} {lv : List (Nat × Value)} {stk : List Value} {st : fkS} (hk : fk_ok wC g k RX7 cc nL ret fr lo) {i : Nat} {F1 : Int32 → Option (ρ × fkS)} (hi : kdC i = 5) (hdg : decode cc pc = .ok (.getfield 102, 3))
    (kk : ∀ x, fk_J wC g en k (pc + 3) lv (.int x :: stk) st (F1 x)) : fk_J wC g en k pc lv (fk_r g i :: stk) st (fk_let (gI st 102 i) F1) := by
  intro o ho hq
  have kk := kk (gI st 102 i) o ho hq
  obtain ⟨p, l, e, R, s, m, args, below, meth, c, rv, sf⟩ := k
  obtain ⟨hx, hb, hml, hown, hts, hK, hE, hr, hlk, hinj, hfr, hlo⟩ := hk
  intro H locs ls hl hP hS
  exact va_getN (D := g.2.1) (ci := 5) (C := RX5) (T := TX5) (N := 5) (v := .int (gI st 102 i)) hx hb hts wB_5 hown hK hP i (wat_5 hi) rfl 2 (by decide) (va_Nw.use rfl (hE.1 _ wf_7_102)) (fun _ h => h) rfl hdg (kk H locs ls hl hP hS)
theorem p_7_102 {g : fkG} {k : fkK} {ρ : Type} {en : ρ → Option Value} {cc : ByteArray} {nL fr lo pc : Nat} {ret : Option FieldType} {lv : List (Nat × Value)} {stk : List Value} {st : fkS} (hk : fk_ok wC g k RX7 cc nL ret fr lo) {i : Nat} {v : Int32} {F1 : fkS → Option (ρ × fkS)} (hi : kdC i = 5) (hdg : decode cc pc = .ok (.putfield 102, 3))
    (kk : ∀ st1, fk_J wC g en k (pc + 3) lv stk st1 (F1 st1)) : fk_J wC g en k pc lv (.int v :: fk_r g i :: stk) st (fk_let (sI st 102 i v) F1) := by
  intro o ho hq
  have kk := kk (sI st 102 i v) o ho hq
  obtain ⟨p, l, e, R, s, m, args, below, meth, c, rv, sf⟩ := k
  obtain ⟨hx, hb, hml, hown, hts, hK, hE, hr, hlk, hinj, hfr, hlo⟩ := hk
  intro H locs ls hl hP hS
  refine va_putN (D := g.2.1) (ci := 5) (C := RX5) (T := TX5) (N := 5) (v := .int v) (ty := .int) hx hb hts wB_5 tyX5 tyX5_ok nmX5 hown hK hP (fk_wD hinj _ _) hS i (wat_5 hi) rfl 2 (by decide) (va_Nw.use rfl (hE.1 _ wf_7_102)) (fun _ h => h) rfl (by decide +kernel) rfl rfl (Nat.le_of_ble_eq_true rfl) hdg (fun H1 locs1 hP1 hD1 hS1 => kk H1 locs1 ls hl ?_ hS1)
  rw [← wst_5_2 hi]
  exact hP1
theorem wf_5_21 : Cond.fieldLink RX5 21 "PieFunnels$Shelf" "size" "I" ∈ fkB := fkB_in (List.mem_of_getElem? (i := 320) (by decide +kernel)) rfl
theorem f_5_21 {g : fkG} {k : fkK} {ρ : Type} {en : ρ → Option Value} {cc : ByteArray} {nL fr lo pc : Nat} {ret : Option FieldType} {lv : List (Nat × Value)} {stk : List Value} {st : fkS} (hk : fk_ok wC g k RX5 cc nL ret fr lo) {i : Nat} {F1 : Int32 → Option (ρ × fkS)} (hi : kdC i = 5) (hdg : decode cc pc = .ok (.getfield 21, 3))
    (kk : ∀ x, fk_J wC g en k (pc + 3) lv (.int x :: stk) st (F1 x)) : fk_J wC g en k pc lv (fk_r g i :: stk) st (fk_let (gI st 103 i) F1) := by
  intro o ho hq
  have kk := kk (gI st 103 i) o ho hq
  obtain ⟨p, l, e, R, s, m, args, below, meth, c, rv, sf⟩ := k
  obtain ⟨hx, hb, hml, hown, hts, hK, hE, hr, hlk, hinj, hfr, hlo⟩ := hk
  intro H locs ls hl hP hS
  exact va_get (D := g.2.1) (ci := 5) (C := RX5) (T := TX5) (N := 5) (v := .int (gI st 103 i)) hx hb hts wB_5 hown hK hP i (wat_5 hi) rfl 3 (by decide) (hts _ wf_5_21) (fun _ h => h) rfl hdg (kk H locs ls hl hP hS)
theorem p_5_21 {g : fkG} {k : fkK} {ρ : Type} {en : ρ → Option Value} {cc : ByteArray} {nL fr lo pc : Nat} {ret : Option FieldType} {lv : List (Nat × Value)} {stk : List Value} {st : fkS} (hk : fk_ok wC g k RX5 cc nL ret fr lo) {i : Nat} {v : Int32} {F1 : fkS → Option (ρ × fkS)} (hi : kdC i = 5) (hdg : decode cc pc = .ok (.putfield 21, 3))
    (kk : ∀ st1, fk_J wC g en k (pc + 3) lv stk st1 (F1 st1)) : fk_J wC g en k pc lv (.int v :: fk_r g i :: stk) st (fk_let (sI st 103 i v) F1) := by
  intro o ho hq
  have kk := kk (sI st 103 i v) o ho hq
  obtain ⟨p, l, e, R, s, m, args, below, meth, c, rv, sf⟩ := k
  obtain ⟨hx, hb, hml, hown, hts, hK, hE, hr, hlk, hinj, hfr, hlo⟩ := hk
  intro H locs ls hl hP hS
  refine va_put (D := g.2.1) (ci := 5) (C := RX5) (T := TX5) (N := 5) (v := .int v) (ty := .int) hx hb hts wB_5 tyX5 tyX5_ok nmX5 hown hK hP (fk_wD hinj _ _) hS i (wat_5 hi) rfl 3 (by decide) (hts _ wf_5_21) (fun _ h => h) rfl (by decide +kernel) rfl rfl (Nat.le_of_ble_eq_true rfl) hdg (fun H1 locs1 hP1 hD1 hS1 => kk H1 locs1 ls hl ?_ hS1)
  rw [← wst_5_3 hi]
  exact hP1
theorem wf_3_19 : Cond.fieldLinkNest RX3 19 "PieFunnels$Shelf" "size" "I" "PieFunnels" ∈ fk_nests := List.mem_of_getElem? (i := 41) (by decide +kernel)
theorem f_3_19 {g : fkG} {k : fkK} {ρ : Type} {en : ρ → Option Value} {cc : ByteArray} {nL fr lo pc : Nat} {ret : Option FieldType} {lv : List (Nat × Value)} {stk : List Value} {st : fkS} (hk : fk_ok wC g k RX3 cc nL ret fr lo) {i : Nat} {F1 : Int32 → Option (ρ × fkS)} (hi : kdC i = 5) (hdg : decode cc pc = .ok (.getfield 19, 3))
    (kk : ∀ x, fk_J wC g en k (pc + 3) lv (.int x :: stk) st (F1 x)) : fk_J wC g en k pc lv (fk_r g i :: stk) st (fk_let (gI st 103 i) F1) := by
  intro o ho hq
  have kk := kk (gI st 103 i) o ho hq
  obtain ⟨p, l, e, R, s, m, args, below, meth, c, rv, sf⟩ := k
  obtain ⟨hx, hb, hml, hown, hts, hK, hE, hr, hlk, hinj, hfr, hlo⟩ := hk
  intro H locs ls hl hP hS
  exact va_getN (D := g.2.1) (ci := 5) (C := RX5) (T := TX5) (N := 5) (v := .int (gI st 103 i)) hx hb hts wB_5 hown hK hP i (wat_5 hi) rfl 3 (by decide) (va_Nw.use rfl (hE.1 _ wf_3_19)) (fun _ h => h) rfl hdg (kk H locs ls hl hP hS)
theorem p_3_19 {g : fkG} {k : fkK} {ρ : Type} {en : ρ → Option Value} {cc : ByteArray} {nL fr lo pc : Nat} {ret : Option FieldType} {lv : List (Nat × Value)} {stk : List Value} {st : fkS} (hk : fk_ok wC g k RX3 cc nL ret fr lo) {i : Nat} {v : Int32} {F1 : fkS → Option (ρ × fkS)} (hi : kdC i = 5) (hdg : decode cc pc = .ok (.putfield 19, 3))
    (kk : ∀ st1, fk_J wC g en k (pc + 3) lv stk st1 (F1 st1)) : fk_J wC g en k pc lv (.int v :: fk_r g i :: stk) st (fk_let (sI st 103 i v) F1) := by
  intro o ho hq
  have kk := kk (sI st 103 i v) o ho hq
  obtain ⟨p, l, e, R, s, m, args, below, meth, c, rv, sf⟩ := k
  obtain ⟨hx, hb, hml, hown, hts, hK, hE, hr, hlk, hinj, hfr, hlo⟩ := hk
  intro H locs ls hl hP hS
  refine va_putN (D := g.2.1) (ci := 5) (C := RX5) (T := TX5) (N := 5) (v := .int v) (ty := .int) hx hb hts wB_5 tyX5 tyX5_ok nmX5 hown hK hP (fk_wD hinj _ _) hS i (wat_5 hi) rfl 3 (by decide) (va_Nw.use rfl (hE.1 _ wf_3_19)) (fun _ h => h) rfl (by decide +kernel) rfl rfl (Nat.le_of_ble_eq_true rfl) hdg (fun H1 locs1 hP1 hD1 hS1 => kk H1 locs1 ls hl ?_ hS1)
  rw [← wst_5_3 hi]
  exact hP1
theorem wf_2_28 : Cond.fieldLinkNest RX2 28 "PieFunnels$Shelf" "size" "I" "PieFunnels" ∈ fk_nests := List.mem_of_getElem? (i := 42) (by decide +kernel)
theorem f_2_28 {g : fkG} {k : fkK} {ρ : Type} {en : ρ → Option Value} {cc : ByteArray} {nL fr lo pc : Nat} {ret : Option FieldType} {lv : List (Nat × Value)} {stk : List Value} {st : fkS} (hk : fk_ok wC g k RX2 cc nL ret fr lo) {i : Nat} {F1 : Int32 → Option (ρ × fkS)} (hi : kdC i = 5) (hdg : decode cc pc = .ok (.getfield 28, 3))
    (kk : ∀ x, fk_J wC g en k (pc + 3) lv (.int x :: stk) st (F1 x)) : fk_J wC g en k pc lv (fk_r g i :: stk) st (fk_let (gI st 103 i) F1) := by
  intro o ho hq
  have kk := kk (gI st 103 i) o ho hq
  obtain ⟨p, l, e, R, s, m, args, below, meth, c, rv, sf⟩ := k
  obtain ⟨hx, hb, hml, hown, hts, hK, hE, hr, hlk, hinj, hfr, hlo⟩ := hk
  intro H locs ls hl hP hS
  exact va_getN (D := g.2.1) (ci := 5) (C := RX5) (T := TX5) (N := 5) (v := .int (gI st 103 i)) hx hb hts wB_5 hown hK hP i (wat_5 hi) rfl 3 (by decide) (va_Nw.use rfl (hE.1 _ wf_2_28)) (fun _ h => h) rfl hdg (kk H locs ls hl hP hS)
theorem p_2_28 {g : fkG} {k : fkK} {ρ : Type} {en : ρ → Option Value} {cc : ByteArray} {nL fr lo pc : Nat} {ret : Option FieldType} {lv : List (Nat × Value)} {stk : List Value} {st : fkS} (hk : fk_ok wC g k RX2 cc nL ret fr lo) {i : Nat} {v : Int32} {F1 : fkS → Option (ρ × fkS)} (hi : kdC i = 5) (hdg : decode cc pc = .ok (.putfield 28, 3))
    (kk : ∀ st1, fk_J wC g en k (pc + 3) lv stk st1 (F1 st1)) : fk_J wC g en k pc lv (.int v :: fk_r g i :: stk) st (fk_let (sI st 103 i v) F1) := by
  intro o ho hq
  have kk := kk (sI st 103 i v) o ho hq
  obtain ⟨p, l, e, R, s, m, args, below, meth, c, rv, sf⟩ := k
  obtain ⟨hx, hb, hml, hown, hts, hK, hE, hr, hlk, hinj, hfr, hlo⟩ := hk
  intro H locs ls hl hP hS
  refine va_putN (D := g.2.1) (ci := 5) (C := RX5) (T := TX5) (N := 5) (v := .int v) (ty := .int) hx hb hts wB_5 tyX5 tyX5_ok nmX5 hown hK hP (fk_wD hinj _ _) hS i (wat_5 hi) rfl 3 (by decide) (va_Nw.use rfl (hE.1 _ wf_2_28)) (fun _ h => h) rfl (by decide +kernel) rfl rfl (Nat.le_of_ble_eq_true rfl) hdg (fun H1 locs1 hP1 hD1 hS1 => kk H1 locs1 ls hl ?_ hS1)
  rw [← wst_5_3 hi]
  exact hP1
theorem wf_4_34 : Cond.fieldLinkNest RX4 34 "PieFunnels$Shelf" "size" "I" "PieFunnels" ∈ fk_nests := List.mem_of_getElem? (i := 43) (by decide +kernel)
theorem f_4_34 {g : fkG} {k : fkK} {ρ : Type} {en : ρ → Option Value} {cc : ByteArray} {nL fr lo pc : Nat} {ret : Option FieldType} {lv : List (Nat × Value)} {stk : List Value} {st : fkS} (hk : fk_ok wC g k RX4 cc nL ret fr lo) {i : Nat} {F1 : Int32 → Option (ρ × fkS)} (hi : kdC i = 5) (hdg : decode cc pc = .ok (.getfield 34, 3))
    (kk : ∀ x, fk_J wC g en k (pc + 3) lv (.int x :: stk) st (F1 x)) : fk_J wC g en k pc lv (fk_r g i :: stk) st (fk_let (gI st 103 i) F1) := by
  intro o ho hq
  have kk := kk (gI st 103 i) o ho hq
  obtain ⟨p, l, e, R, s, m, args, below, meth, c, rv, sf⟩ := k
  obtain ⟨hx, hb, hml, hown, hts, hK, hE, hr, hlk, hinj, hfr, hlo⟩ := hk
  intro H locs ls hl hP hS
  exact va_getN (D := g.2.1) (ci := 5) (C := RX5) (T := TX5) (N := 5) (v := .int (gI st 103 i)) hx hb hts wB_5 hown hK hP i (wat_5 hi) rfl 3 (by decide) (va_Nw.use rfl (hE.1 _ wf_4_34)) (fun _ h => h) rfl hdg (kk H locs ls hl hP hS)
theorem p_4_34 {g : fkG} {k : fkK} {ρ : Type} {en : ρ → Option Value} {cc : ByteArray} {nL fr lo pc : Nat} {ret : Option FieldType} {lv : List (Nat × Value)} {stk : List Value} {st : fkS} (hk : fk_ok wC g k RX4 cc nL ret fr lo) {i : Nat} {v : Int32} {F1 : fkS → Option (ρ × fkS)} (hi : kdC i = 5) (hdg : decode cc pc = .ok (.putfield 34, 3))
    (kk : ∀ st1, fk_J wC g en k (pc + 3) lv stk st1 (F1 st1)) : fk_J wC g en k pc lv (.int v :: fk_r g i :: stk) st (fk_let (sI st 103 i v) F1) := by
  intro o ho hq
  have kk := kk (sI st 103 i v) o ho hq
  obtain ⟨p, l, e, R, s, m, args, below, meth, c, rv, sf⟩ := k
  obtain ⟨hx, hb, hml, hown, hts, hK, hE, hr, hlk, hinj, hfr, hlo⟩ := hk
  intro H locs ls hl hP hS
  refine va_putN (D := g.2.1) (ci := 5) (C := RX5) (T := TX5) (N := 5) (v := .int v) (ty := .int) hx hb hts wB_5 tyX5 tyX5_ok nmX5 hown hK hP (fk_wD hinj _ _) hS i (wat_5 hi) rfl 3 (by decide) (va_Nw.use rfl (hE.1 _ wf_4_34)) (fun _ h => h) rfl (by decide +kernel) rfl rfl (Nat.le_of_ble_eq_true rfl) hdg (fun H1 locs1 hP1 hD1 hS1 => kk H1 locs1 ls hl ?_ hS1)
  rw [← wst_5_3 hi]
  exact hP1
theorem wf_7_90 : Cond.fieldLinkNest RX7 90 "PieFunnels$Shelf" "size" "I" "PieFunnels" ∈ fk_nests := List.mem_of_getElem? (i := 44) (by decide +kernel)
theorem f_7_90 {g : fkG} {k : fkK} {ρ : Type} {en : ρ → Option Value} {cc : ByteArray} {nL fr lo pc : Nat} {ret : Option FieldType} {lv : List (Nat × Value)} {stk : List Value} {st : fkS} (hk : fk_ok wC g k RX7 cc nL ret fr lo) {i : Nat} {F1 : Int32 → Option (ρ × fkS)} (hi : kdC i = 5) (hdg : decode cc pc = .ok (.getfield 90, 3))
    (kk : ∀ x, fk_J wC g en k (pc + 3) lv (.int x :: stk) st (F1 x)) : fk_J wC g en k pc lv (fk_r g i :: stk) st (fk_let (gI st 103 i) F1) := by
  intro o ho hq
  have kk := kk (gI st 103 i) o ho hq
  obtain ⟨p, l, e, R, s, m, args, below, meth, c, rv, sf⟩ := k
  obtain ⟨hx, hb, hml, hown, hts, hK, hE, hr, hlk, hinj, hfr, hlo⟩ := hk
  intro H locs ls hl hP hS
  exact va_getN (D := g.2.1) (ci := 5) (C := RX5) (T := TX5) (N := 5) (v := .int (gI st 103 i)) hx hb hts wB_5 hown hK hP i (wat_5 hi) rfl 3 (by decide) (va_Nw.use rfl (hE.1 _ wf_7_90)) (fun _ h => h) rfl hdg (kk H locs ls hl hP hS)
theorem p_7_90 {g : fkG} {k : fkK} {ρ : Type} {en : ρ → Option Value} {cc : ByteArray} {nL fr lo pc : Nat} {ret : Option FieldType} {lv : List (Nat × Value)} {stk : List Value} {st : fkS} (hk : fk_ok wC g k RX7 cc nL ret fr lo) {i : Nat} {v : Int32} {F1 : fkS → Option (ρ × fkS)} (hi : kdC i = 5) (hdg : decode cc pc = .ok (.putfield 90, 3))
    (kk : ∀ st1, fk_J wC g en k (pc + 3) lv stk st1 (F1 st1)) : fk_J wC g en k pc lv (.int v :: fk_r g i :: stk) st (fk_let (sI st 103 i v) F1) := by
  intro o ho hq
  have kk := kk (sI st 103 i v) o ho hq
  obtain ⟨p, l, e, R, s, m, args, below, meth, c, rv, sf⟩ := k
  obtain ⟨hx, hb, hml, hown, hts, hK, hE, hr, hlk, hinj, hfr, hlo⟩ := hk
  intro H locs ls hl hP hS
  refine va_putN (D := g.2.1) (ci := 5) (C := RX5) (T := TX5) (N := 5) (v := .int v) (ty := .int) hx hb hts wB_5 tyX5 tyX5_ok nmX5 hown hK hP (fk_wD hinj _ _) hS i (wat_5 hi) rfl 3 (by decide) (va_Nw.use rfl (hE.1 _ wf_7_90)) (fun _ h => h) rfl (by decide +kernel) rfl rfl (Nat.le_of_ble_eq_true rfl) hdg (fun H1 locs1 hP1 hD1 hS1 => kk H1 locs1 ls hl ?_ hS1)
  rw [← wst_5_3 hi]
  exact hP1
theorem wf_6_90 : Cond.fieldLinkNest RX6 90 "PieFunnels$Shelf" "size" "I" "PieFunnels" ∈ fk_nests := List.mem_of_getElem? (i := 45) (by decide +kernel)
theorem f_6_90 {g : fkG} {k : fkK} {ρ : Type} {en : ρ → Option Value} {cc : ByteArray} {nL fr lo pc : Nat} {ret : Option FieldType} {lv : List (Nat × Value)} {stk : List Value} {st : fkS} (hk : fk_ok wC g k RX6 cc nL ret fr lo) {i : Nat} {F1 : Int32 → Option (ρ × fkS)} (hi : kdC i = 5) (hdg : decode cc pc = .ok (.getfield 90, 3))
    (kk : ∀ x, fk_J wC g en k (pc + 3) lv (.int x :: stk) st (F1 x)) : fk_J wC g en k pc lv (fk_r g i :: stk) st (fk_let (gI st 103 i) F1) := by
  intro o ho hq
  have kk := kk (gI st 103 i) o ho hq
  obtain ⟨p, l, e, R, s, m, args, below, meth, c, rv, sf⟩ := k
  obtain ⟨hx, hb, hml, hown, hts, hK, hE, hr, hlk, hinj, hfr, hlo⟩ := hk
  intro H locs ls hl hP hS
  exact va_getN (D := g.2.1) (ci := 5) (C := RX5) (T := TX5) (N := 5) (v := .int (gI st 103 i)) hx hb hts wB_5 hown hK hP i (wat_5 hi) rfl 3 (by decide) (va_Nw.use rfl (hE.1 _ wf_6_90)) (fun _ h => h) rfl hdg (kk H locs ls hl hP hS)
theorem p_6_90 {g : fkG} {k : fkK} {ρ : Type} {en : ρ → Option Value} {cc : ByteArray} {nL fr lo pc : Nat} {ret : Option FieldType} {lv : List (Nat × Value)} {stk : List Value} {st : fkS} (hk : fk_ok wC g k RX6 cc nL ret fr lo) {i : Nat} {v : Int32} {F1 : fkS → Option (ρ × fkS)} (hi : kdC i = 5) (hdg : decode cc pc = .ok (.putfield 90, 3))
    (kk : ∀ st1, fk_J wC g en k (pc + 3) lv stk st1 (F1 st1)) : fk_J wC g en k pc lv (.int v :: fk_r g i :: stk) st (fk_let (sI st 103 i v) F1) := by
  intro o ho hq
  have kk := kk (sI st 103 i v) o ho hq
  obtain ⟨p, l, e, R, s, m, args, below, meth, c, rv, sf⟩ := k
  obtain ⟨hx, hb, hml, hown, hts, hK, hE, hr, hlk, hinj, hfr, hlo⟩ := hk
  intro H locs ls hl hP hS
  refine va_putN (D := g.2.1) (ci := 5) (C := RX5) (T := TX5) (N := 5) (v := .int v) (ty := .int) hx hb hts wB_5 tyX5 tyX5_ok nmX5 hown hK hP (fk_wD hinj _ _) hS i (wat_5 hi) rfl 3 (by decide) (va_Nw.use rfl (hE.1 _ wf_6_90)) (fun _ h => h) rfl (by decide +kernel) rfl rfl (Nat.le_of_ble_eq_true rfl) hdg (fun H1 locs1 hP1 hD1 hS1 => kk H1 locs1 ls hl ?_ hS1)
  rw [← wst_5_3 hi]
  exact hP1
theorem wf_5_24 : Cond.fieldLink RX5 24 "PieFunnels$Shelf" "cells" "[J" ∈ fkB := fkB_in (List.mem_of_getElem? (i := 326) (by decide +kernel)) rfl
theorem f_5_24 {g : fkG} {k : fkK} {ρ : Type} {en : ρ → Option Value} {cc : ByteArray} {nL fr lo pc : Nat} {ret : Option FieldType} {lv : List (Nat × Value)} {stk : List Value} {st : fkS} {F : Option (ρ × fkS)} (hk : fk_ok wC g k RX5 cc nL ret fr lo) {i : Nat} (hi : kdC i = 5) (hdg : decode cc pc = .ok (.getfield 24, 3))
    (kk : fk_J wC g en k (pc + 3) lv (fk_r g (i + 8) :: stk) st F) : fk_J wC g en k pc lv (fk_r g i :: stk) st F := by
  intro o ho hq
  have kk := kk o ho hq
  obtain ⟨p, l, e, R, s, m, args, below, meth, c, rv, sf⟩ := k
  obtain ⟨hx, hb, hml, hown, hts, hK, hE, hr, hlk, hinj, hfr, hlo⟩ := hk
  intro H locs ls hl hP hS
  exact va_get (D := g.2.1) (ci := 5) (C := RX5) (T := TX5) (N := 5) (v := fk_r g (i + 8)) hx hb hts wB_5 hown hK hP i (wat_5 hi) rfl 4 (by decide) (hts _ wf_5_24) (fun _ h => h) rfl hdg (kk H locs ls hl hP hS)
theorem wf_7_109 : Cond.fieldLinkNest RX7 109 "PieFunnels$Shelf" "cells" "[J" "PieFunnels" ∈ fk_nests := List.mem_of_getElem? (i := 46) (by decide +kernel)
theorem f_7_109 {g : fkG} {k : fkK} {ρ : Type} {en : ρ → Option Value} {cc : ByteArray} {nL fr lo pc : Nat} {ret : Option FieldType} {lv : List (Nat × Value)} {stk : List Value} {st : fkS} {F : Option (ρ × fkS)} (hk : fk_ok wC g k RX7 cc nL ret fr lo) {i : Nat} (hi : kdC i = 5) (hdg : decode cc pc = .ok (.getfield 109, 3))
    (kk : fk_J wC g en k (pc + 3) lv (fk_r g (i + 8) :: stk) st F) : fk_J wC g en k pc lv (fk_r g i :: stk) st F := by
  intro o ho hq
  have kk := kk o ho hq
  obtain ⟨p, l, e, R, s, m, args, below, meth, c, rv, sf⟩ := k
  obtain ⟨hx, hb, hml, hown, hts, hK, hE, hr, hlk, hinj, hfr, hlo⟩ := hk
  intro H locs ls hl hP hS
  exact va_getN (D := g.2.1) (ci := 5) (C := RX5) (T := TX5) (N := 5) (v := fk_r g (i + 8)) hx hb hts wB_5 hown hK hP i (wat_5 hi) rfl 4 (by decide) (va_Nw.use rfl (hE.1 _ wf_7_109)) (fun _ h => h) rfl hdg (kk H locs ls hl hP hS)
theorem wf_4_115 : Cond.fieldLinkNest RX4 115 "PieFunnels$Shelf" "cells" "[J" "PieFunnels" ∈ fk_nests := List.mem_of_getElem? (i := 47) (by decide +kernel)
theorem f_4_115 {g : fkG} {k : fkK} {ρ : Type} {en : ρ → Option Value} {cc : ByteArray} {nL fr lo pc : Nat} {ret : Option FieldType} {lv : List (Nat × Value)} {stk : List Value} {st : fkS} {F : Option (ρ × fkS)} (hk : fk_ok wC g k RX4 cc nL ret fr lo) {i : Nat} (hi : kdC i = 5) (hdg : decode cc pc = .ok (.getfield 115, 3))
    (kk : fk_J wC g en k (pc + 3) lv (fk_r g (i + 8) :: stk) st F) : fk_J wC g en k pc lv (fk_r g i :: stk) st F := by
  intro o ho hq
  have kk := kk o ho hq
  obtain ⟨p, l, e, R, s, m, args, below, meth, c, rv, sf⟩ := k
  obtain ⟨hx, hb, hml, hown, hts, hK, hE, hr, hlk, hinj, hfr, hlo⟩ := hk
  intro H locs ls hl hP hS
  exact va_getN (D := g.2.1) (ci := 5) (C := RX5) (T := TX5) (N := 5) (v := fk_r g (i + 8)) hx hb hts wB_5 hown hK hP i (wat_5 hi) rfl 4 (by decide) (va_Nw.use rfl (hE.1 _ wf_4_115)) (fun _ h => h) rfl hdg (kk H locs ls hl hP hS)
theorem wf_7_11 : Cond.fieldLink RX7 11 "PieFunnels" "shelves" "[LPieFunnels$Shelf;" ∈ fkB := fkB_in (List.mem_of_getElem? (i := 341) (by decide +kernel)) rfl
theorem f_7_11 {g : fkG} {k : fkK} {ρ : Type} {en : ρ → Option Value} {cc : ByteArray} {nL fr lo pc : Nat} {ret : Option FieldType} {lv : List (Nat × Value)} {stk : List Value} {st : fkS} {F : Option (ρ × fkS)} (hk : fk_ok wC g k RX7 cc nL ret fr lo) {i : Nat} (hi : kdC i = 7) (hdg : decode cc pc = .ok (.getfield 11, 3))
    (kk : fk_J wC g en k (pc + 3) lv (fk_r g 2 :: stk) st F) : fk_J wC g en k pc lv (fk_r g i :: stk) st F := by
  intro o ho hq
  have kk := kk o ho hq
  obtain ⟨p, l, e, R, s, m, args, below, meth, c, rv, sf⟩ := k
  obtain ⟨hx, hb, hml, hown, hts, hK, hE, hr, hlk, hinj, hfr, hlo⟩ := hk
  intro H locs ls hl hP hS
  exact va_get (D := g.2.1) (ci := 7) (C := RX7) (T := TX7) (N := 12) (v := fk_r g 2) hx hb hts wB_7 hown hK hP i (wat_7 hi) rfl 0 (by decide) (hts _ wf_7_11) (fun _ h => h) rfl hdg (kk H locs ls hl hP hS)
theorem wf_7_18 : Cond.fieldLink RX7 18 "PieFunnels" "bakery" "LPieFunnels$Bakery;" ∈ fkB := fkB_in (List.mem_of_getElem? (i := 342) (by decide +kernel)) rfl
theorem f_7_18 {g : fkG} {k : fkK} {ρ : Type} {en : ρ → Option Value} {cc : ByteArray} {nL fr lo pc : Nat} {ret : Option FieldType} {lv : List (Nat × Value)} {stk : List Value} {st : fkS} {F : Option (ρ × fkS)} (hk : fk_ok wC g k RX7 cc nL ret fr lo) {i : Nat} (hi : kdC i = 7) (hdg : decode cc pc = .ok (.getfield 18, 3))
    (kk : fk_J wC g en k (pc + 3) lv (fk_r g 19 :: stk) st F) : fk_J wC g en k pc lv (fk_r g i :: stk) st F := by
  intro o ho hq
  have kk := kk o ho hq
  obtain ⟨p, l, e, R, s, m, args, below, meth, c, rv, sf⟩ := k
  obtain ⟨hx, hb, hml, hown, hts, hK, hE, hr, hlk, hinj, hfr, hlo⟩ := hk
  intro H locs ls hl hP hS
  exact va_get (D := g.2.1) (ci := 7) (C := RX7) (T := TX7) (N := 12) (v := fk_r g 19) hx hb hts wB_7 hown hK hP i (wat_7 hi) rfl 1 (by decide) (hts _ wf_7_18) (fun _ h => h) rfl hdg (kk H locs ls hl hP hS)
theorem wf_7_22 : Cond.fieldLink RX7 22 "PieFunnels" "draft" "LPieFunnels$Bakery;" ∈ fkB := fkB_in (List.mem_of_getElem? (i := 343) (by decide +kernel)) rfl
theorem f_7_22 {g : fkG} {k : fkK} {ρ : Type} {en : ρ → Option Value} {cc : ByteArray} {nL fr lo pc : Nat} {ret : Option FieldType} {lv : List (Nat × Value)} {stk : List Value} {st : fkS} {F : Option (ρ × fkS)} (hk : fk_ok wC g k RX7 cc nL ret fr lo) {i : Nat} (hi : kdC i = 7) (hdg : decode cc pc = .ok (.getfield 22, 3))
    (kk : fk_J wC g en k (pc + 3) lv (fk_r g 20 :: stk) st F) : fk_J wC g en k pc lv (fk_r g i :: stk) st F := by
  intro o ho hq
  have kk := kk o ho hq
  obtain ⟨p, l, e, R, s, m, args, below, meth, c, rv, sf⟩ := k
  obtain ⟨hx, hb, hml, hown, hts, hK, hE, hr, hlk, hinj, hfr, hlo⟩ := hk
  intro H locs ls hl hP hS
  exact va_get (D := g.2.1) (ci := 7) (C := RX7) (T := TX7) (N := 12) (v := fk_r g 20) hx hb hts wB_7 hown hK hP i (wat_7 hi) rfl 2 (by decide) (hts _ wf_7_22) (fun _ h => h) rfl hdg (kk H locs ls hl hP hS)
theorem wf_7_25 : Cond.fieldLink RX7 25 "PieFunnels" "kept" "LPieFunnels$Bakery;" ∈ fkB := fkB_in (List.mem_of_getElem? (i := 344) (by decide +kernel)) rfl
theorem f_7_25 {g : fkG} {k : fkK} {ρ : Type} {en : ρ → Option Value} {cc : ByteArray} {nL fr lo pc : Nat} {ret : Option FieldType} {lv : List (Nat × Value)} {stk : List Value} {st : fkS} {F : Option (ρ × fkS)} (hk : fk_ok wC g k RX7 cc nL ret fr lo) {i : Nat} (hi : kdC i = 7) (hdg : decode cc pc = .ok (.getfield 25, 3))
    (kk : fk_J wC g en k (pc + 3) lv (fk_r g 21 :: stk) st F) : fk_J wC g en k pc lv (fk_r g i :: stk) st F := by
  intro o ho hq
  have kk := kk o ho hq
  obtain ⟨p, l, e, R, s, m, args, below, meth, c, rv, sf⟩ := k
  obtain ⟨hx, hb, hml, hown, hts, hK, hE, hr, hlk, hinj, hfr, hlo⟩ := hk
  intro H locs ls hl hP hS
  exact va_get (D := g.2.1) (ci := 7) (C := RX7) (T := TX7) (N := 12) (v := fk_r g 21) hx hb hts wB_7 hown hK hP i (wat_7 hi) rfl 3 (by decide) (hts _ wf_7_25) (fun _ h => h) rfl hdg (kk H locs ls hl hP hS)
theorem wf_7_28 : Cond.fieldLink RX7 28 "PieFunnels" "anyKept" "Z" ∈ fkB := fkB_in (List.mem_of_getElem? (i := 345) (by decide +kernel)) rfl
theorem f_7_28 {g : fkG} {k : fkK} {ρ : Type} {en : ρ → Option Value} {cc : ByteArray} {nL fr lo pc : Nat} {ret : Option FieldType} {lv : List (Nat × Value)} {stk : List Value} {st : fkS} (hk : fk_ok wC g k RX7 cc nL ret fr lo) {i : Nat} {F1 : Int32 → Option (ρ × fkS)} (hi : kdC i = 7) (hdg : decode cc pc = .ok (.getfield 28, 3))
    (kk : ∀ x, fk_J wC g en k (pc + 3) lv (.int x :: stk) st (F1 x)) : fk_J wC g en k pc lv (fk_r g i :: stk) st (fk_let (gI st 144 i) F1) := by
  intro o ho hq
  have kk := kk (gI st 144 i) o ho hq
  obtain ⟨p, l, e, R, s, m, args, below, meth, c, rv, sf⟩ := k
  obtain ⟨hx, hb, hml, hown, hts, hK, hE, hr, hlk, hinj, hfr, hlo⟩ := hk
  intro H locs ls hl hP hS
  exact va_get (D := g.2.1) (ci := 7) (C := RX7) (T := TX7) (N := 12) (v := .int (gI st 144 i)) hx hb hts wB_7 hown hK hP i (wat_7 hi) rfl 4 (by decide) (hts _ wf_7_28) (fun _ h => h) rfl hdg (kk H locs ls hl hP hS)
theorem p_7_28 {g : fkG} {k : fkK} {ρ : Type} {en : ρ → Option Value} {cc : ByteArray} {nL fr lo pc : Nat} {ret : Option FieldType} {lv : List (Nat × Value)} {stk : List Value} {st : fkS} (hk : fk_ok wC g k RX7 cc nL ret fr lo) {i : Nat} {v : Int32} {F1 : fkS → Option (ρ × fkS)} (hi : kdC i = 7) (hn : narrow .boolean (.int v) = .int v) (hft : fits .boolean (.int v) = true) (hdg : decode cc pc = .ok (.putfield 28, 3))
    (kk : ∀ st1, fk_J wC g en k (pc + 3) lv stk st1 (F1 st1)) : fk_J wC g en k pc lv (.int v :: fk_r g i :: stk) st (fk_let (sI st 144 i v) F1) := by
  intro o ho hq
  have kk := kk (sI st 144 i v) o ho hq
  obtain ⟨p, l, e, R, s, m, args, below, meth, c, rv, sf⟩ := k
  obtain ⟨hx, hb, hml, hown, hts, hK, hE, hr, hlk, hinj, hfr, hlo⟩ := hk
  intro H locs ls hl hP hS
  refine va_put (D := g.2.1) (ci := 7) (C := RX7) (T := TX7) (N := 12) (v := .int v) (ty := .boolean) hx hb hts wB_7 tyX7 tyX7_ok nmX7 hown hK hP (fk_wD hinj _ _) hS i (wat_7 hi) rfl 4 (by decide) (hts _ wf_7_28) (fun _ h => h) rfl (by decide +kernel) hn hft (Nat.le_of_ble_eq_true rfl) hdg (fun H1 locs1 hP1 hD1 hS1 => kk H1 locs1 ls hl ?_ hS1)
  rw [← wst_7_4 hi]
  exact hP1
theorem wf_7_35 : Cond.fieldLink RX7 35 "PieFunnels" "reader" "LPieFunnels$Reader;" ∈ fkB := fkB_in (List.mem_of_getElem? (i := 346) (by decide +kernel)) rfl
theorem f_7_35 {g : fkG} {k : fkK} {ρ : Type} {en : ρ → Option Value} {cc : ByteArray} {nL fr lo pc : Nat} {ret : Option FieldType} {lv : List (Nat × Value)} {stk : List Value} {st : fkS} {F : Option (ρ × fkS)} (hk : fk_ok wC g k RX7 cc nL ret fr lo) {i : Nat} (hi : kdC i = 7) (hdg : decode cc pc = .ok (.getfield 35, 3))
    (kk : fk_J wC g en k (pc + 3) lv (fk_r g 34 :: stk) st F) : fk_J wC g en k pc lv (fk_r g i :: stk) st F := by
  intro o ho hq
  have kk := kk o ho hq
  obtain ⟨p, l, e, R, s, m, args, below, meth, c, rv, sf⟩ := k
  obtain ⟨hx, hb, hml, hown, hts, hK, hE, hr, hlk, hinj, hfr, hlo⟩ := hk
  intro H locs ls hl hP hS
  exact va_get (D := g.2.1) (ci := 7) (C := RX7) (T := TX7) (N := 12) (v := fk_r g 34) hx hb hts wB_7 hown hK hP i (wat_7 hi) rfl 5 (by decide) (hts _ wf_7_35) (fun _ h => h) rfl hdg (kk H locs ls hl hP hS)
theorem wf_7_42 : Cond.fieldLink RX7 42 "PieFunnels" "moves" "LPieFunnels$Moves;" ∈ fkB := fkB_in (List.mem_of_getElem? (i := 347) (by decide +kernel)) rfl
theorem f_7_42 {g : fkG} {k : fkK} {ρ : Type} {en : ρ → Option Value} {cc : ByteArray} {nL fr lo pc : Nat} {ret : Option FieldType} {lv : List (Nat × Value)} {stk : List Value} {st : fkS} {F : Option (ρ × fkS)} (hk : fk_ok wC g k RX7 cc nL ret fr lo) {i : Nat} (hi : kdC i = 7) (hdg : decode cc pc = .ok (.getfield 42, 3))
    (kk : fk_J wC g en k (pc + 3) lv (fk_r g 36 :: stk) st F) : fk_J wC g en k pc lv (fk_r g i :: stk) st F := by
  intro o ho hq
  have kk := kk o ho hq
  obtain ⟨p, l, e, R, s, m, args, below, meth, c, rv, sf⟩ := k
  obtain ⟨hx, hb, hml, hown, hts, hK, hE, hr, hlk, hinj, hfr, hlo⟩ := hk
  intro H locs ls hl hP hS
  exact va_get (D := g.2.1) (ci := 7) (C := RX7) (T := TX7) (N := 12) (v := fk_r g 36) hx hb hts wB_7 hown hK hP i (wat_7 hi) rfl 6 (by decide) (hts _ wf_7_42) (fun _ h => h) rfl hdg (kk H locs ls hl hP hS)
theorem wf_7_49 : Cond.fieldLink RX7 49 "PieFunnels" "pie" "LPieFunnels$Pie;" ∈ fkB := fkB_in (List.mem_of_getElem? (i := 348) (by decide +kernel)) rfl
theorem f_7_49 {g : fkG} {k : fkK} {ρ : Type} {en : ρ → Option Value} {cc : ByteArray} {nL fr lo pc : Nat} {ret : Option FieldType} {lv : List (Nat × Value)} {stk : List Value} {st : fkS} {F : Option (ρ × fkS)} (hk : fk_ok wC g k RX7 cc nL ret fr lo) {i : Nat} (hi : kdC i = 7) (hdg : decode cc pc = .ok (.getfield 49, 3))
    (kk : fk_J wC g en k (pc + 3) lv (fk_r g 38 :: stk) st F) : fk_J wC g en k pc lv (fk_r g i :: stk) st F := by
  intro o ho hq
  have kk := kk o ho hq
  obtain ⟨p, l, e, R, s, m, args, below, meth, c, rv, sf⟩ := k
  obtain ⟨hx, hb, hml, hown, hts, hK, hE, hr, hlk, hinj, hfr, hlo⟩ := hk
  intro H locs ls hl hP hS
  exact va_get (D := g.2.1) (ci := 7) (C := RX7) (T := TX7) (N := 12) (v := fk_r g 38) hx hb hts wB_7 hown hK hP i (wat_7 hi) rfl 7 (by decide) (hts _ wf_7_49) (fun _ h => h) rfl hdg (kk H locs ls hl hP hS)
theorem wf_7_56 : Cond.fieldLink RX7 56 "PieFunnels" "voice" "LPieFunnels$Voice;" ∈ fkB := fkB_in (List.mem_of_getElem? (i := 349) (by decide +kernel)) rfl
theorem f_7_56 {g : fkG} {k : fkK} {ρ : Type} {en : ρ → Option Value} {cc : ByteArray} {nL fr lo pc : Nat} {ret : Option FieldType} {lv : List (Nat × Value)} {stk : List Value} {st : fkS} {F : Option (ρ × fkS)} (hk : fk_ok wC g k RX7 cc nL ret fr lo) {i : Nat} (hi : kdC i = 7) (hdg : decode cc pc = .ok (.getfield 56, 3))
    (kk : fk_J wC g en k (pc + 3) lv (fk_r g 40 :: stk) st F) : fk_J wC g en k pc lv (fk_r g i :: stk) st F := by
  intro o ho hq
  have kk := kk o ho hq
  obtain ⟨p, l, e, R, s, m, args, below, meth, c, rv, sf⟩ := k
  obtain ⟨hx, hb, hml, hown, hts, hK, hE, hr, hlk, hinj, hfr, hlo⟩ := hk
  intro H locs ls hl hP hS
  exact va_get (D := g.2.1) (ci := 7) (C := RX7) (T := TX7) (N := 12) (v := fk_r g 40) hx hb hts wB_7 hown hK hP i (wat_7 hi) rfl 8 (by decide) (hts _ wf_7_56) (fun _ h => h) rfl hdg (kk H locs ls hl hP hS)
theorem wf_7_60 : Cond.fieldLink RX7 60 "PieFunnels" "second" "LPieFunnels$Voice;" ∈ fkB := fkB_in (List.mem_of_getElem? (i := 350) (by decide +kernel)) rfl
theorem f_7_60 {g : fkG} {k : fkK} {ρ : Type} {en : ρ → Option Value} {cc : ByteArray} {nL fr lo pc : Nat} {ret : Option FieldType} {lv : List (Nat × Value)} {stk : List Value} {st : fkS} {F : Option (ρ × fkS)} (hk : fk_ok wC g k RX7 cc nL ret fr lo) {i : Nat} (hi : kdC i = 7) (hdg : decode cc pc = .ok (.getfield 60, 3))
    (kk : fk_J wC g en k (pc + 3) lv (fk_r g 41 :: stk) st F) : fk_J wC g en k pc lv (fk_r g i :: stk) st F := by
  intro o ho hq
  have kk := kk o ho hq
  obtain ⟨p, l, e, R, s, m, args, below, meth, c, rv, sf⟩ := k
  obtain ⟨hx, hb, hml, hown, hts, hK, hE, hr, hlk, hinj, hfr, hlo⟩ := hk
  intro H locs ls hl hP hS
  exact va_get (D := g.2.1) (ci := 7) (C := RX7) (T := TX7) (N := 12) (v := fk_r g 41) hx hb hts wB_7 hown hK hP i (wat_7 hi) rfl 9 (by decide) (hts _ wf_7_60) (fun _ h => h) rfl hdg (kk H locs ls hl hP hS)
theorem wf_7_66 : Cond.fieldLink RX7 66 "PieFunnels" "parting" "LPieFunnels$Parting;" ∈ fkB := fkB_in (List.mem_of_getElem? (i := 351) (by decide +kernel)) rfl
theorem f_7_66 {g : fkG} {k : fkK} {ρ : Type} {en : ρ → Option Value} {cc : ByteArray} {nL fr lo pc : Nat} {ret : Option FieldType} {lv : List (Nat × Value)} {stk : List Value} {st : fkS} {F : Option (ρ × fkS)} (hk : fk_ok wC g k RX7 cc nL ret fr lo) {i : Nat} (hi : kdC i = 7) (hdg : decode cc pc = .ok (.getfield 66, 3))
    (kk : fk_J wC g en k (pc + 3) lv (fk_r g 44 :: stk) st F) : fk_J wC g en k pc lv (fk_r g i :: stk) st F := by
  intro o ho hq
  have kk := kk o ho hq
  obtain ⟨p, l, e, R, s, m, args, below, meth, c, rv, sf⟩ := k
  obtain ⟨hx, hb, hml, hown, hts, hK, hE, hr, hlk, hinj, hfr, hlo⟩ := hk
  intro H locs ls hl hP hS
  exact va_get (D := g.2.1) (ci := 7) (C := RX7) (T := TX7) (N := 12) (v := fk_r g 44) hx hb hts wB_7 hown hK hP i (wat_7 hi) rfl 10 (by decide) (hts _ wf_7_66) (fun _ h => h) rfl hdg (kk H locs ls hl hP hS)
theorem wf_7_70 : Cond.fieldLink RX7 70 "PieFunnels" "refusals" "[I" ∈ fkB := fkB_in (List.mem_of_getElem? (i := 352) (by decide +kernel)) rfl
theorem f_7_70 {g : fkG} {k : fkK} {ρ : Type} {en : ρ → Option Value} {cc : ByteArray} {nL fr lo pc : Nat} {ret : Option FieldType} {lv : List (Nat × Value)} {stk : List Value} {st : fkS} {F : Option (ρ × fkS)} (hk : fk_ok wC g k RX7 cc nL ret fr lo) {i : Nat} (hi : kdC i = 7) (hdg : decode cc pc = .ok (.getfield 70, 3))
    (kk : fk_J wC g en k (pc + 3) lv (fk_r g 1 :: stk) st F) : fk_J wC g en k pc lv (fk_r g i :: stk) st F := by
  intro o ho hq
  have kk := kk o ho hq
  obtain ⟨p, l, e, R, s, m, args, below, meth, c, rv, sf⟩ := k
  obtain ⟨hx, hb, hml, hown, hts, hK, hE, hr, hlk, hinj, hfr, hlo⟩ := hk
  intro H locs ls hl hP hS
  exact va_get (D := g.2.1) (ci := 7) (C := RX7) (T := TX7) (N := 12) (v := fk_r g 1) hx hb hts wB_7 hown hK hP i (wat_7 hi) rfl 11 (by decide) (hts _ wf_7_70) (fun _ h => h) rfl hdg (kk H locs ls hl hP hS)
theorem wf_8_85 : Cond.fieldLink RX8 85 "PieFunnelsModel" "birds" "I" ∈ fkB := fkB_in (List.mem_of_getElem? (i := 896) (by decide +kernel)) rfl
theorem f_8_85 {g : fkG} {k : fkK} {ρ : Type} {en : ρ → Option Value} {cc : ByteArray} {nL fr lo pc : Nat} {ret : Option FieldType} {lv : List (Nat × Value)} {stk : List Value} {st : fkS} (hk : fk_ok wM g k RX8 cc nL ret fr lo) {i : Nat} {F1 : Int32 → Option (ρ × fkS)} (hi : kdM i = 8) (hdg : decode cc pc = .ok (.getfield 85, 3))
    (kk : ∀ x, fk_J wM g en k (pc + 3) lv (.int x :: stk) st (F1 x)) : fk_J wM g en k pc lv (fk_r g i :: stk) st (fk_let (gI st 0 i) F1) := by
  intro o ho hq
  have kk := kk (gI st 0 i) o ho hq
  obtain ⟨p, l, e, R, s, m, args, below, meth, c, rv, sf⟩ := k
  obtain ⟨hx, hb, hml, hown, hts, hK, hE, hr, hlk, hinj, hfr, hlo⟩ := hk
  intro H locs ls hl hP hS
  exact va_get (D := g.2.1) (ci := 8) (C := RX8) (T := TX8) (N := 37) (v := .int (gI st 0 i)) hx hb hts wB_8 hown hK hP i (wat_8 hi) rfl 0 (by decide) (hts _ wf_8_85) (fun _ h => h) rfl hdg (kk H locs ls hl hP hS)
theorem p_8_85 {g : fkG} {k : fkK} {ρ : Type} {en : ρ → Option Value} {cc : ByteArray} {nL fr lo pc : Nat} {ret : Option FieldType} {lv : List (Nat × Value)} {stk : List Value} {st : fkS} (hk : fk_ok wM g k RX8 cc nL ret fr lo) {i : Nat} {v : Int32} {F1 : fkS → Option (ρ × fkS)} (hi : kdM i = 8) (hdg : decode cc pc = .ok (.putfield 85, 3))
    (kk : ∀ st1, fk_J wM g en k (pc + 3) lv stk st1 (F1 st1)) : fk_J wM g en k pc lv (.int v :: fk_r g i :: stk) st (fk_let (sI st 0 i v) F1) := by
  intro o ho hq
  have kk := kk (sI st 0 i v) o ho hq
  obtain ⟨p, l, e, R, s, m, args, below, meth, c, rv, sf⟩ := k
  obtain ⟨hx, hb, hml, hown, hts, hK, hE, hr, hlk, hinj, hfr, hlo⟩ := hk
  intro H locs ls hl hP hS
  refine va_put (D := g.2.1) (ci := 8) (C := RX8) (T := TX8) (N := 37) (v := .int v) (ty := .int) hx hb hts wB_8 tyX8 tyX8_ok nmX8 hown hK hP (fk_wD hinj _ _) hS i (wat_8 hi) rfl 0 (by decide) (hts _ wf_8_85) (fun _ h => h) rfl (by decide +kernel) rfl rfl (Nat.le_of_ble_eq_true rfl) hdg (fun H1 locs1 hP1 hD1 hS1 => kk H1 locs1 ls hl ?_ hS1)
  rw [← wst_8_0 hi]
  exact hP1
theorem wf_8_7 : Cond.fieldLink RX8 7 "PieFunnelsModel" "kind" "[I" ∈ fkB := fkB_in (List.mem_of_getElem? (i := 897) (by decide +kernel)) rfl
theorem f_8_7 {g : fkG} {k : fkK} {ρ : Type} {en : ρ → Option Value} {cc : ByteArray} {nL fr lo pc : Nat} {ret : Option FieldType} {lv : List (Nat × Value)} {stk : List Value} {st : fkS} {F : Option (ρ × fkS)} (hk : fk_ok wM g k RX8 cc nL ret fr lo) {i : Nat} (hi : kdM i = 8) (hdg : decode cc pc = .ok (.getfield 7, 3))
    (kk : fk_J wM g en k (pc + 3) lv (fk_r g 1 :: stk) st F) : fk_J wM g en k pc lv (fk_r g i :: stk) st F := by
  intro o ho hq
  have kk := kk o ho hq
  obtain ⟨p, l, e, R, s, m, args, below, meth, c, rv, sf⟩ := k
  obtain ⟨hx, hb, hml, hown, hts, hK, hE, hr, hlk, hinj, hfr, hlo⟩ := hk
  intro H locs ls hl hP hS
  exact va_get (D := g.2.1) (ci := 8) (C := RX8) (T := TX8) (N := 37) (v := fk_r g 1) hx hb hts wB_8 hown hK hP i (wat_8 hi) rfl 1 (by decide) (hts _ wf_8_7) (fun _ h => h) rfl hdg (kk H locs ls hl hP hS)
theorem wf_8_13 : Cond.fieldLink RX8 13 "PieFunnelsModel" "a" "[I" ∈ fkB := fkB_in (List.mem_of_getElem? (i := 898) (by decide +kernel)) rfl
theorem f_8_13 {g : fkG} {k : fkK} {ρ : Type} {en : ρ → Option Value} {cc : ByteArray} {nL fr lo pc : Nat} {ret : Option FieldType} {lv : List (Nat × Value)} {stk : List Value} {st : fkS} {F : Option (ρ × fkS)} (hk : fk_ok wM g k RX8 cc nL ret fr lo) {i : Nat} (hi : kdM i = 8) (hdg : decode cc pc = .ok (.getfield 13, 3))
    (kk : fk_J wM g en k (pc + 3) lv (fk_r g 2 :: stk) st F) : fk_J wM g en k pc lv (fk_r g i :: stk) st F := by
  intro o ho hq
  have kk := kk o ho hq
  obtain ⟨p, l, e, R, s, m, args, below, meth, c, rv, sf⟩ := k
  obtain ⟨hx, hb, hml, hown, hts, hK, hE, hr, hlk, hinj, hfr, hlo⟩ := hk
  intro H locs ls hl hP hS
  exact va_get (D := g.2.1) (ci := 8) (C := RX8) (T := TX8) (N := 37) (v := fk_r g 2) hx hb hts wB_8 hown hK hP i (wat_8 hi) rfl 2 (by decide) (hts _ wf_8_13) (fun _ h => h) rfl hdg (kk H locs ls hl hP hS)
theorem wf_8_16 : Cond.fieldLink RX8 16 "PieFunnelsModel" "mouth" "[I" ∈ fkB := fkB_in (List.mem_of_getElem? (i := 899) (by decide +kernel)) rfl
theorem f_8_16 {g : fkG} {k : fkK} {ρ : Type} {en : ρ → Option Value} {cc : ByteArray} {nL fr lo pc : Nat} {ret : Option FieldType} {lv : List (Nat × Value)} {stk : List Value} {st : fkS} {F : Option (ρ × fkS)} (hk : fk_ok wM g k RX8 cc nL ret fr lo) {i : Nat} (hi : kdM i = 8) (hdg : decode cc pc = .ok (.getfield 16, 3))
    (kk : fk_J wM g en k (pc + 3) lv (fk_r g 3 :: stk) st F) : fk_J wM g en k pc lv (fk_r g i :: stk) st F := by
  intro o ho hq
  have kk := kk o ho hq
  obtain ⟨p, l, e, R, s, m, args, below, meth, c, rv, sf⟩ := k
  obtain ⟨hx, hb, hml, hown, hts, hK, hE, hr, hlk, hinj, hfr, hlo⟩ := hk
  intro H locs ls hl hP hS
  exact va_get (D := g.2.1) (ci := 8) (C := RX8) (T := TX8) (N := 37) (v := fk_r g 3) hx hb hts wB_8 hown hK hP i (wat_8 hi) rfl 3 (by decide) (hts _ wf_8_16) (fun _ h => h) rfl hdg (kk H locs ls hl hP hS)
theorem wf_8_19 : Cond.fieldLink RX8 19 "PieFunnelsModel" "ways" "[I" ∈ fkB := fkB_in (List.mem_of_getElem? (i := 900) (by decide +kernel)) rfl
theorem f_8_19 {g : fkG} {k : fkK} {ρ : Type} {en : ρ → Option Value} {cc : ByteArray} {nL fr lo pc : Nat} {ret : Option FieldType} {lv : List (Nat × Value)} {stk : List Value} {st : fkS} {F : Option (ρ × fkS)} (hk : fk_ok wM g k RX8 cc nL ret fr lo) {i : Nat} (hi : kdM i = 8) (hdg : decode cc pc = .ok (.getfield 19, 3))
    (kk : fk_J wM g en k (pc + 3) lv (fk_r g 4 :: stk) st F) : fk_J wM g en k pc lv (fk_r g i :: stk) st F := by
  intro o ho hq
  have kk := kk o ho hq
  obtain ⟨p, l, e, R, s, m, args, below, meth, c, rv, sf⟩ := k
  obtain ⟨hx, hb, hml, hown, hts, hK, hE, hr, hlk, hinj, hfr, hlo⟩ := hk
  intro H locs ls hl hP hS
  exact va_get (D := g.2.1) (ci := 8) (C := RX8) (T := TX8) (N := 37) (v := fk_r g 4) hx hb hts wB_8 hown hK hP i (wat_8 hi) rfl 4 (by decide) (hts _ wf_8_19) (fun _ h => h) rfl hdg (kk H locs ls hl hP hS)
theorem wf_8_22 : Cond.fieldLink RX8 22 "PieFunnelsModel" "table" "[I" ∈ fkB := fkB_in (List.mem_of_getElem? (i := 901) (by decide +kernel)) rfl
theorem f_8_22 {g : fkG} {k : fkK} {ρ : Type} {en : ρ → Option Value} {cc : ByteArray} {nL fr lo pc : Nat} {ret : Option FieldType} {lv : List (Nat × Value)} {stk : List Value} {st : fkS} {F : Option (ρ × fkS)} (hk : fk_ok wM g k RX8 cc nL ret fr lo) {i : Nat} (hi : kdM i = 8) (hdg : decode cc pc = .ok (.getfield 22, 3))
    (kk : fk_J wM g en k (pc + 3) lv (fk_r g 5 :: stk) st F) : fk_J wM g en k pc lv (fk_r g i :: stk) st F := by
  intro o ho hq
  have kk := kk o ho hq
  obtain ⟨p, l, e, R, s, m, args, below, meth, c, rv, sf⟩ := k
  obtain ⟨hx, hb, hml, hown, hts, hK, hE, hr, hlk, hinj, hfr, hlo⟩ := hk
  intro H locs ls hl hP hS
  exact va_get (D := g.2.1) (ci := 8) (C := RX8) (T := TX8) (N := 37) (v := fk_r g 5) hx hb hts wB_8 hown hK hP i (wat_8 hi) rfl 5 (by decide) (hts _ wf_8_22) (fun _ h => h) rfl hdg (kk H locs ls hl hP hS)
theorem wf_8_277 : Cond.fieldLink RX8 277 "PieFunnelsModel" "bakes" "I" ∈ fkB := fkB_in (List.mem_of_getElem? (i := 902) (by decide +kernel)) rfl
theorem f_8_277 {g : fkG} {k : fkK} {ρ : Type} {en : ρ → Option Value} {cc : ByteArray} {nL fr lo pc : Nat} {ret : Option FieldType} {lv : List (Nat × Value)} {stk : List Value} {st : fkS} (hk : fk_ok wM g k RX8 cc nL ret fr lo) {i : Nat} {F1 : Int32 → Option (ρ × fkS)} (hi : kdM i = 8) (hdg : decode cc pc = .ok (.getfield 277, 3))
    (kk : ∀ x, fk_J wM g en k (pc + 3) lv (.int x :: stk) st (F1 x)) : fk_J wM g en k pc lv (fk_r g i :: stk) st (fk_let (gI st 6 i) F1) := by
  intro o ho hq
  have kk := kk (gI st 6 i) o ho hq
  obtain ⟨p, l, e, R, s, m, args, below, meth, c, rv, sf⟩ := k
  obtain ⟨hx, hb, hml, hown, hts, hK, hE, hr, hlk, hinj, hfr, hlo⟩ := hk
  intro H locs ls hl hP hS
  exact va_get (D := g.2.1) (ci := 8) (C := RX8) (T := TX8) (N := 37) (v := .int (gI st 6 i)) hx hb hts wB_8 hown hK hP i (wat_8 hi) rfl 6 (by decide) (hts _ wf_8_277) (fun _ h => h) rfl hdg (kk H locs ls hl hP hS)
theorem p_8_277 {g : fkG} {k : fkK} {ρ : Type} {en : ρ → Option Value} {cc : ByteArray} {nL fr lo pc : Nat} {ret : Option FieldType} {lv : List (Nat × Value)} {stk : List Value} {st : fkS} (hk : fk_ok wM g k RX8 cc nL ret fr lo) {i : Nat} {v : Int32} {F1 : fkS → Option (ρ × fkS)} (hi : kdM i = 8) (hdg : decode cc pc = .ok (.putfield 277, 3))
    (kk : ∀ st1, fk_J wM g en k (pc + 3) lv stk st1 (F1 st1)) : fk_J wM g en k pc lv (.int v :: fk_r g i :: stk) st (fk_let (sI st 6 i v) F1) := by
  intro o ho hq
  have kk := kk (sI st 6 i v) o ho hq
  obtain ⟨p, l, e, R, s, m, args, below, meth, c, rv, sf⟩ := k
  obtain ⟨hx, hb, hml, hown, hts, hK, hE, hr, hlk, hinj, hfr, hlo⟩ := hk
  intro H locs ls hl hP hS
  refine va_put (D := g.2.1) (ci := 8) (C := RX8) (T := TX8) (N := 37) (v := .int v) (ty := .int) hx hb hts wB_8 tyX8 tyX8_ok nmX8 hown hK hP (fk_wD hinj _ _) hS i (wat_8 hi) rfl 6 (by decide) (hts _ wf_8_277) (fun _ h => h) rfl (by decide +kernel) rfl rfl (Nat.le_of_ble_eq_true rfl) hdg (fun H1 locs1 hP1 hD1 hS1 => kk H1 locs1 ls hl ?_ hS1)
  rw [← wst_8_6 hi]
  exact hP1
theorem wf_8_280 : Cond.fieldLink RX8 280 "PieFunnelsModel" "suffered" "I" ∈ fkB := fkB_in (List.mem_of_getElem? (i := 903) (by decide +kernel)) rfl
theorem f_8_280 {g : fkG} {k : fkK} {ρ : Type} {en : ρ → Option Value} {cc : ByteArray} {nL fr lo pc : Nat} {ret : Option FieldType} {lv : List (Nat × Value)} {stk : List Value} {st : fkS} (hk : fk_ok wM g k RX8 cc nL ret fr lo) {i : Nat} {F1 : Int32 → Option (ρ × fkS)} (hi : kdM i = 8) (hdg : decode cc pc = .ok (.getfield 280, 3))
    (kk : ∀ x, fk_J wM g en k (pc + 3) lv (.int x :: stk) st (F1 x)) : fk_J wM g en k pc lv (fk_r g i :: stk) st (fk_let (gI st 7 i) F1) := by
  intro o ho hq
  have kk := kk (gI st 7 i) o ho hq
  obtain ⟨p, l, e, R, s, m, args, below, meth, c, rv, sf⟩ := k
  obtain ⟨hx, hb, hml, hown, hts, hK, hE, hr, hlk, hinj, hfr, hlo⟩ := hk
  intro H locs ls hl hP hS
  exact va_get (D := g.2.1) (ci := 8) (C := RX8) (T := TX8) (N := 37) (v := .int (gI st 7 i)) hx hb hts wB_8 hown hK hP i (wat_8 hi) rfl 7 (by decide) (hts _ wf_8_280) (fun _ h => h) rfl hdg (kk H locs ls hl hP hS)
theorem p_8_280 {g : fkG} {k : fkK} {ρ : Type} {en : ρ → Option Value} {cc : ByteArray} {nL fr lo pc : Nat} {ret : Option FieldType} {lv : List (Nat × Value)} {stk : List Value} {st : fkS} (hk : fk_ok wM g k RX8 cc nL ret fr lo) {i : Nat} {v : Int32} {F1 : fkS → Option (ρ × fkS)} (hi : kdM i = 8) (hdg : decode cc pc = .ok (.putfield 280, 3))
    (kk : ∀ st1, fk_J wM g en k (pc + 3) lv stk st1 (F1 st1)) : fk_J wM g en k pc lv (.int v :: fk_r g i :: stk) st (fk_let (sI st 7 i v) F1) := by
  intro o ho hq
  have kk := kk (sI st 7 i v) o ho hq
  obtain ⟨p, l, e, R, s, m, args, below, meth, c, rv, sf⟩ := k
  obtain ⟨hx, hb, hml, hown, hts, hK, hE, hr, hlk, hinj, hfr, hlo⟩ := hk
  intro H locs ls hl hP hS
  refine va_put (D := g.2.1) (ci := 8) (C := RX8) (T := TX8) (N := 37) (v := .int v) (ty := .int) hx hb hts wB_8 tyX8 tyX8_ok nmX8 hown hK hP (fk_wD hinj _ _) hS i (wat_8 hi) rfl 7 (by decide) (hts _ wf_8_280) (fun _ h => h) rfl (by decide +kernel) rfl rfl (Nat.le_of_ble_eq_true rfl) hdg (fun H1 locs1 hP1 hD1 hS1 => kk H1 locs1 ls hl ?_ hS1)
  rw [← wst_8_7 hi]
  exact hP1
theorem wf_8_74 : Cond.fieldLink RX8 74 "PieFunnelsModel" "seed" "I" ∈ fkB := fkB_in (List.mem_of_getElem? (i := 904) (by decide +kernel)) rfl
theorem f_8_74 {g : fkG} {k : fkK} {ρ : Type} {en : ρ → Option Value} {cc : ByteArray} {nL fr lo pc : Nat} {ret : Option FieldType} {lv : List (Nat × Value)} {stk : List Value} {st : fkS} (hk : fk_ok wM g k RX8 cc nL ret fr lo) {i : Nat} {F1 : Int32 → Option (ρ × fkS)} (hi : kdM i = 8) (hdg : decode cc pc = .ok (.getfield 74, 3))
    (kk : ∀ x, fk_J wM g en k (pc + 3) lv (.int x :: stk) st (F1 x)) : fk_J wM g en k pc lv (fk_r g i :: stk) st (fk_let (gI st 8 i) F1) := by
  intro o ho hq
  have kk := kk (gI st 8 i) o ho hq
  obtain ⟨p, l, e, R, s, m, args, below, meth, c, rv, sf⟩ := k
  obtain ⟨hx, hb, hml, hown, hts, hK, hE, hr, hlk, hinj, hfr, hlo⟩ := hk
  intro H locs ls hl hP hS
  exact va_get (D := g.2.1) (ci := 8) (C := RX8) (T := TX8) (N := 37) (v := .int (gI st 8 i)) hx hb hts wB_8 hown hK hP i (wat_8 hi) rfl 8 (by decide) (hts _ wf_8_74) (fun _ h => h) rfl hdg (kk H locs ls hl hP hS)
theorem p_8_74 {g : fkG} {k : fkK} {ρ : Type} {en : ρ → Option Value} {cc : ByteArray} {nL fr lo pc : Nat} {ret : Option FieldType} {lv : List (Nat × Value)} {stk : List Value} {st : fkS} (hk : fk_ok wM g k RX8 cc nL ret fr lo) {i : Nat} {v : Int32} {F1 : fkS → Option (ρ × fkS)} (hi : kdM i = 8) (hdg : decode cc pc = .ok (.putfield 74, 3))
    (kk : ∀ st1, fk_J wM g en k (pc + 3) lv stk st1 (F1 st1)) : fk_J wM g en k pc lv (.int v :: fk_r g i :: stk) st (fk_let (sI st 8 i v) F1) := by
  intro o ho hq
  have kk := kk (sI st 8 i v) o ho hq
  obtain ⟨p, l, e, R, s, m, args, below, meth, c, rv, sf⟩ := k
  obtain ⟨hx, hb, hml, hown, hts, hK, hE, hr, hlk, hinj, hfr, hlo⟩ := hk
  intro H locs ls hl hP hS
  refine va_put (D := g.2.1) (ci := 8) (C := RX8) (T := TX8) (N := 37) (v := .int v) (ty := .int) hx hb hts wB_8 tyX8 tyX8_ok nmX8 hown hK hP (fk_wD hinj _ _) hS i (wat_8 hi) rfl 8 (by decide) (hts _ wf_8_74) (fun _ h => h) rfl (by decide +kernel) rfl rfl (Nat.le_of_ble_eq_true rfl) hdg (fun H1 locs1 hP1 hD1 hS1 => kk H1 locs1 ls hl ?_ hS1)
  rw [← wst_8_8 hi]
  exact hP1
theorem wf_8_25 : Cond.fieldLink RX8 25 "PieFunnelsModel" "holding" "[I" ∈ fkB := fkB_in (List.mem_of_getElem? (i := 905) (by decide +kernel)) rfl
theorem f_8_25 {g : fkG} {k : fkK} {ρ : Type} {en : ρ → Option Value} {cc : ByteArray} {nL fr lo pc : Nat} {ret : Option FieldType} {lv : List (Nat × Value)} {stk : List Value} {st : fkS} {F : Option (ρ × fkS)} (hk : fk_ok wM g k RX8 cc nL ret fr lo) {i : Nat} (hi : kdM i = 8) (hdg : decode cc pc = .ok (.getfield 25, 3))
    (kk : fk_J wM g en k (pc + 3) lv (fk_r g 6 :: stk) st F) : fk_J wM g en k pc lv (fk_r g i :: stk) st F := by
  intro o ho hq
  have kk := kk o ho hq
  obtain ⟨p, l, e, R, s, m, args, below, meth, c, rv, sf⟩ := k
  obtain ⟨hx, hb, hml, hown, hts, hK, hE, hr, hlk, hinj, hfr, hlo⟩ := hk
  intro H locs ls hl hP hS
  exact va_get (D := g.2.1) (ci := 8) (C := RX8) (T := TX8) (N := 37) (v := fk_r g 6) hx hb hts wB_8 hown hK hP i (wat_8 hi) rfl 9 (by decide) (hts _ wf_8_25) (fun _ h => h) rfl hdg (kk H locs ls hl hP hS)
theorem wf_8_28 : Cond.fieldLink RX8 28 "PieFunnelsModel" "rowLength" "[I" ∈ fkB := fkB_in (List.mem_of_getElem? (i := 906) (by decide +kernel)) rfl
theorem f_8_28 {g : fkG} {k : fkK} {ρ : Type} {en : ρ → Option Value} {cc : ByteArray} {nL fr lo pc : Nat} {ret : Option FieldType} {lv : List (Nat × Value)} {stk : List Value} {st : fkS} {F : Option (ρ × fkS)} (hk : fk_ok wM g k RX8 cc nL ret fr lo) {i : Nat} (hi : kdM i = 8) (hdg : decode cc pc = .ok (.getfield 28, 3))
    (kk : fk_J wM g en k (pc + 3) lv (fk_r g 7 :: stk) st F) : fk_J wM g en k pc lv (fk_r g i :: stk) st F := by
  intro o ho hq
  have kk := kk o ho hq
  obtain ⟨p, l, e, R, s, m, args, below, meth, c, rv, sf⟩ := k
  obtain ⟨hx, hb, hml, hown, hts, hK, hE, hr, hlk, hinj, hfr, hlo⟩ := hk
  intro H locs ls hl hP hS
  exact va_get (D := g.2.1) (ci := 8) (C := RX8) (T := TX8) (N := 37) (v := fk_r g 7) hx hb hts wB_8 hown hK hP i (wat_8 hi) rfl 10 (by decide) (hts _ wf_8_28) (fun _ h => h) rfl hdg (kk H locs ls hl hP hS)
theorem wf_8_31 : Cond.fieldLink RX8 31 "PieFunnelsModel" "rowOf" "[J" ∈ fkB := fkB_in (List.mem_of_getElem? (i := 907) (by decide +kernel)) rfl
theorem f_8_31 {g : fkG} {k : fkK} {ρ : Type} {en : ρ → Option Value} {cc : ByteArray} {nL fr lo pc : Nat} {ret : Option FieldType} {lv : List (Nat × Value)} {stk : List Value} {st : fkS} {F : Option (ρ × fkS)} (hk : fk_ok wM g k RX8 cc nL ret fr lo) {i : Nat} (hi : kdM i = 8) (hdg : decode cc pc = .ok (.getfield 31, 3))
    (kk : fk_J wM g en k (pc + 3) lv (fk_r g 8 :: stk) st F) : fk_J wM g en k pc lv (fk_r g i :: stk) st F := by
  intro o ho hq
  have kk := kk o ho hq
  obtain ⟨p, l, e, R, s, m, args, below, meth, c, rv, sf⟩ := k
  obtain ⟨hx, hb, hml, hown, hts, hK, hE, hr, hlk, hinj, hfr, hlo⟩ := hk
  intro H locs ls hl hP hS
  exact va_get (D := g.2.1) (ci := 8) (C := RX8) (T := TX8) (N := 37) (v := fk_r g 8) hx hb hts wB_8 hown hK hP i (wat_8 hi) rfl 11 (by decide) (hts _ wf_8_31) (fun _ h => h) rfl hdg (kk H locs ls hl hP hS)
theorem wf_8_135 : Cond.fieldLink RX8 135 "PieFunnelsModel" "reading" "I" ∈ fkB := fkB_in (List.mem_of_getElem? (i := 908) (by decide +kernel)) rfl
theorem f_8_135 {g : fkG} {k : fkK} {ρ : Type} {en : ρ → Option Value} {cc : ByteArray} {nL fr lo pc : Nat} {ret : Option FieldType} {lv : List (Nat × Value)} {stk : List Value} {st : fkS} (hk : fk_ok wM g k RX8 cc nL ret fr lo) {i : Nat} {F1 : Int32 → Option (ρ × fkS)} (hi : kdM i = 8) (hdg : decode cc pc = .ok (.getfield 135, 3))
    (kk : ∀ x, fk_J wM g en k (pc + 3) lv (.int x :: stk) st (F1 x)) : fk_J wM g en k pc lv (fk_r g i :: stk) st (fk_let (gI st 12 i) F1) := by
  intro o ho hq
  have kk := kk (gI st 12 i) o ho hq
  obtain ⟨p, l, e, R, s, m, args, below, meth, c, rv, sf⟩ := k
  obtain ⟨hx, hb, hml, hown, hts, hK, hE, hr, hlk, hinj, hfr, hlo⟩ := hk
  intro H locs ls hl hP hS
  exact va_get (D := g.2.1) (ci := 8) (C := RX8) (T := TX8) (N := 37) (v := .int (gI st 12 i)) hx hb hts wB_8 hown hK hP i (wat_8 hi) rfl 12 (by decide) (hts _ wf_8_135) (fun _ h => h) rfl hdg (kk H locs ls hl hP hS)
theorem p_8_135 {g : fkG} {k : fkK} {ρ : Type} {en : ρ → Option Value} {cc : ByteArray} {nL fr lo pc : Nat} {ret : Option FieldType} {lv : List (Nat × Value)} {stk : List Value} {st : fkS} (hk : fk_ok wM g k RX8 cc nL ret fr lo) {i : Nat} {v : Int32} {F1 : fkS → Option (ρ × fkS)} (hi : kdM i = 8) (hdg : decode cc pc = .ok (.putfield 135, 3))
    (kk : ∀ st1, fk_J wM g en k (pc + 3) lv stk st1 (F1 st1)) : fk_J wM g en k pc lv (.int v :: fk_r g i :: stk) st (fk_let (sI st 12 i v) F1) := by
  intro o ho hq
  have kk := kk (sI st 12 i v) o ho hq
  obtain ⟨p, l, e, R, s, m, args, below, meth, c, rv, sf⟩ := k
  obtain ⟨hx, hb, hml, hown, hts, hK, hE, hr, hlk, hinj, hfr, hlo⟩ := hk
  intro H locs ls hl hP hS
  refine va_put (D := g.2.1) (ci := 8) (C := RX8) (T := TX8) (N := 37) (v := .int v) (ty := .int) hx hb hts wB_8 tyX8 tyX8_ok nmX8 hown hK hP (fk_wD hinj _ _) hS i (wat_8 hi) rfl 12 (by decide) (hts _ wf_8_135) (fun _ h => h) rfl (by decide +kernel) rfl rfl (Nat.le_of_ble_eq_true rfl) hdg (fun H1 locs1 hP1 hD1 hS1 => kk H1 locs1 ls hl ?_ hS1)
  rw [← wst_8_12 hi]
  exact hP1
theorem wf_8_132 : Cond.fieldLink RX8 132 "PieFunnelsModel" "at" "I" ∈ fkB := fkB_in (List.mem_of_getElem? (i := 909) (by decide +kernel)) rfl
theorem f_8_132 {g : fkG} {k : fkK} {ρ : Type} {en : ρ → Option Value} {cc : ByteArray} {nL fr lo pc : Nat} {ret : Option FieldType} {lv : List (Nat × Value)} {stk : List Value} {st : fkS} (hk : fk_ok wM g k RX8 cc nL ret fr lo) {i : Nat} {F1 : Int32 → Option (ρ × fkS)} (hi : kdM i = 8) (hdg : decode cc pc = .ok (.getfield 132, 3))
    (kk : ∀ x, fk_J wM g en k (pc + 3) lv (.int x :: stk) st (F1 x)) : fk_J wM g en k pc lv (fk_r g i :: stk) st (fk_let (gI st 13 i) F1) := by
  intro o ho hq
  have kk := kk (gI st 13 i) o ho hq
  obtain ⟨p, l, e, R, s, m, args, below, meth, c, rv, sf⟩ := k
  obtain ⟨hx, hb, hml, hown, hts, hK, hE, hr, hlk, hinj, hfr, hlo⟩ := hk
  intro H locs ls hl hP hS
  exact va_get (D := g.2.1) (ci := 8) (C := RX8) (T := TX8) (N := 37) (v := .int (gI st 13 i)) hx hb hts wB_8 hown hK hP i (wat_8 hi) rfl 13 (by decide) (hts _ wf_8_132) (fun _ h => h) rfl hdg (kk H locs ls hl hP hS)
theorem p_8_132 {g : fkG} {k : fkK} {ρ : Type} {en : ρ → Option Value} {cc : ByteArray} {nL fr lo pc : Nat} {ret : Option FieldType} {lv : List (Nat × Value)} {stk : List Value} {st : fkS} (hk : fk_ok wM g k RX8 cc nL ret fr lo) {i : Nat} {v : Int32} {F1 : fkS → Option (ρ × fkS)} (hi : kdM i = 8) (hdg : decode cc pc = .ok (.putfield 132, 3))
    (kk : ∀ st1, fk_J wM g en k (pc + 3) lv stk st1 (F1 st1)) : fk_J wM g en k pc lv (.int v :: fk_r g i :: stk) st (fk_let (sI st 13 i v) F1) := by
  intro o ho hq
  have kk := kk (sI st 13 i v) o ho hq
  obtain ⟨p, l, e, R, s, m, args, below, meth, c, rv, sf⟩ := k
  obtain ⟨hx, hb, hml, hown, hts, hK, hE, hr, hlk, hinj, hfr, hlo⟩ := hk
  intro H locs ls hl hP hS
  refine va_put (D := g.2.1) (ci := 8) (C := RX8) (T := TX8) (N := 37) (v := .int v) (ty := .int) hx hb hts wB_8 tyX8 tyX8_ok nmX8 hown hK hP (fk_wD hinj _ _) hS i (wat_8 hi) rfl 13 (by decide) (hts _ wf_8_132) (fun _ h => h) rfl (by decide +kernel) rfl rfl (Nat.le_of_ble_eq_true rfl) hdg (fun H1 locs1 hP1 hD1 hS1 => kk H1 locs1 ls hl ?_ hS1)
  rw [← wst_8_13 hi]
  exact hP1
theorem wf_8_35 : Cond.fieldLink RX8 35 "PieFunnelsModel" "numbers" "[I" ∈ fkB := fkB_in (List.mem_of_getElem? (i := 910) (by decide +kernel)) rfl
theorem f_8_35 {g : fkG} {k : fkK} {ρ : Type} {en : ρ → Option Value} {cc : ByteArray} {nL fr lo pc : Nat} {ret : Option FieldType} {lv : List (Nat × Value)} {stk : List Value} {st : fkS} {F : Option (ρ × fkS)} (hk : fk_ok wM g k RX8 cc nL ret fr lo) {i : Nat} (hi : kdM i = 8) (hdg : decode cc pc = .ok (.getfield 35, 3))
    (kk : fk_J wM g en k (pc + 3) lv (fk_r g 9 :: stk) st F) : fk_J wM g en k pc lv (fk_r g i :: stk) st F := by
  intro o ho hq
  have kk := kk o ho hq
  obtain ⟨p, l, e, R, s, m, args, below, meth, c, rv, sf⟩ := k
  obtain ⟨hx, hb, hml, hown, hts, hK, hE, hr, hlk, hinj, hfr, hlo⟩ := hk
  intro H locs ls hl hP hS
  exact va_get (D := g.2.1) (ci := 8) (C := RX8) (T := TX8) (N := 37) (v := fk_r g 9) hx hb hts wB_8 hown hK hP i (wat_8 hi) rfl 14 (by decide) (hts _ wf_8_35) (fun _ h => h) rfl hdg (kk H locs ls hl hP hS)
theorem wf_8_78 : Cond.fieldLink RX8 78 "PieFunnelsModel" "fault" "I" ∈ fkB := fkB_in (List.mem_of_getElem? (i := 911) (by decide +kernel)) rfl
theorem f_8_78 {g : fkG} {k : fkK} {ρ : Type} {en : ρ → Option Value} {cc : ByteArray} {nL fr lo pc : Nat} {ret : Option FieldType} {lv : List (Nat × Value)} {stk : List Value} {st : fkS} (hk : fk_ok wM g k RX8 cc nL ret fr lo) {i : Nat} {F1 : Int32 → Option (ρ × fkS)} (hi : kdM i = 8) (hdg : decode cc pc = .ok (.getfield 78, 3))
    (kk : ∀ x, fk_J wM g en k (pc + 3) lv (.int x :: stk) st (F1 x)) : fk_J wM g en k pc lv (fk_r g i :: stk) st (fk_let (gI st 15 i) F1) := by
  intro o ho hq
  have kk := kk (gI st 15 i) o ho hq
  obtain ⟨p, l, e, R, s, m, args, below, meth, c, rv, sf⟩ := k
  obtain ⟨hx, hb, hml, hown, hts, hK, hE, hr, hlk, hinj, hfr, hlo⟩ := hk
  intro H locs ls hl hP hS
  exact va_get (D := g.2.1) (ci := 8) (C := RX8) (T := TX8) (N := 37) (v := .int (gI st 15 i)) hx hb hts wB_8 hown hK hP i (wat_8 hi) rfl 15 (by decide) (hts _ wf_8_78) (fun _ h => h) rfl hdg (kk H locs ls hl hP hS)
theorem p_8_78 {g : fkG} {k : fkK} {ρ : Type} {en : ρ → Option Value} {cc : ByteArray} {nL fr lo pc : Nat} {ret : Option FieldType} {lv : List (Nat × Value)} {stk : List Value} {st : fkS} (hk : fk_ok wM g k RX8 cc nL ret fr lo) {i : Nat} {v : Int32} {F1 : fkS → Option (ρ × fkS)} (hi : kdM i = 8) (hdg : decode cc pc = .ok (.putfield 78, 3))
    (kk : ∀ st1, fk_J wM g en k (pc + 3) lv stk st1 (F1 st1)) : fk_J wM g en k pc lv (.int v :: fk_r g i :: stk) st (fk_let (sI st 15 i v) F1) := by
  intro o ho hq
  have kk := kk (sI st 15 i v) o ho hq
  obtain ⟨p, l, e, R, s, m, args, below, meth, c, rv, sf⟩ := k
  obtain ⟨hx, hb, hml, hown, hts, hK, hE, hr, hlk, hinj, hfr, hlo⟩ := hk
  intro H locs ls hl hP hS
  refine va_put (D := g.2.1) (ci := 8) (C := RX8) (T := TX8) (N := 37) (v := .int v) (ty := .int) hx hb hts wB_8 tyX8 tyX8_ok nmX8 hown hK hP (fk_wD hinj _ _) hS i (wat_8 hi) rfl 15 (by decide) (hts _ wf_8_78) (fun _ h => h) rfl (by decide +kernel) rfl rfl (Nat.le_of_ble_eq_true rfl) hdg (fun H1 locs1 hP1 hD1 hS1 => kk H1 locs1 ls hl ?_ hS1)
  rw [← wst_8_15 hi]
  exact hP1
theorem wf_8_38 : Cond.fieldLink RX8 38 "PieFunnelsModel" "ahead" "[I" ∈ fkB := fkB_in (List.mem_of_getElem? (i := 912) (by decide +kernel)) rfl
theorem f_8_38 {g : fkG} {k : fkK} {ρ : Type} {en : ρ → Option Value} {cc : ByteArray} {nL fr lo pc : Nat} {ret : Option FieldType} {lv : List (Nat × Value)} {stk : List Value} {st : fkS} {F : Option (ρ × fkS)} (hk : fk_ok wM g k RX8 cc nL ret fr lo) {i : Nat} (hi : kdM i = 8) (hdg : decode cc pc = .ok (.getfield 38, 3))
    (kk : fk_J wM g en k (pc + 3) lv (fk_r g 10 :: stk) st F) : fk_J wM g en k pc lv (fk_r g i :: stk) st F := by
  intro o ho hq
  have kk := kk o ho hq
  obtain ⟨p, l, e, R, s, m, args, below, meth, c, rv, sf⟩ := k
  obtain ⟨hx, hb, hml, hown, hts, hK, hE, hr, hlk, hinj, hfr, hlo⟩ := hk
  intro H locs ls hl hP hS
  exact va_get (D := g.2.1) (ci := 8) (C := RX8) (T := TX8) (N := 37) (v := fk_r g 10) hx hb hts wB_8 hown hK hP i (wat_8 hi) rfl 16 (by decide) (hts _ wf_8_38) (fun _ h => h) rfl hdg (kk H locs ls hl hP hS)
theorem wf_8_289 : Cond.fieldLink RX8 289 "PieFunnelsModel" "traced" "I" ∈ fkB := fkB_in (List.mem_of_getElem? (i := 913) (by decide +kernel)) rfl
theorem f_8_289 {g : fkG} {k : fkK} {ρ : Type} {en : ρ → Option Value} {cc : ByteArray} {nL fr lo pc : Nat} {ret : Option FieldType} {lv : List (Nat × Value)} {stk : List Value} {st : fkS} (hk : fk_ok wM g k RX8 cc nL ret fr lo) {i : Nat} {F1 : Int32 → Option (ρ × fkS)} (hi : kdM i = 8) (hdg : decode cc pc = .ok (.getfield 289, 3))
    (kk : ∀ x, fk_J wM g en k (pc + 3) lv (.int x :: stk) st (F1 x)) : fk_J wM g en k pc lv (fk_r g i :: stk) st (fk_let (gI st 17 i) F1) := by
  intro o ho hq
  have kk := kk (gI st 17 i) o ho hq
  obtain ⟨p, l, e, R, s, m, args, below, meth, c, rv, sf⟩ := k
  obtain ⟨hx, hb, hml, hown, hts, hK, hE, hr, hlk, hinj, hfr, hlo⟩ := hk
  intro H locs ls hl hP hS
  exact va_get (D := g.2.1) (ci := 8) (C := RX8) (T := TX8) (N := 37) (v := .int (gI st 17 i)) hx hb hts wB_8 hown hK hP i (wat_8 hi) rfl 17 (by decide) (hts _ wf_8_289) (fun _ h => h) rfl hdg (kk H locs ls hl hP hS)
theorem p_8_289 {g : fkG} {k : fkK} {ρ : Type} {en : ρ → Option Value} {cc : ByteArray} {nL fr lo pc : Nat} {ret : Option FieldType} {lv : List (Nat × Value)} {stk : List Value} {st : fkS} (hk : fk_ok wM g k RX8 cc nL ret fr lo) {i : Nat} {v : Int32} {F1 : fkS → Option (ρ × fkS)} (hi : kdM i = 8) (hdg : decode cc pc = .ok (.putfield 289, 3))
    (kk : ∀ st1, fk_J wM g en k (pc + 3) lv stk st1 (F1 st1)) : fk_J wM g en k pc lv (.int v :: fk_r g i :: stk) st (fk_let (sI st 17 i v) F1) := by
  intro o ho hq
  have kk := kk (sI st 17 i v) o ho hq
  obtain ⟨p, l, e, R, s, m, args, below, meth, c, rv, sf⟩ := k
  obtain ⟨hx, hb, hml, hown, hts, hK, hE, hr, hlk, hinj, hfr, hlo⟩ := hk
  intro H locs ls hl hP hS
  refine va_put (D := g.2.1) (ci := 8) (C := RX8) (T := TX8) (N := 37) (v := .int v) (ty := .int) hx hb hts wB_8 tyX8 tyX8_ok nmX8 hown hK hP (fk_wD hinj _ _) hS i (wat_8 hi) rfl 17 (by decide) (hts _ wf_8_289) (fun _ h => h) rfl (by decide +kernel) rfl rfl (Nat.le_of_ble_eq_true rfl) hdg (fun H1 locs1 hP1 hD1 hS1 => kk H1 locs1 ls hl ?_ hS1)
  rw [← wst_8_17 hi]
  exact hP1
theorem wf_8_41 : Cond.fieldLink RX8 41 "PieFunnelsModel" "traces" "[I" ∈ fkB := fkB_in (List.mem_of_getElem? (i := 914) (by decide +kernel)) rfl
theorem f_8_41 {g : fkG} {k : fkK} {ρ : Type} {en : ρ → Option Value} {cc : ByteArray} {nL fr lo pc : Nat} {ret : Option FieldType} {lv : List (Nat × Value)} {stk : List Value} {st : fkS} {F : Option (ρ × fkS)} (hk : fk_ok wM g k RX8 cc nL ret fr lo) {i : Nat} (hi : kdM i = 8) (hdg : decode cc pc = .ok (.getfield 41, 3))
    (kk : fk_J wM g en k (pc + 3) lv (fk_r g 11 :: stk) st F) : fk_J wM g en k pc lv (fk_r g i :: stk) st F := by
  intro o ho hq
  have kk := kk o ho hq
  obtain ⟨p, l, e, R, s, m, args, below, meth, c, rv, sf⟩ := k
  obtain ⟨hx, hb, hml, hown, hts, hK, hE, hr, hlk, hinj, hfr, hlo⟩ := hk
  intro H locs ls hl hP hS
  exact va_get (D := g.2.1) (ci := 8) (C := RX8) (T := TX8) (N := 37) (v := fk_r g 11) hx hb hts wB_8 hown hK hP i (wat_8 hi) rfl 18 (by decide) (hts _ wf_8_41) (fun _ h => h) rfl hdg (kk H locs ls hl hP hS)
theorem wf_8_44 : Cond.fieldLink RX8 44 "PieFunnelsModel" "refusals" "[I" ∈ fkB := fkB_in (List.mem_of_getElem? (i := 915) (by decide +kernel)) rfl
theorem f_8_44 {g : fkG} {k : fkK} {ρ : Type} {en : ρ → Option Value} {cc : ByteArray} {nL fr lo pc : Nat} {ret : Option FieldType} {lv : List (Nat × Value)} {stk : List Value} {st : fkS} {F : Option (ρ × fkS)} (hk : fk_ok wM g k RX8 cc nL ret fr lo) {i : Nat} (hi : kdM i = 8) (hdg : decode cc pc = .ok (.getfield 44, 3))
    (kk : fk_J wM g en k (pc + 3) lv (fk_r g 12 :: stk) st F) : fk_J wM g en k pc lv (fk_r g i :: stk) st F := by
  intro o ho hq
  have kk := kk o ho hq
  obtain ⟨p, l, e, R, s, m, args, below, meth, c, rv, sf⟩ := k
  obtain ⟨hx, hb, hml, hown, hts, hK, hE, hr, hlk, hinj, hfr, hlo⟩ := hk
  intro H locs ls hl hP hS
  exact va_get (D := g.2.1) (ci := 8) (C := RX8) (T := TX8) (N := 37) (v := fk_r g 12) hx hb hts wB_8 hown hK hP i (wat_8 hi) rfl 19 (by decide) (hts _ wf_8_44) (fun _ h => h) rfl hdg (kk H locs ls hl hP hS)
theorem wf_8_304 : Cond.fieldLink RX8 304 "PieFunnelsModel" "imaged" "Z" ∈ fkB := fkB_in (List.mem_of_getElem? (i := 916) (by decide +kernel)) rfl
theorem f_8_304 {g : fkG} {k : fkK} {ρ : Type} {en : ρ → Option Value} {cc : ByteArray} {nL fr lo pc : Nat} {ret : Option FieldType} {lv : List (Nat × Value)} {stk : List Value} {st : fkS} (hk : fk_ok wM g k RX8 cc nL ret fr lo) {i : Nat} {F1 : Int32 → Option (ρ × fkS)} (hi : kdM i = 8) (hdg : decode cc pc = .ok (.getfield 304, 3))
    (kk : ∀ x, fk_J wM g en k (pc + 3) lv (.int x :: stk) st (F1 x)) : fk_J wM g en k pc lv (fk_r g i :: stk) st (fk_let (gI st 20 i) F1) := by
  intro o ho hq
  have kk := kk (gI st 20 i) o ho hq
  obtain ⟨p, l, e, R, s, m, args, below, meth, c, rv, sf⟩ := k
  obtain ⟨hx, hb, hml, hown, hts, hK, hE, hr, hlk, hinj, hfr, hlo⟩ := hk
  intro H locs ls hl hP hS
  exact va_get (D := g.2.1) (ci := 8) (C := RX8) (T := TX8) (N := 37) (v := .int (gI st 20 i)) hx hb hts wB_8 hown hK hP i (wat_8 hi) rfl 20 (by decide) (hts _ wf_8_304) (fun _ h => h) rfl hdg (kk H locs ls hl hP hS)
theorem p_8_304 {g : fkG} {k : fkK} {ρ : Type} {en : ρ → Option Value} {cc : ByteArray} {nL fr lo pc : Nat} {ret : Option FieldType} {lv : List (Nat × Value)} {stk : List Value} {st : fkS} (hk : fk_ok wM g k RX8 cc nL ret fr lo) {i : Nat} {v : Int32} {F1 : fkS → Option (ρ × fkS)} (hi : kdM i = 8) (hn : narrow .boolean (.int v) = .int v) (hft : fits .boolean (.int v) = true) (hdg : decode cc pc = .ok (.putfield 304, 3))
    (kk : ∀ st1, fk_J wM g en k (pc + 3) lv stk st1 (F1 st1)) : fk_J wM g en k pc lv (.int v :: fk_r g i :: stk) st (fk_let (sI st 20 i v) F1) := by
  intro o ho hq
  have kk := kk (sI st 20 i v) o ho hq
  obtain ⟨p, l, e, R, s, m, args, below, meth, c, rv, sf⟩ := k
  obtain ⟨hx, hb, hml, hown, hts, hK, hE, hr, hlk, hinj, hfr, hlo⟩ := hk
  intro H locs ls hl hP hS
  refine va_put (D := g.2.1) (ci := 8) (C := RX8) (T := TX8) (N := 37) (v := .int v) (ty := .boolean) hx hb hts wB_8 tyX8 tyX8_ok nmX8 hown hK hP (fk_wD hinj _ _) hS i (wat_8 hi) rfl 20 (by decide) (hts _ wf_8_304) (fun _ h => h) rfl (by decide +kernel) hn hft (Nat.le_of_ble_eq_true rfl) hdg (fun H1 locs1 hP1 hD1 hS1 => kk H1 locs1 ls hl ?_ hS1)
  rw [← wst_8_20 hi]
  exact hP1
theorem wf_8_47 : Cond.fieldLink RX8 47 "PieFunnelsModel" "old" "[I" ∈ fkB := fkB_in (List.mem_of_getElem? (i := 917) (by decide +kernel)) rfl
theorem f_8_47 {g : fkG} {k : fkK} {ρ : Type} {en : ρ → Option Value} {cc : ByteArray} {nL fr lo pc : Nat} {ret : Option FieldType} {lv : List (Nat × Value)} {stk : List Value} {st : fkS} {F : Option (ρ × fkS)} (hk : fk_ok wM g k RX8 cc nL ret fr lo) {i : Nat} (hi : kdM i = 8) (hdg : decode cc pc = .ok (.getfield 47, 3))
    (kk : fk_J wM g en k (pc + 3) lv (fk_r g 13 :: stk) st F) : fk_J wM g en k pc lv (fk_r g i :: stk) st F := by
  intro o ho hq
  have kk := kk o ho hq
  obtain ⟨p, l, e, R, s, m, args, below, meth, c, rv, sf⟩ := k
  obtain ⟨hx, hb, hml, hown, hts, hK, hE, hr, hlk, hinj, hfr, hlo⟩ := hk
  intro H locs ls hl hP hS
  exact va_get (D := g.2.1) (ci := 8) (C := RX8) (T := TX8) (N := 37) (v := fk_r g 13) hx hb hts wB_8 hown hK hP i (wat_8 hi) rfl 21 (by decide) (hts _ wf_8_47) (fun _ h => h) rfl hdg (kk H locs ls hl hP hS)
theorem wf_8_112 : Cond.fieldLink RX8 112 "PieFunnelsModel" "laid" "I" ∈ fkB := fkB_in (List.mem_of_getElem? (i := 918) (by decide +kernel)) rfl
theorem f_8_112 {g : fkG} {k : fkK} {ρ : Type} {en : ρ → Option Value} {cc : ByteArray} {nL fr lo pc : Nat} {ret : Option FieldType} {lv : List (Nat × Value)} {stk : List Value} {st : fkS} (hk : fk_ok wM g k RX8 cc nL ret fr lo) {i : Nat} {F1 : Int32 → Option (ρ × fkS)} (hi : kdM i = 8) (hdg : decode cc pc = .ok (.getfield 112, 3))
    (kk : ∀ x, fk_J wM g en k (pc + 3) lv (.int x :: stk) st (F1 x)) : fk_J wM g en k pc lv (fk_r g i :: stk) st (fk_let (gI st 22 i) F1) := by
  intro o ho hq
  have kk := kk (gI st 22 i) o ho hq
  obtain ⟨p, l, e, R, s, m, args, below, meth, c, rv, sf⟩ := k
  obtain ⟨hx, hb, hml, hown, hts, hK, hE, hr, hlk, hinj, hfr, hlo⟩ := hk
  intro H locs ls hl hP hS
  exact va_get (D := g.2.1) (ci := 8) (C := RX8) (T := TX8) (N := 37) (v := .int (gI st 22 i)) hx hb hts wB_8 hown hK hP i (wat_8 hi) rfl 22 (by decide) (hts _ wf_8_112) (fun _ h => h) rfl hdg (kk H locs ls hl hP hS)
theorem p_8_112 {g : fkG} {k : fkK} {ρ : Type} {en : ρ → Option Value} {cc : ByteArray} {nL fr lo pc : Nat} {ret : Option FieldType} {lv : List (Nat × Value)} {stk : List Value} {st : fkS} (hk : fk_ok wM g k RX8 cc nL ret fr lo) {i : Nat} {v : Int32} {F1 : fkS → Option (ρ × fkS)} (hi : kdM i = 8) (hdg : decode cc pc = .ok (.putfield 112, 3))
    (kk : ∀ st1, fk_J wM g en k (pc + 3) lv stk st1 (F1 st1)) : fk_J wM g en k pc lv (.int v :: fk_r g i :: stk) st (fk_let (sI st 22 i v) F1) := by
  intro o ho hq
  have kk := kk (sI st 22 i v) o ho hq
  obtain ⟨p, l, e, R, s, m, args, below, meth, c, rv, sf⟩ := k
  obtain ⟨hx, hb, hml, hown, hts, hK, hE, hr, hlk, hinj, hfr, hlo⟩ := hk
  intro H locs ls hl hP hS
  refine va_put (D := g.2.1) (ci := 8) (C := RX8) (T := TX8) (N := 37) (v := .int v) (ty := .int) hx hb hts wB_8 tyX8 tyX8_ok nmX8 hown hK hP (fk_wD hinj _ _) hS i (wat_8 hi) rfl 22 (by decide) (hts _ wf_8_112) (fun _ h => h) rfl (by decide +kernel) rfl rfl (Nat.le_of_ble_eq_true rfl) hdg (fun H1 locs1 hP1 hD1 hS1 => kk H1 locs1 ls hl ?_ hS1)
  rw [← wst_8_22 hi]
  exact hP1
theorem wf_8_50 : Cond.fieldLink RX8 50 "PieFunnelsModel" "pie" "[I" ∈ fkB := fkB_in (List.mem_of_getElem? (i := 919) (by decide +kernel)) rfl
theorem f_8_50 {g : fkG} {k : fkK} {ρ : Type} {en : ρ → Option Value} {cc : ByteArray} {nL fr lo pc : Nat} {ret : Option FieldType} {lv : List (Nat × Value)} {stk : List Value} {st : fkS} {F : Option (ρ × fkS)} (hk : fk_ok wM g k RX8 cc nL ret fr lo) {i : Nat} (hi : kdM i = 8) (hdg : decode cc pc = .ok (.getfield 50, 3))
    (kk : fk_J wM g en k (pc + 3) lv (fk_r g 14 :: stk) st F) : fk_J wM g en k pc lv (fk_r g i :: stk) st F := by
  intro o ho hq
  have kk := kk o ho hq
  obtain ⟨p, l, e, R, s, m, args, below, meth, c, rv, sf⟩ := k
  obtain ⟨hx, hb, hml, hown, hts, hK, hE, hr, hlk, hinj, hfr, hlo⟩ := hk
  intro H locs ls hl hP hS
  exact va_get (D := g.2.1) (ci := 8) (C := RX8) (T := TX8) (N := 37) (v := fk_r g 14) hx hb hts wB_8 hown hK hP i (wat_8 hi) rfl 23 (by decide) (hts _ wf_8_50) (fun _ h => h) rfl hdg (kk H locs ls hl hP hS)
theorem wf_8_119 : Cond.fieldLink RX8 119 "PieFunnelsModel" "many" "I" ∈ fkB := fkB_in (List.mem_of_getElem? (i := 920) (by decide +kernel)) rfl
theorem f_8_119 {g : fkG} {k : fkK} {ρ : Type} {en : ρ → Option Value} {cc : ByteArray} {nL fr lo pc : Nat} {ret : Option FieldType} {lv : List (Nat × Value)} {stk : List Value} {st : fkS} (hk : fk_ok wM g k RX8 cc nL ret fr lo) {i : Nat} {F1 : Int32 → Option (ρ × fkS)} (hi : kdM i = 8) (hdg : decode cc pc = .ok (.getfield 119, 3))
    (kk : ∀ x, fk_J wM g en k (pc + 3) lv (.int x :: stk) st (F1 x)) : fk_J wM g en k pc lv (fk_r g i :: stk) st (fk_let (gI st 24 i) F1) := by
  intro o ho hq
  have kk := kk (gI st 24 i) o ho hq
  obtain ⟨p, l, e, R, s, m, args, below, meth, c, rv, sf⟩ := k
  obtain ⟨hx, hb, hml, hown, hts, hK, hE, hr, hlk, hinj, hfr, hlo⟩ := hk
  intro H locs ls hl hP hS
  exact va_get (D := g.2.1) (ci := 8) (C := RX8) (T := TX8) (N := 37) (v := .int (gI st 24 i)) hx hb hts wB_8 hown hK hP i (wat_8 hi) rfl 24 (by decide) (hts _ wf_8_119) (fun _ h => h) rfl hdg (kk H locs ls hl hP hS)
theorem p_8_119 {g : fkG} {k : fkK} {ρ : Type} {en : ρ → Option Value} {cc : ByteArray} {nL fr lo pc : Nat} {ret : Option FieldType} {lv : List (Nat × Value)} {stk : List Value} {st : fkS} (hk : fk_ok wM g k RX8 cc nL ret fr lo) {i : Nat} {v : Int32} {F1 : fkS → Option (ρ × fkS)} (hi : kdM i = 8) (hdg : decode cc pc = .ok (.putfield 119, 3))
    (kk : ∀ st1, fk_J wM g en k (pc + 3) lv stk st1 (F1 st1)) : fk_J wM g en k pc lv (.int v :: fk_r g i :: stk) st (fk_let (sI st 24 i v) F1) := by
  intro o ho hq
  have kk := kk (sI st 24 i v) o ho hq
  obtain ⟨p, l, e, R, s, m, args, below, meth, c, rv, sf⟩ := k
  obtain ⟨hx, hb, hml, hown, hts, hK, hE, hr, hlk, hinj, hfr, hlo⟩ := hk
  intro H locs ls hl hP hS
  refine va_put (D := g.2.1) (ci := 8) (C := RX8) (T := TX8) (N := 37) (v := .int v) (ty := .int) hx hb hts wB_8 tyX8 tyX8_ok nmX8 hown hK hP (fk_wD hinj _ _) hS i (wat_8 hi) rfl 24 (by decide) (hts _ wf_8_119) (fun _ h => h) rfl (by decide +kernel) rfl rfl (Nat.le_of_ble_eq_true rfl) hdg (fun H1 locs1 hP1 hD1 hS1 => kk H1 locs1 ls hl ?_ hS1)
  rw [← wst_8_24 hi]
  exact hP1
theorem wf_8_53 : Cond.fieldLink RX8 53 "PieFunnelsModel" "signs" "[I" ∈ fkB := fkB_in (List.mem_of_getElem? (i := 921) (by decide +kernel)) rfl
theorem f_8_53 {g : fkG} {k : fkK} {ρ : Type} {en : ρ → Option Value} {cc : ByteArray} {nL fr lo pc : Nat} {ret : Option FieldType} {lv : List (Nat × Value)} {stk : List Value} {st : fkS} {F : Option (ρ × fkS)} (hk : fk_ok wM g k RX8 cc nL ret fr lo) {i : Nat} (hi : kdM i = 8) (hdg : decode cc pc = .ok (.getfield 53, 3))
    (kk : fk_J wM g en k (pc + 3) lv (fk_r g 15 :: stk) st F) : fk_J wM g en k pc lv (fk_r g i :: stk) st F := by
  intro o ho hq
  have kk := kk o ho hq
  obtain ⟨p, l, e, R, s, m, args, below, meth, c, rv, sf⟩ := k
  obtain ⟨hx, hb, hml, hown, hts, hK, hE, hr, hlk, hinj, hfr, hlo⟩ := hk
  intro H locs ls hl hP hS
  exact va_get (D := g.2.1) (ci := 8) (C := RX8) (T := TX8) (N := 37) (v := fk_r g 15) hx hb hts wB_8 hown hK hP i (wat_8 hi) rfl 25 (by decide) (hts _ wf_8_53) (fun _ h => h) rfl hdg (kk H locs ls hl hP hS)
theorem wf_8_209 : Cond.fieldLink RX8 209 "PieFunnelsModel" "ended" "I" ∈ fkB := fkB_in (List.mem_of_getElem? (i := 922) (by decide +kernel)) rfl
theorem f_8_209 {g : fkG} {k : fkK} {ρ : Type} {en : ρ → Option Value} {cc : ByteArray} {nL fr lo pc : Nat} {ret : Option FieldType} {lv : List (Nat × Value)} {stk : List Value} {st : fkS} (hk : fk_ok wM g k RX8 cc nL ret fr lo) {i : Nat} {F1 : Int32 → Option (ρ × fkS)} (hi : kdM i = 8) (hdg : decode cc pc = .ok (.getfield 209, 3))
    (kk : ∀ x, fk_J wM g en k (pc + 3) lv (.int x :: stk) st (F1 x)) : fk_J wM g en k pc lv (fk_r g i :: stk) st (fk_let (gI st 26 i) F1) := by
  intro o ho hq
  have kk := kk (gI st 26 i) o ho hq
  obtain ⟨p, l, e, R, s, m, args, below, meth, c, rv, sf⟩ := k
  obtain ⟨hx, hb, hml, hown, hts, hK, hE, hr, hlk, hinj, hfr, hlo⟩ := hk
  intro H locs ls hl hP hS
  exact va_get (D := g.2.1) (ci := 8) (C := RX8) (T := TX8) (N := 37) (v := .int (gI st 26 i)) hx hb hts wB_8 hown hK hP i (wat_8 hi) rfl 26 (by decide) (hts _ wf_8_209) (fun _ h => h) rfl hdg (kk H locs ls hl hP hS)
theorem p_8_209 {g : fkG} {k : fkK} {ρ : Type} {en : ρ → Option Value} {cc : ByteArray} {nL fr lo pc : Nat} {ret : Option FieldType} {lv : List (Nat × Value)} {stk : List Value} {st : fkS} (hk : fk_ok wM g k RX8 cc nL ret fr lo) {i : Nat} {v : Int32} {F1 : fkS → Option (ρ × fkS)} (hi : kdM i = 8) (hdg : decode cc pc = .ok (.putfield 209, 3))
    (kk : ∀ st1, fk_J wM g en k (pc + 3) lv stk st1 (F1 st1)) : fk_J wM g en k pc lv (.int v :: fk_r g i :: stk) st (fk_let (sI st 26 i v) F1) := by
  intro o ho hq
  have kk := kk (sI st 26 i v) o ho hq
  obtain ⟨p, l, e, R, s, m, args, below, meth, c, rv, sf⟩ := k
  obtain ⟨hx, hb, hml, hown, hts, hK, hE, hr, hlk, hinj, hfr, hlo⟩ := hk
  intro H locs ls hl hP hS
  refine va_put (D := g.2.1) (ci := 8) (C := RX8) (T := TX8) (N := 37) (v := .int v) (ty := .int) hx hb hts wB_8 tyX8 tyX8_ok nmX8 hown hK hP (fk_wD hinj _ _) hS i (wat_8 hi) rfl 26 (by decide) (hts _ wf_8_209) (fun _ h => h) rfl (by decide +kernel) rfl rfl (Nat.le_of_ble_eq_true rfl) hdg (fun H1 locs1 hP1 hD1 hS1 => kk H1 locs1 ls hl ?_ hS1)
  rw [← wst_8_26 hi]
  exact hP1
theorem wf_8_212 : Cond.fieldLink RX8 212 "PieFunnelsModel" "ills" "I" ∈ fkB := fkB_in (List.mem_of_getElem? (i := 923) (by decide +kernel)) rfl
theorem f_8_212 {g : fkG} {k : fkK} {ρ : Type} {en : ρ → Option Value} {cc : ByteArray} {nL fr lo pc : Nat} {ret : Option FieldType} {lv : List (Nat × Value)} {stk : List Value} {st : fkS} (hk : fk_ok wM g k RX8 cc nL ret fr lo) {i : Nat} {F1 : Int32 → Option (ρ × fkS)} (hi : kdM i = 8) (hdg : decode cc pc = .ok (.getfield 212, 3))
    (kk : ∀ x, fk_J wM g en k (pc + 3) lv (.int x :: stk) st (F1 x)) : fk_J wM g en k pc lv (fk_r g i :: stk) st (fk_let (gI st 27 i) F1) := by
  intro o ho hq
  have kk := kk (gI st 27 i) o ho hq
  obtain ⟨p, l, e, R, s, m, args, below, meth, c, rv, sf⟩ := k
  obtain ⟨hx, hb, hml, hown, hts, hK, hE, hr, hlk, hinj, hfr, hlo⟩ := hk
  intro H locs ls hl hP hS
  exact va_get (D := g.2.1) (ci := 8) (C := RX8) (T := TX8) (N := 37) (v := .int (gI st 27 i)) hx hb hts wB_8 hown hK hP i (wat_8 hi) rfl 27 (by decide) (hts _ wf_8_212) (fun _ h => h) rfl hdg (kk H locs ls hl hP hS)
theorem p_8_212 {g : fkG} {k : fkK} {ρ : Type} {en : ρ → Option Value} {cc : ByteArray} {nL fr lo pc : Nat} {ret : Option FieldType} {lv : List (Nat × Value)} {stk : List Value} {st : fkS} (hk : fk_ok wM g k RX8 cc nL ret fr lo) {i : Nat} {v : Int32} {F1 : fkS → Option (ρ × fkS)} (hi : kdM i = 8) (hdg : decode cc pc = .ok (.putfield 212, 3))
    (kk : ∀ st1, fk_J wM g en k (pc + 3) lv stk st1 (F1 st1)) : fk_J wM g en k pc lv (.int v :: fk_r g i :: stk) st (fk_let (sI st 27 i v) F1) := by
  intro o ho hq
  have kk := kk (sI st 27 i v) o ho hq
  obtain ⟨p, l, e, R, s, m, args, below, meth, c, rv, sf⟩ := k
  obtain ⟨hx, hb, hml, hown, hts, hK, hE, hr, hlk, hinj, hfr, hlo⟩ := hk
  intro H locs ls hl hP hS
  refine va_put (D := g.2.1) (ci := 8) (C := RX8) (T := TX8) (N := 37) (v := .int v) (ty := .int) hx hb hts wB_8 tyX8 tyX8_ok nmX8 hown hK hP (fk_wD hinj _ _) hS i (wat_8 hi) rfl 27 (by decide) (hts _ wf_8_212) (fun _ h => h) rfl (by decide +kernel) rfl rfl (Nat.le_of_ble_eq_true rfl) hdg (fun H1 locs1 hP1 hD1 hS1 => kk H1 locs1 ls hl ?_ hS1)
  rw [← wst_8_27 hi]
  exact hP1
theorem wf_8_56 : Cond.fieldLink RX8 56 "PieFunnelsModel" "group" "[I" ∈ fkB := fkB_in (List.mem_of_getElem? (i := 924) (by decide +kernel)) rfl
theorem f_8_56 {g : fkG} {k : fkK} {ρ : Type} {en : ρ → Option Value} {cc : ByteArray} {nL fr lo pc : Nat} {ret : Option FieldType} {lv : List (Nat × Value)} {stk : List Value} {st : fkS} {F : Option (ρ × fkS)} (hk : fk_ok wM g k RX8 cc nL ret fr lo) {i : Nat} (hi : kdM i = 8) (hdg : decode cc pc = .ok (.getfield 56, 3))
    (kk : fk_J wM g en k (pc + 3) lv (fk_r g 16 :: stk) st F) : fk_J wM g en k pc lv (fk_r g i :: stk) st F := by
  intro o ho hq
  have kk := kk o ho hq
  obtain ⟨p, l, e, R, s, m, args, below, meth, c, rv, sf⟩ := k
  obtain ⟨hx, hb, hml, hown, hts, hK, hE, hr, hlk, hinj, hfr, hlo⟩ := hk
  intro H locs ls hl hP hS
  exact va_get (D := g.2.1) (ci := 8) (C := RX8) (T := TX8) (N := 37) (v := fk_r g 16) hx hb hts wB_8 hown hK hP i (wat_8 hi) rfl 28 (by decide) (hts _ wf_8_56) (fun _ h => h) rfl hdg (kk H locs ls hl hP hS)
theorem wf_8_59 : Cond.fieldLink RX8 59 "PieFunnelsModel" "groupSigns" "[I" ∈ fkB := fkB_in (List.mem_of_getElem? (i := 925) (by decide +kernel)) rfl
theorem f_8_59 {g : fkG} {k : fkK} {ρ : Type} {en : ρ → Option Value} {cc : ByteArray} {nL fr lo pc : Nat} {ret : Option FieldType} {lv : List (Nat × Value)} {stk : List Value} {st : fkS} {F : Option (ρ × fkS)} (hk : fk_ok wM g k RX8 cc nL ret fr lo) {i : Nat} (hi : kdM i = 8) (hdg : decode cc pc = .ok (.getfield 59, 3))
    (kk : fk_J wM g en k (pc + 3) lv (fk_r g 17 :: stk) st F) : fk_J wM g en k pc lv (fk_r g i :: stk) st F := by
  intro o ho hq
  have kk := kk o ho hq
  obtain ⟨p, l, e, R, s, m, args, below, meth, c, rv, sf⟩ := k
  obtain ⟨hx, hb, hml, hown, hts, hK, hE, hr, hlk, hinj, hfr, hlo⟩ := hk
  intro H locs ls hl hP hS
  exact va_get (D := g.2.1) (ci := 8) (C := RX8) (T := TX8) (N := 37) (v := fk_r g 17) hx hb hts wB_8 hown hK hP i (wat_8 hi) rfl 29 (by decide) (hts _ wf_8_59) (fun _ h => h) rfl hdg (kk H locs ls hl hP hS)
theorem wf_8_62 : Cond.fieldLink RX8 62 "PieFunnelsModel" "wished" "[I" ∈ fkB := fkB_in (List.mem_of_getElem? (i := 926) (by decide +kernel)) rfl
theorem f_8_62 {g : fkG} {k : fkK} {ρ : Type} {en : ρ → Option Value} {cc : ByteArray} {nL fr lo pc : Nat} {ret : Option FieldType} {lv : List (Nat × Value)} {stk : List Value} {st : fkS} {F : Option (ρ × fkS)} (hk : fk_ok wM g k RX8 cc nL ret fr lo) {i : Nat} (hi : kdM i = 8) (hdg : decode cc pc = .ok (.getfield 62, 3))
    (kk : fk_J wM g en k (pc + 3) lv (fk_r g 18 :: stk) st F) : fk_J wM g en k pc lv (fk_r g i :: stk) st F := by
  intro o ho hq
  have kk := kk o ho hq
  obtain ⟨p, l, e, R, s, m, args, below, meth, c, rv, sf⟩ := k
  obtain ⟨hx, hb, hml, hown, hts, hK, hE, hr, hlk, hinj, hfr, hlo⟩ := hk
  intro H locs ls hl hP hS
  exact va_get (D := g.2.1) (ci := 8) (C := RX8) (T := TX8) (N := 37) (v := fk_r g 18) hx hb hts wB_8 hown hK hP i (wat_8 hi) rfl 30 (by decide) (hts _ wf_8_62) (fun _ h => h) rfl hdg (kk H locs ls hl hP hS)
theorem wf_8_262 : Cond.fieldLink RX8 262 "PieFunnelsModel" "tribes" "I" ∈ fkB := fkB_in (List.mem_of_getElem? (i := 927) (by decide +kernel)) rfl
theorem f_8_262 {g : fkG} {k : fkK} {ρ : Type} {en : ρ → Option Value} {cc : ByteArray} {nL fr lo pc : Nat} {ret : Option FieldType} {lv : List (Nat × Value)} {stk : List Value} {st : fkS} (hk : fk_ok wM g k RX8 cc nL ret fr lo) {i : Nat} {F1 : Int32 → Option (ρ × fkS)} (hi : kdM i = 8) (hdg : decode cc pc = .ok (.getfield 262, 3))
    (kk : ∀ x, fk_J wM g en k (pc + 3) lv (.int x :: stk) st (F1 x)) : fk_J wM g en k pc lv (fk_r g i :: stk) st (fk_let (gI st 31 i) F1) := by
  intro o ho hq
  have kk := kk (gI st 31 i) o ho hq
  obtain ⟨p, l, e, R, s, m, args, below, meth, c, rv, sf⟩ := k
  obtain ⟨hx, hb, hml, hown, hts, hK, hE, hr, hlk, hinj, hfr, hlo⟩ := hk
  intro H locs ls hl hP hS
  exact va_get (D := g.2.1) (ci := 8) (C := RX8) (T := TX8) (N := 37) (v := .int (gI st 31 i)) hx hb hts wB_8 hown hK hP i (wat_8 hi) rfl 31 (by decide) (hts _ wf_8_262) (fun _ h => h) rfl hdg (kk H locs ls hl hP hS)
theorem p_8_262 {g : fkG} {k : fkK} {ρ : Type} {en : ρ → Option Value} {cc : ByteArray} {nL fr lo pc : Nat} {ret : Option FieldType} {lv : List (Nat × Value)} {stk : List Value} {st : fkS} (hk : fk_ok wM g k RX8 cc nL ret fr lo) {i : Nat} {v : Int32} {F1 : fkS → Option (ρ × fkS)} (hi : kdM i = 8) (hdg : decode cc pc = .ok (.putfield 262, 3))
    (kk : ∀ st1, fk_J wM g en k (pc + 3) lv stk st1 (F1 st1)) : fk_J wM g en k pc lv (.int v :: fk_r g i :: stk) st (fk_let (sI st 31 i v) F1) := by
  intro o ho hq
  have kk := kk (sI st 31 i v) o ho hq
  obtain ⟨p, l, e, R, s, m, args, below, meth, c, rv, sf⟩ := k
  obtain ⟨hx, hb, hml, hown, hts, hK, hE, hr, hlk, hinj, hfr, hlo⟩ := hk
  intro H locs ls hl hP hS
  refine va_put (D := g.2.1) (ci := 8) (C := RX8) (T := TX8) (N := 37) (v := .int v) (ty := .int) hx hb hts wB_8 tyX8 tyX8_ok nmX8 hown hK hP (fk_wD hinj _ _) hS i (wat_8 hi) rfl 31 (by decide) (hts _ wf_8_262) (fun _ h => h) rfl (by decide +kernel) rfl rfl (Nat.le_of_ble_eq_true rfl) hdg (fun H1 locs1 hP1 hD1 hS1 => kk H1 locs1 ls hl ?_ hS1)
  rw [← wst_8_31 hi]
  exact hP1
theorem wf_8_65 : Cond.fieldLink RX8 65 "PieFunnelsModel" "brought" "[I" ∈ fkB := fkB_in (List.mem_of_getElem? (i := 928) (by decide +kernel)) rfl
theorem f_8_65 {g : fkG} {k : fkK} {ρ : Type} {en : ρ → Option Value} {cc : ByteArray} {nL fr lo pc : Nat} {ret : Option FieldType} {lv : List (Nat × Value)} {stk : List Value} {st : fkS} {F : Option (ρ × fkS)} (hk : fk_ok wM g k RX8 cc nL ret fr lo) {i : Nat} (hi : kdM i = 8) (hdg : decode cc pc = .ok (.getfield 65, 3))
    (kk : fk_J wM g en k (pc + 3) lv (fk_r g 19 :: stk) st F) : fk_J wM g en k pc lv (fk_r g i :: stk) st F := by
  intro o ho hq
  have kk := kk o ho hq
  obtain ⟨p, l, e, R, s, m, args, below, meth, c, rv, sf⟩ := k
  obtain ⟨hx, hb, hml, hown, hts, hK, hE, hr, hlk, hinj, hfr, hlo⟩ := hk
  intro H locs ls hl hP hS
  exact va_get (D := g.2.1) (ci := 8) (C := RX8) (T := TX8) (N := 37) (v := fk_r g 19) hx hb hts wB_8 hown hK hP i (wat_8 hi) rfl 32 (by decide) (hts _ wf_8_65) (fun _ h => h) rfl hdg (kk H locs ls hl hP hS)
theorem wf_8_68 : Cond.fieldLink RX8 68 "PieFunnelsModel" "tried" "[I" ∈ fkB := fkB_in (List.mem_of_getElem? (i := 929) (by decide +kernel)) rfl
theorem f_8_68 {g : fkG} {k : fkK} {ρ : Type} {en : ρ → Option Value} {cc : ByteArray} {nL fr lo pc : Nat} {ret : Option FieldType} {lv : List (Nat × Value)} {stk : List Value} {st : fkS} {F : Option (ρ × fkS)} (hk : fk_ok wM g k RX8 cc nL ret fr lo) {i : Nat} (hi : kdM i = 8) (hdg : decode cc pc = .ok (.getfield 68, 3))
    (kk : fk_J wM g en k (pc + 3) lv (fk_r g 20 :: stk) st F) : fk_J wM g en k pc lv (fk_r g i :: stk) st F := by
  intro o ho hq
  have kk := kk o ho hq
  obtain ⟨p, l, e, R, s, m, args, below, meth, c, rv, sf⟩ := k
  obtain ⟨hx, hb, hml, hown, hts, hK, hE, hr, hlk, hinj, hfr, hlo⟩ := hk
  intro H locs ls hl hP hS
  exact va_get (D := g.2.1) (ci := 8) (C := RX8) (T := TX8) (N := 37) (v := fk_r g 20) hx hb hts wB_8 hown hK hP i (wat_8 hi) rfl 33 (by decide) (hts _ wf_8_68) (fun _ h => h) rfl hdg (kk H locs ls hl hP hS)
theorem wf_8_71 : Cond.fieldLink RX8 71 "PieFunnelsModel" "best" "[I" ∈ fkB := fkB_in (List.mem_of_getElem? (i := 930) (by decide +kernel)) rfl
theorem f_8_71 {g : fkG} {k : fkK} {ρ : Type} {en : ρ → Option Value} {cc : ByteArray} {nL fr lo pc : Nat} {ret : Option FieldType} {lv : List (Nat × Value)} {stk : List Value} {st : fkS} {F : Option (ρ × fkS)} (hk : fk_ok wM g k RX8 cc nL ret fr lo) {i : Nat} (hi : kdM i = 8) (hdg : decode cc pc = .ok (.getfield 71, 3))
    (kk : fk_J wM g en k (pc + 3) lv (fk_r g 21 :: stk) st F) : fk_J wM g en k pc lv (fk_r g i :: stk) st F := by
  intro o ho hq
  have kk := kk o ho hq
  obtain ⟨p, l, e, R, s, m, args, below, meth, c, rv, sf⟩ := k
  obtain ⟨hx, hb, hml, hown, hts, hK, hE, hr, hlk, hinj, hfr, hlo⟩ := hk
  intro H locs ls hl hP hS
  exact va_get (D := g.2.1) (ci := 8) (C := RX8) (T := TX8) (N := 37) (v := fk_r g 21) hx hb hts wB_8 hown hK hP i (wat_8 hi) rfl 34 (by decide) (hts _ wf_8_71) (fun _ h => h) rfl hdg (kk H locs ls hl hP hS)
theorem wf_8_265 : Cond.fieldLink RX8 265 "PieFunnelsModel" "most" "I" ∈ fkB := fkB_in (List.mem_of_getElem? (i := 931) (by decide +kernel)) rfl
theorem f_8_265 {g : fkG} {k : fkK} {ρ : Type} {en : ρ → Option Value} {cc : ByteArray} {nL fr lo pc : Nat} {ret : Option FieldType} {lv : List (Nat × Value)} {stk : List Value} {st : fkS} (hk : fk_ok wM g k RX8 cc nL ret fr lo) {i : Nat} {F1 : Int32 → Option (ρ × fkS)} (hi : kdM i = 8) (hdg : decode cc pc = .ok (.getfield 265, 3))
    (kk : ∀ x, fk_J wM g en k (pc + 3) lv (.int x :: stk) st (F1 x)) : fk_J wM g en k pc lv (fk_r g i :: stk) st (fk_let (gI st 35 i) F1) := by
  intro o ho hq
  have kk := kk (gI st 35 i) o ho hq
  obtain ⟨p, l, e, R, s, m, args, below, meth, c, rv, sf⟩ := k
  obtain ⟨hx, hb, hml, hown, hts, hK, hE, hr, hlk, hinj, hfr, hlo⟩ := hk
  intro H locs ls hl hP hS
  exact va_get (D := g.2.1) (ci := 8) (C := RX8) (T := TX8) (N := 37) (v := .int (gI st 35 i)) hx hb hts wB_8 hown hK hP i (wat_8 hi) rfl 35 (by decide) (hts _ wf_8_265) (fun _ h => h) rfl hdg (kk H locs ls hl hP hS)
theorem p_8_265 {g : fkG} {k : fkK} {ρ : Type} {en : ρ → Option Value} {cc : ByteArray} {nL fr lo pc : Nat} {ret : Option FieldType} {lv : List (Nat × Value)} {stk : List Value} {st : fkS} (hk : fk_ok wM g k RX8 cc nL ret fr lo) {i : Nat} {v : Int32} {F1 : fkS → Option (ρ × fkS)} (hi : kdM i = 8) (hdg : decode cc pc = .ok (.putfield 265, 3))
    (kk : ∀ st1, fk_J wM g en k (pc + 3) lv stk st1 (F1 st1)) : fk_J wM g en k pc lv (.int v :: fk_r g i :: stk) st (fk_let (sI st 35 i v) F1) := by
  intro o ho hq
  have kk := kk (sI st 35 i v) o ho hq
  obtain ⟨p, l, e, R, s, m, args, below, meth, c, rv, sf⟩ := k
  obtain ⟨hx, hb, hml, hown, hts, hK, hE, hr, hlk, hinj, hfr, hlo⟩ := hk
  intro H locs ls hl hP hS
  refine va_put (D := g.2.1) (ci := 8) (C := RX8) (T := TX8) (N := 37) (v := .int v) (ty := .int) hx hb hts wB_8 tyX8 tyX8_ok nmX8 hown hK hP (fk_wD hinj _ _) hS i (wat_8 hi) rfl 35 (by decide) (hts _ wf_8_265) (fun _ h => h) rfl (by decide +kernel) rfl rfl (Nat.le_of_ble_eq_true rfl) hdg (fun H1 locs1 hP1 hD1 hS1 => kk H1 locs1 ls hl ?_ hS1)
  rw [← wst_8_35 hi]
  exact hP1
theorem wf_8_308 : Cond.fieldLink RX8 308 "PieFunnelsModel" "oldSeed" "I" ∈ fkB := fkB_in (List.mem_of_getElem? (i := 932) (by decide +kernel)) rfl
theorem f_8_308 {g : fkG} {k : fkK} {ρ : Type} {en : ρ → Option Value} {cc : ByteArray} {nL fr lo pc : Nat} {ret : Option FieldType} {lv : List (Nat × Value)} {stk : List Value} {st : fkS} (hk : fk_ok wM g k RX8 cc nL ret fr lo) {i : Nat} {F1 : Int32 → Option (ρ × fkS)} (hi : kdM i = 8) (hdg : decode cc pc = .ok (.getfield 308, 3))
    (kk : ∀ x, fk_J wM g en k (pc + 3) lv (.int x :: stk) st (F1 x)) : fk_J wM g en k pc lv (fk_r g i :: stk) st (fk_let (gI st 36 i) F1) := by
  intro o ho hq
  have kk := kk (gI st 36 i) o ho hq
  obtain ⟨p, l, e, R, s, m, args, below, meth, c, rv, sf⟩ := k
  obtain ⟨hx, hb, hml, hown, hts, hK, hE, hr, hlk, hinj, hfr, hlo⟩ := hk
  intro H locs ls hl hP hS
  exact va_get (D := g.2.1) (ci := 8) (C := RX8) (T := TX8) (N := 37) (v := .int (gI st 36 i)) hx hb hts wB_8 hown hK hP i (wat_8 hi) rfl 36 (by decide) (hts _ wf_8_308) (fun _ h => h) rfl hdg (kk H locs ls hl hP hS)
theorem p_8_308 {g : fkG} {k : fkK} {ρ : Type} {en : ρ → Option Value} {cc : ByteArray} {nL fr lo pc : Nat} {ret : Option FieldType} {lv : List (Nat × Value)} {stk : List Value} {st : fkS} (hk : fk_ok wM g k RX8 cc nL ret fr lo) {i : Nat} {v : Int32} {F1 : fkS → Option (ρ × fkS)} (hi : kdM i = 8) (hdg : decode cc pc = .ok (.putfield 308, 3))
    (kk : ∀ st1, fk_J wM g en k (pc + 3) lv stk st1 (F1 st1)) : fk_J wM g en k pc lv (.int v :: fk_r g i :: stk) st (fk_let (sI st 36 i v) F1) := by
  intro o ho hq
  have kk := kk (sI st 36 i v) o ho hq
  obtain ⟨p, l, e, R, s, m, args, below, meth, c, rv, sf⟩ := k
  obtain ⟨hx, hb, hml, hown, hts, hK, hE, hr, hlk, hinj, hfr, hlo⟩ := hk
  intro H locs ls hl hP hS
  refine va_put (D := g.2.1) (ci := 8) (C := RX8) (T := TX8) (N := 37) (v := .int v) (ty := .int) hx hb hts wB_8 tyX8 tyX8_ok nmX8 hown hK hP (fk_wD hinj _ _) hS i (wat_8 hi) rfl 36 (by decide) (hts _ wf_8_308) (fun _ h => h) rfl (by decide +kernel) rfl rfl (Nat.le_of_ble_eq_true rfl) hdg (fun H1 locs1 hP1 hD1 hS1 => kk H1 locs1 ls hl ?_ hS1)
  rw [← wst_8_36 hi]
  exact hP1
end
